/-! ===== walks of run: the reference's turbine; printed ===== -/
set_option maxHeartbeats 2000000 in
theorem w_wan {d : Nat} {Q : mQ} {n : Nat} {ad sa : Nat → Nat} {z0 : Nat} {h : mH} (fx : FX n ad sa z0 h) {t sl : Nat} (t6 : t < 6) (s5 : sl < 5) {l : Int32} (es : hI h (ad 57) (5 * t + sl) = -1) 
    (C1 : EV (d) 244 [.ref (ad 30), .int (nI t), .int (nI sl), .int 1] h (fun v_ h_ => WR (d) cd_243 44 [some (.ref (ad 30)), some (.int (nI t)), some (.int (nI sl)), some (.int l), some (.int (-1)), some (.int 1)] (v_.toList ++ []) h_ Q)) : EV (d + 1) 243 [.ref (ad 30), .int (nI t), .int (nI sl), .int l] h Q := by
  have fx0 := fx
  refine in_243 (Nat.le_of_ble_eq_true rfl) ?_
  show WR _ cd_243 0 [some (.ref (ad 30)), some (.int (nI t)), some (.int (nI sl)), some (.int l), none, none] [] h _
  refine r_aload rfl rfl ?_
  refine r_getA (b := ad 57) rfl ⟨rfl, rfl, rfl⟩ (fx_t30 fx) (fx_r30_41 fx) ?_
  refine r_ic (x := 5) rfl rfl ?_
  refine r_iload rfl rfl ?_
  refine r_imul rfl ?_
  refine WR_tI (y := nI (5 * t)) (Eq.trans (pk_mul 5 t) (congrArg nI (by omega))) ?_
  refine r_iload rfl rfl ?_
  refine r_iadd rfl ?_
  refine WR_tI (y := nI (5 * t + sl)) (Eq.trans (nI_add (5 * t) sl) (congrArg nI (by omega))) ?_
  refine r_iaload rfl (.inl (fx_t57 fx)) (vp_ct (fx_n57 fx) (vp_in_nI (by omega) (by omega))) ?_
  refine WR_tI (congrArg (hI h (ad 57)) ((nI_clamp (by omega)) : _ = 5 * t + sl)) ?_
  refine WR_tI (y := (-1)) es ?_
  refine r_istore (lv' := [some (.ref (ad 30)), some (.int (nI t)), some (.int (nI sl)), some (.int l), some (.int (-1)), none]) rfl (Nat.le_of_ble_eq_true rfl) rfl ?_
  refine r_iload rfl rfl ?_
  refine r_if_ge (tg := 21) rfl rfl (fun q => absurd q (by decide)) (fun _ => ?_)
  refine r_ic (x := 1) rfl rfl ?_
  refine r_goto (tg := 29) rfl rfl ?_
  refine r_istore (lv' := [some (.ref (ad 30)), some (.int (nI t)), some (.int (nI sl)), some (.int l), some (.int (-1)), some (.int 1)]) rfl (Nat.le_of_ble_eq_true rfl) rfl ?_
  refine r_iload rfl rfl ?_
  refine r_if_le (tg := 44) rfl rfl (fun q => absurd q (by decide)) (fun _ => ?_)
  refine r_aload rfl rfl ?_
  refine r_iload rfl rfl ?_
  refine r_iload rfl rfl ?_
  refine r_iload rfl rfl ?_
  refine r_cv (y := 244) (ra := [.int 1, .int (nI sl), .int (nI t)]) (rest := []) rfl ⟨⟨rfl, rfl⟩, rfl, by decide⟩ (fx_t30 fx) rfl rfl (Nat.le_of_ble_eq_true rfl) ?_
  exact (C1)

set_option maxHeartbeats 2000000 in
theorem w_was {d : Nat} {Q : mQ} {n : Nat} {ad sa : Nat → Nat} {z0 : Nat} {h : mH} (fx : FX n ad sa z0 h) {t sl : Nat} (t6 : t < 6) (s5 : sl < 5) {l : Int32} {pq : Nat} (q6 : pq < 60) (es : hI h (ad 57) (5 * t + sl) = nI pq) 
    (C1 : EV (d) 189 [.ref (ad 30), .int (nI pq), .long l.toInt64] h (fun v_ h_ => WR (d) cd_243 29 [some (.ref (ad 30)), some (.int (nI t)), some (.int (nI sl)), some (.int l), some (.int (nI pq)), none] (v_.toList ++ []) h_ Q)) : EV (d + 1) 243 [.ref (ad 30), .int (nI t), .int (nI sl), .int l] h Q := by
  have fx0 := fx
  refine in_243 (Nat.le_of_ble_eq_true rfl) ?_
  show WR _ cd_243 0 [some (.ref (ad 30)), some (.int (nI t)), some (.int (nI sl)), some (.int l), none, none] [] h _
  refine r_aload rfl rfl ?_
  refine r_getA (b := ad 57) rfl ⟨rfl, rfl, rfl⟩ (fx_t30 fx) (fx_r30_41 fx) ?_
  refine r_ic (x := 5) rfl rfl ?_
  refine r_iload rfl rfl ?_
  refine r_imul rfl ?_
  refine WR_tI (y := nI (5 * t)) (Eq.trans (pk_mul 5 t) (congrArg nI (by omega))) ?_
  refine r_iload rfl rfl ?_
  refine r_iadd rfl ?_
  refine WR_tI (y := nI (5 * t + sl)) (Eq.trans (nI_add (5 * t) sl) (congrArg nI (by omega))) ?_
  refine r_iaload rfl (.inl (fx_t57 fx)) (vp_ct (fx_n57 fx) (vp_in_nI (by omega) (by omega))) ?_
  refine WR_tI (congrArg (hI h (ad 57)) ((nI_clamp (by omega)) : _ = 5 * t + sl)) ?_
  refine WR_tI (y := nI pq) es ?_
  refine r_istore (lv' := [some (.ref (ad 30)), some (.int (nI t)), some (.int (nI sl)), some (.int l), some (.int (nI pq)), none]) rfl (Nat.le_of_ble_eq_true rfl) rfl ?_
  refine r_iload rfl rfl ?_
  refine r_if_ge (tg := 21) rfl rfl (fun _ => ?_) (fun q => False.elim (by have : (nI pq).toInt = ((pq : Nat) : Int) := nI_toInt (by omega); have : (0 : Int32).toInt = 0 := rfl; have := i_nle q; omega))
  refine r_aload rfl rfl ?_
  refine r_iload rfl rfl ?_
  refine r_iload rfl rfl ?_
  refine r_i2l rfl ?_
  refine r_cv (y := 189) (ra := [.long l.toInt64, .int (nI pq)]) (rest := []) rfl ⟨⟨rfl, rfl⟩, rfl, by decide⟩ (fx_t30 fx) rfl rfl (Nat.le_of_ble_eq_true rfl) ?_
  exact (C1)

set_option maxHeartbeats 2000000 in
theorem w_wa0 {d : Nat} {Q : mQ} {n : Nat} {ad sa : Nat → Nat} {z0 : Nat} {h : mH} (fx : FX n ad sa z0 h) {t sl : Nat} {l x4 : Int32} {o5 : Option Value} 
    (L1 : Q (some (.int 1)) h) : WR (d) cd_243 29 [some (.ref (ad 30)), some (.int (nI t)), some (.int (nI sl)), some (.int l), some (.int x4), o5] [.int 0] h Q := by
  have fx0 := fx
  refine r_istore (lv' := [some (.ref (ad 30)), some (.int (nI t)), some (.int (nI sl)), some (.int l), some (.int x4), some (.int 0)]) rfl (Nat.le_of_ble_eq_true rfl) rfl ?_
  refine r_iload rfl rfl ?_
  refine r_if_le (tg := 44) rfl rfl (fun _ => ?_) (fun q => absurd q (by decide))
  refine r_iload rfl rfl ?_
  refine r_if_ne (tg := 53) rfl rfl (fun q => absurd q (by decide)) (fun _ => ?_)
  refine r_ic (x := 1) rfl rfl ?_
  refine r_goto (tg := 54) rfl rfl ?_
  refine r_zret rfl (.inr rfl) ?_
  exact (L1)

set_option maxHeartbeats 2000000 in
theorem w_wa6 {d : Nat} {Q : mQ} {n : Nat} {ad sa : Nat → Nat} {z0 : Nat} {h : mH} (fx : FX n ad sa z0 h) {t sl : Nat} {l x4 : Int32} {o5 : Option Value} 
    (C1 : EV (d) 244 [.ref (ad 30), .int (nI t), .int (nI sl), .int 6] h (fun v_ h_ => WR (d) cd_243 44 [some (.ref (ad 30)), some (.int (nI t)), some (.int (nI sl)), some (.int l), some (.int x4), some (.int 6)] (v_.toList ++ []) h_ Q)) : WR (d) cd_243 29 [some (.ref (ad 30)), some (.int (nI t)), some (.int (nI sl)), some (.int l), some (.int x4), o5] [.int 6] h Q := by
  have fx0 := fx
  refine r_istore (lv' := [some (.ref (ad 30)), some (.int (nI t)), some (.int (nI sl)), some (.int l), some (.int x4), some (.int 6)]) rfl (Nat.le_of_ble_eq_true rfl) rfl ?_
  refine r_iload rfl rfl ?_
  refine r_if_le (tg := 44) rfl rfl (fun q => absurd q (by decide)) (fun _ => ?_)
  refine r_aload rfl rfl ?_
  refine r_iload rfl rfl ?_
  refine r_iload rfl rfl ?_
  refine r_iload rfl rfl ?_
  refine r_cv (y := 244) (ra := [.int 6, .int (nI sl), .int (nI t)]) (rest := []) rfl ⟨⟨rfl, rfl⟩, rfl, by decide⟩ (fx_t30 fx) rfl rfl (Nat.le_of_ble_eq_true rfl) ?_
  exact (C1)

set_option maxHeartbeats 2000000 in
theorem w_wax1 {d : Nat} {Q : mQ} {n : Nat} {ad sa : Nat → Nat} {z0 : Nat} {h : mH} (fx : FX n ad sa z0 h) {t sl : Nat} {l : Int32} {o4 : Option Value} 
    (L1 : Q (some (.int 0)) h) : WR (d) cd_243 44 [some (.ref (ad 30)), some (.int (nI t)), some (.int (nI sl)), some (.int l), o4, some (.int 1)] [] h Q := by
  have fx0 := fx
  refine r_iload rfl rfl ?_
  refine r_if_ne (tg := 53) rfl rfl (fun _ => ?_) (fun q => absurd q (by decide))
  refine r_ic (x := 0) rfl rfl ?_
  refine r_zret rfl (.inl rfl) ?_
  exact (L1)

set_option maxHeartbeats 2000000 in
theorem w_wax6 {d : Nat} {Q : mQ} {n : Nat} {ad sa : Nat → Nat} {z0 : Nat} {h : mH} (fx : FX n ad sa z0 h) {t sl : Nat} {l : Int32} {o4 : Option Value} 
    (L1 : Q (some (.int 0)) h) : WR (d) cd_243 44 [some (.ref (ad 30)), some (.int (nI t)), some (.int (nI sl)), some (.int l), o4, some (.int 6)] [] h Q := by
  have fx0 := fx
  refine r_iload rfl rfl ?_
  refine r_if_ne (tg := 53) rfl rfl (fun _ => ?_) (fun q => absurd q (by decide))
  refine r_ic (x := 0) rfl rfl ?_
  refine r_zret rfl (.inl rfl) ?_
  exact (L1)

set_option maxHeartbeats 2000000 in
theorem w_rt4 {d : Nat} {Q : mQ} {n : Nat} {ad sa : Nat → Nat} {z0 : Nat} {h : mH} (fx : FX n ad sa z0 h) {t : Nat} (t6 : t < 6) {k : Nat} (k6 : k < 6) (ek : hI h (ad 75) k = nI t) {u : UInt64} (e66 : hI h (ad 66) t = 4) (e69 : hD h (ad 69) t = u) 
    (B1 : vf_n64 (FP.dmul u 4602678819172646912))
    (L1 : Q none (sD h (ad 69) t (FP.dmul u 4602678819172646912))) : EV (d + 1) 235 [.ref (ad 30), .int (nI k)] h Q := by
  have fx0 := fx
  refine in_235 (Nat.le_of_ble_eq_true rfl) ?_
  show WR _ cd_235 0 [some (.ref (ad 30)), some (.int (nI k)), none, none, none, none, none, none, none, none, none, none] [] h _
  refine r_aload rfl rfl ?_
  refine r_getA (b := ad 75) rfl ⟨rfl, rfl, rfl⟩ (fx_t30 fx) (fx_r30_67 fx) ?_
  refine r_iload rfl rfl ?_
  refine r_iaload rfl (.inl (fx_t75 fx)) (vp_ct (fx_n75 fx) (vp_in_nI (by omega) (by omega))) ?_
  refine WR_tI (congrArg (hI h (ad 75)) ((nI_clamp (by omega)) : _ = k)) ?_
  refine WR_tI (y := nI t) ek ?_
  refine r_istore (lv' := [some (.ref (ad 30)), some (.int (nI k)), some (.int (nI t)), none, none, none, none, none, none, none, none, none]) rfl (Nat.le_of_ble_eq_true rfl) rfl ?_
  refine r_aload rfl rfl ?_
  refine r_getA (b := ad 66) rfl ⟨rfl, rfl, rfl⟩ (fx_t30 fx) (fx_r30_53 fx) ?_
  refine r_iload rfl rfl ?_
  refine r_iaload rfl (.inl (fx_t66 fx)) (vp_ct (fx_n66 fx) (vp_in_nI (by omega) (by omega))) ?_
  refine WR_tI (congrArg (hI h (ad 66)) ((nI_clamp (by omega)) : _ = t)) ?_
  refine WR_tI (y := 4) e66 ?_
  refine r_ic (x := 4) rfl rfl ?_
  refine r_icmp_ne (tg := 34) rfl rfl (fun q => absurd q (by decide)) (fun _ => ?_)
  refine r_aload rfl rfl ?_
  refine r_getA (b := ad 69) rfl ⟨rfl, rfl, rfl⟩ (fx_t30 fx) (fx_r30_56 fx) ?_
  refine r_iload rfl rfl ?_
  refine r_aload rfl rfl ?_
  refine r_getA (b := ad 69) rfl ⟨rfl, rfl, rfl⟩ (fx_t30 fx) (fx_r30_56 fx) ?_
  refine r_iload rfl rfl ?_
  refine r_daload rfl (fx_t69 fx) (vp_ct (fx_n69 fx) (vp_in_nI (by omega) (by omega))) ?_
  refine WR_tD (congrArg (hD h (ad 69)) ((nI_clamp (by omega)) : _ = t)) ?_
  refine WR_tD (y := u) e69 ?_
  refine r_ldc (x := .double 4602678819172646912) rfl rfl ?_
  refine r_dmul rfl (B1) ?_
  refine r_dastore rfl (fx_t69 fx) (vp_ct (fx_n69 fx) (vp_in_nI (by omega) (by omega))) ?_
  refine WR_h (h2 := sD h (ad 69) t (FP.dmul u 4602678819172646912)) (congrArg (fun z => sD h (ad 69) z (FP.dmul u 4602678819172646912)) ((nI_clamp (by omega)) : _ = t)) ?_
  have fx : FX n ad sa z0 (sD h (ad 69) t (FP.dmul u 4602678819172646912)) := (FX.sD fx)
  refine r_vret rfl ?_
  exact (L1)

set_option maxHeartbeats 2000000 in
theorem w_rq0 {d : Nat} {Q : mQ} {n : Nat} {ad sa : Nat → Nat} {z0 : Nat} {h : mH} (fx : FX n ad sa z0 h) {t : Nat} (t6 : t < 6) {k : Nat} (k6 : k < 6) (ek : hI h (ad 75) k = nI t) {s : Nat} (s4 : s < 4) (e66 : hI h (ad 66) t = nI s) 
    (C1 : EV (d) 236 [.ref (ad 30), .int (nI t)] h (fun v_ h_ => WR (d) cd_235 44 [some (.ref (ad 30)), some (.int (nI k)), some (.int (nI t)), none, none, none, none, none, none, none, none, none] (v_.toList ++ [.int (nI t), .ref (ad 72)]) h_ Q)) : EV (d + 1) 235 [.ref (ad 30), .int (nI k)] h Q := by
  have fx0 := fx
  refine in_235 (Nat.le_of_ble_eq_true rfl) ?_
  show WR _ cd_235 0 [some (.ref (ad 30)), some (.int (nI k)), none, none, none, none, none, none, none, none, none, none] [] h _
  refine r_aload rfl rfl ?_
  refine r_getA (b := ad 75) rfl ⟨rfl, rfl, rfl⟩ (fx_t30 fx) (fx_r30_67 fx) ?_
  refine r_iload rfl rfl ?_
  refine r_iaload rfl (.inl (fx_t75 fx)) (vp_ct (fx_n75 fx) (vp_in_nI (by omega) (by omega))) ?_
  refine WR_tI (congrArg (hI h (ad 75)) ((nI_clamp (by omega)) : _ = k)) ?_
  refine WR_tI (y := nI t) ek ?_
  refine r_istore (lv' := [some (.ref (ad 30)), some (.int (nI k)), some (.int (nI t)), none, none, none, none, none, none, none, none, none]) rfl (Nat.le_of_ble_eq_true rfl) rfl ?_
  refine r_aload rfl rfl ?_
  refine r_getA (b := ad 66) rfl ⟨rfl, rfl, rfl⟩ (fx_t30 fx) (fx_r30_53 fx) ?_
  refine r_iload rfl rfl ?_
  refine r_iaload rfl (.inl (fx_t66 fx)) (vp_ct (fx_n66 fx) (vp_in_nI (by omega) (by omega))) ?_
  refine WR_tI (congrArg (hI h (ad 66)) ((nI_clamp (by omega)) : _ = t)) ?_
  refine WR_tI (y := nI s) e66 ?_
  refine r_ic (x := 4) rfl rfl ?_
  refine r_icmp_ne (tg := 34) rfl rfl (fun _ => ?_) (fun q => False.elim (by have : (nI s).toInt = ((s : Nat) : Int) := nI_toInt (by omega); have : (4 : Int32).toInt = 4 := rfl; have := i_eq q; omega))
  refine r_aload rfl rfl ?_
  refine r_getA (b := ad 72) rfl ⟨rfl, rfl, rfl⟩ (fx_t30 fx) (fx_r30_59 fx) ?_
  refine r_iload rfl rfl ?_
  refine r_aload rfl rfl ?_
  refine r_iload rfl rfl ?_
  refine r_cv (y := 236) (ra := [.int (nI t)]) (rest := [.int (nI t), .ref (ad 72)]) rfl ⟨⟨rfl, rfl⟩, rfl, by decide⟩ (fx_t30 fx) rfl rfl (Nat.le_of_ble_eq_true rfl) ?_
  exact (C1)

set_option maxHeartbeats 2000000 in
theorem w_rt44 {d : Nat} {Q : mQ} {n : Nat} {ad sa : Nat → Nat} {z0 : Nat} {h : mH} (fx : FX n ad sa z0 h) {t : Nat} (t6 : t < 6) {k : Nat} {v : UInt64} {o3 o4 o5 o6 o7 o8 o9 o10 o11 : Option Value} 
    (C1 : EV (d) 237 [.ref (ad 30), .int (nI k), .int (nI t)] (sD h (ad 72) t v) (fun v_ h_ => WR (d) cd_235 56 [some (.ref (ad 30)), some (.int (nI k)), some (.int (nI t)), o3, o4, o5, o6, o7, o8, o9, o10, o11] (v_.toList ++ [.int (nI t), .ref (ad 73)]) h_ Q)) : WR (d) cd_235 44 [some (.ref (ad 30)), some (.int (nI k)), some (.int (nI t)), o3, o4, o5, o6, o7, o8, o9, o10, o11] [.double v, .int (nI t), .ref (ad 72)] h Q := by
  have fx0 := fx
  refine r_dastore rfl (fx_t72 fx) (vp_ct (fx_n72 fx) (vp_in_nI (by omega) (by omega))) ?_
  refine WR_h (h2 := sD h (ad 72) t v) (congrArg (fun z => sD h (ad 72) z v) ((nI_clamp (by omega)) : _ = t)) ?_
  have fx : FX n ad sa z0 (sD h (ad 72) t v) := (FX.sD fx)
  refine r_aload rfl rfl ?_
  refine r_getA (b := ad 73) rfl ⟨rfl, rfl, rfl⟩ (fx_t30 fx) (fx_r30_60 fx) ?_
  refine r_iload rfl rfl ?_
  refine r_aload rfl rfl ?_
  refine r_iload rfl rfl ?_
  refine r_iload rfl rfl ?_
  refine r_cv (y := 237) (ra := [.int (nI t), .int (nI k)]) (rest := [.int (nI t), .ref (ad 73)]) rfl ⟨⟨rfl, rfl⟩, rfl, by decide⟩ (fx_t30 fx) rfl rfl (Nat.le_of_ble_eq_true rfl) ?_
  exact (C1)

set_option maxHeartbeats 2000000 in
theorem w_rt56 {d : Nat} {Q : mQ} {n : Nat} {ad sa : Nat → Nat} {z0 : Nat} {h : mH} (fx : FX n ad sa z0 h) {t : Nat} (t6 : t < 6) {k : Nat} {v : UInt64} {o3 o4 o5 o6 o7 o8 o9 o10 o11 : Option Value} 
    (C1 : EV (d) 240 [.ref (ad 30), .int (nI t)] (sD h (ad 73) t v) (fun v_ h_ => WR (d) cd_235 62 [some (.ref (ad 30)), some (.int (nI k)), some (.int (nI t)), o3, o4, o5, o6, o7, o8, o9, o10, o11] (v_.toList ++ []) h_ Q)) : WR (d) cd_235 56 [some (.ref (ad 30)), some (.int (nI k)), some (.int (nI t)), o3, o4, o5, o6, o7, o8, o9, o10, o11] [.double v, .int (nI t), .ref (ad 73)] h Q := by
  have fx0 := fx
  refine r_dastore rfl (fx_t73 fx) (vp_ct (fx_n73 fx) (vp_in_nI (by omega) (by omega))) ?_
  refine WR_h (h2 := sD h (ad 73) t v) (congrArg (fun z => sD h (ad 73) z v) ((nI_clamp (by omega)) : _ = t)) ?_
  have fx : FX n ad sa z0 (sD h (ad 73) t v) := (FX.sD fx)
  refine r_aload rfl rfl ?_
  refine r_iload rfl rfl ?_
  refine r_cv (y := 240) (ra := [.int (nI t)]) (rest := []) rfl ⟨⟨rfl, rfl⟩, rfl, by decide⟩ (fx_t30 fx) rfl rfl (Nat.le_of_ble_eq_true rfl) ?_
  exact (C1)

set_option maxHeartbeats 2000000 in
theorem w_rt62_0 {d : Nat} {Q : mQ} {n : Nat} {ad sa : Nat → Nat} {z0 : Nat} {h : mH} (fx : FX n ad sa z0 h) {t : Nat} (t6 : t < 6) {k : Nat} {u : UInt64} {o3 o4 o5 o6 o7 o8 o9 o10 o11 : Option Value} (e66 : hI h (ad 66) t = 0) (e69 : hD h (ad 69) t = u) 
    (K1 : WR (d) cd_235 128 [some (.ref (ad 30)), some (.int (nI k)), some (.int (nI t)), some (.int 0), o4, o5, o6, o7, o8, o9, o10, o11] [.double 4636033603912859648] h Q) : WR (d) cd_235 62 [some (.ref (ad 30)), some (.int (nI k)), some (.int (nI t)), o3, o4, o5, o6, o7, o8, o9, o10, o11] [] h Q := by
  have fx0 := fx
  refine r_aload rfl rfl ?_
  refine r_getA (b := ad 66) rfl ⟨rfl, rfl, rfl⟩ (fx_t30 fx) (fx_r30_53 fx) ?_
  refine r_iload rfl rfl ?_
  refine r_iaload rfl (.inl (fx_t66 fx)) (vp_ct (fx_n66 fx) (vp_in_nI (by omega) (by omega))) ?_
  refine WR_tI (congrArg (hI h (ad 66)) ((nI_clamp (by omega)) : _ = t)) ?_
  refine WR_tI (y := 0) e66 ?_
  refine r_istore (lv' := [some (.ref (ad 30)), some (.int (nI k)), some (.int (nI t)), some (.int 0), o4, o5, o6, o7, o8, o9, o10, o11]) rfl (Nat.le_of_ble_eq_true rfl) rfl ?_
  refine r_iload rfl rfl ?_
  refine r_ic (x := 1) rfl rfl ?_
  refine r_icmp_ne (tg := 80) rfl rfl (fun _ => ?_) (fun q => absurd q (by decide))
  refine r_iload rfl rfl ?_
  refine r_ic (x := 2) rfl rfl ?_
  refine r_icmp_eq (tg := 91) rfl rfl (fun q => absurd q (by decide)) (fun _ => ?_)
  refine r_ldc (x := .double 4636033603912859648) rfl rfl ?_
  refine r_goto (tg := 128) rfl rfl ?_
  exact (K1)

set_option maxHeartbeats 2000000 in
theorem w_rt62_1 {d : Nat} {Q : mQ} {n : Nat} {ad sa : Nat → Nat} {z0 : Nat} {h : mH} (fx : FX n ad sa z0 h) {t : Nat} (t6 : t < 6) {k : Nat} {u : UInt64} {o3 o4 o5 o6 o7 o8 o9 o10 o11 : Option Value} (e66 : hI h (ad 66) t = 1) (e69 : hD h (ad 69) t = u) 
    (K1 : WR (d) cd_235 128 [some (.ref (ad 30)), some (.int (nI k)), some (.int (nI t)), some (.int 1), o4, o5, o6, o7, o8, o9, o10, o11] [.double 4626322717216342016] h Q) : WR (d) cd_235 62 [some (.ref (ad 30)), some (.int (nI k)), some (.int (nI t)), o3, o4, o5, o6, o7, o8, o9, o10, o11] [] h Q := by
  have fx0 := fx
  refine r_aload rfl rfl ?_
  refine r_getA (b := ad 66) rfl ⟨rfl, rfl, rfl⟩ (fx_t30 fx) (fx_r30_53 fx) ?_
  refine r_iload rfl rfl ?_
  refine r_iaload rfl (.inl (fx_t66 fx)) (vp_ct (fx_n66 fx) (vp_in_nI (by omega) (by omega))) ?_
  refine WR_tI (congrArg (hI h (ad 66)) ((nI_clamp (by omega)) : _ = t)) ?_
  refine WR_tI (y := 1) e66 ?_
  refine r_istore (lv' := [some (.ref (ad 30)), some (.int (nI k)), some (.int (nI t)), some (.int 1), o4, o5, o6, o7, o8, o9, o10, o11]) rfl (Nat.le_of_ble_eq_true rfl) rfl ?_
  refine r_iload rfl rfl ?_
  refine r_ic (x := 1) rfl rfl ?_
  refine r_icmp_ne (tg := 80) rfl rfl (fun q => absurd q (by decide)) (fun _ => ?_)
  refine r_ldc (x := .double 4626322717216342016) rfl rfl ?_
  refine r_goto (tg := 128) rfl rfl ?_
  exact (K1)

set_option maxHeartbeats 2000000 in
theorem w_rt62_2 {d : Nat} {Q : mQ} {n : Nat} {ad sa : Nat → Nat} {z0 : Nat} {h : mH} (fx : FX n ad sa z0 h) {t : Nat} (t6 : t < 6) {k : Nat} {u : UInt64} {o3 o4 o5 o6 o7 o8 o9 o10 o11 : Option Value} (e66 : hI h (ad 66) t = 2) (e69 : hD h (ad 69) t = u) 
    (B1 : ¬ dle u 4621819117588971520 → vf_n64 (FP.dsub u 4621819117588971520))
    (B2 : ¬ dle u 4621819117588971520 → vf_n64 (FP.dmul (FP.dsub u 4621819117588971520) 4620693217682128896))
    (C1 : ¬ dle u 4621819117588971520 → EV (d) 241 [.double 4636033603912859648, .double (FP.dmul (FP.dsub u 4621819117588971520) 4620693217682128896)] h (fun v_ h_ => WR (d) cd_235 128 [some (.ref (ad 30)), some (.int (nI k)), some (.int (nI t)), some (.int 2), o4, o5, o6, o7, o8, o9, o10, o11] (v_.toList ++ []) h_ Q))
    (K1 : dle u 4621819117588971520 → WR (d) cd_235 128 [some (.ref (ad 30)), some (.int (nI k)), some (.int (nI t)), some (.int 2), o4, o5, o6, o7, o8, o9, o10, o11] [.double 0] h Q) : WR (d) cd_235 62 [some (.ref (ad 30)), some (.int (nI k)), some (.int (nI t)), o3, o4, o5, o6, o7, o8, o9, o10, o11] [] h Q := by
  have fx0 := fx
  refine r_aload rfl rfl ?_
  refine r_getA (b := ad 66) rfl ⟨rfl, rfl, rfl⟩ (fx_t30 fx) (fx_r30_53 fx) ?_
  refine r_iload rfl rfl ?_
  refine r_iaload rfl (.inl (fx_t66 fx)) (vp_ct (fx_n66 fx) (vp_in_nI (by omega) (by omega))) ?_
  refine WR_tI (congrArg (hI h (ad 66)) ((nI_clamp (by omega)) : _ = t)) ?_
  refine WR_tI (y := 2) e66 ?_
  refine r_istore (lv' := [some (.ref (ad 30)), some (.int (nI k)), some (.int (nI t)), some (.int 2), o4, o5, o6, o7, o8, o9, o10, o11]) rfl (Nat.le_of_ble_eq_true rfl) rfl ?_
  refine r_iload rfl rfl ?_
  refine r_ic (x := 1) rfl rfl ?_
  refine r_icmp_ne (tg := 80) rfl rfl (fun _ => ?_) (fun q => absurd q (by decide))
  refine r_iload rfl rfl ?_
  refine r_ic (x := 2) rfl rfl ?_
  refine r_icmp_eq (tg := 91) rfl rfl (fun _ => ?_) (fun q => absurd q (by decide))
  refine r_aload rfl rfl ?_
  refine r_getA (b := ad 69) rfl ⟨rfl, rfl, rfl⟩ (fx_t30 fx) (fx_r30_56 fx) ?_
  refine r_iload rfl rfl ?_
  refine r_daload rfl (fx_t69 fx) (vp_ct (fx_n69 fx) (vp_in_nI (by omega) (by omega))) ?_
  refine WR_tD (congrArg (hD h (ad 69)) ((nI_clamp (by omega)) : _ = t)) ?_
  refine WR_tD (y := u) e69 ?_
  refine r_ldc (x := .double 4621819117588971520) rfl rfl ?_
  refine r_dgif_gt (tg := 108) rfl rfl rfl (fun c1 => ?_) (fun c1 => ?_)
  · refine r_ldc (x := .double 4636033603912859648) rfl rfl ?_
    refine r_aload rfl rfl ?_
    refine r_getA (b := ad 69) rfl ⟨rfl, rfl, rfl⟩ (fx_t30 fx) (fx_r30_56 fx) ?_
    refine r_iload rfl rfl ?_
    refine r_daload rfl (fx_t69 fx) (vp_ct (fx_n69 fx) (vp_in_nI (by omega) (by omega))) ?_
    refine WR_tD (congrArg (hD h (ad 69)) ((nI_clamp (by omega)) : _ = t)) ?_
    refine WR_tD (y := u) e69 ?_
    refine r_ldc (x := .double 4621819117588971520) rfl rfl ?_
    refine r_dsub rfl (B1 c1) ?_
    refine r_ldc (x := .double 4620693217682128896) rfl rfl ?_
    refine r_dmul rfl (B2 c1) ?_
    refine r_cs (y := 241) (ra := [.double (FP.dmul (FP.dsub u 4621819117588971520) 4620693217682128896), .double 4636033603912859648]) (rest := []) rfl ⟨⟨rfl, rfl⟩, by decide⟩ rfl rfl (Nat.le_of_ble_eq_true rfl) ?_
    exact (C1 c1)
  · refine r_dc (x := 0) rfl rfl ?_
    refine r_goto (tg := 128) rfl rfl ?_
    exact (K1 c1)

set_option maxHeartbeats 2000000 in
theorem w_rt62_3 {d : Nat} {Q : mQ} {n : Nat} {ad sa : Nat → Nat} {z0 : Nat} {h : mH} (fx : FX n ad sa z0 h) {t : Nat} (t6 : t < 6) {k : Nat} {u : UInt64} {o3 o4 o5 o6 o7 o8 o9 o10 o11 : Option Value} (e66 : hI h (ad 66) t = 3) (e69 : hD h (ad 69) t = u) 
    (K1 : WR (d) cd_235 128 [some (.ref (ad 30)), some (.int (nI k)), some (.int (nI t)), some (.int 3), o4, o5, o6, o7, o8, o9, o10, o11] [.double 4636033603912859648] h Q) : WR (d) cd_235 62 [some (.ref (ad 30)), some (.int (nI k)), some (.int (nI t)), o3, o4, o5, o6, o7, o8, o9, o10, o11] [] h Q := by
  have fx0 := fx
  refine r_aload rfl rfl ?_
  refine r_getA (b := ad 66) rfl ⟨rfl, rfl, rfl⟩ (fx_t30 fx) (fx_r30_53 fx) ?_
  refine r_iload rfl rfl ?_
  refine r_iaload rfl (.inl (fx_t66 fx)) (vp_ct (fx_n66 fx) (vp_in_nI (by omega) (by omega))) ?_
  refine WR_tI (congrArg (hI h (ad 66)) ((nI_clamp (by omega)) : _ = t)) ?_
  refine WR_tI (y := 3) e66 ?_
  refine r_istore (lv' := [some (.ref (ad 30)), some (.int (nI k)), some (.int (nI t)), some (.int 3), o4, o5, o6, o7, o8, o9, o10, o11]) rfl (Nat.le_of_ble_eq_true rfl) rfl ?_
  refine r_iload rfl rfl ?_
  refine r_ic (x := 1) rfl rfl ?_
  refine r_icmp_ne (tg := 80) rfl rfl (fun _ => ?_) (fun q => absurd q (by decide))
  refine r_iload rfl rfl ?_
  refine r_ic (x := 2) rfl rfl ?_
  refine r_icmp_eq (tg := 91) rfl rfl (fun q => absurd q (by decide)) (fun _ => ?_)
  refine r_ldc (x := .double 4636033603912859648) rfl rfl ?_
  refine r_goto (tg := 128) rfl rfl ?_
  exact (K1)

set_option maxHeartbeats 2000000 in
theorem w_rt128_0 {d : Nat} {Q : mQ} {n : Nat} {ad sa : Nat → Nat} {z0 : Nat} {h : mH} (fx : FX n ad sa z0 h) {t : Nat} (t6 : t < 6) {k : Nat} {p y : UInt64} {o4 o5 o6 o7 o8 o9 o10 o11 : Option Value} (e67 : hD h (ad 67) t = p) 
    (B1 : vf_n64 (FP.dsub y p))
    (C1 : EV (d) 241 [.double 4618441417868443648, .double (FP.dsub y p)] h (fun v_ h_ => WR (d) cd_235 163 [some (.ref (ad 30)), some (.int (nI k)), some (.int (nI t)), some (.int 0), some (.double y), none, some (.double 4618441417868443648), none, o8, o9, o10, o11] (v_.toList ++ [.double (FP.dneg 4618441417868443648)]) h_ Q)) : WR (d) cd_235 128 [some (.ref (ad 30)), some (.int (nI k)), some (.int (nI t)), some (.int 0), o4, o5, o6, o7, o8, o9, o10, o11] [.double y] h Q := by
  have fx0 := fx
  refine r_dstore (lv' := [some (.ref (ad 30)), some (.int (nI k)), some (.int (nI t)), some (.int 0), some (.double y), none, o6, o7, o8, o9, o10, o11]) rfl (Nat.le_of_ble_eq_true rfl) rfl ?_
  refine r_iload rfl rfl ?_
  refine r_ic (x := 3) rfl rfl ?_
  refine r_icmp_ne (tg := 141) rfl rfl (fun _ => ?_) (fun q => absurd q (by decide))
  refine r_ldc (x := .double 4618441417868443648) rfl rfl ?_
  refine r_dstore (lv' := [some (.ref (ad 30)), some (.int (nI k)), some (.int (nI t)), some (.int 0), some (.double y), none, some (.double 4618441417868443648), none, o8, o9, o10, o11]) rfl (Nat.le_of_ble_eq_true rfl) rfl ?_
  refine r_dload rfl rfl ?_
  refine r_dneg rfl ?_
  refine r_dload rfl rfl ?_
  refine r_dload rfl rfl ?_
  refine r_aload rfl rfl ?_
  refine r_getA (b := ad 67) rfl ⟨rfl, rfl, rfl⟩ (fx_t30 fx) (fx_r30_54 fx) ?_
  refine r_iload rfl rfl ?_
  refine r_daload rfl (fx_t67 fx) (vp_ct (fx_n67 fx) (vp_in_nI (by omega) (by omega))) ?_
  refine WR_tD (congrArg (hD h (ad 67)) ((nI_clamp (by omega)) : _ = t)) ?_
  refine WR_tD (y := p) e67 ?_
  refine r_dsub rfl (B1) ?_
  refine r_cs (y := 241) (ra := [.double (FP.dsub y p), .double 4618441417868443648]) (rest := [.double (FP.dneg 4618441417868443648)]) rfl ⟨⟨rfl, rfl⟩, by decide⟩ rfl rfl (Nat.le_of_ble_eq_true rfl) ?_
  exact (C1)

set_option maxHeartbeats 2000000 in
theorem w_rt128_1 {d : Nat} {Q : mQ} {n : Nat} {ad sa : Nat → Nat} {z0 : Nat} {h : mH} (fx : FX n ad sa z0 h) {t : Nat} (t6 : t < 6) {k : Nat} {p y : UInt64} {o4 o5 o6 o7 o8 o9 o10 o11 : Option Value} (e67 : hD h (ad 67) t = p) 
    (B1 : vf_n64 (FP.dsub y p))
    (C1 : EV (d) 241 [.double 4618441417868443648, .double (FP.dsub y p)] h (fun v_ h_ => WR (d) cd_235 163 [some (.ref (ad 30)), some (.int (nI k)), some (.int (nI t)), some (.int 1), some (.double y), none, some (.double 4618441417868443648), none, o8, o9, o10, o11] (v_.toList ++ [.double (FP.dneg 4618441417868443648)]) h_ Q)) : WR (d) cd_235 128 [some (.ref (ad 30)), some (.int (nI k)), some (.int (nI t)), some (.int 1), o4, o5, o6, o7, o8, o9, o10, o11] [.double y] h Q := by
  have fx0 := fx
  refine r_dstore (lv' := [some (.ref (ad 30)), some (.int (nI k)), some (.int (nI t)), some (.int 1), some (.double y), none, o6, o7, o8, o9, o10, o11]) rfl (Nat.le_of_ble_eq_true rfl) rfl ?_
  refine r_iload rfl rfl ?_
  refine r_ic (x := 3) rfl rfl ?_
  refine r_icmp_ne (tg := 141) rfl rfl (fun _ => ?_) (fun q => absurd q (by decide))
  refine r_ldc (x := .double 4618441417868443648) rfl rfl ?_
  refine r_dstore (lv' := [some (.ref (ad 30)), some (.int (nI k)), some (.int (nI t)), some (.int 1), some (.double y), none, some (.double 4618441417868443648), none, o8, o9, o10, o11]) rfl (Nat.le_of_ble_eq_true rfl) rfl ?_
  refine r_dload rfl rfl ?_
  refine r_dneg rfl ?_
  refine r_dload rfl rfl ?_
  refine r_dload rfl rfl ?_
  refine r_aload rfl rfl ?_
  refine r_getA (b := ad 67) rfl ⟨rfl, rfl, rfl⟩ (fx_t30 fx) (fx_r30_54 fx) ?_
  refine r_iload rfl rfl ?_
  refine r_daload rfl (fx_t67 fx) (vp_ct (fx_n67 fx) (vp_in_nI (by omega) (by omega))) ?_
  refine WR_tD (congrArg (hD h (ad 67)) ((nI_clamp (by omega)) : _ = t)) ?_
  refine WR_tD (y := p) e67 ?_
  refine r_dsub rfl (B1) ?_
  refine r_cs (y := 241) (ra := [.double (FP.dsub y p), .double 4618441417868443648]) (rest := [.double (FP.dneg 4618441417868443648)]) rfl ⟨⟨rfl, rfl⟩, by decide⟩ rfl rfl (Nat.le_of_ble_eq_true rfl) ?_
  exact (C1)

set_option maxHeartbeats 2000000 in
theorem w_rt128_2 {d : Nat} {Q : mQ} {n : Nat} {ad sa : Nat → Nat} {z0 : Nat} {h : mH} (fx : FX n ad sa z0 h) {t : Nat} (t6 : t < 6) {k : Nat} {p y : UInt64} {o4 o5 o6 o7 o8 o9 o10 o11 : Option Value} (e67 : hD h (ad 67) t = p) 
    (B1 : vf_n64 (FP.dsub y p))
    (C1 : EV (d) 241 [.double 4618441417868443648, .double (FP.dsub y p)] h (fun v_ h_ => WR (d) cd_235 163 [some (.ref (ad 30)), some (.int (nI k)), some (.int (nI t)), some (.int 2), some (.double y), none, some (.double 4618441417868443648), none, o8, o9, o10, o11] (v_.toList ++ [.double (FP.dneg 4618441417868443648)]) h_ Q)) : WR (d) cd_235 128 [some (.ref (ad 30)), some (.int (nI k)), some (.int (nI t)), some (.int 2), o4, o5, o6, o7, o8, o9, o10, o11] [.double y] h Q := by
  have fx0 := fx
  refine r_dstore (lv' := [some (.ref (ad 30)), some (.int (nI k)), some (.int (nI t)), some (.int 2), some (.double y), none, o6, o7, o8, o9, o10, o11]) rfl (Nat.le_of_ble_eq_true rfl) rfl ?_
  refine r_iload rfl rfl ?_
  refine r_ic (x := 3) rfl rfl ?_
  refine r_icmp_ne (tg := 141) rfl rfl (fun _ => ?_) (fun q => absurd q (by decide))
  refine r_ldc (x := .double 4618441417868443648) rfl rfl ?_
  refine r_dstore (lv' := [some (.ref (ad 30)), some (.int (nI k)), some (.int (nI t)), some (.int 2), some (.double y), none, some (.double 4618441417868443648), none, o8, o9, o10, o11]) rfl (Nat.le_of_ble_eq_true rfl) rfl ?_
  refine r_dload rfl rfl ?_
  refine r_dneg rfl ?_
  refine r_dload rfl rfl ?_
  refine r_dload rfl rfl ?_
  refine r_aload rfl rfl ?_
  refine r_getA (b := ad 67) rfl ⟨rfl, rfl, rfl⟩ (fx_t30 fx) (fx_r30_54 fx) ?_
  refine r_iload rfl rfl ?_
  refine r_daload rfl (fx_t67 fx) (vp_ct (fx_n67 fx) (vp_in_nI (by omega) (by omega))) ?_
  refine WR_tD (congrArg (hD h (ad 67)) ((nI_clamp (by omega)) : _ = t)) ?_
  refine WR_tD (y := p) e67 ?_
  refine r_dsub rfl (B1) ?_
  refine r_cs (y := 241) (ra := [.double (FP.dsub y p), .double 4618441417868443648]) (rest := [.double (FP.dneg 4618441417868443648)]) rfl ⟨⟨rfl, rfl⟩, by decide⟩ rfl rfl (Nat.le_of_ble_eq_true rfl) ?_
  exact (C1)

set_option maxHeartbeats 2000000 in
theorem w_rt128_3 {d : Nat} {Q : mQ} {n : Nat} {ad sa : Nat → Nat} {z0 : Nat} {h : mH} (fx : FX n ad sa z0 h) {t : Nat} (t6 : t < 6) {k : Nat} {p y : UInt64} {o4 o5 o6 o7 o8 o9 o10 o11 : Option Value} (e67 : hD h (ad 67) t = p) 
    (B1 : vf_n64 (FP.dsub y p))
    (C1 : EV (d) 241 [.double 4622945017495814144, .double (FP.dsub y p)] h (fun v_ h_ => WR (d) cd_235 163 [some (.ref (ad 30)), some (.int (nI k)), some (.int (nI t)), some (.int 3), some (.double y), none, some (.double 4622945017495814144), none, o8, o9, o10, o11] (v_.toList ++ [.double (FP.dneg 4622945017495814144)]) h_ Q)) : WR (d) cd_235 128 [some (.ref (ad 30)), some (.int (nI k)), some (.int (nI t)), some (.int 3), o4, o5, o6, o7, o8, o9, o10, o11] [.double y] h Q := by
  have fx0 := fx
  refine r_dstore (lv' := [some (.ref (ad 30)), some (.int (nI k)), some (.int (nI t)), some (.int 3), some (.double y), none, o6, o7, o8, o9, o10, o11]) rfl (Nat.le_of_ble_eq_true rfl) rfl ?_
  refine r_iload rfl rfl ?_
  refine r_ic (x := 3) rfl rfl ?_
  refine r_icmp_ne (tg := 141) rfl rfl (fun q => absurd q (by decide)) (fun _ => ?_)
  refine r_ldc (x := .double 4622945017495814144) rfl rfl ?_
  refine r_goto (tg := 144) rfl rfl ?_
  refine r_dstore (lv' := [some (.ref (ad 30)), some (.int (nI k)), some (.int (nI t)), some (.int 3), some (.double y), none, some (.double 4622945017495814144), none, o8, o9, o10, o11]) rfl (Nat.le_of_ble_eq_true rfl) rfl ?_
  refine r_dload rfl rfl ?_
  refine r_dneg rfl ?_
  refine r_dload rfl rfl ?_
  refine r_dload rfl rfl ?_
  refine r_aload rfl rfl ?_
  refine r_getA (b := ad 67) rfl ⟨rfl, rfl, rfl⟩ (fx_t30 fx) (fx_r30_54 fx) ?_
  refine r_iload rfl rfl ?_
  refine r_daload rfl (fx_t67 fx) (vp_ct (fx_n67 fx) (vp_in_nI (by omega) (by omega))) ?_
  refine WR_tD (congrArg (hD h (ad 67)) ((nI_clamp (by omega)) : _ = t)) ?_
  refine WR_tD (y := p) e67 ?_
  refine r_dsub rfl (B1) ?_
  refine r_cs (y := 241) (ra := [.double (FP.dsub y p), .double 4622945017495814144]) (rest := [.double (FP.dneg 4622945017495814144)]) rfl ⟨⟨rfl, rfl⟩, by decide⟩ rfl rfl (Nat.le_of_ble_eq_true rfl) ?_
  exact (C1)

set_option maxHeartbeats 2000000 in
theorem w_rt163 {d : Nat} {Q : mQ} {n : Nat} {ad sa : Nat → Nat} {z0 : Nat} {h : mH} (fx : FX n ad sa z0 h) {t : Nat} (t6 : t < 6) {k : Nat} {x z : UInt64} {s : Int32} {y4 y6 : UInt64} {o8 o9 o10 o11 : Option Value} 
    (C1 : EV (d) 242 [.double z, .double x] h (fun v_ h_ => WR (d) cd_235 166 [some (.ref (ad 30)), some (.int (nI k)), some (.int (nI t)), some (.int s), some (.double y4), none, some (.double y6), none, o8, o9, o10, o11] (v_.toList ++ []) h_ Q)) : WR (d) cd_235 163 [some (.ref (ad 30)), some (.int (nI k)), some (.int (nI t)), some (.int s), some (.double y4), none, some (.double y6), none, o8, o9, o10, o11] [.double x, .double z] h Q := by
  have fx0 := fx
  refine r_cs (y := 242) (ra := [.double x, .double z]) (rest := []) rfl ⟨⟨rfl, rfl⟩, by decide⟩ rfl rfl (Nat.le_of_ble_eq_true rfl) ?_
  exact (C1)

set_option maxHeartbeats 2000000 in
theorem w_rt166 {d : Nat} {Q : mQ} {n : Nat} {ad sa : Nat → Nat} {z0 : Nat} {h : mH} (fx : FX n ad sa z0 h) {t : Nat} (t6 : t < 6) {k : Nat} {y : UInt64} {s : Int32} {y4 y6 : UInt64} {o8 o9 o10 o11 : Option Value} 
    (K1 : deq y 0 → WR (d) cd_235 201 [some (.ref (ad 30)), some (.int (nI k)), some (.int (nI t)), some (.int s), some (.double y4), none, some (.double y6), none, some (.double y), none, o10, o11] [] h Q)
    (C1 : ¬ deq y 0 → ¬ dlt y 0 → EV (d) 243 [.ref (ad 30), .int (nI t), .int 3, .int (FP.d2i y)] h (fun v_ h_ => WR (d) cd_235 197 [some (.ref (ad 30)), some (.int (nI k)), some (.int (nI t)), some (.int s), some (.double y4), none, some (.double y6), none, some (.double y), none, o10, o11] (v_.toList ++ []) h_ Q))
    (C2 : ¬ deq y 0 → dlt y 0 → EV (d) 243 [.ref (ad 30), .int (nI t), .int 3, .int (FP.d2i (FP.dneg y))] h (fun v_ h_ => WR (d) cd_235 197 [some (.ref (ad 30)), some (.int (nI k)), some (.int (nI t)), some (.int s), some (.double y4), none, some (.double y6), none, some (.double y), none, o10, o11] (v_.toList ++ []) h_ Q)) : WR (d) cd_235 166 [some (.ref (ad 30)), some (.int (nI k)), some (.int (nI t)), some (.int s), some (.double y4), none, some (.double y6), none, o8, o9, o10, o11] [.double y] h Q := by
  have fx0 := fx
  refine r_dstore (lv' := [some (.ref (ad 30)), some (.int (nI k)), some (.int (nI t)), some (.int s), some (.double y4), none, some (.double y6), none, some (.double y), none, o10, o11]) rfl (Nat.le_of_ble_eq_true rfl) rfl ?_
  refine r_dload rfl rfl ?_
  refine r_dc (x := 0) rfl rfl ?_
  refine r_dlif_eq (tg := 201) rfl rfl rfl (fun c1 => ?_) (fun c1 => ?_)
  · exact (K1 c1)
  · refine r_aload rfl rfl ?_
    refine r_iload rfl rfl ?_
    refine r_ic (x := 3) rfl rfl ?_
    refine r_dload rfl rfl ?_
    refine r_dc (x := 0) rfl rfl ?_
    refine r_dgif_ge (tg := 191) rfl rfl rfl (fun c2 => ?_) (fun c2 => ?_)
    · refine r_dload rfl rfl ?_
      refine r_d2i rfl ?_
      refine r_cv (y := 243) (ra := [.int (FP.d2i y), .int 3, .int (nI t)]) (rest := []) rfl ⟨⟨rfl, rfl⟩, rfl, by decide⟩ (fx_t30 fx) rfl rfl (Nat.le_of_ble_eq_true rfl) ?_
      exact (C1 c1 c2)
    · refine r_dload rfl rfl ?_
      refine r_dneg rfl ?_
      refine r_goto (tg := 193) rfl rfl ?_
      refine r_d2i rfl ?_
      refine r_cv (y := 243) (ra := [.int (FP.d2i (FP.dneg y)), .int 3, .int (nI t)]) (rest := []) rfl ⟨⟨rfl, rfl⟩, rfl, by decide⟩ (fx_t30 fx) rfl rfl (Nat.le_of_ble_eq_true rfl) ?_
      exact (C2 c1 c2)

set_option maxHeartbeats 2000000 in
theorem w_rt197_0 {d : Nat} {Q : mQ} {n : Nat} {ad sa : Nat → Nat} {z0 : Nat} {h : mH} (fx : FX n ad sa z0 h) {t : Nat} (t6 : t < 6) {k : Nat} {y : UInt64} {s : Int32} {y4 y6 : UInt64} {o10 o11 : Option Value} 
    (L1 : Q none h) : WR (d) cd_235 197 [some (.ref (ad 30)), some (.int (nI k)), some (.int (nI t)), some (.int s), some (.double y4), none, some (.double y6), none, some (.double y), none, o10, o11] [.int 0] h Q := by
  have fx0 := fx
  refine r_if_ne (tg := 201) rfl rfl (fun q => absurd q (by decide)) (fun _ => ?_)
  refine r_vret rfl ?_
  exact (L1)

set_option maxHeartbeats 2000000 in
theorem w_rt197_1 {d : Nat} {Q : mQ} {n : Nat} {ad sa : Nat → Nat} {z0 : Nat} {h : mH} (fx : FX n ad sa z0 h) {t : Nat} (t6 : t < 6) {k : Nat} {y : UInt64} {s : Int32} {y4 y6 : UInt64} {o10 o11 : Option Value} 
    (K1 : WR (d) cd_235 201 [some (.ref (ad 30)), some (.int (nI k)), some (.int (nI t)), some (.int s), some (.double y4), none, some (.double y6), none, some (.double y), none, o10, o11] [] h Q) : WR (d) cd_235 197 [some (.ref (ad 30)), some (.int (nI k)), some (.int (nI t)), some (.int s), some (.double y4), none, some (.double y6), none, some (.double y), none, o10, o11] [.int 1] h Q := by
  have fx0 := fx
  refine r_if_ne (tg := 201) rfl rfl (fun _ => ?_) (fun q => absurd q (by decide))
  exact (K1)

set_option maxHeartbeats 2000000 in
theorem w_rt201 {d : Nat} {Q : mQ} {n : Nat} {ad sa : Nat → Nat} {z0 : Nat} {h : mH} (fx : FX n ad sa z0 h) {t : Nat} (t6 : t < 6) {k : Nat} {p y : UInt64} {s : Int32} {y4 y6 : UInt64} {o10 o11 : Option Value} (e67 : hD h (ad 67) t = p) 
    (K1 : deq y 0 → WR (d) cd_235 232 [some (.ref (ad 30)), some (.int (nI k)), some (.int (nI t)), some (.int s), some (.double y4), none, some (.double y6), none, some (.double y), none, o10, o11] [] (sD h (ad 67) t p) Q)
    (B1 : ¬ deq y 0 → vf_n64 (FP.dadd p y))
    (K2 : ¬ deq y 0 → WR (d) cd_235 232 [some (.ref (ad 30)), some (.int (nI k)), some (.int (nI t)), some (.int s), some (.double y4), none, some (.double y6), none, some (.double y), none, o10, o11] [] (sD h (ad 67) t (FP.dadd p y)) Q) : WR (d) cd_235 201 [some (.ref (ad 30)), some (.int (nI k)), some (.int (nI t)), some (.int s), some (.double y4), none, some (.double y6), none, some (.double y), none, o10, o11] [] h Q := by
  have fx0 := fx
  refine r_aload rfl rfl ?_
  refine r_getA (b := ad 67) rfl ⟨rfl, rfl, rfl⟩ (fx_t30 fx) (fx_r30_54 fx) ?_
  refine r_iload rfl rfl ?_
  refine r_dload rfl rfl ?_
  refine r_dc (x := 0) rfl rfl ?_
  refine r_dlif_eq (tg := 225) rfl rfl rfl (fun c1 => ?_) (fun c1 => ?_)
  · refine r_aload rfl rfl ?_
    refine r_getA (b := ad 67) rfl ⟨rfl, rfl, rfl⟩ (fx_t30 fx) (fx_r30_54 fx) ?_
    refine r_iload rfl rfl ?_
    refine r_daload rfl (fx_t67 fx) (vp_ct (fx_n67 fx) (vp_in_nI (by omega) (by omega))) ?_
    refine WR_tD (congrArg (hD h (ad 67)) ((nI_clamp (by omega)) : _ = t)) ?_
    refine WR_tD (y := p) e67 ?_
    refine r_dastore rfl (fx_t67 fx) (vp_ct (fx_n67 fx) (vp_in_nI (by omega) (by omega))) ?_
    refine WR_h (h2 := sD h (ad 67) t p) (congrArg (fun z => sD h (ad 67) z p) ((nI_clamp (by omega)) : _ = t)) ?_
    exact (K1 c1)
  · refine r_aload rfl rfl ?_
    refine r_getA (b := ad 67) rfl ⟨rfl, rfl, rfl⟩ (fx_t30 fx) (fx_r30_54 fx) ?_
    refine r_iload rfl rfl ?_
    refine r_daload rfl (fx_t67 fx) (vp_ct (fx_n67 fx) (vp_in_nI (by omega) (by omega))) ?_
    refine WR_tD (congrArg (hD h (ad 67)) ((nI_clamp (by omega)) : _ = t)) ?_
    refine WR_tD (y := p) e67 ?_
    refine r_dload rfl rfl ?_
    refine r_dadd rfl (B1 c1) ?_
    refine r_goto (tg := 231) rfl rfl ?_
    refine r_dastore rfl (fx_t67 fx) (vp_ct (fx_n67 fx) (vp_in_nI (by omega) (by omega))) ?_
    refine WR_h (h2 := sD h (ad 67) t (FP.dadd p y)) (congrArg (fun z => sD h (ad 67) z (FP.dadd p y)) ((nI_clamp (by omega)) : _ = t)) ?_
    exact (K2 c1)

set_option maxHeartbeats 2000000 in
theorem w_rt232_0 {d : Nat} {Q : mQ} {n : Nat} {ad sa : Nat → Nat} {z0 : Nat} {h : mH} (fx : FX n ad sa z0 h) {t : Nat} (t6 : t < 6) {k : Nat} {y g u : UInt64} {y4 y6 : UInt64} {o10 o11 : Option Value} (e68 : hD h (ad 68) t = g) (e69 : hD h (ad 69) t = u) 
    (B1 : vf_n64 (FP.ddiv g 4611686018427387904))
    (K1 : WR (d) cd_235 313 [some (.ref (ad 30)), some (.int (nI k)), some (.int (nI t)), some (.int 0), some (.double y4), none, some (.double y6), none, some (.double y), none, o10, o11] [] (sD h (ad 68) t (FP.ddiv g 4611686018427387904)) Q) : WR (d) cd_235 232 [some (.ref (ad 30)), some (.int (nI k)), some (.int (nI t)), some (.int 0), some (.double y4), none, some (.double y6), none, some (.double y), none, o10, o11] [] h Q := by
  have fx0 := fx
  refine r_iload rfl rfl ?_
  refine r_ic (x := 2) rfl rfl ?_
  refine r_icmp_ne (tg := 297) rfl rfl (fun _ => ?_) (fun q => absurd q (by decide))
  refine r_aload rfl rfl ?_
  refine r_getA (b := ad 68) rfl ⟨rfl, rfl, rfl⟩ (fx_t30 fx) (fx_r30_55 fx) ?_
  refine r_iload rfl rfl ?_
  refine r_aload rfl rfl ?_
  refine r_getA (b := ad 68) rfl ⟨rfl, rfl, rfl⟩ (fx_t30 fx) (fx_r30_55 fx) ?_
  refine r_iload rfl rfl ?_
  refine r_daload rfl (fx_t68 fx) (vp_ct (fx_n68 fx) (vp_in_nI (by omega) (by omega))) ?_
  refine WR_tD (congrArg (hD h (ad 68)) ((nI_clamp (by omega)) : _ = t)) ?_
  refine WR_tD (y := g) e68 ?_
  refine r_ldc (x := .double 4611686018427387904) rfl rfl ?_
  refine r_ddiv rfl (B1) ?_
  refine r_dastore rfl (fx_t68 fx) (vp_ct (fx_n68 fx) (vp_in_nI (by omega) (by omega))) ?_
  refine WR_h (h2 := sD h (ad 68) t (FP.ddiv g 4611686018427387904)) (congrArg (fun z => sD h (ad 68) z (FP.ddiv g 4611686018427387904)) ((nI_clamp (by omega)) : _ = t)) ?_
  exact (K1)

set_option maxHeartbeats 2000000 in
theorem w_rt232_1 {d : Nat} {Q : mQ} {n : Nat} {ad sa : Nat → Nat} {z0 : Nat} {h : mH} (fx : FX n ad sa z0 h) {t : Nat} (t6 : t < 6) {k : Nat} {y g u : UInt64} {y4 y6 : UInt64} {o10 o11 : Option Value} (e68 : hD h (ad 68) t = g) (e69 : hD h (ad 69) t = u) 
    (B1 : vf_n64 (FP.ddiv g 4611686018427387904))
    (K1 : WR (d) cd_235 313 [some (.ref (ad 30)), some (.int (nI k)), some (.int (nI t)), some (.int 1), some (.double y4), none, some (.double y6), none, some (.double y), none, o10, o11] [] (sD h (ad 68) t (FP.ddiv g 4611686018427387904)) Q) : WR (d) cd_235 232 [some (.ref (ad 30)), some (.int (nI k)), some (.int (nI t)), some (.int 1), some (.double y4), none, some (.double y6), none, some (.double y), none, o10, o11] [] h Q := by
  have fx0 := fx
  refine r_iload rfl rfl ?_
  refine r_ic (x := 2) rfl rfl ?_
  refine r_icmp_ne (tg := 297) rfl rfl (fun _ => ?_) (fun q => absurd q (by decide))
  refine r_aload rfl rfl ?_
  refine r_getA (b := ad 68) rfl ⟨rfl, rfl, rfl⟩ (fx_t30 fx) (fx_r30_55 fx) ?_
  refine r_iload rfl rfl ?_
  refine r_aload rfl rfl ?_
  refine r_getA (b := ad 68) rfl ⟨rfl, rfl, rfl⟩ (fx_t30 fx) (fx_r30_55 fx) ?_
  refine r_iload rfl rfl ?_
  refine r_daload rfl (fx_t68 fx) (vp_ct (fx_n68 fx) (vp_in_nI (by omega) (by omega))) ?_
  refine WR_tD (congrArg (hD h (ad 68)) ((nI_clamp (by omega)) : _ = t)) ?_
  refine WR_tD (y := g) e68 ?_
  refine r_ldc (x := .double 4611686018427387904) rfl rfl ?_
  refine r_ddiv rfl (B1) ?_
  refine r_dastore rfl (fx_t68 fx) (vp_ct (fx_n68 fx) (vp_in_nI (by omega) (by omega))) ?_
  refine WR_h (h2 := sD h (ad 68) t (FP.ddiv g 4611686018427387904)) (congrArg (fun z => sD h (ad 68) z (FP.ddiv g 4611686018427387904)) ((nI_clamp (by omega)) : _ = t)) ?_
  exact (K1)

set_option maxHeartbeats 2000000 in
theorem w_rt232_2 {d : Nat} {Q : mQ} {n : Nat} {ad sa : Nat → Nat} {z0 : Nat} {h : mH} (fx : FX n ad sa z0 h) {t : Nat} (t6 : t < 6) {k : Nat} {y g u : UInt64} {y4 y6 : UInt64} {o10 o11 : Option Value} (e68 : hD h (ad 68) t = g) (e69 : hD h (ad 69) t = u) 
    (B1 : vf_n64 (FP.dmul u 4602678819172646912))
    (B2 : vf_n64 (FP.dsub (FP.dmul u 4602678819172646912) g))
    (C1 : EV (d) 241 [.double 4602678819172646912, .double (FP.dsub (FP.dmul u 4602678819172646912) g)] h (fun v_ h_ => WR (d) cd_235 269 [some (.ref (ad 30)), some (.int (nI k)), some (.int (nI t)), some (.int 2), some (.double y4), none, some (.double y6), none, some (.double y), none, o10, o11] (v_.toList ++ [.double 13826050856027422720, .double g]) h_ Q)) : WR (d) cd_235 232 [some (.ref (ad 30)), some (.int (nI k)), some (.int (nI t)), some (.int 2), some (.double y4), none, some (.double y6), none, some (.double y), none, o10, o11] [] h Q := by
  have fx0 := fx
  refine r_iload rfl rfl ?_
  refine r_ic (x := 2) rfl rfl ?_
  refine r_icmp_ne (tg := 297) rfl rfl (fun q => absurd q (by decide)) (fun _ => ?_)
  refine r_aload rfl rfl ?_
  refine r_getA (b := ad 68) rfl ⟨rfl, rfl, rfl⟩ (fx_t30 fx) (fx_r30_55 fx) ?_
  refine r_iload rfl rfl ?_
  refine r_daload rfl (fx_t68 fx) (vp_ct (fx_n68 fx) (vp_in_nI (by omega) (by omega))) ?_
  refine WR_tD (congrArg (hD h (ad 68)) ((nI_clamp (by omega)) : _ = t)) ?_
  refine WR_tD (y := g) e68 ?_
  refine r_ldc (x := .double 13826050856027422720) rfl rfl ?_
  refine r_ldc (x := .double 4602678819172646912) rfl rfl ?_
  refine r_aload rfl rfl ?_
  refine r_getA (b := ad 69) rfl ⟨rfl, rfl, rfl⟩ (fx_t30 fx) (fx_r30_56 fx) ?_
  refine r_iload rfl rfl ?_
  refine r_daload rfl (fx_t69 fx) (vp_ct (fx_n69 fx) (vp_in_nI (by omega) (by omega))) ?_
  refine WR_tD (congrArg (hD h (ad 69)) ((nI_clamp (by omega)) : _ = t)) ?_
  refine WR_tD (y := u) e69 ?_
  refine r_ldc (x := .double 4602678819172646912) rfl rfl ?_
  refine r_dmul rfl (B1) ?_
  refine r_aload rfl rfl ?_
  refine r_getA (b := ad 68) rfl ⟨rfl, rfl, rfl⟩ (fx_t30 fx) (fx_r30_55 fx) ?_
  refine r_iload rfl rfl ?_
  refine r_daload rfl (fx_t68 fx) (vp_ct (fx_n68 fx) (vp_in_nI (by omega) (by omega))) ?_
  refine WR_tD (congrArg (hD h (ad 68)) ((nI_clamp (by omega)) : _ = t)) ?_
  refine WR_tD (y := g) e68 ?_
  refine r_dsub rfl (B2) ?_
  refine r_cs (y := 241) (ra := [.double (FP.dsub (FP.dmul u 4602678819172646912) g), .double 4602678819172646912]) (rest := [.double 13826050856027422720, .double g]) rfl ⟨⟨rfl, rfl⟩, by decide⟩ rfl rfl (Nat.le_of_ble_eq_true rfl) ?_
  exact (C1)

set_option maxHeartbeats 2000000 in
theorem w_rt232_3 {d : Nat} {Q : mQ} {n : Nat} {ad sa : Nat → Nat} {z0 : Nat} {h : mH} (fx : FX n ad sa z0 h) {t : Nat} (t6 : t < 6) {k : Nat} {y g u : UInt64} {y4 y6 : UInt64} {o10 o11 : Option Value} (e68 : hD h (ad 68) t = g) (e69 : hD h (ad 69) t = u) 
    (B1 : vf_n64 (FP.ddiv g 4611686018427387904))
    (K1 : WR (d) cd_235 313 [some (.ref (ad 30)), some (.int (nI k)), some (.int (nI t)), some (.int 3), some (.double y4), none, some (.double y6), none, some (.double y), none, o10, o11] [] (sD h (ad 68) t (FP.ddiv g 4611686018427387904)) Q) : WR (d) cd_235 232 [some (.ref (ad 30)), some (.int (nI k)), some (.int (nI t)), some (.int 3), some (.double y4), none, some (.double y6), none, some (.double y), none, o10, o11] [] h Q := by
  have fx0 := fx
  refine r_iload rfl rfl ?_
  refine r_ic (x := 2) rfl rfl ?_
  refine r_icmp_ne (tg := 297) rfl rfl (fun _ => ?_) (fun q => absurd q (by decide))
  refine r_aload rfl rfl ?_
  refine r_getA (b := ad 68) rfl ⟨rfl, rfl, rfl⟩ (fx_t30 fx) (fx_r30_55 fx) ?_
  refine r_iload rfl rfl ?_
  refine r_aload rfl rfl ?_
  refine r_getA (b := ad 68) rfl ⟨rfl, rfl, rfl⟩ (fx_t30 fx) (fx_r30_55 fx) ?_
  refine r_iload rfl rfl ?_
  refine r_daload rfl (fx_t68 fx) (vp_ct (fx_n68 fx) (vp_in_nI (by omega) (by omega))) ?_
  refine WR_tD (congrArg (hD h (ad 68)) ((nI_clamp (by omega)) : _ = t)) ?_
  refine WR_tD (y := g) e68 ?_
  refine r_ldc (x := .double 4611686018427387904) rfl rfl ?_
  refine r_ddiv rfl (B1) ?_
  refine r_dastore rfl (fx_t68 fx) (vp_ct (fx_n68 fx) (vp_in_nI (by omega) (by omega))) ?_
  refine WR_h (h2 := sD h (ad 68) t (FP.ddiv g 4611686018427387904)) (congrArg (fun z => sD h (ad 68) z (FP.ddiv g 4611686018427387904)) ((nI_clamp (by omega)) : _ = t)) ?_
  exact (K1)

set_option maxHeartbeats 2000000 in
theorem w_rt269 {d : Nat} {Q : mQ} {n : Nat} {ad sa : Nat → Nat} {z0 : Nat} {h : mH} (fx : FX n ad sa z0 h) {t : Nat} (t6 : t < 6) {k : Nat} {x z g y : UInt64} {s : Int32} {y4 y6 : UInt64} {o10 o11 : Option Value} 
    (C1 : EV (d) 242 [.double z, .double x] h (fun v_ h_ => WR (d) cd_235 272 [some (.ref (ad 30)), some (.int (nI k)), some (.int (nI t)), some (.int s), some (.double y4), none, some (.double y6), none, some (.double y), none, o10, o11] (v_.toList ++ [.double g]) h_ Q)) : WR (d) cd_235 269 [some (.ref (ad 30)), some (.int (nI k)), some (.int (nI t)), some (.int s), some (.double y4), none, some (.double y6), none, some (.double y), none, o10, o11] [.double x, .double z, .double g] h Q := by
  have fx0 := fx
  refine r_cs (y := 242) (ra := [.double x, .double z]) (rest := [.double g]) rfl ⟨⟨rfl, rfl⟩, by decide⟩ rfl rfl (Nat.le_of_ble_eq_true rfl) ?_
  exact (C1)

set_option maxHeartbeats 2000000 in
theorem w_rt272 {d : Nat} {Q : mQ} {n : Nat} {ad sa : Nat → Nat} {z0 : Nat} {h : mH} (fx : FX n ad sa z0 h) {t : Nat} (t6 : t < 6) {k : Nat} {x g y : UInt64} {s : Int32} {y4 y6 : UInt64} {o10 o11 : Option Value} 
    (B1 : vf_n64 (FP.dadd g x))
    (K1 : ¬ dlt (FP.dadd g x) 0 → WR (d) cd_235 313 [some (.ref (ad 30)), some (.int (nI k)), some (.int (nI t)), some (.int s), some (.double y4), none, some (.double y6), none, some (.double y), none, some (.double (FP.dadd g x)), none] [] (sD h (ad 68) t (FP.dadd g x)) Q)
    (K2 : dlt (FP.dadd g x) 0 → WR (d) cd_235 313 [some (.ref (ad 30)), some (.int (nI k)), some (.int (nI t)), some (.int s), some (.double y4), none, some (.double y6), none, some (.double y), none, some (.double (FP.dadd g x)), none] [] (sD h (ad 68) t 0) Q) : WR (d) cd_235 272 [some (.ref (ad 30)), some (.int (nI k)), some (.int (nI t)), some (.int s), some (.double y4), none, some (.double y6), none, some (.double y), none, o10, o11] [.double x, .double g] h Q := by
  have fx0 := fx
  refine r_dadd rfl (B1) ?_
  refine r_dstore (lv' := [some (.ref (ad 30)), some (.int (nI k)), some (.int (nI t)), some (.int s), some (.double y4), none, some (.double y6), none, some (.double y), none, some (.double (FP.dadd g x)), none]) rfl (Nat.le_of_ble_eq_true rfl) rfl ?_
  refine r_aload rfl rfl ?_
  refine r_getA (b := ad 68) rfl ⟨rfl, rfl, rfl⟩ (fx_t30 fx) (fx_r30_55 fx) ?_
  refine r_iload rfl rfl ?_
  refine r_dload rfl rfl ?_
  refine r_dc (x := 0) rfl rfl ?_
  refine r_dgif_ge (tg := 291) rfl rfl rfl (fun c1 => ?_) (fun c1 => ?_)
  · refine r_dload rfl rfl ?_
    refine r_dastore rfl (fx_t68 fx) (vp_ct (fx_n68 fx) (vp_in_nI (by omega) (by omega))) ?_
    refine WR_h (h2 := sD h (ad 68) t (FP.dadd g x)) (congrArg (fun z => sD h (ad 68) z (FP.dadd g x)) ((nI_clamp (by omega)) : _ = t)) ?_
    have fx : FX n ad sa z0 (sD h (ad 68) t (FP.dadd g x)) := (FX.sD fx)
    refine r_goto (tg := 313) rfl rfl ?_
    exact (K1 c1)
  · refine r_dc (x := 0) rfl rfl ?_
    refine r_goto (tg := 293) rfl rfl ?_
    refine r_dastore rfl (fx_t68 fx) (vp_ct (fx_n68 fx) (vp_in_nI (by omega) (by omega))) ?_
    refine WR_h (h2 := sD h (ad 68) t 0) (congrArg (fun z => sD h (ad 68) z 0) ((nI_clamp (by omega)) : _ = t)) ?_
    have fx : FX n ad sa z0 (sD h (ad 68) t 0) := (FX.sD fx)
    refine r_goto (tg := 313) rfl rfl ?_
    exact (K2 c1)

set_option maxHeartbeats 2000000 in
theorem w_rt313 {d : Nat} {Q : mQ} {n : Nat} {ad sa : Nat → Nat} {z0 : Nat} {h : mH} (fx : FX n ad sa z0 h) {t : Nat} (t6 : t < 6) {k : Nat} {w p g u y : UInt64} {s : Int32} {y4 y6 : UInt64} {o10 o11 : Option Value} (e73 : hD h (ad 73) t = w) (e67 : hD h (ad 67) t = p) (e68 : hD h (ad 68) t = g) (e69 : hD h (ad 69) t = u) 
    (B1 : vf_n64 (FP.ddiv p 4636033603912859648))
    (B2 : vf_n64 (FP.dsub 4607182418800017408 (FP.ddiv p 4636033603912859648)))
    (B3 : vf_n64 (FP.dmul w (FP.dsub 4607182418800017408 (FP.ddiv p 4636033603912859648))))
    (B4 : vf_n64 (FP.dsub (FP.dmul w (FP.dsub 4607182418800017408 (FP.ddiv p 4636033603912859648))) g))
    (B5 : vf_n64 (FP.dmul 4591870180066957722 u))
    (B6 : vf_n64 (FP.dsub (FP.dsub (FP.dmul w (FP.dsub 4607182418800017408 (FP.ddiv p 4636033603912859648))) g) (FP.dmul 4591870180066957722 u)))
    (B7 : vf_n64 (FP.dmul 4591870180066957722 (FP.dsub (FP.dsub (FP.dmul w (FP.dsub 4607182418800017408 (FP.ddiv p 4636033603912859648))) g) (FP.dmul 4591870180066957722 u))))
    (B8 : vf_n64 (FP.dadd u (FP.dmul 4591870180066957722 (FP.dsub (FP.dsub (FP.dmul w (FP.dsub 4607182418800017408 (FP.ddiv p 4636033603912859648))) g) (FP.dmul 4591870180066957722 u)))))
    (C1 : EV (d) 242 [.double 0, .double (FP.dadd u (FP.dmul 4591870180066957722 (FP.dsub (FP.dsub (FP.dmul w (FP.dsub 4607182418800017408 (FP.ddiv p 4636033603912859648))) g) (FP.dmul 4591870180066957722 u))))] h (fun v_ h_ => WR (d) cd_235 370 [some (.ref (ad 30)), some (.int (nI k)), some (.int (nI t)), some (.int s), some (.double y4), none, some (.double y6), none, some (.double y), none, o10, o11] (v_.toList ++ [.int (nI t), .ref (ad 69)]) h_ Q)) : WR (d) cd_235 313 [some (.ref (ad 30)), some (.int (nI k)), some (.int (nI t)), some (.int s), some (.double y4), none, some (.double y6), none, some (.double y), none, o10, o11] [] h Q := by
  have fx0 := fx
  refine r_aload rfl rfl ?_
  refine r_getA (b := ad 69) rfl ⟨rfl, rfl, rfl⟩ (fx_t30 fx) (fx_r30_56 fx) ?_
  refine r_iload rfl rfl ?_
  refine r_dc (x := 0) rfl rfl ?_
  refine r_aload rfl rfl ?_
  refine r_getA (b := ad 69) rfl ⟨rfl, rfl, rfl⟩ (fx_t30 fx) (fx_r30_56 fx) ?_
  refine r_iload rfl rfl ?_
  refine r_daload rfl (fx_t69 fx) (vp_ct (fx_n69 fx) (vp_in_nI (by omega) (by omega))) ?_
  refine WR_tD (congrArg (hD h (ad 69)) ((nI_clamp (by omega)) : _ = t)) ?_
  refine WR_tD (y := u) e69 ?_
  refine r_ldc (x := .double 4591870180066957722) rfl rfl ?_
  refine r_aload rfl rfl ?_
  refine r_getA (b := ad 73) rfl ⟨rfl, rfl, rfl⟩ (fx_t30 fx) (fx_r30_60 fx) ?_
  refine r_iload rfl rfl ?_
  refine r_daload rfl (fx_t73 fx) (vp_ct (fx_n73 fx) (vp_in_nI (by omega) (by omega))) ?_
  refine WR_tD (congrArg (hD h (ad 73)) ((nI_clamp (by omega)) : _ = t)) ?_
  refine WR_tD (y := w) e73 ?_
  refine r_dc (x := 4607182418800017408) rfl rfl ?_
  refine r_aload rfl rfl ?_
  refine r_getA (b := ad 67) rfl ⟨rfl, rfl, rfl⟩ (fx_t30 fx) (fx_r30_54 fx) ?_
  refine r_iload rfl rfl ?_
  refine r_daload rfl (fx_t67 fx) (vp_ct (fx_n67 fx) (vp_in_nI (by omega) (by omega))) ?_
  refine WR_tD (congrArg (hD h (ad 67)) ((nI_clamp (by omega)) : _ = t)) ?_
  refine WR_tD (y := p) e67 ?_
  refine r_ldc (x := .double 4636033603912859648) rfl rfl ?_
  refine r_ddiv rfl (B1) ?_
  refine r_dsub rfl (B2) ?_
  refine r_dmul rfl (B3) ?_
  refine r_aload rfl rfl ?_
  refine r_getA (b := ad 68) rfl ⟨rfl, rfl, rfl⟩ (fx_t30 fx) (fx_r30_55 fx) ?_
  refine r_iload rfl rfl ?_
  refine r_daload rfl (fx_t68 fx) (vp_ct (fx_n68 fx) (vp_in_nI (by omega) (by omega))) ?_
  refine WR_tD (congrArg (hD h (ad 68)) ((nI_clamp (by omega)) : _ = t)) ?_
  refine WR_tD (y := g) e68 ?_
  refine r_dsub rfl (B4) ?_
  refine r_ldc (x := .double 4591870180066957722) rfl rfl ?_
  refine r_aload rfl rfl ?_
  refine r_getA (b := ad 69) rfl ⟨rfl, rfl, rfl⟩ (fx_t30 fx) (fx_r30_56 fx) ?_
  refine r_iload rfl rfl ?_
  refine r_daload rfl (fx_t69 fx) (vp_ct (fx_n69 fx) (vp_in_nI (by omega) (by omega))) ?_
  refine WR_tD (congrArg (hD h (ad 69)) ((nI_clamp (by omega)) : _ = t)) ?_
  refine WR_tD (y := u) e69 ?_
  refine r_dmul rfl (B5) ?_
  refine r_dsub rfl (B6) ?_
  refine r_dmul rfl (B7) ?_
  refine r_dadd rfl (B8) ?_
  refine r_cs (y := 242) (ra := [.double (FP.dadd u (FP.dmul 4591870180066957722 (FP.dsub (FP.dsub (FP.dmul w (FP.dsub 4607182418800017408 (FP.ddiv p 4636033603912859648))) g) (FP.dmul 4591870180066957722 u)))), .double 0]) (rest := [.int (nI t), .ref (ad 69)]) rfl ⟨⟨rfl, rfl⟩, by decide⟩ rfl rfl (Nat.le_of_ble_eq_true rfl) ?_
  exact (C1)

set_option maxHeartbeats 2000000 in
theorem w_rt370 {d : Nat} {Q : mQ} {n : Nat} {ad sa : Nat → Nat} {z0 : Nat} {h : mH} (fx : FX n ad sa z0 h) {t : Nat} (t6 : t < 6) {k : Nat} {x y : UInt64} {s : Int32} {y4 y6 : UInt64} {o10 o11 : Option Value} 
    (K1 : WR (d) cd_235 371 [some (.ref (ad 30)), some (.int (nI k)), some (.int (nI t)), some (.int s), some (.double y4), none, some (.double y6), none, some (.double y), none, o10, o11] [] (sD h (ad 69) t x) Q) : WR (d) cd_235 370 [some (.ref (ad 30)), some (.int (nI k)), some (.int (nI t)), some (.int s), some (.double y4), none, some (.double y6), none, some (.double y), none, o10, o11] [.double x, .int (nI t), .ref (ad 69)] h Q := by
  have fx0 := fx
  refine r_dastore rfl (fx_t69 fx) (vp_ct (fx_n69 fx) (vp_in_nI (by omega) (by omega))) ?_
  refine WR_h (h2 := sD h (ad 69) t x) (congrArg (fun z => sD h (ad 69) z x) ((nI_clamp (by omega)) : _ = t)) ?_
  exact (K1)

set_option maxHeartbeats 2000000 in
theorem w_rt371 {d : Nat} {Q : mQ} {n : Nat} {ad sa : Nat → Nat} {z0 : Nat} {h : mH} (fx : FX n ad sa z0 h) {t : Nat} (t6 : t < 6) {k : Nat} {g u b en y : UInt64} {s : Int32} {y4 y6 : UInt64} {o10 o11 : Option Value} (e68 : hD h (ad 68) t = g) (e69 : hD h (ad 69) t = u) (e71 : hD h (ad 71) t = b) (e70 : hD h (ad 70) t = en) 
    (B1 : vf_n64 (FP.dmul g u))
    (B2 : ¬ dgt (FP.dmul g u) b → vf_n64 (FP.dmul g u))
    (B3 : ¬ dgt (FP.dmul g u) b → vf_n64 (FP.dadd en (FP.dmul g u)))
    (K1 : ¬ dgt (FP.dmul g u) b → WR (d) cd_235 439 [some (.ref (ad 30)), some (.int (nI k)), some (.int (nI t)), some (.int s), some (.double y4), none, some (.double y6), none, some (.double y), none, o10, o11] [] (sD h (ad 70) t (FP.dadd en (FP.dmul g u))) Q)
    (B4 : dgt (FP.dmul g u) b → vf_n64 (FP.ddiv b u))
    (B5 : dgt (FP.dmul g u) b → vf_n64 (FP.dmul (FP.ddiv b u) u))
    (B6 : dgt (FP.dmul g u) b → vf_n64 (FP.dadd en (FP.dmul (FP.ddiv b u) u)))
    (K2 : dgt (FP.dmul g u) b → WR (d) cd_235 439 [some (.ref (ad 30)), some (.int (nI k)), some (.int (nI t)), some (.int s), some (.double y4), none, some (.double y6), none, some (.double y), none, o10, o11] [] (sD (sD h (ad 68) t (FP.ddiv b u)) (ad 70) t (FP.dadd en (FP.dmul (FP.ddiv b u) u))) Q) : WR (d) cd_235 371 [some (.ref (ad 30)), some (.int (nI k)), some (.int (nI t)), some (.int s), some (.double y4), none, some (.double y6), none, some (.double y), none, o10, o11] [] h Q := by
  have fx0 := fx
  refine r_aload rfl rfl ?_
  refine r_getA (b := ad 68) rfl ⟨rfl, rfl, rfl⟩ (fx_t30 fx) (fx_r30_55 fx) ?_
  refine r_iload rfl rfl ?_
  refine r_daload rfl (fx_t68 fx) (vp_ct (fx_n68 fx) (vp_in_nI (by omega) (by omega))) ?_
  refine WR_tD (congrArg (hD h (ad 68)) ((nI_clamp (by omega)) : _ = t)) ?_
  refine WR_tD (y := g) e68 ?_
  refine r_aload rfl rfl ?_
  refine r_getA (b := ad 69) rfl ⟨rfl, rfl, rfl⟩ (fx_t30 fx) (fx_r30_56 fx) ?_
  refine r_iload rfl rfl ?_
  refine r_daload rfl (fx_t69 fx) (vp_ct (fx_n69 fx) (vp_in_nI (by omega) (by omega))) ?_
  refine WR_tD (congrArg (hD h (ad 69)) ((nI_clamp (by omega)) : _ = t)) ?_
  refine WR_tD (y := u) e69 ?_
  refine r_dmul rfl (B1) ?_
  refine r_aload rfl rfl ?_
  refine r_getA (b := ad 71) rfl ⟨rfl, rfl, rfl⟩ (fx_t30 fx) (fx_r30_58 fx) ?_
  refine r_iload rfl rfl ?_
  refine r_daload rfl (fx_t71 fx) (vp_ct (fx_n71 fx) (vp_in_nI (by omega) (by omega))) ?_
  refine WR_tD (congrArg (hD h (ad 71)) ((nI_clamp (by omega)) : _ = t)) ?_
  refine WR_tD (y := b) e71 ?_
  refine r_dlif_le (tg := 413) rfl rfl rfl (fun c1 => ?_) (fun c1 => ?_)
  · refine r_aload rfl rfl ?_
    refine r_getA (b := ad 70) rfl ⟨rfl, rfl, rfl⟩ (fx_t30 fx) (fx_r30_57 fx) ?_
    refine r_iload rfl rfl ?_
    refine r_aload rfl rfl ?_
    refine r_getA (b := ad 70) rfl ⟨rfl, rfl, rfl⟩ (fx_t30 fx) (fx_r30_57 fx) ?_
    refine r_iload rfl rfl ?_
    refine r_daload rfl (fx_t70 fx) (vp_ct (fx_n70 fx) (vp_in_nI (by omega) (by omega))) ?_
    refine WR_tD (congrArg (hD h (ad 70)) ((nI_clamp (by omega)) : _ = t)) ?_
    refine WR_tD (y := en) e70 ?_
    refine r_aload rfl rfl ?_
    refine r_getA (b := ad 68) rfl ⟨rfl, rfl, rfl⟩ (fx_t30 fx) (fx_r30_55 fx) ?_
    refine r_iload rfl rfl ?_
    refine r_daload rfl (fx_t68 fx) (vp_ct (fx_n68 fx) (vp_in_nI (by omega) (by omega))) ?_
    refine WR_tD (congrArg (hD h (ad 68)) ((nI_clamp (by omega)) : _ = t)) ?_
    refine WR_tD (y := g) e68 ?_
    refine r_aload rfl rfl ?_
    refine r_getA (b := ad 69) rfl ⟨rfl, rfl, rfl⟩ (fx_t30 fx) (fx_r30_56 fx) ?_
    refine r_iload rfl rfl ?_
    refine r_daload rfl (fx_t69 fx) (vp_ct (fx_n69 fx) (vp_in_nI (by omega) (by omega))) ?_
    refine WR_tD (congrArg (hD h (ad 69)) ((nI_clamp (by omega)) : _ = t)) ?_
    refine WR_tD (y := u) e69 ?_
    refine r_dmul rfl (B2 c1) ?_
    refine r_dadd rfl (B3 c1) ?_
    refine r_dastore rfl (fx_t70 fx) (vp_ct (fx_n70 fx) (vp_in_nI (by omega) (by omega))) ?_
    refine WR_h (h2 := sD h (ad 70) t (FP.dadd en (FP.dmul g u))) (congrArg (fun z => sD h (ad 70) z (FP.dadd en (FP.dmul g u))) ((nI_clamp (by omega)) : _ = t)) ?_
    exact (K1 c1)
  · refine r_aload rfl rfl ?_
    refine r_getA (b := ad 68) rfl ⟨rfl, rfl, rfl⟩ (fx_t30 fx) (fx_r30_55 fx) ?_
    refine r_iload rfl rfl ?_
    refine r_aload rfl rfl ?_
    refine r_getA (b := ad 71) rfl ⟨rfl, rfl, rfl⟩ (fx_t30 fx) (fx_r30_58 fx) ?_
    refine r_iload rfl rfl ?_
    refine r_daload rfl (fx_t71 fx) (vp_ct (fx_n71 fx) (vp_in_nI (by omega) (by omega))) ?_
    refine WR_tD (congrArg (hD h (ad 71)) ((nI_clamp (by omega)) : _ = t)) ?_
    refine WR_tD (y := b) e71 ?_
    refine r_aload rfl rfl ?_
    refine r_getA (b := ad 69) rfl ⟨rfl, rfl, rfl⟩ (fx_t30 fx) (fx_r30_56 fx) ?_
    refine r_iload rfl rfl ?_
    refine r_daload rfl (fx_t69 fx) (vp_ct (fx_n69 fx) (vp_in_nI (by omega) (by omega))) ?_
    refine WR_tD (congrArg (hD h (ad 69)) ((nI_clamp (by omega)) : _ = t)) ?_
    refine WR_tD (y := u) e69 ?_
    refine r_ddiv rfl (B4 c1) ?_
    refine r_dastore rfl (fx_t68 fx) (vp_ct (fx_n68 fx) (vp_in_nI (by omega) (by omega))) ?_
    refine WR_h (h2 := sD h (ad 68) t (FP.ddiv b u)) (congrArg (fun z => sD h (ad 68) z (FP.ddiv b u)) ((nI_clamp (by omega)) : _ = t)) ?_
    have fx : FX n ad sa z0 (sD h (ad 68) t (FP.ddiv b u)) := (FX.sD fx)
    refine r_aload rfl rfl ?_
    refine r_getA (b := ad 70) rfl ⟨rfl, rfl, rfl⟩ (fx_t30 fx) (fx_r30_57 fx) ?_
    refine r_iload rfl rfl ?_
    refine r_aload rfl rfl ?_
    refine r_getA (b := ad 70) rfl ⟨rfl, rfl, rfl⟩ (fx_t30 fx) (fx_r30_57 fx) ?_
    refine r_iload rfl rfl ?_
    refine r_daload rfl (fx_t70 fx) (vp_ct (fx_n70 fx) (vp_in_nI (by omega) (by omega))) ?_
    refine WR_tD (congrArg (hD (sD h (ad 68) t (FP.ddiv b u)) (ad 70)) ((nI_clamp (by omega)) : _ = t)) ?_
    refine WR_tD (y := en) (Eq.trans (D_ne (fx_ne fx (by decide))) e70) ?_
    refine r_aload rfl rfl ?_
    refine r_getA (b := ad 68) rfl ⟨rfl, rfl, rfl⟩ (fx_t30 fx) (fx_r30_55 fx) ?_
    refine r_iload rfl rfl ?_
    refine r_daload rfl (fx_t68 fx) (vp_ct (fx_n68 fx) (vp_in_nI (by omega) (by omega))) ?_
    refine WR_tD (congrArg (hD (sD h (ad 68) t (FP.ddiv b u)) (ad 68)) ((nI_clamp (by omega)) : _ = t)) ?_
    refine WR_tD (y := FP.ddiv b u) D_eq ?_
    refine r_aload rfl rfl ?_
    refine r_getA (b := ad 69) rfl ⟨rfl, rfl, rfl⟩ (fx_t30 fx) (fx_r30_56 fx) ?_
    refine r_iload rfl rfl ?_
    refine r_daload rfl (fx_t69 fx) (vp_ct (fx_n69 fx) (vp_in_nI (by omega) (by omega))) ?_
    refine WR_tD (congrArg (hD (sD h (ad 68) t (FP.ddiv b u)) (ad 69)) ((nI_clamp (by omega)) : _ = t)) ?_
    refine WR_tD (y := u) (Eq.trans (D_ne (fx_ne fx (by decide))) e69) ?_
    refine r_dmul rfl (B5 c1) ?_
    refine r_dadd rfl (B6 c1) ?_
    refine r_dastore rfl (fx_t70 fx) (vp_ct (fx_n70 fx) (vp_in_nI (by omega) (by omega))) ?_
    refine WR_h (h2 := sD (sD h (ad 68) t (FP.ddiv b u)) (ad 70) t (FP.dadd en (FP.dmul (FP.ddiv b u) u))) (congrArg (fun z => sD (sD h (ad 68) t (FP.ddiv b u)) (ad 70) z (FP.dadd en (FP.dmul (FP.ddiv b u) u))) ((nI_clamp (by omega)) : _ = t)) ?_
    exact (K2 c1)

set_option maxHeartbeats 2000000 in
theorem w_rt439_0 {d : Nat} {Q : mQ} {n : Nat} {ad sa : Nat → Nat} {z0 : Nat} {h : mH} (fx : FX n ad sa z0 h) {t : Nat} (t6 : t < 6) {k : Nat} {y : UInt64} {y4 y6 : UInt64} {o10 o11 : Option Value} 
    (L1 : Q none h) : WR (d) cd_235 439 [some (.ref (ad 30)), some (.int (nI k)), some (.int (nI t)), some (.int 0), some (.double y4), none, some (.double y6), none, some (.double y), none, o10, o11] [] h Q := by
  have fx0 := fx
  refine r_iload rfl rfl ?_
  refine r_ic (x := 2) rfl rfl ?_
  refine r_icmp_ne (tg := 493) rfl rfl (fun _ => ?_) (fun q => absurd q (by decide))
  refine r_vret rfl ?_
  exact (L1)

set_option maxHeartbeats 2000000 in
theorem w_rt439_1 {d : Nat} {Q : mQ} {n : Nat} {ad sa : Nat → Nat} {z0 : Nat} {h : mH} (fx : FX n ad sa z0 h) {t : Nat} (t6 : t < 6) {k : Nat} {y : UInt64} {y4 y6 : UInt64} {o10 o11 : Option Value} 
    (L1 : Q none h) : WR (d) cd_235 439 [some (.ref (ad 30)), some (.int (nI k)), some (.int (nI t)), some (.int 1), some (.double y4), none, some (.double y6), none, some (.double y), none, o10, o11] [] h Q := by
  have fx0 := fx
  refine r_iload rfl rfl ?_
  refine r_ic (x := 2) rfl rfl ?_
  refine r_icmp_ne (tg := 493) rfl rfl (fun _ => ?_) (fun q => absurd q (by decide))
  refine r_vret rfl ?_
  exact (L1)

set_option maxHeartbeats 2000000 in
theorem w_rt439_3 {d : Nat} {Q : mQ} {n : Nat} {ad sa : Nat → Nat} {z0 : Nat} {h : mH} (fx : FX n ad sa z0 h) {t : Nat} (t6 : t < 6) {k : Nat} {y : UInt64} {y4 y6 : UInt64} {o10 o11 : Option Value} 
    (L1 : Q none h) : WR (d) cd_235 439 [some (.ref (ad 30)), some (.int (nI k)), some (.int (nI t)), some (.int 3), some (.double y4), none, some (.double y6), none, some (.double y), none, o10, o11] [] h Q := by
  have fx0 := fx
  refine r_iload rfl rfl ?_
  refine r_ic (x := 2) rfl rfl ?_
  refine r_icmp_ne (tg := 493) rfl rfl (fun _ => ?_) (fun q => absurd q (by decide))
  refine r_vret rfl ?_
  exact (L1)

set_option maxHeartbeats 2000000 in
theorem w_rt439_2 {d : Nat} {Q : mQ} {n : Nat} {ad sa : Nat → Nat} {z0 : Nat} {h : mH} (fx : FX n ad sa z0 h) {t : Nat} (t6 : t < 6) {k : Nat} {w y : UInt64} {y4 y6 : UInt64} {o10 o11 : Option Value} (e73 : hD h (ad 73) t = w) 
    (C1 : (FP.d2i w) ≤ 10000 → EV (d) 243 [.ref (ad 30), .int (nI t), .int 4, .int (FP.d2i w)] h (fun v_ h_ => WR (d) cd_235 475 [some (.ref (ad 30)), some (.int (nI k)), some (.int (nI t)), some (.int 2), some (.double y4), none, some (.double y6), none, some (.double y), none, some (.int (FP.d2i w)), o11] (v_.toList ++ []) h_ Q))
    (C2 : ¬ (FP.d2i w) ≤ 10000 → EV (d) 243 [.ref (ad 30), .int (nI t), .int 4, .int 10000] h (fun v_ h_ => WR (d) cd_235 475 [some (.ref (ad 30)), some (.int (nI k)), some (.int (nI t)), some (.int 2), some (.double y4), none, some (.double y6), none, some (.double y), none, some (.int (FP.d2i w)), o11] (v_.toList ++ []) h_ Q)) : WR (d) cd_235 439 [some (.ref (ad 30)), some (.int (nI k)), some (.int (nI t)), some (.int 2), some (.double y4), none, some (.double y6), none, some (.double y), none, o10, o11] [] h Q := by
  have fx0 := fx
  refine r_iload rfl rfl ?_
  refine r_ic (x := 2) rfl rfl ?_
  refine r_icmp_ne (tg := 493) rfl rfl (fun q => absurd q (by decide)) (fun _ => ?_)
  refine r_aload rfl rfl ?_
  refine r_getA (b := ad 73) rfl ⟨rfl, rfl, rfl⟩ (fx_t30 fx) (fx_r30_60 fx) ?_
  refine r_iload rfl rfl ?_
  refine r_daload rfl (fx_t73 fx) (vp_ct (fx_n73 fx) (vp_in_nI (by omega) (by omega))) ?_
  refine WR_tD (congrArg (hD h (ad 73)) ((nI_clamp (by omega)) : _ = t)) ?_
  refine WR_tD (y := w) e73 ?_
  refine r_d2i rfl ?_
  refine r_istore (lv' := [some (.ref (ad 30)), some (.int (nI k)), some (.int (nI t)), some (.int 2), some (.double y4), none, some (.double y6), none, some (.double y), none, some (.int (FP.d2i w)), o11]) rfl (Nat.le_of_ble_eq_true rfl) rfl ?_
  refine r_aload rfl rfl ?_
  refine r_iload rfl rfl ?_
  refine r_ic (x := 4) rfl rfl ?_
  refine r_iload rfl rfl ?_
  refine r_ic (x := 10000) rfl rfl ?_
  refine r_icmp_le (tg := 470) rfl rfl (fun c1 => ?_) (fun c1 => ?_)
  · refine r_iload rfl rfl ?_
    refine r_cv (y := 243) (ra := [.int (FP.d2i w), .int 4, .int (nI t)]) (rest := []) rfl ⟨⟨rfl, rfl⟩, rfl, by decide⟩ (fx_t30 fx) rfl rfl (Nat.le_of_ble_eq_true rfl) ?_
    exact (C1 c1)
  · refine r_ic (x := 10000) rfl rfl ?_
    refine r_goto (tg := 472) rfl rfl ?_
    refine r_cv (y := 243) (ra := [.int 10000, .int 4, .int (nI t)]) (rest := []) rfl ⟨⟨rfl, rfl⟩, rfl, by decide⟩ (fx_t30 fx) rfl rfl (Nat.le_of_ble_eq_true rfl) ?_
    exact (C2 c1)

set_option maxHeartbeats 2000000 in
theorem w_rt475_0 {d : Nat} {Q : mQ} {n : Nat} {ad sa : Nat → Nat} {z0 : Nat} {h : mH} (fx : FX n ad sa z0 h) {t : Nat} (t6 : t < 6) {k : Nat} {y : UInt64} {o10 : Int32} {y4 y6 : UInt64} {o11 : Option Value} 
    (L1 : Q none (sI h (ad 66) t 4)) : WR (d) cd_235 475 [some (.ref (ad 30)), some (.int (nI k)), some (.int (nI t)), some (.int 2), some (.double y4), none, some (.double y6), none, some (.double y), none, some (.int o10), o11] [.int 0] h Q := by
  have fx0 := fx
  refine r_istore (lv' := [some (.ref (ad 30)), some (.int (nI k)), some (.int (nI t)), some (.int 2), some (.double y4), none, some (.double y6), none, some (.double y), none, some (.int o10), some (.int 0)]) rfl (Nat.le_of_ble_eq_true rfl) rfl ?_
  refine r_aload rfl rfl ?_
  refine r_getA (b := ad 66) rfl ⟨rfl, rfl, rfl⟩ (fx_t30 fx) (fx_r30_53 fx) ?_
  refine r_iload rfl rfl ?_
  refine r_iload rfl rfl ?_
  refine r_if_eq (tg := 491) rfl rfl (fun _ => ?_) (fun q => absurd q (by decide))
  refine r_ic (x := 4) rfl rfl ?_
  refine r_iastore rfl (fx_t66 fx) (vp_ct (fx_n66 fx) (vp_in_nI (by omega) (by omega))) ?_
  refine WR_h (h2 := sI h (ad 66) t 4) (congrArg (fun z => sI h (ad 66) z 4) ((nI_clamp (by omega)) : _ = t)) ?_
  have fx : FX n ad sa z0 (sI h (ad 66) t 4) := (FX.sI fx)
  refine r_vret rfl ?_
  exact (L1)

set_option maxHeartbeats 2000000 in
theorem w_rt475_1 {d : Nat} {Q : mQ} {n : Nat} {ad sa : Nat → Nat} {z0 : Nat} {h : mH} (fx : FX n ad sa z0 h) {t : Nat} (t6 : t < 6) {k : Nat} {y : UInt64} {o10 : Int32} {y4 y6 : UInt64} {o11 : Option Value} 
    (L1 : Q none (sI h (ad 66) t 2)) : WR (d) cd_235 475 [some (.ref (ad 30)), some (.int (nI k)), some (.int (nI t)), some (.int 2), some (.double y4), none, some (.double y6), none, some (.double y), none, some (.int o10), o11] [.int 1] h Q := by
  have fx0 := fx
  refine r_istore (lv' := [some (.ref (ad 30)), some (.int (nI k)), some (.int (nI t)), some (.int 2), some (.double y4), none, some (.double y6), none, some (.double y), none, some (.int o10), some (.int 1)]) rfl (Nat.le_of_ble_eq_true rfl) rfl ?_
  refine r_aload rfl rfl ?_
  refine r_getA (b := ad 66) rfl ⟨rfl, rfl, rfl⟩ (fx_t30 fx) (fx_r30_53 fx) ?_
  refine r_iload rfl rfl ?_
  refine r_iload rfl rfl ?_
  refine r_if_eq (tg := 491) rfl rfl (fun q => absurd q (by decide)) (fun _ => ?_)
  refine r_iload rfl rfl ?_
  refine r_goto (tg := 492) rfl rfl ?_
  refine r_iastore rfl (fx_t66 fx) (vp_ct (fx_n66 fx) (vp_in_nI (by omega) (by omega))) ?_
  refine WR_h (h2 := sI h (ad 66) t 2) (congrArg (fun z => sI h (ad 66) z 2) ((nI_clamp (by omega)) : _ = t)) ?_
  have fx : FX n ad sa z0 (sI h (ad 66) t 2) := (FX.sI fx)
  refine r_vret rfl ?_
  exact (L1)

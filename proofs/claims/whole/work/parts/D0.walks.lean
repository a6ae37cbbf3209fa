/-! ===== walks of run: states, goals, limits, findings; printed ===== -/
set_option maxHeartbeats 2000000 in
theorem w_cs0 {d : Nat} {Q : mQ} {n : Nat} {ad sa : Nat → Nat} {z0 : Nat} {h : mH} (fx : FX n ad sa z0 h) {t : Nat} (ha : t < n) (n6 : n ≤ 6) (tu2 : hT h (ad (100 + 5 * t)) = 8) {vo : Int64} {w u b : UInt64} (e10 : hI h (ad (100 + 5 * t)) 10 = 0) (e11 : hL h (ad (100 + 5 * t)) 11 = vo) (e12 : hD h (ad (100 + 5 * t)) 12 = w) (e15 : hD h (ad (100 + 5 * t)) 15 = u) (e17 : hD h (ad (100 + 5 * t)) 17 = b) 
    (L1 : ¬ vo = 9221120237041090560 → ¬ dge w 4616189618054758400 → Q none h)
    (L2 : ¬ vo = 9221120237041090560 → dge w 4616189618054758400 → ¬ dgt b 0 → Q none h)
    (L3 : ¬ vo = 9221120237041090560 → dge w 4616189618054758400 → dgt b 0 → Q none (sI h (ad (100 + 5 * t)) 10 1))
    (L4 : vo = 9221120237041090560 → Q none h) : EV (d + 2) 135 [.ref (ad (100 + 5 * t))] h Q := by
  have fx0 := fx
  refine in_135 (Nat.le_of_ble_eq_true rfl) ?_
  show WR _ cd_135 0 [some (.ref (ad (100 + 5 * t))), none] [] h _
  refine r_aload rfl rfl ?_
  refine r_getI rfl ⟨rfl, rfl, rfl⟩ tu2 ?_
  refine WR_tI (y := 0) e10 ?_
  refine r_ic (x := 1) rfl rfl ?_
  refine r_icmp_eq (tg := 16) rfl rfl (fun q => absurd q (by decide)) (fun _ => ?_)
  refine r_aload rfl rfl ?_
  refine r_getI rfl ⟨rfl, rfl, rfl⟩ tu2 ?_
  refine WR_tI (y := 0) e10 ?_
  refine r_ic (x := 2) rfl rfl ?_
  refine r_icmp_ne (tg := 20) rfl rfl (fun _ => ?_) (fun q => absurd q (by decide))
  refine r_ic (x := 0) rfl rfl ?_
  refine r_istore (lv' := [some (.ref (ad (100 + 5 * t))), some (.int 0)]) rfl (Nat.le_of_ble_eq_true rfl) rfl ?_
  refine r_iload rfl rfl ?_
  refine r_if_eq (tg := 52) rfl rfl (fun _ => ?_) (fun q => absurd q (by decide))
  refine r_aload rfl rfl ?_
  refine r_getI rfl ⟨rfl, rfl, rfl⟩ tu2 ?_
  refine WR_tI (y := 0) e10 ?_
  refine r_if_ne (tg := 94) rfl rfl (fun q => absurd q (by decide)) (fun _ => ?_)
  refine r_aload rfl rfl ?_
  refine r_cv (y := 132) (ra := []) (rest := []) rfl ⟨⟨rfl, rfl⟩, rfl, by decide⟩ tu2 rfl rfl (Nat.le_of_ble_eq_true rfl) ?_
  refine in_132 (Nat.le_of_ble_eq_true rfl) ?_
  show WR _ cd_132 0 [some (.ref (ad (100 + 5 * t)))] [] h _
  refine r_aload rfl rfl ?_
  refine r_getL rfl ⟨rfl, rfl, rfl⟩ tu2 ?_
  refine WR_tL (y := vo) e11 ?_
  refine r_ldc (x := .long 9221120237041090560) rfl rfl ?_
  refine r_lif_ne (tg := 15) rfl rfl rfl (fun c1 => ?_) (fun c1 => ?_)
  · refine r_ic (x := 0) rfl rfl ?_
    refine r_zret rfl (.inl rfl) ?_
    show WR _ cd_135 63 [some (.ref (ad (100 + 5 * t))), some (.int 0)] [.int 0] h _
    refine r_if_ne (tg := 94) rfl rfl (fun q => absurd q (by decide)) (fun _ => ?_)
    refine r_aload rfl rfl ?_
    refine r_getD rfl ⟨rfl, rfl, rfl⟩ tu2 ?_
    refine WR_tD (y := w) e12 ?_
    refine r_ldc (x := .double 4616189618054758400) rfl rfl ?_
    refine r_dlif_lt (tg := 94) rfl rfl rfl (fun c2 => ?_) (fun c2 => ?_)
    · refine r_aload rfl rfl ?_
      refine r_getI rfl ⟨rfl, rfl, rfl⟩ tu2 ?_
      refine WR_tI (y := 0) e10 ?_
      refine r_ic (x := 1) rfl rfl ?_
      refine r_icmp_ne (tg := 121) rfl rfl (fun _ => ?_) (fun q => absurd q (by decide))
      refine r_aload rfl rfl ?_
      refine r_getI rfl ⟨rfl, rfl, rfl⟩ tu2 ?_
      refine WR_tI (y := 0) e10 ?_
      refine r_ic (x := 3) rfl rfl ?_
      refine r_icmp_ne (tg := 145) rfl rfl (fun _ => ?_) (fun q => absurd q (by decide))
      refine r_vret rfl ?_
      exact (L1 c1 c2)
    · refine r_aload rfl rfl ?_
      refine r_getD rfl ⟨rfl, rfl, rfl⟩ tu2 ?_
      refine WR_tD (y := b) e17 ?_
      refine r_dc (x := 0) rfl rfl ?_
      refine r_dlif_le (tg := 94) rfl rfl rfl (fun c3 => ?_) (fun c3 => ?_)
      · refine r_aload rfl rfl ?_
        refine r_getI rfl ⟨rfl, rfl, rfl⟩ tu2 ?_
        refine WR_tI (y := 0) e10 ?_
        refine r_ic (x := 1) rfl rfl ?_
        refine r_icmp_ne (tg := 121) rfl rfl (fun _ => ?_) (fun q => absurd q (by decide))
        refine r_aload rfl rfl ?_
        refine r_getI rfl ⟨rfl, rfl, rfl⟩ tu2 ?_
        refine WR_tI (y := 0) e10 ?_
        refine r_ic (x := 3) rfl rfl ?_
        refine r_icmp_ne (tg := 145) rfl rfl (fun _ => ?_) (fun q => absurd q (by decide))
        refine r_vret rfl ?_
        exact (L2 c1 c2 c3)
      · refine r_aload rfl rfl ?_
        refine r_ic (x := 1) rfl rfl ?_
        refine r_putI rfl ⟨rfl, rfl, rfl⟩ tu2 ?_
        have fx : FX n ad sa z0 (sI h (ad (100 + 5 * t)) 10 1) := (FX.sI fx)
        refine r_goto (tg := 145) rfl rfl ?_
        refine r_vret rfl ?_
        exact (L3 c1 c2 c3)
  · refine r_ic (x := 1) rfl rfl ?_
    refine r_goto (tg := 16) rfl rfl ?_
    refine r_zret rfl (.inr rfl) ?_
    show WR _ cd_135 63 [some (.ref (ad (100 + 5 * t))), some (.int 0)] [.int 1] h _
    refine r_if_ne (tg := 94) rfl rfl (fun _ => ?_) (fun q => absurd q (by decide))
    refine r_aload rfl rfl ?_
    refine r_getI rfl ⟨rfl, rfl, rfl⟩ tu2 ?_
    refine WR_tI (y := 0) e10 ?_
    refine r_ic (x := 1) rfl rfl ?_
    refine r_icmp_ne (tg := 121) rfl rfl (fun _ => ?_) (fun q => absurd q (by decide))
    refine r_aload rfl rfl ?_
    refine r_getI rfl ⟨rfl, rfl, rfl⟩ tu2 ?_
    refine WR_tI (y := 0) e10 ?_
    refine r_ic (x := 3) rfl rfl ?_
    refine r_icmp_ne (tg := 145) rfl rfl (fun _ => ?_) (fun q => absurd q (by decide))
    refine r_vret rfl ?_
    exact (L4 c1)

set_option maxHeartbeats 2000000 in
theorem w_nst0 {d : Nat} {Q : mQ} {n : Nat} {ad sa : Nat → Nat} {z0 : Nat} {h : mH} (fx : FX n ad sa z0 h) {t : Nat} (t6 : t < 6) {vo w u b : UInt64} (e66 : hI h (ad 66) t = 0) (e72 : hD h (ad 72) t = vo) (e73 : hD h (ad 73) t = w) (e69 : hD h (ad 69) t = u) (e71 : hD h (ad 71) t = b) 
    (L1 : deq vo vo → ¬ dge w 4616189618054758400 → Q none h)
    (L2 : deq vo vo → dge w 4616189618054758400 → ¬ dgt b 0 → Q none h)
    (L3 : deq vo vo → dge w 4616189618054758400 → dgt b 0 → Q none (sI h (ad 66) t 1))
    (L4 : ¬ deq vo vo → Q none h) : EV (d + 1) 240 [.ref (ad 30), .int (nI t)] h Q := by
  have fx0 := fx
  refine in_240 (Nat.le_of_ble_eq_true rfl) ?_
  show WR _ cd_240 0 [some (.ref (ad 30)), some (.int (nI t)), none, none] [] h _
  refine r_aload rfl rfl ?_
  refine r_getA (b := ad 72) rfl ⟨rfl, rfl, rfl⟩ (fx_t30 fx) (fx_r30_59 fx) ?_
  refine r_iload rfl rfl ?_
  refine r_daload rfl (fx_t72 fx) (vp_ct (fx_n72 fx) (vp_in_nI (by omega) (by omega))) ?_
  refine WR_tD (congrArg (hD h (ad 72)) ((nI_clamp (by omega)) : _ = t)) ?_
  refine WR_tD (y := vo) e72 ?_
  refine r_aload rfl rfl ?_
  refine r_getA (b := ad 72) rfl ⟨rfl, rfl, rfl⟩ (fx_t30 fx) (fx_r30_59 fx) ?_
  refine r_iload rfl rfl ?_
  refine r_daload rfl (fx_t72 fx) (vp_ct (fx_n72 fx) (vp_in_nI (by omega) (by omega))) ?_
  refine WR_tD (congrArg (hD h (ad 72)) ((nI_clamp (by omega)) : _ = t)) ?_
  refine WR_tD (y := vo) e72 ?_
  refine r_dlif_eq (tg := 20) rfl rfl rfl (fun c1 => ?_) (fun c1 => ?_)
  · refine r_ic (x := 0) rfl rfl ?_
    refine r_istore (lv' := [some (.ref (ad 30)), some (.int (nI t)), some (.int 0), none]) rfl (Nat.le_of_ble_eq_true rfl) rfl ?_
    refine r_aload rfl rfl ?_
    refine r_getA (b := ad 66) rfl ⟨rfl, rfl, rfl⟩ (fx_t30 fx) (fx_r30_53 fx) ?_
    refine r_iload rfl rfl ?_
    refine r_iaload rfl (.inl (fx_t66 fx)) (vp_ct (fx_n66 fx) (vp_in_nI (by omega) (by omega))) ?_
    refine WR_tI (congrArg (hI h (ad 66)) ((nI_clamp (by omega)) : _ = t)) ?_
    refine WR_tI (y := 0) e66 ?_
    refine r_istore (lv' := [some (.ref (ad 30)), some (.int (nI t)), some (.int 0), some (.int 0)]) rfl (Nat.le_of_ble_eq_true rfl) rfl ?_
    refine r_iload rfl rfl ?_
    refine r_ic (x := 1) rfl rfl ?_
    refine r_icmp_eq (tg := 39) rfl rfl (fun q => absurd q (by decide)) (fun _ => ?_)
    refine r_iload rfl rfl ?_
    refine r_ic (x := 2) rfl rfl ?_
    refine r_icmp_ne (tg := 66) rfl rfl (fun _ => ?_) (fun q => absurd q (by decide))
    refine r_iload rfl rfl ?_
    refine r_if_ne (tg := 108) rfl rfl (fun q => absurd q (by decide)) (fun _ => ?_)
    refine r_iload rfl rfl ?_
    refine r_if_ne (tg := 108) rfl rfl (fun q => absurd q (by decide)) (fun _ => ?_)
    refine r_aload rfl rfl ?_
    refine r_getA (b := ad 73) rfl ⟨rfl, rfl, rfl⟩ (fx_t30 fx) (fx_r30_60 fx) ?_
    refine r_iload rfl rfl ?_
    refine r_daload rfl (fx_t73 fx) (vp_ct (fx_n73 fx) (vp_in_nI (by omega) (by omega))) ?_
    refine WR_tD (congrArg (hD h (ad 73)) ((nI_clamp (by omega)) : _ = t)) ?_
    refine WR_tD (y := w) e73 ?_
    refine r_ldc (x := .double 4616189618054758400) rfl rfl ?_
    refine r_dlif_lt (tg := 108) rfl rfl rfl (fun c2 => ?_) (fun c2 => ?_)
    · refine r_iload rfl rfl ?_
      refine r_ic (x := 1) rfl rfl ?_
      refine r_icmp_ne (tg := 136) rfl rfl (fun _ => ?_) (fun q => absurd q (by decide))
      refine r_iload rfl rfl ?_
      refine r_ic (x := 3) rfl rfl ?_
      refine r_icmp_ne (tg := 161) rfl rfl (fun _ => ?_) (fun q => absurd q (by decide))
      refine r_vret rfl ?_
      exact (L1 c1 c2)
    · refine r_aload rfl rfl ?_
      refine r_getA (b := ad 71) rfl ⟨rfl, rfl, rfl⟩ (fx_t30 fx) (fx_r30_58 fx) ?_
      refine r_iload rfl rfl ?_
      refine r_daload rfl (fx_t71 fx) (vp_ct (fx_n71 fx) (vp_in_nI (by omega) (by omega))) ?_
      refine WR_tD (congrArg (hD h (ad 71)) ((nI_clamp (by omega)) : _ = t)) ?_
      refine WR_tD (y := b) e71 ?_
      refine r_dc (x := 0) rfl rfl ?_
      refine r_dlif_le (tg := 108) rfl rfl rfl (fun c3 => ?_) (fun c3 => ?_)
      · refine r_iload rfl rfl ?_
        refine r_ic (x := 1) rfl rfl ?_
        refine r_icmp_ne (tg := 136) rfl rfl (fun _ => ?_) (fun q => absurd q (by decide))
        refine r_iload rfl rfl ?_
        refine r_ic (x := 3) rfl rfl ?_
        refine r_icmp_ne (tg := 161) rfl rfl (fun _ => ?_) (fun q => absurd q (by decide))
        refine r_vret rfl ?_
        exact (L2 c1 c2 c3)
      · refine r_aload rfl rfl ?_
        refine r_getA (b := ad 66) rfl ⟨rfl, rfl, rfl⟩ (fx_t30 fx) (fx_r30_53 fx) ?_
        refine r_iload rfl rfl ?_
        refine r_ic (x := 1) rfl rfl ?_
        refine r_iastore rfl (fx_t66 fx) (vp_ct (fx_n66 fx) (vp_in_nI (by omega) (by omega))) ?_
        refine WR_h (h2 := sI h (ad 66) t 1) (congrArg (fun z => sI h (ad 66) z 1) ((nI_clamp (by omega)) : _ = t)) ?_
        have fx : FX n ad sa z0 (sI h (ad 66) t 1) := (FX.sI fx)
        refine r_goto (tg := 161) rfl rfl ?_
        refine r_vret rfl ?_
        exact (L3 c1 c2 c3)
  · refine r_ic (x := 1) rfl rfl ?_
    refine r_goto (tg := 21) rfl rfl ?_
    refine r_istore (lv' := [some (.ref (ad 30)), some (.int (nI t)), some (.int 1), none]) rfl (Nat.le_of_ble_eq_true rfl) rfl ?_
    refine r_aload rfl rfl ?_
    refine r_getA (b := ad 66) rfl ⟨rfl, rfl, rfl⟩ (fx_t30 fx) (fx_r30_53 fx) ?_
    refine r_iload rfl rfl ?_
    refine r_iaload rfl (.inl (fx_t66 fx)) (vp_ct (fx_n66 fx) (vp_in_nI (by omega) (by omega))) ?_
    refine WR_tI (congrArg (hI h (ad 66)) ((nI_clamp (by omega)) : _ = t)) ?_
    refine WR_tI (y := 0) e66 ?_
    refine r_istore (lv' := [some (.ref (ad 30)), some (.int (nI t)), some (.int 1), some (.int 0)]) rfl (Nat.le_of_ble_eq_true rfl) rfl ?_
    refine r_iload rfl rfl ?_
    refine r_ic (x := 1) rfl rfl ?_
    refine r_icmp_eq (tg := 39) rfl rfl (fun q => absurd q (by decide)) (fun _ => ?_)
    refine r_iload rfl rfl ?_
    refine r_ic (x := 2) rfl rfl ?_
    refine r_icmp_ne (tg := 66) rfl rfl (fun _ => ?_) (fun q => absurd q (by decide))
    refine r_iload rfl rfl ?_
    refine r_if_ne (tg := 108) rfl rfl (fun q => absurd q (by decide)) (fun _ => ?_)
    refine r_iload rfl rfl ?_
    refine r_if_ne (tg := 108) rfl rfl (fun _ => ?_) (fun q => absurd q (by decide))
    refine r_iload rfl rfl ?_
    refine r_ic (x := 1) rfl rfl ?_
    refine r_icmp_ne (tg := 136) rfl rfl (fun _ => ?_) (fun q => absurd q (by decide))
    refine r_iload rfl rfl ?_
    refine r_ic (x := 3) rfl rfl ?_
    refine r_icmp_ne (tg := 161) rfl rfl (fun _ => ?_) (fun q => absurd q (by decide))
    refine r_vret rfl ?_
    exact (L4 c1)

set_option maxHeartbeats 2000000 in
theorem w_cs1 {d : Nat} {Q : mQ} {n : Nat} {ad sa : Nat → Nat} {z0 : Nat} {h : mH} (fx : FX n ad sa z0 h) {t : Nat} (ha : t < n) (n6 : n ≤ 6) (tu2 : hT h (ad (100 + 5 * t)) = 8) {vo : Int64} {w u b : UInt64} (e10 : hI h (ad (100 + 5 * t)) 10 = 1) (e11 : hL h (ad (100 + 5 * t)) 11 = vo) (e12 : hD h (ad (100 + 5 * t)) 12 = w) (e15 : hD h (ad (100 + 5 * t)) 15 = u) (e17 : hD h (ad (100 + 5 * t)) 17 = b) 
    (L1 : ¬ vo = 9221120237041090560 → ¬ dgt u 4625196817309499392 → ¬ dge u 4618441417868443648 → Q none h)
    (L2 : ¬ vo = 9221120237041090560 → ¬ dgt u 4625196817309499392 → dge u 4618441417868443648 → Q none (sI h (ad (100 + 5 * t)) 10 2))
    (L3 : ¬ vo = 9221120237041090560 → dgt u 4625196817309499392 → Q none (sI h (ad (100 + 5 * t)) 10 3))
    (L4 : vo = 9221120237041090560 → Q none (sI h (ad (100 + 5 * t)) 10 3)) : EV (d + 2) 135 [.ref (ad (100 + 5 * t))] h Q := by
  have fx0 := fx
  refine in_135 (Nat.le_of_ble_eq_true rfl) ?_
  show WR _ cd_135 0 [some (.ref (ad (100 + 5 * t))), none] [] h _
  refine r_aload rfl rfl ?_
  refine r_getI rfl ⟨rfl, rfl, rfl⟩ tu2 ?_
  refine WR_tI (y := 1) e10 ?_
  refine r_ic (x := 1) rfl rfl ?_
  refine r_icmp_eq (tg := 16) rfl rfl (fun _ => ?_) (fun q => absurd q (by decide))
  refine r_ic (x := 1) rfl rfl ?_
  refine r_goto (tg := 21) rfl rfl ?_
  refine r_istore (lv' := [some (.ref (ad (100 + 5 * t))), some (.int 1)]) rfl (Nat.le_of_ble_eq_true rfl) rfl ?_
  refine r_iload rfl rfl ?_
  refine r_if_eq (tg := 52) rfl rfl (fun q => absurd q (by decide)) (fun _ => ?_)
  refine r_aload rfl rfl ?_
  refine r_cv (y := 132) (ra := []) (rest := []) rfl ⟨⟨rfl, rfl⟩, rfl, by decide⟩ tu2 rfl rfl (Nat.le_of_ble_eq_true rfl) ?_
  refine in_132 (Nat.le_of_ble_eq_true rfl) ?_
  show WR _ cd_132 0 [some (.ref (ad (100 + 5 * t)))] [] h _
  refine r_aload rfl rfl ?_
  refine r_getL rfl ⟨rfl, rfl, rfl⟩ tu2 ?_
  refine WR_tL (y := vo) e11 ?_
  refine r_ldc (x := .long 9221120237041090560) rfl rfl ?_
  refine r_lif_ne (tg := 15) rfl rfl rfl (fun c1 => ?_) (fun c1 => ?_)
  · refine r_ic (x := 0) rfl rfl ?_
    refine r_zret rfl (.inl rfl) ?_
    show WR _ cd_135 30 [some (.ref (ad (100 + 5 * t))), some (.int 1)] [.int 0] h _
    refine r_if_ne (tg := 44) rfl rfl (fun q => absurd q (by decide)) (fun _ => ?_)
    refine r_aload rfl rfl ?_
    refine r_getD rfl ⟨rfl, rfl, rfl⟩ tu2 ?_
    refine WR_tD (y := u) e15 ?_
    refine r_ldc (x := .double 4625196817309499392) rfl rfl ?_
    refine r_dlif_le (tg := 52) rfl rfl rfl (fun c2 => ?_) (fun c2 => ?_)
    · refine r_aload rfl rfl ?_
      refine r_getI rfl ⟨rfl, rfl, rfl⟩ tu2 ?_
      refine WR_tI (y := 1) e10 ?_
      refine r_if_ne (tg := 94) rfl rfl (fun _ => ?_) (fun q => absurd q (by decide))
      refine r_aload rfl rfl ?_
      refine r_getI rfl ⟨rfl, rfl, rfl⟩ tu2 ?_
      refine WR_tI (y := 1) e10 ?_
      refine r_ic (x := 1) rfl rfl ?_
      refine r_icmp_ne (tg := 121) rfl rfl (fun q => absurd q (by decide)) (fun _ => ?_)
      refine r_aload rfl rfl ?_
      refine r_getD rfl ⟨rfl, rfl, rfl⟩ tu2 ?_
      refine WR_tD (y := u) e15 ?_
      refine r_ldc (x := .double 4618441417868443648) rfl rfl ?_
      refine r_dlif_lt (tg := 121) rfl rfl rfl (fun c3 => ?_) (fun c3 => ?_)
      · refine r_aload rfl rfl ?_
        refine r_getI rfl ⟨rfl, rfl, rfl⟩ tu2 ?_
        refine WR_tI (y := 1) e10 ?_
        refine r_ic (x := 3) rfl rfl ?_
        refine r_icmp_ne (tg := 145) rfl rfl (fun _ => ?_) (fun q => absurd q (by decide))
        refine r_vret rfl ?_
        exact (L1 c1 c2 c3)
      · refine r_aload rfl rfl ?_
        refine r_ic (x := 2) rfl rfl ?_
        refine r_putI rfl ⟨rfl, rfl, rfl⟩ tu2 ?_
        have fx : FX n ad sa z0 (sI h (ad (100 + 5 * t)) 10 2) := (FX.sI fx)
        refine r_goto (tg := 145) rfl rfl ?_
        refine r_vret rfl ?_
        exact (L2 c1 c2 c3)
    · refine r_aload rfl rfl ?_
      refine r_ic (x := 3) rfl rfl ?_
      refine r_putI rfl ⟨rfl, rfl, rfl⟩ tu2 ?_
      have fx : FX n ad sa z0 (sI h (ad (100 + 5 * t)) 10 3) := (FX.sI fx)
      refine r_goto (tg := 145) rfl rfl ?_
      refine r_vret rfl ?_
      exact (L3 c1 c2)
  · refine r_ic (x := 1) rfl rfl ?_
    refine r_goto (tg := 16) rfl rfl ?_
    refine r_zret rfl (.inr rfl) ?_
    show WR _ cd_135 30 [some (.ref (ad (100 + 5 * t))), some (.int 1)] [.int 1] h _
    refine r_if_ne (tg := 44) rfl rfl (fun _ => ?_) (fun q => absurd q (by decide))
    refine r_aload rfl rfl ?_
    refine r_ic (x := 3) rfl rfl ?_
    refine r_putI rfl ⟨rfl, rfl, rfl⟩ tu2 ?_
    have fx : FX n ad sa z0 (sI h (ad (100 + 5 * t)) 10 3) := (FX.sI fx)
    refine r_goto (tg := 145) rfl rfl ?_
    refine r_vret rfl ?_
    exact (L4 c1)

set_option maxHeartbeats 2000000 in
theorem w_nst1 {d : Nat} {Q : mQ} {n : Nat} {ad sa : Nat → Nat} {z0 : Nat} {h : mH} (fx : FX n ad sa z0 h) {t : Nat} (t6 : t < 6) {vo w u b : UInt64} (e66 : hI h (ad 66) t = 1) (e72 : hD h (ad 72) t = vo) (e73 : hD h (ad 73) t = w) (e69 : hD h (ad 69) t = u) (e71 : hD h (ad 71) t = b) 
    (L1 : deq vo vo → ¬ dgt u 4625196817309499392 → ¬ dge u 4618441417868443648 → Q none h)
    (L2 : deq vo vo → ¬ dgt u 4625196817309499392 → dge u 4618441417868443648 → Q none (sI h (ad 66) t 2))
    (L3 : deq vo vo → dgt u 4625196817309499392 → Q none (sI h (ad 66) t 3))
    (L4 : ¬ deq vo vo → Q none (sI h (ad 66) t 3)) : EV (d + 1) 240 [.ref (ad 30), .int (nI t)] h Q := by
  have fx0 := fx
  refine in_240 (Nat.le_of_ble_eq_true rfl) ?_
  show WR _ cd_240 0 [some (.ref (ad 30)), some (.int (nI t)), none, none] [] h _
  refine r_aload rfl rfl ?_
  refine r_getA (b := ad 72) rfl ⟨rfl, rfl, rfl⟩ (fx_t30 fx) (fx_r30_59 fx) ?_
  refine r_iload rfl rfl ?_
  refine r_daload rfl (fx_t72 fx) (vp_ct (fx_n72 fx) (vp_in_nI (by omega) (by omega))) ?_
  refine WR_tD (congrArg (hD h (ad 72)) ((nI_clamp (by omega)) : _ = t)) ?_
  refine WR_tD (y := vo) e72 ?_
  refine r_aload rfl rfl ?_
  refine r_getA (b := ad 72) rfl ⟨rfl, rfl, rfl⟩ (fx_t30 fx) (fx_r30_59 fx) ?_
  refine r_iload rfl rfl ?_
  refine r_daload rfl (fx_t72 fx) (vp_ct (fx_n72 fx) (vp_in_nI (by omega) (by omega))) ?_
  refine WR_tD (congrArg (hD h (ad 72)) ((nI_clamp (by omega)) : _ = t)) ?_
  refine WR_tD (y := vo) e72 ?_
  refine r_dlif_eq (tg := 20) rfl rfl rfl (fun c1 => ?_) (fun c1 => ?_)
  · refine r_ic (x := 0) rfl rfl ?_
    refine r_istore (lv' := [some (.ref (ad 30)), some (.int (nI t)), some (.int 0), none]) rfl (Nat.le_of_ble_eq_true rfl) rfl ?_
    refine r_aload rfl rfl ?_
    refine r_getA (b := ad 66) rfl ⟨rfl, rfl, rfl⟩ (fx_t30 fx) (fx_r30_53 fx) ?_
    refine r_iload rfl rfl ?_
    refine r_iaload rfl (.inl (fx_t66 fx)) (vp_ct (fx_n66 fx) (vp_in_nI (by omega) (by omega))) ?_
    refine WR_tI (congrArg (hI h (ad 66)) ((nI_clamp (by omega)) : _ = t)) ?_
    refine WR_tI (y := 1) e66 ?_
    refine r_istore (lv' := [some (.ref (ad 30)), some (.int (nI t)), some (.int 0), some (.int 1)]) rfl (Nat.le_of_ble_eq_true rfl) rfl ?_
    refine r_iload rfl rfl ?_
    refine r_ic (x := 1) rfl rfl ?_
    refine r_icmp_eq (tg := 39) rfl rfl (fun _ => ?_) (fun q => absurd q (by decide))
    refine r_iload rfl rfl ?_
    refine r_if_ne (tg := 56) rfl rfl (fun q => absurd q (by decide)) (fun _ => ?_)
    refine r_aload rfl rfl ?_
    refine r_getA (b := ad 69) rfl ⟨rfl, rfl, rfl⟩ (fx_t30 fx) (fx_r30_56 fx) ?_
    refine r_iload rfl rfl ?_
    refine r_daload rfl (fx_t69 fx) (vp_ct (fx_n69 fx) (vp_in_nI (by omega) (by omega))) ?_
    refine WR_tD (congrArg (hD h (ad 69)) ((nI_clamp (by omega)) : _ = t)) ?_
    refine WR_tD (y := u) e69 ?_
    refine r_ldc (x := .double 4625196817309499392) rfl rfl ?_
    refine r_dlif_le (tg := 66) rfl rfl rfl (fun c2 => ?_) (fun c2 => ?_)
    · refine r_iload rfl rfl ?_
      refine r_if_ne (tg := 108) rfl rfl (fun _ => ?_) (fun q => absurd q (by decide))
      refine r_iload rfl rfl ?_
      refine r_ic (x := 1) rfl rfl ?_
      refine r_icmp_ne (tg := 136) rfl rfl (fun q => absurd q (by decide)) (fun _ => ?_)
      refine r_aload rfl rfl ?_
      refine r_getA (b := ad 69) rfl ⟨rfl, rfl, rfl⟩ (fx_t30 fx) (fx_r30_56 fx) ?_
      refine r_iload rfl rfl ?_
      refine r_daload rfl (fx_t69 fx) (vp_ct (fx_n69 fx) (vp_in_nI (by omega) (by omega))) ?_
      refine WR_tD (congrArg (hD h (ad 69)) ((nI_clamp (by omega)) : _ = t)) ?_
      refine WR_tD (y := u) e69 ?_
      refine r_ldc (x := .double 4618441417868443648) rfl rfl ?_
      refine r_dlif_lt (tg := 136) rfl rfl rfl (fun c3 => ?_) (fun c3 => ?_)
      · refine r_iload rfl rfl ?_
        refine r_ic (x := 3) rfl rfl ?_
        refine r_icmp_ne (tg := 161) rfl rfl (fun _ => ?_) (fun q => absurd q (by decide))
        refine r_vret rfl ?_
        exact (L1 c1 c2 c3)
      · refine r_aload rfl rfl ?_
        refine r_getA (b := ad 66) rfl ⟨rfl, rfl, rfl⟩ (fx_t30 fx) (fx_r30_53 fx) ?_
        refine r_iload rfl rfl ?_
        refine r_ic (x := 2) rfl rfl ?_
        refine r_iastore rfl (fx_t66 fx) (vp_ct (fx_n66 fx) (vp_in_nI (by omega) (by omega))) ?_
        refine WR_h (h2 := sI h (ad 66) t 2) (congrArg (fun z => sI h (ad 66) z 2) ((nI_clamp (by omega)) : _ = t)) ?_
        have fx : FX n ad sa z0 (sI h (ad 66) t 2) := (FX.sI fx)
        refine r_goto (tg := 161) rfl rfl ?_
        refine r_vret rfl ?_
        exact (L2 c1 c2 c3)
    · refine r_aload rfl rfl ?_
      refine r_getA (b := ad 66) rfl ⟨rfl, rfl, rfl⟩ (fx_t30 fx) (fx_r30_53 fx) ?_
      refine r_iload rfl rfl ?_
      refine r_ic (x := 3) rfl rfl ?_
      refine r_iastore rfl (fx_t66 fx) (vp_ct (fx_n66 fx) (vp_in_nI (by omega) (by omega))) ?_
      refine WR_h (h2 := sI h (ad 66) t 3) (congrArg (fun z => sI h (ad 66) z 3) ((nI_clamp (by omega)) : _ = t)) ?_
      have fx : FX n ad sa z0 (sI h (ad 66) t 3) := (FX.sI fx)
      refine r_goto (tg := 161) rfl rfl ?_
      refine r_vret rfl ?_
      exact (L3 c1 c2)
  · refine r_ic (x := 1) rfl rfl ?_
    refine r_goto (tg := 21) rfl rfl ?_
    refine r_istore (lv' := [some (.ref (ad 30)), some (.int (nI t)), some (.int 1), none]) rfl (Nat.le_of_ble_eq_true rfl) rfl ?_
    refine r_aload rfl rfl ?_
    refine r_getA (b := ad 66) rfl ⟨rfl, rfl, rfl⟩ (fx_t30 fx) (fx_r30_53 fx) ?_
    refine r_iload rfl rfl ?_
    refine r_iaload rfl (.inl (fx_t66 fx)) (vp_ct (fx_n66 fx) (vp_in_nI (by omega) (by omega))) ?_
    refine WR_tI (congrArg (hI h (ad 66)) ((nI_clamp (by omega)) : _ = t)) ?_
    refine WR_tI (y := 1) e66 ?_
    refine r_istore (lv' := [some (.ref (ad 30)), some (.int (nI t)), some (.int 1), some (.int 1)]) rfl (Nat.le_of_ble_eq_true rfl) rfl ?_
    refine r_iload rfl rfl ?_
    refine r_ic (x := 1) rfl rfl ?_
    refine r_icmp_eq (tg := 39) rfl rfl (fun _ => ?_) (fun q => absurd q (by decide))
    refine r_iload rfl rfl ?_
    refine r_if_ne (tg := 56) rfl rfl (fun _ => ?_) (fun q => absurd q (by decide))
    refine r_aload rfl rfl ?_
    refine r_getA (b := ad 66) rfl ⟨rfl, rfl, rfl⟩ (fx_t30 fx) (fx_r30_53 fx) ?_
    refine r_iload rfl rfl ?_
    refine r_ic (x := 3) rfl rfl ?_
    refine r_iastore rfl (fx_t66 fx) (vp_ct (fx_n66 fx) (vp_in_nI (by omega) (by omega))) ?_
    refine WR_h (h2 := sI h (ad 66) t 3) (congrArg (fun z => sI h (ad 66) z 3) ((nI_clamp (by omega)) : _ = t)) ?_
    have fx : FX n ad sa z0 (sI h (ad 66) t 3) := (FX.sI fx)
    refine r_goto (tg := 161) rfl rfl ?_
    refine r_vret rfl ?_
    exact (L4 c1)

set_option maxHeartbeats 2000000 in
theorem w_cs2 {d : Nat} {Q : mQ} {n : Nat} {ad sa : Nat → Nat} {z0 : Nat} {h : mH} (fx : FX n ad sa z0 h) {t : Nat} (ha : t < n) (n6 : n ≤ 6) (tu2 : hT h (ad (100 + 5 * t)) = 8) {vo : Int64} {w u b : UInt64} (e10 : hI h (ad (100 + 5 * t)) 10 = 2) (e11 : hL h (ad (100 + 5 * t)) 11 = vo) (e12 : hD h (ad (100 + 5 * t)) 12 = w) (e15 : hD h (ad (100 + 5 * t)) 15 = u) (e17 : hD h (ad (100 + 5 * t)) 17 = b) 
    (L1 : ¬ vo = 9221120237041090560 → ¬ dgt u 4625196817309499392 → Q none h)
    (L2 : ¬ vo = 9221120237041090560 → dgt u 4625196817309499392 → Q none (sI h (ad (100 + 5 * t)) 10 3))
    (L3 : vo = 9221120237041090560 → Q none (sI h (ad (100 + 5 * t)) 10 3)) : EV (d + 2) 135 [.ref (ad (100 + 5 * t))] h Q := by
  have fx0 := fx
  refine in_135 (Nat.le_of_ble_eq_true rfl) ?_
  show WR _ cd_135 0 [some (.ref (ad (100 + 5 * t))), none] [] h _
  refine r_aload rfl rfl ?_
  refine r_getI rfl ⟨rfl, rfl, rfl⟩ tu2 ?_
  refine WR_tI (y := 2) e10 ?_
  refine r_ic (x := 1) rfl rfl ?_
  refine r_icmp_eq (tg := 16) rfl rfl (fun q => absurd q (by decide)) (fun _ => ?_)
  refine r_aload rfl rfl ?_
  refine r_getI rfl ⟨rfl, rfl, rfl⟩ tu2 ?_
  refine WR_tI (y := 2) e10 ?_
  refine r_ic (x := 2) rfl rfl ?_
  refine r_icmp_ne (tg := 20) rfl rfl (fun q => absurd q (by decide)) (fun _ => ?_)
  refine r_ic (x := 1) rfl rfl ?_
  refine r_goto (tg := 21) rfl rfl ?_
  refine r_istore (lv' := [some (.ref (ad (100 + 5 * t))), some (.int 1)]) rfl (Nat.le_of_ble_eq_true rfl) rfl ?_
  refine r_iload rfl rfl ?_
  refine r_if_eq (tg := 52) rfl rfl (fun q => absurd q (by decide)) (fun _ => ?_)
  refine r_aload rfl rfl ?_
  refine r_cv (y := 132) (ra := []) (rest := []) rfl ⟨⟨rfl, rfl⟩, rfl, by decide⟩ tu2 rfl rfl (Nat.le_of_ble_eq_true rfl) ?_
  refine in_132 (Nat.le_of_ble_eq_true rfl) ?_
  show WR _ cd_132 0 [some (.ref (ad (100 + 5 * t)))] [] h _
  refine r_aload rfl rfl ?_
  refine r_getL rfl ⟨rfl, rfl, rfl⟩ tu2 ?_
  refine WR_tL (y := vo) e11 ?_
  refine r_ldc (x := .long 9221120237041090560) rfl rfl ?_
  refine r_lif_ne (tg := 15) rfl rfl rfl (fun c1 => ?_) (fun c1 => ?_)
  · refine r_ic (x := 0) rfl rfl ?_
    refine r_zret rfl (.inl rfl) ?_
    show WR _ cd_135 30 [some (.ref (ad (100 + 5 * t))), some (.int 1)] [.int 0] h _
    refine r_if_ne (tg := 44) rfl rfl (fun q => absurd q (by decide)) (fun _ => ?_)
    refine r_aload rfl rfl ?_
    refine r_getD rfl ⟨rfl, rfl, rfl⟩ tu2 ?_
    refine WR_tD (y := u) e15 ?_
    refine r_ldc (x := .double 4625196817309499392) rfl rfl ?_
    refine r_dlif_le (tg := 52) rfl rfl rfl (fun c2 => ?_) (fun c2 => ?_)
    · refine r_aload rfl rfl ?_
      refine r_getI rfl ⟨rfl, rfl, rfl⟩ tu2 ?_
      refine WR_tI (y := 2) e10 ?_
      refine r_if_ne (tg := 94) rfl rfl (fun _ => ?_) (fun q => absurd q (by decide))
      refine r_aload rfl rfl ?_
      refine r_getI rfl ⟨rfl, rfl, rfl⟩ tu2 ?_
      refine WR_tI (y := 2) e10 ?_
      refine r_ic (x := 1) rfl rfl ?_
      refine r_icmp_ne (tg := 121) rfl rfl (fun _ => ?_) (fun q => absurd q (by decide))
      refine r_aload rfl rfl ?_
      refine r_getI rfl ⟨rfl, rfl, rfl⟩ tu2 ?_
      refine WR_tI (y := 2) e10 ?_
      refine r_ic (x := 3) rfl rfl ?_
      refine r_icmp_ne (tg := 145) rfl rfl (fun _ => ?_) (fun q => absurd q (by decide))
      refine r_vret rfl ?_
      exact (L1 c1 c2)
    · refine r_aload rfl rfl ?_
      refine r_ic (x := 3) rfl rfl ?_
      refine r_putI rfl ⟨rfl, rfl, rfl⟩ tu2 ?_
      have fx : FX n ad sa z0 (sI h (ad (100 + 5 * t)) 10 3) := (FX.sI fx)
      refine r_goto (tg := 145) rfl rfl ?_
      refine r_vret rfl ?_
      exact (L2 c1 c2)
  · refine r_ic (x := 1) rfl rfl ?_
    refine r_goto (tg := 16) rfl rfl ?_
    refine r_zret rfl (.inr rfl) ?_
    show WR _ cd_135 30 [some (.ref (ad (100 + 5 * t))), some (.int 1)] [.int 1] h _
    refine r_if_ne (tg := 44) rfl rfl (fun _ => ?_) (fun q => absurd q (by decide))
    refine r_aload rfl rfl ?_
    refine r_ic (x := 3) rfl rfl ?_
    refine r_putI rfl ⟨rfl, rfl, rfl⟩ tu2 ?_
    have fx : FX n ad sa z0 (sI h (ad (100 + 5 * t)) 10 3) := (FX.sI fx)
    refine r_goto (tg := 145) rfl rfl ?_
    refine r_vret rfl ?_
    exact (L3 c1)

set_option maxHeartbeats 2000000 in
theorem w_nst2 {d : Nat} {Q : mQ} {n : Nat} {ad sa : Nat → Nat} {z0 : Nat} {h : mH} (fx : FX n ad sa z0 h) {t : Nat} (t6 : t < 6) {vo w u b : UInt64} (e66 : hI h (ad 66) t = 2) (e72 : hD h (ad 72) t = vo) (e73 : hD h (ad 73) t = w) (e69 : hD h (ad 69) t = u) (e71 : hD h (ad 71) t = b) 
    (L1 : deq vo vo → ¬ dgt u 4625196817309499392 → Q none h)
    (L2 : deq vo vo → dgt u 4625196817309499392 → Q none (sI h (ad 66) t 3))
    (L3 : ¬ deq vo vo → Q none (sI h (ad 66) t 3)) : EV (d + 1) 240 [.ref (ad 30), .int (nI t)] h Q := by
  have fx0 := fx
  refine in_240 (Nat.le_of_ble_eq_true rfl) ?_
  show WR _ cd_240 0 [some (.ref (ad 30)), some (.int (nI t)), none, none] [] h _
  refine r_aload rfl rfl ?_
  refine r_getA (b := ad 72) rfl ⟨rfl, rfl, rfl⟩ (fx_t30 fx) (fx_r30_59 fx) ?_
  refine r_iload rfl rfl ?_
  refine r_daload rfl (fx_t72 fx) (vp_ct (fx_n72 fx) (vp_in_nI (by omega) (by omega))) ?_
  refine WR_tD (congrArg (hD h (ad 72)) ((nI_clamp (by omega)) : _ = t)) ?_
  refine WR_tD (y := vo) e72 ?_
  refine r_aload rfl rfl ?_
  refine r_getA (b := ad 72) rfl ⟨rfl, rfl, rfl⟩ (fx_t30 fx) (fx_r30_59 fx) ?_
  refine r_iload rfl rfl ?_
  refine r_daload rfl (fx_t72 fx) (vp_ct (fx_n72 fx) (vp_in_nI (by omega) (by omega))) ?_
  refine WR_tD (congrArg (hD h (ad 72)) ((nI_clamp (by omega)) : _ = t)) ?_
  refine WR_tD (y := vo) e72 ?_
  refine r_dlif_eq (tg := 20) rfl rfl rfl (fun c1 => ?_) (fun c1 => ?_)
  · refine r_ic (x := 0) rfl rfl ?_
    refine r_istore (lv' := [some (.ref (ad 30)), some (.int (nI t)), some (.int 0), none]) rfl (Nat.le_of_ble_eq_true rfl) rfl ?_
    refine r_aload rfl rfl ?_
    refine r_getA (b := ad 66) rfl ⟨rfl, rfl, rfl⟩ (fx_t30 fx) (fx_r30_53 fx) ?_
    refine r_iload rfl rfl ?_
    refine r_iaload rfl (.inl (fx_t66 fx)) (vp_ct (fx_n66 fx) (vp_in_nI (by omega) (by omega))) ?_
    refine WR_tI (congrArg (hI h (ad 66)) ((nI_clamp (by omega)) : _ = t)) ?_
    refine WR_tI (y := 2) e66 ?_
    refine r_istore (lv' := [some (.ref (ad 30)), some (.int (nI t)), some (.int 0), some (.int 2)]) rfl (Nat.le_of_ble_eq_true rfl) rfl ?_
    refine r_iload rfl rfl ?_
    refine r_ic (x := 1) rfl rfl ?_
    refine r_icmp_eq (tg := 39) rfl rfl (fun q => absurd q (by decide)) (fun _ => ?_)
    refine r_iload rfl rfl ?_
    refine r_ic (x := 2) rfl rfl ?_
    refine r_icmp_ne (tg := 66) rfl rfl (fun q => absurd q (by decide)) (fun _ => ?_)
    refine r_iload rfl rfl ?_
    refine r_if_ne (tg := 56) rfl rfl (fun q => absurd q (by decide)) (fun _ => ?_)
    refine r_aload rfl rfl ?_
    refine r_getA (b := ad 69) rfl ⟨rfl, rfl, rfl⟩ (fx_t30 fx) (fx_r30_56 fx) ?_
    refine r_iload rfl rfl ?_
    refine r_daload rfl (fx_t69 fx) (vp_ct (fx_n69 fx) (vp_in_nI (by omega) (by omega))) ?_
    refine WR_tD (congrArg (hD h (ad 69)) ((nI_clamp (by omega)) : _ = t)) ?_
    refine WR_tD (y := u) e69 ?_
    refine r_ldc (x := .double 4625196817309499392) rfl rfl ?_
    refine r_dlif_le (tg := 66) rfl rfl rfl (fun c2 => ?_) (fun c2 => ?_)
    · refine r_iload rfl rfl ?_
      refine r_if_ne (tg := 108) rfl rfl (fun _ => ?_) (fun q => absurd q (by decide))
      refine r_iload rfl rfl ?_
      refine r_ic (x := 1) rfl rfl ?_
      refine r_icmp_ne (tg := 136) rfl rfl (fun _ => ?_) (fun q => absurd q (by decide))
      refine r_iload rfl rfl ?_
      refine r_ic (x := 3) rfl rfl ?_
      refine r_icmp_ne (tg := 161) rfl rfl (fun _ => ?_) (fun q => absurd q (by decide))
      refine r_vret rfl ?_
      exact (L1 c1 c2)
    · refine r_aload rfl rfl ?_
      refine r_getA (b := ad 66) rfl ⟨rfl, rfl, rfl⟩ (fx_t30 fx) (fx_r30_53 fx) ?_
      refine r_iload rfl rfl ?_
      refine r_ic (x := 3) rfl rfl ?_
      refine r_iastore rfl (fx_t66 fx) (vp_ct (fx_n66 fx) (vp_in_nI (by omega) (by omega))) ?_
      refine WR_h (h2 := sI h (ad 66) t 3) (congrArg (fun z => sI h (ad 66) z 3) ((nI_clamp (by omega)) : _ = t)) ?_
      have fx : FX n ad sa z0 (sI h (ad 66) t 3) := (FX.sI fx)
      refine r_goto (tg := 161) rfl rfl ?_
      refine r_vret rfl ?_
      exact (L2 c1 c2)
  · refine r_ic (x := 1) rfl rfl ?_
    refine r_goto (tg := 21) rfl rfl ?_
    refine r_istore (lv' := [some (.ref (ad 30)), some (.int (nI t)), some (.int 1), none]) rfl (Nat.le_of_ble_eq_true rfl) rfl ?_
    refine r_aload rfl rfl ?_
    refine r_getA (b := ad 66) rfl ⟨rfl, rfl, rfl⟩ (fx_t30 fx) (fx_r30_53 fx) ?_
    refine r_iload rfl rfl ?_
    refine r_iaload rfl (.inl (fx_t66 fx)) (vp_ct (fx_n66 fx) (vp_in_nI (by omega) (by omega))) ?_
    refine WR_tI (congrArg (hI h (ad 66)) ((nI_clamp (by omega)) : _ = t)) ?_
    refine WR_tI (y := 2) e66 ?_
    refine r_istore (lv' := [some (.ref (ad 30)), some (.int (nI t)), some (.int 1), some (.int 2)]) rfl (Nat.le_of_ble_eq_true rfl) rfl ?_
    refine r_iload rfl rfl ?_
    refine r_ic (x := 1) rfl rfl ?_
    refine r_icmp_eq (tg := 39) rfl rfl (fun q => absurd q (by decide)) (fun _ => ?_)
    refine r_iload rfl rfl ?_
    refine r_ic (x := 2) rfl rfl ?_
    refine r_icmp_ne (tg := 66) rfl rfl (fun q => absurd q (by decide)) (fun _ => ?_)
    refine r_iload rfl rfl ?_
    refine r_if_ne (tg := 56) rfl rfl (fun _ => ?_) (fun q => absurd q (by decide))
    refine r_aload rfl rfl ?_
    refine r_getA (b := ad 66) rfl ⟨rfl, rfl, rfl⟩ (fx_t30 fx) (fx_r30_53 fx) ?_
    refine r_iload rfl rfl ?_
    refine r_ic (x := 3) rfl rfl ?_
    refine r_iastore rfl (fx_t66 fx) (vp_ct (fx_n66 fx) (vp_in_nI (by omega) (by omega))) ?_
    refine WR_h (h2 := sI h (ad 66) t 3) (congrArg (fun z => sI h (ad 66) z 3) ((nI_clamp (by omega)) : _ = t)) ?_
    have fx : FX n ad sa z0 (sI h (ad 66) t 3) := (FX.sI fx)
    refine r_goto (tg := 161) rfl rfl ?_
    refine r_vret rfl ?_
    exact (L3 c1)

set_option maxHeartbeats 2000000 in
theorem w_cs3 {d : Nat} {Q : mQ} {n : Nat} {ad sa : Nat → Nat} {z0 : Nat} {h : mH} (fx : FX n ad sa z0 h) {t : Nat} (ha : t < n) (n6 : n ≤ 6) (tu2 : hT h (ad (100 + 5 * t)) = 8) {vo : Int64} {w u b : UInt64} (e10 : hI h (ad (100 + 5 * t)) 10 = 3) (e11 : hL h (ad (100 + 5 * t)) 11 = vo) (e12 : hD h (ad (100 + 5 * t)) 12 = w) (e15 : hD h (ad (100 + 5 * t)) 15 = u) (e17 : hD h (ad (100 + 5 * t)) 17 = b) 
    (L1 : ¬ dlt u 4602678819172646912 → Q none h)
    (L2 : dlt u 4602678819172646912 → Q none (sI h (ad (100 + 5 * t)) 10 0)) : EV (d + 1) 135 [.ref (ad (100 + 5 * t))] h Q := by
  have fx0 := fx
  refine in_135 (Nat.le_of_ble_eq_true rfl) ?_
  show WR _ cd_135 0 [some (.ref (ad (100 + 5 * t))), none] [] h _
  refine r_aload rfl rfl ?_
  refine r_getI rfl ⟨rfl, rfl, rfl⟩ tu2 ?_
  refine WR_tI (y := 3) e10 ?_
  refine r_ic (x := 1) rfl rfl ?_
  refine r_icmp_eq (tg := 16) rfl rfl (fun q => absurd q (by decide)) (fun _ => ?_)
  refine r_aload rfl rfl ?_
  refine r_getI rfl ⟨rfl, rfl, rfl⟩ tu2 ?_
  refine WR_tI (y := 3) e10 ?_
  refine r_ic (x := 2) rfl rfl ?_
  refine r_icmp_ne (tg := 20) rfl rfl (fun _ => ?_) (fun q => absurd q (by decide))
  refine r_ic (x := 0) rfl rfl ?_
  refine r_istore (lv' := [some (.ref (ad (100 + 5 * t))), some (.int 0)]) rfl (Nat.le_of_ble_eq_true rfl) rfl ?_
  refine r_iload rfl rfl ?_
  refine r_if_eq (tg := 52) rfl rfl (fun _ => ?_) (fun q => absurd q (by decide))
  refine r_aload rfl rfl ?_
  refine r_getI rfl ⟨rfl, rfl, rfl⟩ tu2 ?_
  refine WR_tI (y := 3) e10 ?_
  refine r_if_ne (tg := 94) rfl rfl (fun _ => ?_) (fun q => absurd q (by decide))
  refine r_aload rfl rfl ?_
  refine r_getI rfl ⟨rfl, rfl, rfl⟩ tu2 ?_
  refine WR_tI (y := 3) e10 ?_
  refine r_ic (x := 1) rfl rfl ?_
  refine r_icmp_ne (tg := 121) rfl rfl (fun _ => ?_) (fun q => absurd q (by decide))
  refine r_aload rfl rfl ?_
  refine r_getI rfl ⟨rfl, rfl, rfl⟩ tu2 ?_
  refine WR_tI (y := 3) e10 ?_
  refine r_ic (x := 3) rfl rfl ?_
  refine r_icmp_ne (tg := 145) rfl rfl (fun q => absurd q (by decide)) (fun _ => ?_)
  refine r_aload rfl rfl ?_
  refine r_getD rfl ⟨rfl, rfl, rfl⟩ tu2 ?_
  refine WR_tD (y := u) e15 ?_
  refine r_ldc (x := .double 4602678819172646912) rfl rfl ?_
  refine r_dgif_ge (tg := 145) rfl rfl rfl (fun c1 => ?_) (fun c1 => ?_)
  · refine r_vret rfl ?_
    exact (L1 c1)
  · refine r_aload rfl rfl ?_
    refine r_ic (x := 0) rfl rfl ?_
    refine r_putI rfl ⟨rfl, rfl, rfl⟩ tu2 ?_
    have fx : FX n ad sa z0 (sI h (ad (100 + 5 * t)) 10 0) := (FX.sI fx)
    refine r_vret rfl ?_
    exact (L2 c1)

set_option maxHeartbeats 2000000 in
theorem w_nst3 {d : Nat} {Q : mQ} {n : Nat} {ad sa : Nat → Nat} {z0 : Nat} {h : mH} (fx : FX n ad sa z0 h) {t : Nat} (t6 : t < 6) {vo w u b : UInt64} (e66 : hI h (ad 66) t = 3) (e72 : hD h (ad 72) t = vo) (e73 : hD h (ad 73) t = w) (e69 : hD h (ad 69) t = u) (e71 : hD h (ad 71) t = b) 
    (L1 : deq vo vo → ¬ dlt u 4602678819172646912 → Q none h)
    (L2 : deq vo vo → dlt u 4602678819172646912 → Q none (sI h (ad 66) t 0))
    (L3 : ¬ deq vo vo → ¬ dlt u 4602678819172646912 → Q none h)
    (L4 : ¬ deq vo vo → dlt u 4602678819172646912 → Q none (sI h (ad 66) t 0)) : EV (d + 1) 240 [.ref (ad 30), .int (nI t)] h Q := by
  have fx0 := fx
  refine in_240 (Nat.le_of_ble_eq_true rfl) ?_
  show WR _ cd_240 0 [some (.ref (ad 30)), some (.int (nI t)), none, none] [] h _
  refine r_aload rfl rfl ?_
  refine r_getA (b := ad 72) rfl ⟨rfl, rfl, rfl⟩ (fx_t30 fx) (fx_r30_59 fx) ?_
  refine r_iload rfl rfl ?_
  refine r_daload rfl (fx_t72 fx) (vp_ct (fx_n72 fx) (vp_in_nI (by omega) (by omega))) ?_
  refine WR_tD (congrArg (hD h (ad 72)) ((nI_clamp (by omega)) : _ = t)) ?_
  refine WR_tD (y := vo) e72 ?_
  refine r_aload rfl rfl ?_
  refine r_getA (b := ad 72) rfl ⟨rfl, rfl, rfl⟩ (fx_t30 fx) (fx_r30_59 fx) ?_
  refine r_iload rfl rfl ?_
  refine r_daload rfl (fx_t72 fx) (vp_ct (fx_n72 fx) (vp_in_nI (by omega) (by omega))) ?_
  refine WR_tD (congrArg (hD h (ad 72)) ((nI_clamp (by omega)) : _ = t)) ?_
  refine WR_tD (y := vo) e72 ?_
  refine r_dlif_eq (tg := 20) rfl rfl rfl (fun c1 => ?_) (fun c1 => ?_)
  · refine r_ic (x := 0) rfl rfl ?_
    refine r_istore (lv' := [some (.ref (ad 30)), some (.int (nI t)), some (.int 0), none]) rfl (Nat.le_of_ble_eq_true rfl) rfl ?_
    refine r_aload rfl rfl ?_
    refine r_getA (b := ad 66) rfl ⟨rfl, rfl, rfl⟩ (fx_t30 fx) (fx_r30_53 fx) ?_
    refine r_iload rfl rfl ?_
    refine r_iaload rfl (.inl (fx_t66 fx)) (vp_ct (fx_n66 fx) (vp_in_nI (by omega) (by omega))) ?_
    refine WR_tI (congrArg (hI h (ad 66)) ((nI_clamp (by omega)) : _ = t)) ?_
    refine WR_tI (y := 3) e66 ?_
    refine r_istore (lv' := [some (.ref (ad 30)), some (.int (nI t)), some (.int 0), some (.int 3)]) rfl (Nat.le_of_ble_eq_true rfl) rfl ?_
    refine r_iload rfl rfl ?_
    refine r_ic (x := 1) rfl rfl ?_
    refine r_icmp_eq (tg := 39) rfl rfl (fun q => absurd q (by decide)) (fun _ => ?_)
    refine r_iload rfl rfl ?_
    refine r_ic (x := 2) rfl rfl ?_
    refine r_icmp_ne (tg := 66) rfl rfl (fun _ => ?_) (fun q => absurd q (by decide))
    refine r_iload rfl rfl ?_
    refine r_if_ne (tg := 108) rfl rfl (fun _ => ?_) (fun q => absurd q (by decide))
    refine r_iload rfl rfl ?_
    refine r_ic (x := 1) rfl rfl ?_
    refine r_icmp_ne (tg := 136) rfl rfl (fun _ => ?_) (fun q => absurd q (by decide))
    refine r_iload rfl rfl ?_
    refine r_ic (x := 3) rfl rfl ?_
    refine r_icmp_ne (tg := 161) rfl rfl (fun q => absurd q (by decide)) (fun _ => ?_)
    refine r_aload rfl rfl ?_
    refine r_getA (b := ad 69) rfl ⟨rfl, rfl, rfl⟩ (fx_t30 fx) (fx_r30_56 fx) ?_
    refine r_iload rfl rfl ?_
    refine r_daload rfl (fx_t69 fx) (vp_ct (fx_n69 fx) (vp_in_nI (by omega) (by omega))) ?_
    refine WR_tD (congrArg (hD h (ad 69)) ((nI_clamp (by omega)) : _ = t)) ?_
    refine WR_tD (y := u) e69 ?_
    refine r_ldc (x := .double 4602678819172646912) rfl rfl ?_
    refine r_dgif_ge (tg := 161) rfl rfl rfl (fun c2 => ?_) (fun c2 => ?_)
    · refine r_vret rfl ?_
      exact (L1 c1 c2)
    · refine r_aload rfl rfl ?_
      refine r_getA (b := ad 66) rfl ⟨rfl, rfl, rfl⟩ (fx_t30 fx) (fx_r30_53 fx) ?_
      refine r_iload rfl rfl ?_
      refine r_ic (x := 0) rfl rfl ?_
      refine r_iastore rfl (fx_t66 fx) (vp_ct (fx_n66 fx) (vp_in_nI (by omega) (by omega))) ?_
      refine WR_h (h2 := sI h (ad 66) t 0) (congrArg (fun z => sI h (ad 66) z 0) ((nI_clamp (by omega)) : _ = t)) ?_
      have fx : FX n ad sa z0 (sI h (ad 66) t 0) := (FX.sI fx)
      refine r_vret rfl ?_
      exact (L2 c1 c2)
  · refine r_ic (x := 1) rfl rfl ?_
    refine r_goto (tg := 21) rfl rfl ?_
    refine r_istore (lv' := [some (.ref (ad 30)), some (.int (nI t)), some (.int 1), none]) rfl (Nat.le_of_ble_eq_true rfl) rfl ?_
    refine r_aload rfl rfl ?_
    refine r_getA (b := ad 66) rfl ⟨rfl, rfl, rfl⟩ (fx_t30 fx) (fx_r30_53 fx) ?_
    refine r_iload rfl rfl ?_
    refine r_iaload rfl (.inl (fx_t66 fx)) (vp_ct (fx_n66 fx) (vp_in_nI (by omega) (by omega))) ?_
    refine WR_tI (congrArg (hI h (ad 66)) ((nI_clamp (by omega)) : _ = t)) ?_
    refine WR_tI (y := 3) e66 ?_
    refine r_istore (lv' := [some (.ref (ad 30)), some (.int (nI t)), some (.int 1), some (.int 3)]) rfl (Nat.le_of_ble_eq_true rfl) rfl ?_
    refine r_iload rfl rfl ?_
    refine r_ic (x := 1) rfl rfl ?_
    refine r_icmp_eq (tg := 39) rfl rfl (fun q => absurd q (by decide)) (fun _ => ?_)
    refine r_iload rfl rfl ?_
    refine r_ic (x := 2) rfl rfl ?_
    refine r_icmp_ne (tg := 66) rfl rfl (fun _ => ?_) (fun q => absurd q (by decide))
    refine r_iload rfl rfl ?_
    refine r_if_ne (tg := 108) rfl rfl (fun _ => ?_) (fun q => absurd q (by decide))
    refine r_iload rfl rfl ?_
    refine r_ic (x := 1) rfl rfl ?_
    refine r_icmp_ne (tg := 136) rfl rfl (fun _ => ?_) (fun q => absurd q (by decide))
    refine r_iload rfl rfl ?_
    refine r_ic (x := 3) rfl rfl ?_
    refine r_icmp_ne (tg := 161) rfl rfl (fun q => absurd q (by decide)) (fun _ => ?_)
    refine r_aload rfl rfl ?_
    refine r_getA (b := ad 69) rfl ⟨rfl, rfl, rfl⟩ (fx_t30 fx) (fx_r30_56 fx) ?_
    refine r_iload rfl rfl ?_
    refine r_daload rfl (fx_t69 fx) (vp_ct (fx_n69 fx) (vp_in_nI (by omega) (by omega))) ?_
    refine WR_tD (congrArg (hD h (ad 69)) ((nI_clamp (by omega)) : _ = t)) ?_
    refine WR_tD (y := u) e69 ?_
    refine r_ldc (x := .double 4602678819172646912) rfl rfl ?_
    refine r_dgif_ge (tg := 161) rfl rfl rfl (fun c3 => ?_) (fun c3 => ?_)
    · refine r_vret rfl ?_
      exact (L3 c1 c3)
    · refine r_aload rfl rfl ?_
      refine r_getA (b := ad 66) rfl ⟨rfl, rfl, rfl⟩ (fx_t30 fx) (fx_r30_53 fx) ?_
      refine r_iload rfl rfl ?_
      refine r_ic (x := 0) rfl rfl ?_
      refine r_iastore rfl (fx_t66 fx) (vp_ct (fx_n66 fx) (vp_in_nI (by omega) (by omega))) ?_
      refine WR_h (h2 := sI h (ad 66) t 0) (congrArg (fun z => sI h (ad 66) z 0) ((nI_clamp (by omega)) : _ = t)) ?_
      have fx : FX n ad sa z0 (sI h (ad 66) t 0) := (FX.sI fx)
      refine r_vret rfl ?_
      exact (L4 c1 c3)

set_option maxHeartbeats 2000000 in
theorem w_wi {d : Nat} {Q : mQ} {n : Nat} {ad sa : Nat → Nat} {z0 : Nat} {h : mH} (fx : FX n ad sa z0 h) {l x : UInt64} 
    (L1 : ¬ dgt x l → ¬ dlt x (FP.dneg l) → Q (some (.double x)) h)
    (L2 : ¬ dgt x l → dlt x (FP.dneg l) → Q (some (.double (FP.dneg l))) h)
    (L3 : dgt x l → Q (some (.double l)) h) : EV (d + 1) 138 [.double l, .double x] h Q := by
  have fx0 := fx
  refine in_138 (Nat.le_of_ble_eq_true rfl) ?_
  show WR _ cd_138 0 [some (.double l), none, some (.double x), none] [] h _
  refine r_dload rfl rfl ?_
  refine r_dload rfl rfl ?_
  refine r_dlif_le (tg := 10) rfl rfl rfl (fun c1 => ?_) (fun c1 => ?_)
  · refine r_dload rfl rfl ?_
    refine r_dload rfl rfl ?_
    refine r_dneg rfl ?_
    refine r_dgif_ge (tg := 22) rfl rfl rfl (fun c2 => ?_) (fun c2 => ?_)
    · refine r_dload rfl rfl ?_
      refine r_dret rfl ?_
      exact (L1 c1 c2)
    · refine r_dload rfl rfl ?_
      refine r_dneg rfl ?_
      refine r_goto (tg := 23) rfl rfl ?_
      refine r_dret rfl ?_
      exact (L2 c1 c2)
  · refine r_dload rfl rfl ?_
    refine r_goto (tg := 23) rfl rfl ?_
    refine r_dret rfl ?_
    exact (L3 c1)

set_option maxHeartbeats 2000000 in
theorem w_le {d : Nat} {Q : mQ} {n : Nat} {ad sa : Nat → Nat} {z0 : Nat} {h : mH} (fx : FX n ad sa z0 h) {a b : UInt64} 
    (C1 : ¬ dlt a b → ¬ dlt b a → EV (d) 197 [.double a] h (fun v_ h_ => WR (d) cd_241 24 [some (.double a), none, some (.double b), none] (v_.toList ++ []) h_ Q))
    (L1 : ¬ dlt a b → dlt b a → Q (some (.double b)) h)
    (L2 : dlt a b → Q (some (.double a)) h) : EV (d + 1) 241 [.double a, .double b] h Q := by
  have fx0 := fx
  refine in_241 (Nat.le_of_ble_eq_true rfl) ?_
  show WR _ cd_241 0 [some (.double a), none, some (.double b), none] [] h _
  refine r_dload rfl rfl ?_
  refine r_dload rfl rfl ?_
  refine r_dgif_ge (tg := 10) rfl rfl rfl (fun c1 => ?_) (fun c1 => ?_)
  · refine r_dload rfl rfl ?_
    refine r_dload rfl rfl ?_
    refine r_dgif_ge (tg := 20) rfl rfl rfl (fun c2 => ?_) (fun c2 => ?_)
    · refine r_dload rfl rfl ?_
      refine r_cs (y := 197) (ra := [.double a]) (rest := []) rfl ⟨⟨rfl, rfl⟩, by decide⟩ rfl rfl (Nat.le_of_ble_eq_true rfl) ?_
      exact (C1 c1 c2)
    · refine r_dload rfl rfl ?_
      refine r_goto (tg := 32) rfl rfl ?_
      refine r_dret rfl ?_
      exact (L1 c1 c2)
  · refine r_dload rfl rfl ?_
    refine r_goto (tg := 32) rfl rfl ?_
    refine r_dret rfl ?_
    exact (L2 c1)

set_option maxHeartbeats 2000000 in
theorem w_le_0 {d : Nat} {Q : mQ} {n : Nat} {ad sa : Nat → Nat} {z0 : Nat} {h : mH} (fx : FX n ad sa z0 h) {a b : UInt64} 
    (L1 : Q (some (.double b)) h) : WR (d) cd_241 24 [some (.double a), none, some (.double b), none] [.int 0] h Q := by
  have fx0 := fx
  refine r_if_eq (tg := 31) rfl rfl (fun _ => ?_) (fun q => absurd q (by decide))
  refine r_dload rfl rfl ?_
  refine r_dret rfl ?_
  exact (L1)

set_option maxHeartbeats 2000000 in
theorem w_le_1 {d : Nat} {Q : mQ} {n : Nat} {ad sa : Nat → Nat} {z0 : Nat} {h : mH} (fx : FX n ad sa z0 h) {a b : UInt64} 
    (L1 : Q (some (.double a)) h) : WR (d) cd_241 24 [some (.double a), none, some (.double b), none] [.int 1] h Q := by
  have fx0 := fx
  refine r_if_eq (tg := 31) rfl rfl (fun q => absurd q (by decide)) (fun _ => ?_)
  refine r_dload rfl rfl ?_
  refine r_goto (tg := 32) rfl rfl ?_
  refine r_dret rfl ?_
  exact (L1)

set_option maxHeartbeats 2000000 in
theorem w_gr {d : Nat} {Q : mQ} {n : Nat} {ad sa : Nat → Nat} {z0 : Nat} {h : mH} (fx : FX n ad sa z0 h) {a b : UInt64} 
    (C1 : ¬ dgt a b → ¬ dgt b a → EV (d) 197 [.double a] h (fun v_ h_ => WR (d) cd_242 24 [some (.double a), none, some (.double b), none] (v_.toList ++ []) h_ Q))
    (L1 : ¬ dgt a b → dgt b a → Q (some (.double b)) h)
    (L2 : dgt a b → Q (some (.double a)) h) : EV (d + 1) 242 [.double a, .double b] h Q := by
  have fx0 := fx
  refine in_242 (Nat.le_of_ble_eq_true rfl) ?_
  show WR _ cd_242 0 [some (.double a), none, some (.double b), none] [] h _
  refine r_dload rfl rfl ?_
  refine r_dload rfl rfl ?_
  refine r_dlif_le (tg := 10) rfl rfl rfl (fun c1 => ?_) (fun c1 => ?_)
  · refine r_dload rfl rfl ?_
    refine r_dload rfl rfl ?_
    refine r_dlif_le (tg := 20) rfl rfl rfl (fun c2 => ?_) (fun c2 => ?_)
    · refine r_dload rfl rfl ?_
      refine r_cs (y := 197) (ra := [.double a]) (rest := []) rfl ⟨⟨rfl, rfl⟩, by decide⟩ rfl rfl (Nat.le_of_ble_eq_true rfl) ?_
      exact (C1 c1 c2)
    · refine r_dload rfl rfl ?_
      refine r_goto (tg := 32) rfl rfl ?_
      refine r_dret rfl ?_
      exact (L1 c1 c2)
  · refine r_dload rfl rfl ?_
    refine r_goto (tg := 32) rfl rfl ?_
    refine r_dret rfl ?_
    exact (L2 c1)

set_option maxHeartbeats 2000000 in
theorem w_gr_0 {d : Nat} {Q : mQ} {n : Nat} {ad sa : Nat → Nat} {z0 : Nat} {h : mH} (fx : FX n ad sa z0 h) {a b : UInt64} 
    (L1 : Q (some (.double a)) h) : WR (d) cd_242 24 [some (.double a), none, some (.double b), none] [.int 0] h Q := by
  have fx0 := fx
  refine r_if_eq (tg := 31) rfl rfl (fun _ => ?_) (fun q => absurd q (by decide))
  refine r_dload rfl rfl ?_
  refine r_dret rfl ?_
  exact (L1)

set_option maxHeartbeats 2000000 in
theorem w_gr_1 {d : Nat} {Q : mQ} {n : Nat} {ad sa : Nat → Nat} {z0 : Nat} {h : mH} (fx : FX n ad sa z0 h) {a b : UInt64} 
    (L1 : Q (some (.double b)) h) : WR (d) cd_242 24 [some (.double a), none, some (.double b), none] [.int 1] h Q := by
  have fx0 := fx
  refine r_if_eq (tg := 31) rfl rfl (fun q => absurd q (by decide)) (fun _ => ?_)
  refine r_dload rfl rfl ?_
  refine r_goto (tg := 32) rfl rfl ?_
  refine r_dret rfl ?_
  exact (L1)

set_option maxHeartbeats 2000000 in
theorem w_pg0 {d : Nat} {Q : mQ} {n : Nat} {ad sa : Nat → Nat} {z0 : Nat} {h : mH} (fx : FX n ad sa z0 h) {t : Nat} (ha : t < n) (n6 : n ≤ 6) (tu2 : hT h (ad (100 + 5 * t)) = 8) {u : UInt64} (e10 : hI h (ad (100 + 5 * t)) 10 = 0) (e15 : hD h (ad (100 + 5 * t)) 15 = u) 
    (L1 : Q (some (.double 4636033603912859648)) h) : EV (d + 1) 137 [.ref (ad (100 + 5 * t))] h Q := by
  have fx0 := fx
  refine in_137 (Nat.le_of_ble_eq_true rfl) ?_
  show WR _ cd_137 0 [some (.ref (ad (100 + 5 * t))), none, none] [] h _
  refine r_aload rfl rfl ?_
  refine r_getI rfl ⟨rfl, rfl, rfl⟩ tu2 ?_
  refine WR_tI (y := 0) e10 ?_
  refine r_ic (x := 1) rfl rfl ?_
  refine r_icmp_ne (tg := 12) rfl rfl (fun _ => ?_) (fun q => absurd q (by decide))
  refine r_aload rfl rfl ?_
  refine r_getI rfl ⟨rfl, rfl, rfl⟩ tu2 ?_
  refine WR_tI (y := 0) e10 ?_
  refine r_ic (x := 2) rfl rfl ?_
  refine r_icmp_eq (tg := 24) rfl rfl (fun q => absurd q (by decide)) (fun _ => ?_)
  refine r_ldc (x := .double 4636033603912859648) rfl rfl ?_
  refine r_dret rfl ?_
  exact (L1)

set_option maxHeartbeats 2000000 in
theorem w_pg1 {d : Nat} {Q : mQ} {n : Nat} {ad sa : Nat → Nat} {z0 : Nat} {h : mH} (fx : FX n ad sa z0 h) {t : Nat} (ha : t < n) (n6 : n ≤ 6) (tu2 : hT h (ad (100 + 5 * t)) = 8) {u : UInt64} (e10 : hI h (ad (100 + 5 * t)) 10 = 1) (e15 : hD h (ad (100 + 5 * t)) 15 = u) 
    (L1 : Q (some (.double 4626322717216342016)) h) : EV (d + 1) 137 [.ref (ad (100 + 5 * t))] h Q := by
  have fx0 := fx
  refine in_137 (Nat.le_of_ble_eq_true rfl) ?_
  show WR _ cd_137 0 [some (.ref (ad (100 + 5 * t))), none, none] [] h _
  refine r_aload rfl rfl ?_
  refine r_getI rfl ⟨rfl, rfl, rfl⟩ tu2 ?_
  refine WR_tI (y := 1) e10 ?_
  refine r_ic (x := 1) rfl rfl ?_
  refine r_icmp_ne (tg := 12) rfl rfl (fun q => absurd q (by decide)) (fun _ => ?_)
  refine r_ldc (x := .double 4626322717216342016) rfl rfl ?_
  refine r_dret rfl ?_
  exact (L1)

set_option maxHeartbeats 2000000 in
theorem w_pg2 {d : Nat} {Q : mQ} {n : Nat} {ad sa : Nat → Nat} {z0 : Nat} {h : mH} (fx : FX n ad sa z0 h) {t : Nat} (ha : t < n) (n6 : n ≤ 6) (tu2 : hT h (ad (100 + 5 * t)) = 8) {u : UInt64} (e10 : hI h (ad (100 + 5 * t)) 10 = 2) (e15 : hD h (ad (100 + 5 * t)) 15 = u) 
    (B1 : ¬ dle u 4621819117588971520 → vf_n64 (FP.dsub u 4621819117588971520))
    (B2 : ¬ dle u 4621819117588971520 → vf_n64 (FP.dmul (FP.dsub u 4621819117588971520) 4620693217682128896))
    (L1 : ¬ dle u 4621819117588971520 → ¬ dgt (FP.dmul (FP.dsub u 4621819117588971520) 4620693217682128896) 4636033603912859648 → Q (some (.double (FP.dmul (FP.dsub u 4621819117588971520) 4620693217682128896))) h)
    (L2 : ¬ dle u 4621819117588971520 → dgt (FP.dmul (FP.dsub u 4621819117588971520) 4620693217682128896) 4636033603912859648 → Q (some (.double 4636033603912859648)) h)
    (L3 : dle u 4621819117588971520 → Q (some (.double 0)) h) : EV (d + 1) 137 [.ref (ad (100 + 5 * t))] h Q := by
  have fx0 := fx
  refine in_137 (Nat.le_of_ble_eq_true rfl) ?_
  show WR _ cd_137 0 [some (.ref (ad (100 + 5 * t))), none, none] [] h _
  refine r_aload rfl rfl ?_
  refine r_getI rfl ⟨rfl, rfl, rfl⟩ tu2 ?_
  refine WR_tI (y := 2) e10 ?_
  refine r_ic (x := 1) rfl rfl ?_
  refine r_icmp_ne (tg := 12) rfl rfl (fun _ => ?_) (fun q => absurd q (by decide))
  refine r_aload rfl rfl ?_
  refine r_getI rfl ⟨rfl, rfl, rfl⟩ tu2 ?_
  refine WR_tI (y := 2) e10 ?_
  refine r_ic (x := 2) rfl rfl ?_
  refine r_icmp_eq (tg := 24) rfl rfl (fun _ => ?_) (fun q => absurd q (by decide))
  refine r_aload rfl rfl ?_
  refine r_getD rfl ⟨rfl, rfl, rfl⟩ tu2 ?_
  refine WR_tD (y := u) e15 ?_
  refine r_ldc (x := .double 4621819117588971520) rfl rfl ?_
  refine r_dgif_gt (tg := 37) rfl rfl rfl (fun c1 => ?_) (fun c1 => ?_)
  · refine r_aload rfl rfl ?_
    refine r_getD rfl ⟨rfl, rfl, rfl⟩ tu2 ?_
    refine WR_tD (y := u) e15 ?_
    refine r_ldc (x := .double 4621819117588971520) rfl rfl ?_
    refine r_dsub rfl (B1 c1) ?_
    refine r_ldc (x := .double 4620693217682128896) rfl rfl ?_
    refine r_dmul rfl (B2 c1) ?_
    refine r_dstore (lv' := [some (.ref (ad (100 + 5 * t))), some (.double (FP.dmul (FP.dsub u 4621819117588971520) 4620693217682128896)), none]) rfl (Nat.le_of_ble_eq_true rfl) rfl ?_
    refine r_dload rfl rfl ?_
    refine r_ldc (x := .double 4636033603912859648) rfl rfl ?_
    refine r_dlif_le (tg := 64) rfl rfl rfl (fun c2 => ?_) (fun c2 => ?_)
    · refine r_dload rfl rfl ?_
      refine r_dret rfl ?_
      exact (L1 c1 c2)
    · refine r_ldc (x := .double 4636033603912859648) rfl rfl ?_
      refine r_goto (tg := 65) rfl rfl ?_
      refine r_dret rfl ?_
      exact (L2 c1 c2)
  · refine r_dc (x := 0) rfl rfl ?_
    refine r_dret rfl ?_
    exact (L3 c1)

set_option maxHeartbeats 2000000 in
theorem w_pg3 {d : Nat} {Q : mQ} {n : Nat} {ad sa : Nat → Nat} {z0 : Nat} {h : mH} (fx : FX n ad sa z0 h) {t : Nat} (ha : t < n) (n6 : n ≤ 6) (tu2 : hT h (ad (100 + 5 * t)) = 8) {u : UInt64} (e10 : hI h (ad (100 + 5 * t)) 10 = 3) (e15 : hD h (ad (100 + 5 * t)) 15 = u) 
    (L1 : Q (some (.double 4636033603912859648)) h) : EV (d + 1) 137 [.ref (ad (100 + 5 * t))] h Q := by
  have fx0 := fx
  refine in_137 (Nat.le_of_ble_eq_true rfl) ?_
  show WR _ cd_137 0 [some (.ref (ad (100 + 5 * t))), none, none] [] h _
  refine r_aload rfl rfl ?_
  refine r_getI rfl ⟨rfl, rfl, rfl⟩ tu2 ?_
  refine WR_tI (y := 3) e10 ?_
  refine r_ic (x := 1) rfl rfl ?_
  refine r_icmp_ne (tg := 12) rfl rfl (fun _ => ?_) (fun q => absurd q (by decide))
  refine r_aload rfl rfl ?_
  refine r_getI rfl ⟨rfl, rfl, rfl⟩ tu2 ?_
  refine WR_tI (y := 3) e10 ?_
  refine r_ic (x := 2) rfl rfl ?_
  refine r_icmp_eq (tg := 24) rfl rfl (fun q => absurd q (by decide)) (fun _ => ?_)
  refine r_ldc (x := .double 4636033603912859648) rfl rfl ?_
  refine r_dret rfl ?_
  exact (L1)

set_option maxHeartbeats 2000000 in
theorem w_kfl {d : Nat} {Q : mQ} {n : Nat} {ad sa : Nat → Nat} {z0 : Nat} {h : mH} (fx : FX n ad sa z0 h) {f st : Nat} (f4 : f < 40) (s2 : st ≤ 30000) (e2 : hI h (ad 4) 2 = nI f) (e3 : hI h (ad 4) 3 = nI st) {a b c : Int32} 
    (L1 : Q none (sI (sI (sI (sI (sI h (ad 5) (4 * f) a) (ad 5) (4 * f + 1) b) (ad 5) (4 * f + 2) c) (ad 5) (4 * f + 3) (nI (st + 1))) (ad 4) 2 (nI (f + 1)))) : EV (d + 1) 141 [.ref (ad 4), .int a, .int b, .int c] h Q := by
  have fx0 := fx
  refine in_141 (Nat.le_of_ble_eq_true rfl) ?_
  show WR _ cd_141 0 [some (.ref (ad 4)), some (.int a), some (.int b), some (.int c), none] [] h _
  refine r_aload rfl rfl ?_
  refine r_getI rfl ⟨rfl, rfl, rfl⟩ (fx_t4 fx) ?_
  refine WR_tI (y := nI f) e2 ?_
  refine r_ic (x := 40) rfl rfl ?_
  refine r_icmp_ge (tg := 70) rfl rfl (fun q => False.elim (by have : (nI f).toInt = ((f : Nat) : Int) := nI_toInt (by omega); have : (40 : Int32).toInt = 40 := rfl; have := i_le q; omega)) (fun _ => ?_)
  refine r_aload rfl rfl ?_
  refine r_getI rfl ⟨rfl, rfl, rfl⟩ (fx_t4 fx) ?_
  refine WR_tI (y := nI f) e2 ?_
  refine r_ic (x := 4) rfl rfl ?_
  refine r_imul rfl ?_
  refine WR_tI (y := nI (4 * f)) (Eq.trans (pk_mul f 4) (congrArg nI (by omega))) ?_
  refine r_istore (lv' := [some (.ref (ad 4)), some (.int a), some (.int b), some (.int c), some (.int (nI (4 * f)))]) rfl (Nat.le_of_ble_eq_true rfl) rfl ?_
  refine r_aload rfl rfl ?_
  refine r_getA (b := ad 5) rfl ⟨rfl, rfl, rfl⟩ (fx_t4 fx) (fx_r4_1 fx) ?_
  refine r_iload rfl rfl ?_
  refine r_iload rfl rfl ?_
  refine r_iastore rfl (fx_t5 fx) (vp_ct (fx_n5 fx) (vp_in_nI (by omega) (by omega))) ?_
  refine WR_h (h2 := sI h (ad 5) (4 * f) a) (congrArg (fun z => sI h (ad 5) z a) ((nI_clamp (by omega)) : _ = 4 * f)) ?_
  have fx : FX n ad sa z0 (sI h (ad 5) (4 * f) a) := (FX.sI fx)
  refine r_aload rfl rfl ?_
  refine r_getA (b := ad 5) rfl ⟨rfl, rfl, rfl⟩ (fx_t4 fx) (fx_r4_1 fx) ?_
  refine r_iload rfl rfl ?_
  refine r_ic (x := 1) rfl rfl ?_
  refine r_iadd rfl ?_
  refine WR_tI (y := nI (4 * f + 1)) (Eq.trans (nI_add (4 * f) 1) (congrArg nI (by omega))) ?_
  refine r_iload rfl rfl ?_
  refine r_iastore rfl (fx_t5 fx) (vp_ct (fx_n5 fx) (vp_in_nI (by omega) (by omega))) ?_
  refine WR_h (h2 := sI (sI h (ad 5) (4 * f) a) (ad 5) (4 * f + 1) b) (congrArg (fun z => sI (sI h (ad 5) (4 * f) a) (ad 5) z b) ((nI_clamp (by omega)) : _ = 4 * f + 1)) ?_
  have fx : FX n ad sa z0 (sI (sI h (ad 5) (4 * f) a) (ad 5) (4 * f + 1) b) := (FX.sI fx)
  refine r_aload rfl rfl ?_
  refine r_getA (b := ad 5) rfl ⟨rfl, rfl, rfl⟩ (fx_t4 fx) (fx_r4_1 fx) ?_
  refine r_iload rfl rfl ?_
  refine r_ic (x := 2) rfl rfl ?_
  refine r_iadd rfl ?_
  refine WR_tI (y := nI (4 * f + 2)) (Eq.trans (nI_add (4 * f) 2) (congrArg nI (by omega))) ?_
  refine r_iload rfl rfl ?_
  refine r_iastore rfl (fx_t5 fx) (vp_ct (fx_n5 fx) (vp_in_nI (by omega) (by omega))) ?_
  refine WR_h (h2 := sI (sI (sI h (ad 5) (4 * f) a) (ad 5) (4 * f + 1) b) (ad 5) (4 * f + 2) c) (congrArg (fun z => sI (sI (sI h (ad 5) (4 * f) a) (ad 5) (4 * f + 1) b) (ad 5) z c) ((nI_clamp (by omega)) : _ = 4 * f + 2)) ?_
  have fx : FX n ad sa z0 (sI (sI (sI h (ad 5) (4 * f) a) (ad 5) (4 * f + 1) b) (ad 5) (4 * f + 2) c) := (FX.sI fx)
  refine r_aload rfl rfl ?_
  refine r_getA (b := ad 5) rfl ⟨rfl, rfl, rfl⟩ (fx_t4 fx) (fx_r4_1 fx) ?_
  refine r_iload rfl rfl ?_
  refine r_ic (x := 3) rfl rfl ?_
  refine r_iadd rfl ?_
  refine WR_tI (y := nI (4 * f + 3)) (Eq.trans (nI_add (4 * f) 3) (congrArg nI (by omega))) ?_
  refine r_aload rfl rfl ?_
  refine r_getI rfl ⟨rfl, rfl, rfl⟩ (fx_t4 fx) ?_
  refine WR_tI (y := nI st) (Eq.trans (I_ne (fx_ne fx (by decide))) (Eq.trans (I_ne (fx_ne fx (by decide))) (Eq.trans (I_ne (fx_ne fx (by decide))) e3))) ?_
  refine r_ic (x := 1) rfl rfl ?_
  refine r_iadd rfl ?_
  refine WR_tI (y := nI (st + 1)) (Eq.trans (nI_add st 1) (congrArg nI (by omega))) ?_
  refine r_iastore rfl (fx_t5 fx) (vp_ct (fx_n5 fx) (vp_in_nI (by omega) (by omega))) ?_
  refine WR_h (h2 := sI (sI (sI (sI h (ad 5) (4 * f) a) (ad 5) (4 * f + 1) b) (ad 5) (4 * f + 2) c) (ad 5) (4 * f + 3) (nI (st + 1))) (congrArg (fun z => sI (sI (sI (sI h (ad 5) (4 * f) a) (ad 5) (4 * f + 1) b) (ad 5) (4 * f + 2) c) (ad 5) z (nI (st + 1))) ((nI_clamp (by omega)) : _ = 4 * f + 3)) ?_
  have fx : FX n ad sa z0 (sI (sI (sI (sI h (ad 5) (4 * f) a) (ad 5) (4 * f + 1) b) (ad 5) (4 * f + 2) c) (ad 5) (4 * f + 3) (nI (st + 1))) := (FX.sI fx)
  refine r_aload rfl rfl ?_
  refine r_dup rfl rfl ?_
  refine r_getI rfl ⟨rfl, rfl, rfl⟩ (fx_t4 fx) ?_
  refine WR_tI (y := nI f) (Eq.trans (I_ne (fx_ne fx (by decide))) (Eq.trans (I_ne (fx_ne fx (by decide))) (Eq.trans (I_ne (fx_ne fx (by decide))) (Eq.trans (I_ne (fx_ne fx (by decide))) e2)))) ?_
  refine r_ic (x := 1) rfl rfl ?_
  refine r_iadd rfl ?_
  refine WR_tI (y := nI (f + 1)) (Eq.trans (nI_add f 1) (congrArg nI (by omega))) ?_
  refine r_putI rfl ⟨rfl, rfl, rfl⟩ (fx_t4 fx) ?_
  have fx : FX n ad sa z0 (sI (sI (sI (sI (sI h (ad 5) (4 * f) a) (ad 5) (4 * f + 1) b) (ad 5) (4 * f + 2) c) (ad 5) (4 * f + 3) (nI (st + 1))) (ad 4) 2 (nI (f + 1))) := (FX.sI fx)
  refine r_vret rfl ?_
  exact (L1)

set_option maxHeartbeats 2000000 in
theorem w_kfg {d : Nat} {Q : mQ} {n : Nat} {ad sa : Nat → Nat} {z0 : Nat} {h : mH} (fx : FX n ad sa z0 h) (e2 : hI h (ad 4) 2 = 40) {a b c : Int32} 
    (L1 : Q none h) : EV (d + 1) 141 [.ref (ad 4), .int a, .int b, .int c] h Q := by
  have fx0 := fx
  refine in_141 (Nat.le_of_ble_eq_true rfl) ?_
  show WR _ cd_141 0 [some (.ref (ad 4)), some (.int a), some (.int b), some (.int c), none] [] h _
  refine r_aload rfl rfl ?_
  refine r_getI rfl ⟨rfl, rfl, rfl⟩ (fx_t4 fx) ?_
  refine WR_tI (y := 40) e2 ?_
  refine r_ic (x := 40) rfl rfl ?_
  refine r_icmp_ge (tg := 70) rfl rfl (fun _ => ?_) (fun q => absurd q (by decide))
  refine r_vret rfl ?_
  exact (L1)

set_option maxHeartbeats 2000000 in
theorem w_fal {d : Nat} {Q : mQ} {n : Nat} {ad sa : Nat → Nat} {z0 : Nat} {h : mH} (fx : FX n ad sa z0 h) {t fo st : Nat} (t6 : t < 6) (fo2 : fo ≤ 30000) (s2 : st ≤ 30000) (e65 : hI h (ad 30) 65 = nI fo) (e63 : hI h (ad 30) 63 = nI st) {b c : Int32} {f : Nat} (f4 : f < 40) (e64 : hI h (ad 30) 64 = nI f) 
    (L1 : Q none (sI (sI (sI (sI (sI (sI (sD (sI h (ad 66) t 4) (ad 68) t 0) (ad 30) 65 (nI (fo + 1))) (ad 74) (4 * f) (nI t)) (ad 74) (4 * f + 1) b) (ad 74) (4 * f + 2) c) (ad 74) (4 * f + 3) (nI (st + 1))) (ad 30) 64 (nI (f + 1)))) : EV (d + 1) 244 [.ref (ad 30), .int (nI t), .int b, .int c] h Q := by
  have fx0 := fx
  refine in_244 (Nat.le_of_ble_eq_true rfl) ?_
  show WR _ cd_244 0 [some (.ref (ad 30)), some (.int (nI t)), some (.int b), some (.int c)] [] h _
  refine r_aload rfl rfl ?_
  refine r_getA (b := ad 66) rfl ⟨rfl, rfl, rfl⟩ (fx_t30 fx) (fx_r30_53 fx) ?_
  refine r_iload rfl rfl ?_
  refine r_ic (x := 4) rfl rfl ?_
  refine r_iastore rfl (fx_t66 fx) (vp_ct (fx_n66 fx) (vp_in_nI (by omega) (by omega))) ?_
  refine WR_h (h2 := sI h (ad 66) t 4) (congrArg (fun z => sI h (ad 66) z 4) ((nI_clamp (by omega)) : _ = t)) ?_
  have fx : FX n ad sa z0 (sI h (ad 66) t 4) := (FX.sI fx)
  refine r_aload rfl rfl ?_
  refine r_getA (b := ad 68) rfl ⟨rfl, rfl, rfl⟩ (fx_t30 fx) (fx_r30_55 fx) ?_
  refine r_iload rfl rfl ?_
  refine r_dc (x := 0) rfl rfl ?_
  refine r_dastore rfl (fx_t68 fx) (vp_ct (fx_n68 fx) (vp_in_nI (by omega) (by omega))) ?_
  refine WR_h (h2 := sD (sI h (ad 66) t 4) (ad 68) t 0) (congrArg (fun z => sD (sI h (ad 66) t 4) (ad 68) z 0) ((nI_clamp (by omega)) : _ = t)) ?_
  have fx : FX n ad sa z0 (sD (sI h (ad 66) t 4) (ad 68) t 0) := (FX.sD fx)
  refine r_aload rfl rfl ?_
  refine r_dup rfl rfl ?_
  refine r_getI rfl ⟨rfl, rfl, rfl⟩ (fx_t30 fx) ?_
  refine WR_tI (y := nI fo) (Eq.trans I_oD (Eq.trans (I_ne (fx_ne fx (by decide))) e65)) ?_
  refine r_ic (x := 1) rfl rfl ?_
  refine r_iadd rfl ?_
  refine WR_tI (y := nI (fo + 1)) (Eq.trans (nI_add fo 1) (congrArg nI (by omega))) ?_
  refine r_putI rfl ⟨rfl, rfl, rfl⟩ (fx_t30 fx) ?_
  have fx : FX n ad sa z0 (sI (sD (sI h (ad 66) t 4) (ad 68) t 0) (ad 30) 65 (nI (fo + 1))) := (FX.sI fx)
  refine r_aload rfl rfl ?_
  refine r_getI rfl ⟨rfl, rfl, rfl⟩ (fx_t30 fx) ?_
  refine WR_tI (y := nI f) (Eq.trans (I_nk (by decide)) (Eq.trans I_oD (Eq.trans (I_ne (fx_ne fx (by decide))) e64))) ?_
  refine r_ic (x := 40) rfl rfl ?_
  refine r_icmp_ge (tg := 102) rfl rfl (fun q => False.elim (by have : (nI f).toInt = ((f : Nat) : Int) := nI_toInt (by omega); have : (40 : Int32).toInt = 40 := rfl; have := i_le q; omega)) (fun _ => ?_)
  refine r_aload rfl rfl ?_
  refine r_getA (b := ad 74) rfl ⟨rfl, rfl, rfl⟩ (fx_t30 fx) (fx_r30_66 fx) ?_
  refine r_ic (x := 4) rfl rfl ?_
  refine r_aload rfl rfl ?_
  refine r_getI rfl ⟨rfl, rfl, rfl⟩ (fx_t30 fx) ?_
  refine WR_tI (y := nI f) (Eq.trans (I_nk (by decide)) (Eq.trans I_oD (Eq.trans (I_ne (fx_ne fx (by decide))) e64))) ?_
  refine r_imul rfl ?_
  refine WR_tI (y := nI (4 * f)) (Eq.trans (pk_mul 4 f) (congrArg nI (by omega))) ?_
  refine r_iload rfl rfl ?_
  refine r_iastore rfl (fx_t74 fx) (vp_ct (fx_n74 fx) (vp_in_nI (by omega) (by omega))) ?_
  refine WR_h (h2 := sI (sI (sD (sI h (ad 66) t 4) (ad 68) t 0) (ad 30) 65 (nI (fo + 1))) (ad 74) (4 * f) (nI t)) (congrArg (fun z => sI (sI (sD (sI h (ad 66) t 4) (ad 68) t 0) (ad 30) 65 (nI (fo + 1))) (ad 74) z (nI t)) ((nI_clamp (by omega)) : _ = 4 * f)) ?_
  have fx : FX n ad sa z0 (sI (sI (sD (sI h (ad 66) t 4) (ad 68) t 0) (ad 30) 65 (nI (fo + 1))) (ad 74) (4 * f) (nI t)) := (FX.sI fx)
  refine r_aload rfl rfl ?_
  refine r_getA (b := ad 74) rfl ⟨rfl, rfl, rfl⟩ (fx_t30 fx) (fx_r30_66 fx) ?_
  refine r_ic (x := 4) rfl rfl ?_
  refine r_aload rfl rfl ?_
  refine r_getI rfl ⟨rfl, rfl, rfl⟩ (fx_t30 fx) ?_
  refine WR_tI (y := nI f) (Eq.trans (I_ne (fx_ne fx (by decide))) (Eq.trans (I_nk (by decide)) (Eq.trans I_oD (Eq.trans (I_ne (fx_ne fx (by decide))) e64)))) ?_
  refine r_imul rfl ?_
  refine WR_tI (y := nI (4 * f)) (Eq.trans (pk_mul 4 f) (congrArg nI (by omega))) ?_
  refine r_ic (x := 1) rfl rfl ?_
  refine r_iadd rfl ?_
  refine WR_tI (y := nI (4 * f + 1)) (Eq.trans (nI_add (4 * f) 1) (congrArg nI (by omega))) ?_
  refine r_iload rfl rfl ?_
  refine r_iastore rfl (fx_t74 fx) (vp_ct (fx_n74 fx) (vp_in_nI (by omega) (by omega))) ?_
  refine WR_h (h2 := sI (sI (sI (sD (sI h (ad 66) t 4) (ad 68) t 0) (ad 30) 65 (nI (fo + 1))) (ad 74) (4 * f) (nI t)) (ad 74) (4 * f + 1) b) (congrArg (fun z => sI (sI (sI (sD (sI h (ad 66) t 4) (ad 68) t 0) (ad 30) 65 (nI (fo + 1))) (ad 74) (4 * f) (nI t)) (ad 74) z b) ((nI_clamp (by omega)) : _ = 4 * f + 1)) ?_
  have fx : FX n ad sa z0 (sI (sI (sI (sD (sI h (ad 66) t 4) (ad 68) t 0) (ad 30) 65 (nI (fo + 1))) (ad 74) (4 * f) (nI t)) (ad 74) (4 * f + 1) b) := (FX.sI fx)
  refine r_aload rfl rfl ?_
  refine r_getA (b := ad 74) rfl ⟨rfl, rfl, rfl⟩ (fx_t30 fx) (fx_r30_66 fx) ?_
  refine r_ic (x := 4) rfl rfl ?_
  refine r_aload rfl rfl ?_
  refine r_getI rfl ⟨rfl, rfl, rfl⟩ (fx_t30 fx) ?_
  refine WR_tI (y := nI f) (Eq.trans (I_ne (fx_ne fx (by decide))) (Eq.trans (I_ne (fx_ne fx (by decide))) (Eq.trans (I_nk (by decide)) (Eq.trans I_oD (Eq.trans (I_ne (fx_ne fx (by decide))) e64))))) ?_
  refine r_imul rfl ?_
  refine WR_tI (y := nI (4 * f)) (Eq.trans (pk_mul 4 f) (congrArg nI (by omega))) ?_
  refine r_ic (x := 2) rfl rfl ?_
  refine r_iadd rfl ?_
  refine WR_tI (y := nI (4 * f + 2)) (Eq.trans (nI_add (4 * f) 2) (congrArg nI (by omega))) ?_
  refine r_iload rfl rfl ?_
  refine r_iastore rfl (fx_t74 fx) (vp_ct (fx_n74 fx) (vp_in_nI (by omega) (by omega))) ?_
  refine WR_h (h2 := sI (sI (sI (sI (sD (sI h (ad 66) t 4) (ad 68) t 0) (ad 30) 65 (nI (fo + 1))) (ad 74) (4 * f) (nI t)) (ad 74) (4 * f + 1) b) (ad 74) (4 * f + 2) c) (congrArg (fun z => sI (sI (sI (sI (sD (sI h (ad 66) t 4) (ad 68) t 0) (ad 30) 65 (nI (fo + 1))) (ad 74) (4 * f) (nI t)) (ad 74) (4 * f + 1) b) (ad 74) z c) ((nI_clamp (by omega)) : _ = 4 * f + 2)) ?_
  have fx : FX n ad sa z0 (sI (sI (sI (sI (sD (sI h (ad 66) t 4) (ad 68) t 0) (ad 30) 65 (nI (fo + 1))) (ad 74) (4 * f) (nI t)) (ad 74) (4 * f + 1) b) (ad 74) (4 * f + 2) c) := (FX.sI fx)
  refine r_aload rfl rfl ?_
  refine r_getA (b := ad 74) rfl ⟨rfl, rfl, rfl⟩ (fx_t30 fx) (fx_r30_66 fx) ?_
  refine r_ic (x := 4) rfl rfl ?_
  refine r_aload rfl rfl ?_
  refine r_getI rfl ⟨rfl, rfl, rfl⟩ (fx_t30 fx) ?_
  refine WR_tI (y := nI f) (Eq.trans (I_ne (fx_ne fx (by decide))) (Eq.trans (I_ne (fx_ne fx (by decide))) (Eq.trans (I_ne (fx_ne fx (by decide))) (Eq.trans (I_nk (by decide)) (Eq.trans I_oD (Eq.trans (I_ne (fx_ne fx (by decide))) e64)))))) ?_
  refine r_imul rfl ?_
  refine WR_tI (y := nI (4 * f)) (Eq.trans (pk_mul 4 f) (congrArg nI (by omega))) ?_
  refine r_ic (x := 3) rfl rfl ?_
  refine r_iadd rfl ?_
  refine WR_tI (y := nI (4 * f + 3)) (Eq.trans (nI_add (4 * f) 3) (congrArg nI (by omega))) ?_
  refine r_aload rfl rfl ?_
  refine r_getI rfl ⟨rfl, rfl, rfl⟩ (fx_t30 fx) ?_
  refine WR_tI (y := nI st) (Eq.trans (I_ne (fx_ne fx (by decide))) (Eq.trans (I_ne (fx_ne fx (by decide))) (Eq.trans (I_ne (fx_ne fx (by decide))) (Eq.trans (I_nk (by decide)) (Eq.trans I_oD (Eq.trans (I_ne (fx_ne fx (by decide))) e63)))))) ?_
  refine r_ic (x := 1) rfl rfl ?_
  refine r_iadd rfl ?_
  refine WR_tI (y := nI (st + 1)) (Eq.trans (nI_add st 1) (congrArg nI (by omega))) ?_
  refine r_iastore rfl (fx_t74 fx) (vp_ct (fx_n74 fx) (vp_in_nI (by omega) (by omega))) ?_
  refine WR_h (h2 := sI (sI (sI (sI (sI (sD (sI h (ad 66) t 4) (ad 68) t 0) (ad 30) 65 (nI (fo + 1))) (ad 74) (4 * f) (nI t)) (ad 74) (4 * f + 1) b) (ad 74) (4 * f + 2) c) (ad 74) (4 * f + 3) (nI (st + 1))) (congrArg (fun z => sI (sI (sI (sI (sI (sD (sI h (ad 66) t 4) (ad 68) t 0) (ad 30) 65 (nI (fo + 1))) (ad 74) (4 * f) (nI t)) (ad 74) (4 * f + 1) b) (ad 74) (4 * f + 2) c) (ad 74) z (nI (st + 1))) ((nI_clamp (by omega)) : _ = 4 * f + 3)) ?_
  have fx : FX n ad sa z0 (sI (sI (sI (sI (sI (sD (sI h (ad 66) t 4) (ad 68) t 0) (ad 30) 65 (nI (fo + 1))) (ad 74) (4 * f) (nI t)) (ad 74) (4 * f + 1) b) (ad 74) (4 * f + 2) c) (ad 74) (4 * f + 3) (nI (st + 1))) := (FX.sI fx)
  refine r_aload rfl rfl ?_
  refine r_dup rfl rfl ?_
  refine r_getI rfl ⟨rfl, rfl, rfl⟩ (fx_t30 fx) ?_
  refine WR_tI (y := nI f) (Eq.trans (I_ne (fx_ne fx (by decide))) (Eq.trans (I_ne (fx_ne fx (by decide))) (Eq.trans (I_ne (fx_ne fx (by decide))) (Eq.trans (I_ne (fx_ne fx (by decide))) (Eq.trans (I_nk (by decide)) (Eq.trans I_oD (Eq.trans (I_ne (fx_ne fx (by decide))) e64))))))) ?_
  refine r_ic (x := 1) rfl rfl ?_
  refine r_iadd rfl ?_
  refine WR_tI (y := nI (f + 1)) (Eq.trans (nI_add f 1) (congrArg nI (by omega))) ?_
  refine r_putI rfl ⟨rfl, rfl, rfl⟩ (fx_t30 fx) ?_
  have fx : FX n ad sa z0 (sI (sI (sI (sI (sI (sI (sD (sI h (ad 66) t 4) (ad 68) t 0) (ad 30) 65 (nI (fo + 1))) (ad 74) (4 * f) (nI t)) (ad 74) (4 * f + 1) b) (ad 74) (4 * f + 2) c) (ad 74) (4 * f + 3) (nI (st + 1))) (ad 30) 64 (nI (f + 1))) := (FX.sI fx)
  refine r_vret rfl ?_
  exact (L1)

set_option maxHeartbeats 2000000 in
theorem w_fag {d : Nat} {Q : mQ} {n : Nat} {ad sa : Nat → Nat} {z0 : Nat} {h : mH} (fx : FX n ad sa z0 h) {t fo st : Nat} (t6 : t < 6) (fo2 : fo ≤ 30000) (s2 : st ≤ 30000) (e65 : hI h (ad 30) 65 = nI fo) (e63 : hI h (ad 30) 63 = nI st) {b c : Int32} (e64 : hI h (ad 30) 64 = 40) 
    (L1 : Q none (sI (sD (sI h (ad 66) t 4) (ad 68) t 0) (ad 30) 65 (nI (fo + 1)))) : EV (d + 1) 244 [.ref (ad 30), .int (nI t), .int b, .int c] h Q := by
  have fx0 := fx
  refine in_244 (Nat.le_of_ble_eq_true rfl) ?_
  show WR _ cd_244 0 [some (.ref (ad 30)), some (.int (nI t)), some (.int b), some (.int c)] [] h _
  refine r_aload rfl rfl ?_
  refine r_getA (b := ad 66) rfl ⟨rfl, rfl, rfl⟩ (fx_t30 fx) (fx_r30_53 fx) ?_
  refine r_iload rfl rfl ?_
  refine r_ic (x := 4) rfl rfl ?_
  refine r_iastore rfl (fx_t66 fx) (vp_ct (fx_n66 fx) (vp_in_nI (by omega) (by omega))) ?_
  refine WR_h (h2 := sI h (ad 66) t 4) (congrArg (fun z => sI h (ad 66) z 4) ((nI_clamp (by omega)) : _ = t)) ?_
  have fx : FX n ad sa z0 (sI h (ad 66) t 4) := (FX.sI fx)
  refine r_aload rfl rfl ?_
  refine r_getA (b := ad 68) rfl ⟨rfl, rfl, rfl⟩ (fx_t30 fx) (fx_r30_55 fx) ?_
  refine r_iload rfl rfl ?_
  refine r_dc (x := 0) rfl rfl ?_
  refine r_dastore rfl (fx_t68 fx) (vp_ct (fx_n68 fx) (vp_in_nI (by omega) (by omega))) ?_
  refine WR_h (h2 := sD (sI h (ad 66) t 4) (ad 68) t 0) (congrArg (fun z => sD (sI h (ad 66) t 4) (ad 68) z 0) ((nI_clamp (by omega)) : _ = t)) ?_
  have fx : FX n ad sa z0 (sD (sI h (ad 66) t 4) (ad 68) t 0) := (FX.sD fx)
  refine r_aload rfl rfl ?_
  refine r_dup rfl rfl ?_
  refine r_getI rfl ⟨rfl, rfl, rfl⟩ (fx_t30 fx) ?_
  refine WR_tI (y := nI fo) (Eq.trans I_oD (Eq.trans (I_ne (fx_ne fx (by decide))) e65)) ?_
  refine r_ic (x := 1) rfl rfl ?_
  refine r_iadd rfl ?_
  refine WR_tI (y := nI (fo + 1)) (Eq.trans (nI_add fo 1) (congrArg nI (by omega))) ?_
  refine r_putI rfl ⟨rfl, rfl, rfl⟩ (fx_t30 fx) ?_
  have fx : FX n ad sa z0 (sI (sD (sI h (ad 66) t 4) (ad 68) t 0) (ad 30) 65 (nI (fo + 1))) := (FX.sI fx)
  refine r_aload rfl rfl ?_
  refine r_getI rfl ⟨rfl, rfl, rfl⟩ (fx_t30 fx) ?_
  refine WR_tI (y := 40) (Eq.trans (I_nk (by decide)) (Eq.trans I_oD (Eq.trans (I_ne (fx_ne fx (by decide))) e64))) ?_
  refine r_ic (x := 40) rfl rfl ?_
  refine r_icmp_ge (tg := 102) rfl rfl (fun _ => ?_) (fun q => absurd q (by decide))
  refine r_vret rfl ?_
  exact (L1)

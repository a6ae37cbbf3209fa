/-! ===== walks of the reference's steps of an act; printed ===== -/
set_option maxHeartbeats 2000000 in
theorem w_m0 {d : Nat} {Q : mQ} {n : Nat} {ad sa : Nat → Nat} {z0 : Nat} {h : mH} (fx : FX n ad sa z0 h) {a H : Nat} (ha : a < 24) {b c v : Int32} (e1 : hI h (ad 31) a = v) (hH : H < 100) (eh : hI h (ad 30) 37 = nI H) 
    (L1 : ¬ v = (-1) → Q (some (.int 0)) (sI (sI (sI (sI h (ad 54) H v) (ad 55) H (nI a)) (ad 30) 37 (nI (H + 1))) (ad 31) a (-1)))
    (L2 : v = (-1) → Q (some (.int 1)) h) : EV (d + 2) 216 [.ref (ad 30), .int 0, .int (nI a), .int b, .int c] h Q := by
  have fx0 := fx
  refine in_216 (Nat.le_of_ble_eq_true rfl) ?_
  show WR _ cd_216 0 [some (.ref (ad 30)), some (.int 0), some (.int (nI a)), some (.int b), some (.int c), none] [] h _
  refine r_iload rfl rfl ?_
  refine r_tswL (tg := 72) rfl (by decide) ?_
  refine r_aload rfl rfl ?_
  refine r_getA (b := ad 31) rfl ⟨rfl, rfl, rfl⟩ (fx_t30 fx) (fx_r30_0 fx) ?_
  refine r_iload rfl rfl ?_
  refine r_iaload rfl (.inl (fx_t31 fx)) (vp_ct (fx_n31 fx) (vp_in_nI (by omega) (by omega))) ?_
  refine WR_tI (congrArg (hI h (ad 31)) ((nI_clamp (by omega)) : _ = a)) ?_
  refine WR_tI (y := v) e1 ?_
  refine r_ic (x := (-1)) rfl rfl ?_
  refine r_icmp_ne (tg := 84) rfl rfl (fun c1 => ?_) (fun c1 => ?_)
  · refine r_aload rfl rfl ?_
    refine r_aload rfl rfl ?_
    refine r_getA (b := ad 31) rfl ⟨rfl, rfl, rfl⟩ (fx_t30 fx) (fx_r30_0 fx) ?_
    refine r_iload rfl rfl ?_
    refine r_iaload rfl (.inl (fx_t31 fx)) (vp_ct (fx_n31 fx) (vp_in_nI (by omega) (by omega))) ?_
    refine WR_tI (congrArg (hI h (ad 31)) ((nI_clamp (by omega)) : _ = a)) ?_
    refine WR_tI (y := v) e1 ?_
    refine r_iload rfl rfl ?_
    refine r_cv (y := 217) (ra := [.int (nI a), .int v]) (rest := []) rfl ⟨⟨rfl, rfl⟩, rfl, by decide⟩ (fx_t30 fx) rfl rfl (Nat.le_of_ble_eq_true rfl) ?_
    refine in_217 (Nat.le_of_ble_eq_true rfl) ?_
    show WR _ cd_217 0 [some (.ref (ad 30)), some (.int v), some (.int (nI a))] [] h _
    refine r_aload rfl rfl ?_
    refine r_getA (b := ad 54) rfl ⟨rfl, rfl, rfl⟩ (fx_t30 fx) (fx_r30_38 fx) ?_
    refine r_aload rfl rfl ?_
    refine r_getI rfl ⟨rfl, rfl, rfl⟩ (fx_t30 fx) ?_
    refine WR_tI (y := nI H) eh ?_
    refine r_iload rfl rfl ?_
    refine r_iastore rfl (fx_t54 fx) (vp_ct (fx_n54 fx) (vp_in_nI (by omega) (by omega))) ?_
    refine WR_h (h2 := sI h (ad 54) H v) (congrArg (fun z => sI h (ad 54) z v) ((nI_clamp (by omega)) : _ = H)) ?_
    have fx : FX n ad sa z0 (sI h (ad 54) H v) := (FX.sI fx)
    refine r_aload rfl rfl ?_
    refine r_getA (b := ad 55) rfl ⟨rfl, rfl, rfl⟩ (fx_t30 fx) (fx_r30_39 fx) ?_
    refine r_aload rfl rfl ?_
    refine r_getI rfl ⟨rfl, rfl, rfl⟩ (fx_t30 fx) ?_
    refine WR_tI (y := nI H) (Eq.trans (I_ne (fx_ne fx (by decide))) eh) ?_
    refine r_iload rfl rfl ?_
    refine r_iastore rfl (fx_t55 fx) (vp_ct (fx_n55 fx) (vp_in_nI (by omega) (by omega))) ?_
    refine WR_h (h2 := sI (sI h (ad 54) H v) (ad 55) H (nI a)) (congrArg (fun z => sI (sI h (ad 54) H v) (ad 55) z (nI a)) ((nI_clamp (by omega)) : _ = H)) ?_
    have fx : FX n ad sa z0 (sI (sI h (ad 54) H v) (ad 55) H (nI a)) := (FX.sI fx)
    refine r_aload rfl rfl ?_
    refine r_dup rfl rfl ?_
    refine r_getI rfl ⟨rfl, rfl, rfl⟩ (fx_t30 fx) ?_
    refine WR_tI (y := nI H) (Eq.trans (I_ne (fx_ne fx (by decide))) (Eq.trans (I_ne (fx_ne fx (by decide))) eh)) ?_
    refine r_ic (x := 1) rfl rfl ?_
    refine r_iadd rfl ?_
    refine WR_tI (y := nI (H + 1)) (Eq.trans (nI_add H 1) (congrArg nI (by omega))) ?_
    refine r_putI rfl ⟨rfl, rfl, rfl⟩ (fx_t30 fx) ?_
    have fx : FX n ad sa z0 (sI (sI (sI h (ad 54) H v) (ad 55) H (nI a)) (ad 30) 37 (nI (H + 1))) := (FX.sI fx)
    refine r_vret rfl ?_
    show WR _ cd_216 95 [some (.ref (ad 30)), some (.int 0), some (.int (nI a)), some (.int b), some (.int c), none] [] (sI (sI (sI h (ad 54) H v) (ad 55) H (nI a)) (ad 30) 37 (nI (H + 1))) _
    refine r_aload rfl rfl ?_
    refine r_getA (b := ad 31) rfl ⟨rfl, rfl, rfl⟩ (fx_t30 fx) (fx_r30_0 fx) ?_
    refine r_iload rfl rfl ?_
    refine r_ic (x := (-1)) rfl rfl ?_
    refine r_iastore rfl (fx_t31 fx) (vp_ct (fx_n31 fx) (vp_in_nI (by omega) (by omega))) ?_
    refine WR_h (h2 := sI (sI (sI (sI h (ad 54) H v) (ad 55) H (nI a)) (ad 30) 37 (nI (H + 1))) (ad 31) a (-1)) (congrArg (fun z => sI (sI (sI (sI h (ad 54) H v) (ad 55) H (nI a)) (ad 30) 37 (nI (H + 1))) (ad 31) z (-1)) ((nI_clamp (by omega)) : _ = a)) ?_
    have fx : FX n ad sa z0 (sI (sI (sI (sI h (ad 54) H v) (ad 55) H (nI a)) (ad 30) 37 (nI (H + 1))) (ad 31) a (-1)) := (FX.sI fx)
    refine r_ic (x := 0) rfl rfl ?_
    refine r_iret rfl ?_
    exact (L1 c1)
  · refine r_ic (x := 1) rfl rfl ?_
    refine r_iret rfl ?_
    exact (L2 c1)

set_option maxHeartbeats 2000000 in
theorem w_m1z {d : Nat} {Q : mQ} {n : Nat} {ad sa : Nat → Nat} {z0 : Nat} {h : mH} (fx : FX n ad sa z0 h) {a : Nat} {b c : Int32} (eh : hI h (ad 30) 37 = 0) 
    (L1 : Q (some (.int 1)) h) : EV (d + 1) 216 [.ref (ad 30), .int 1, .int (nI a), .int b, .int c] h Q := by
  have fx0 := fx
  refine in_216 (Nat.le_of_ble_eq_true rfl) ?_
  show WR _ cd_216 0 [some (.ref (ad 30)), some (.int 1), some (.int (nI a)), some (.int b), some (.int c), none] [] h _
  refine r_iload rfl rfl ?_
  refine r_tswL (tg := 104) rfl (by decide) ?_
  refine r_aload rfl rfl ?_
  refine r_getI rfl ⟨rfl, rfl, rfl⟩ (fx_t30 fx) ?_
  refine WR_tI (y := 0) eh ?_
  refine r_if_ne (tg := 113) rfl rfl (fun q => absurd q (by decide)) (fun _ => ?_)
  refine r_ic (x := 1) rfl rfl ?_
  refine r_iret rfl ?_
  exact (L1)

set_option maxHeartbeats 2000000 in
theorem w_m1 {d : Nat} {Q : mQ} {n : Nat} {ad sa : Nat → Nat} {z0 : Nat} {h : mH} (fx : FX n ad sa z0 h) {a H : Nat} (ha : a < 24) {b c v : Int32} (e1 : hI h (ad 31) a = v) (hH1 : 1 ≤ H) (hH : H ≤ 100) (eh : hI h (ad 30) 37 = nI H) 
    (L1 : v = (-1) → Q (some (.int 0)) (sI (sI h (ad 30) 37 (nI (H - 1))) (ad 31) a (hI h (ad 54) (H - 1))))
    (L2 : ¬ v = (-1) → Q (some (.int 5)) h) : EV (d + 1) 216 [.ref (ad 30), .int 1, .int (nI a), .int b, .int c] h Q := by
  have fx0 := fx
  refine in_216 (Nat.le_of_ble_eq_true rfl) ?_
  show WR _ cd_216 0 [some (.ref (ad 30)), some (.int 1), some (.int (nI a)), some (.int b), some (.int c), none] [] h _
  refine r_iload rfl rfl ?_
  refine r_tswL (tg := 104) rfl (by decide) ?_
  refine r_aload rfl rfl ?_
  refine r_getI rfl ⟨rfl, rfl, rfl⟩ (fx_t30 fx) ?_
  refine WR_tI (y := nI H) eh ?_
  refine r_if_ne (tg := 113) rfl rfl (fun _ => ?_) (fun q => False.elim (by have : (nI H).toInt = ((H : Nat) : Int) := nI_toInt (by omega); have : (0 : Int32).toInt = 0 := rfl; have := i_eq q; omega))
  refine r_aload rfl rfl ?_
  refine r_getA (b := ad 31) rfl ⟨rfl, rfl, rfl⟩ (fx_t30 fx) (fx_r30_0 fx) ?_
  refine r_iload rfl rfl ?_
  refine r_iaload rfl (.inl (fx_t31 fx)) (vp_ct (fx_n31 fx) (vp_in_nI (by omega) (by omega))) ?_
  refine WR_tI (congrArg (hI h (ad 31)) ((nI_clamp (by omega)) : _ = a)) ?_
  refine WR_tI (y := v) e1 ?_
  refine r_ic (x := (-1)) rfl rfl ?_
  refine r_icmp_eq (tg := 125) rfl rfl (fun c1 => ?_) (fun c1 => ?_)
  · refine r_aload rfl rfl ?_
    refine r_dup rfl rfl ?_
    refine r_getI rfl ⟨rfl, rfl, rfl⟩ (fx_t30 fx) ?_
    refine WR_tI (y := nI H) eh ?_
    refine r_ic (x := 1) rfl rfl ?_
    refine r_isub rfl ?_
    refine WR_tI (y := nI (H - 1)) (Eq.trans (pk_sub (a := H) (b := 1) (by omega)) (congrArg nI (by omega))) ?_
    refine r_putI rfl ⟨rfl, rfl, rfl⟩ (fx_t30 fx) ?_
    have fx : FX n ad sa z0 (sI h (ad 30) 37 (nI (H - 1))) := (FX.sI fx)
    refine r_aload rfl rfl ?_
    refine r_getA (b := ad 31) rfl ⟨rfl, rfl, rfl⟩ (fx_t30 fx) (fx_r30_0 fx) ?_
    refine r_iload rfl rfl ?_
    refine r_aload rfl rfl ?_
    refine r_getA (b := ad 54) rfl ⟨rfl, rfl, rfl⟩ (fx_t30 fx) (fx_r30_38 fx) ?_
    refine r_aload rfl rfl ?_
    refine r_getI rfl ⟨rfl, rfl, rfl⟩ (fx_t30 fx) ?_
    refine WR_tI (y := nI (H - 1)) I_eq ?_
    refine r_iaload rfl (.inl (fx_t54 fx)) (vp_ct (fx_n54 fx) (vp_in_nI (by omega) (by omega))) ?_
    refine WR_tI (congrArg (hI (sI h (ad 30) 37 (nI (H - 1))) (ad 54)) ((nI_clamp (by omega)) : _ = H - 1)) ?_
    refine WR_tI (y := hI h (ad 54) (H - 1)) (I_ne (fx_ne fx (by decide))) ?_
    refine r_iastore rfl (fx_t31 fx) (vp_ct (fx_n31 fx) (vp_in_nI (by omega) (by omega))) ?_
    refine WR_h (h2 := sI (sI h (ad 30) 37 (nI (H - 1))) (ad 31) a (hI h (ad 54) (H - 1))) (congrArg (fun z => sI (sI h (ad 30) 37 (nI (H - 1))) (ad 31) z (hI h (ad 54) (H - 1))) ((nI_clamp (by omega)) : _ = a)) ?_
    have fx : FX n ad sa z0 (sI (sI h (ad 30) 37 (nI (H - 1))) (ad 31) a (hI h (ad 54) (H - 1))) := (FX.sI fx)
    refine r_ic (x := 0) rfl rfl ?_
    refine r_iret rfl ?_
    exact (L1 c1)
  · refine r_ic (x := 5) rfl rfl ?_
    refine r_iret rfl ?_
    exact (L2 c1)

set_option maxHeartbeats 2000000 in
theorem w_m2n {d : Nat} {Q : mQ} {n : Nat} {ad sa : Nat → Nat} {z0 : Nat} {h : mH} (fx : FX n ad sa z0 h) {a : Nat} (ha : a < 24) {b c : Int32} (e1 : hI h (ad 31) a = -1) 
    (L1 : Q (some (.int 1)) h) : EV (d + 2) 216 [.ref (ad 30), .int 2, .int (nI a), .int b, .int c] h Q := by
  have fx0 := fx
  refine in_216 (Nat.le_of_ble_eq_true rfl) ?_
  show WR _ cd_216 0 [some (.ref (ad 30)), some (.int 2), some (.int (nI a)), some (.int b), some (.int c), none] [] h _
  refine r_iload rfl rfl ?_
  refine r_tswL (tg := 152) rfl (by decide) ?_
  refine r_aload rfl rfl ?_
  refine r_aload rfl rfl ?_
  refine r_getA (b := ad 31) rfl ⟨rfl, rfl, rfl⟩ (fx_t30 fx) (fx_r30_0 fx) ?_
  refine r_iload rfl rfl ?_
  refine r_iaload rfl (.inl (fx_t31 fx)) (vp_ct (fx_n31 fx) (vp_in_nI (by omega) (by omega))) ?_
  refine WR_tI (congrArg (hI h (ad 31)) ((nI_clamp (by omega)) : _ = a)) ?_
  refine WR_tI (y := (-1)) e1 ?_
  refine r_ic (x := 3) rfl rfl ?_
  refine r_iload rfl rfl ?_
  refine r_cv (y := 168) (ra := [.int b, .int 3, .int (-1)]) (rest := []) rfl ⟨⟨rfl, rfl⟩, rfl, by decide⟩ (fx_t30 fx) rfl rfl (Nat.le_of_ble_eq_true rfl) ?_
  refine in_168 (Nat.le_of_ble_eq_true rfl) ?_
  show WR _ cd_168 0 [some (.ref (ad 30)), some (.int (-1)), some (.int 3), some (.int b)] [] h _
  refine r_iload rfl rfl ?_
  refine r_ic (x := (-1)) rfl rfl ?_
  refine r_icmp_eq (tg := 18) rfl rfl (fun _ => ?_) (fun q => absurd q (by decide))
  refine r_iload rfl rfl ?_
  refine r_ic (x := (-1)) rfl rfl ?_
  refine r_icmp_ne (tg := 27) rfl rfl (fun q => absurd q (by decide)) (fun _ => ?_)
  refine r_ic (x := 1) rfl rfl ?_
  refine r_goto (tg := 50) rfl rfl ?_
  refine r_iret rfl ?_
  show WR _ cd_216 164 [some (.ref (ad 30)), some (.int 2), some (.int (nI a)), some (.int b), some (.int c), none] [.int 1] h _
  refine r_istore (lv' := [some (.ref (ad 30)), some (.int 2), some (.int (nI a)), some (.int b), some (.int c), some (.int 1)]) rfl (Nat.le_of_ble_eq_true rfl) rfl ?_
  refine r_iload rfl rfl ?_
  refine r_if_ne (tg := 190) rfl rfl (fun _ => ?_) (fun q => absurd q (by decide))
  refine r_iload rfl rfl ?_
  refine r_iret rfl ?_
  exact (L1)

set_option maxHeartbeats 2000000 in
theorem w_m2q {d : Nat} {Q : mQ} {n : Nat} {ad sa : Nat → Nat} {z0 : Nat} {h : mH} (fx : FX n ad sa z0 h) {a qp : Nat} (ha : a < 24) (hq : qp < 60) {b c : Int32} (e1 : hI h (ad 31) a = nI (1000 + qp)) 
    (L1 : Q (some (.int 4)) h) : EV (d + 3) 216 [.ref (ad 30), .int 2, .int (nI a), .int b, .int c] h Q := by
  have fx0 := fx
  refine in_216 (Nat.le_of_ble_eq_true rfl) ?_
  show WR _ cd_216 0 [some (.ref (ad 30)), some (.int 2), some (.int (nI a)), some (.int b), some (.int c), none] [] h _
  refine r_iload rfl rfl ?_
  refine r_tswL (tg := 152) rfl (by decide) ?_
  refine r_aload rfl rfl ?_
  refine r_aload rfl rfl ?_
  refine r_getA (b := ad 31) rfl ⟨rfl, rfl, rfl⟩ (fx_t30 fx) (fx_r30_0 fx) ?_
  refine r_iload rfl rfl ?_
  refine r_iaload rfl (.inl (fx_t31 fx)) (vp_ct (fx_n31 fx) (vp_in_nI (by omega) (by omega))) ?_
  refine WR_tI (congrArg (hI h (ad 31)) ((nI_clamp (by omega)) : _ = a)) ?_
  refine WR_tI (y := nI (qp + 1000)) (Eq.trans e1 (congrArg nI (Nat.add_comm 1000 qp))) ?_
  refine r_ic (x := 3) rfl rfl ?_
  refine r_iload rfl rfl ?_
  refine r_cv (y := 168) (ra := [.int b, .int 3, .int (nI (qp + 1000))]) (rest := []) rfl ⟨⟨rfl, rfl⟩, rfl, by decide⟩ (fx_t30 fx) rfl rfl (Nat.le_of_ble_eq_true rfl) ?_
  refine in_168 (Nat.le_of_ble_eq_true rfl) ?_
  show WR _ cd_168 0 [some (.ref (ad 30)), some (.int (nI (qp + 1000))), some (.int 3), some (.int b)] [] h _
  refine r_iload rfl rfl ?_
  refine r_ic (x := (-1)) rfl rfl ?_
  refine r_icmp_eq (tg := 18) rfl rfl (fun q => False.elim (by have : (nI (qp + 1000)).toInt = ((qp + 1000 : Nat) : Int) := nI_toInt (by omega); have : (-1 : Int32).toInt = -1 := rfl; have := i_eq q; omega)) (fun _ => ?_)
  refine r_aload rfl rfl ?_
  refine r_iload rfl rfl ?_
  refine r_cv (y := 166) (ra := [.int (nI (qp + 1000))]) (rest := []) rfl ⟨⟨rfl, rfl⟩, rfl, by decide⟩ (fx_t30 fx) rfl rfl (Nat.le_of_ble_eq_true rfl) ?_
  refine in_166 (Nat.le_of_ble_eq_true rfl) ?_
  show WR _ cd_166 0 [some (.ref (ad 30)), some (.int (nI (qp + 1000)))] [] h _
  refine r_iload rfl rfl ?_
  refine r_ic (x := (-1)) rfl rfl ?_
  refine r_icmp_ne (tg := 9) rfl rfl (fun _ => ?_) (fun q => False.elim (by have : (nI (qp + 1000)).toInt = ((qp + 1000 : Nat) : Int) := nI_toInt (by omega); have : (-1 : Int32).toInt = -1 := rfl; have := i_eq q; omega))
  refine r_iload rfl rfl ?_
  refine r_ic (x := 1000) rfl rfl ?_
  refine r_icmp_lt (tg := 21) rfl rfl (fun q => False.elim (by have : (nI (qp + 1000)).toInt = ((qp + 1000 : Nat) : Int) := nI_toInt (by omega); have : (1000 : Int32).toInt = 1000 := rfl; have := i_lt q; omega)) (fun _ => ?_)
  refine r_ic (x := 10) rfl rfl ?_
  refine r_goto (tg := 27) rfl rfl ?_
  refine r_iret rfl ?_
  show WR _ cd_168 10 [some (.ref (ad 30)), some (.int (nI (qp + 1000))), some (.int 3), some (.int b)] [.int 10] h _
  refine r_iload rfl rfl ?_
  refine r_icmp_eq (tg := 18) rfl rfl (fun q => absurd q (by decide)) (fun _ => ?_)
  refine r_ic (x := 4) rfl rfl ?_
  refine r_goto (tg := 50) rfl rfl ?_
  refine r_iret rfl ?_
  show WR _ cd_216 164 [some (.ref (ad 30)), some (.int 2), some (.int (nI a)), some (.int b), some (.int c), none] [.int 4] h _
  refine r_istore (lv' := [some (.ref (ad 30)), some (.int 2), some (.int (nI a)), some (.int b), some (.int c), some (.int 4)]) rfl (Nat.le_of_ble_eq_true rfl) rfl ?_
  refine r_iload rfl rfl ?_
  refine r_if_ne (tg := 190) rfl rfl (fun _ => ?_) (fun q => absurd q (by decide))
  refine r_iload rfl rfl ?_
  refine r_iret rfl ?_
  exact (L1)

set_option maxHeartbeats 2000000 in
theorem w_m2l {d : Nat} {Q : mQ} {n : Nat} {ad sa : Nat → Nat} {z0 : Nat} {h : mH} (fx : FX n ad sa z0 h) {a t ln : Nat} (ha : a < 24) (ht : t < 250) (l9 : ln ≤ 9) {b c : Int32} (e1 : hI h (ad 31) a = nI t) (s1 : hI h (ad 33) t = nI ln) (l3 : ln ≠ 3) 
    (L1 : Q (some (.int 4)) h) : EV (d + 3) 216 [.ref (ad 30), .int 2, .int (nI a), .int b, .int c] h Q := by
  have fx0 := fx
  refine in_216 (Nat.le_of_ble_eq_true rfl) ?_
  show WR _ cd_216 0 [some (.ref (ad 30)), some (.int 2), some (.int (nI a)), some (.int b), some (.int c), none] [] h _
  refine r_iload rfl rfl ?_
  refine r_tswL (tg := 152) rfl (by decide) ?_
  refine r_aload rfl rfl ?_
  refine r_aload rfl rfl ?_
  refine r_getA (b := ad 31) rfl ⟨rfl, rfl, rfl⟩ (fx_t30 fx) (fx_r30_0 fx) ?_
  refine r_iload rfl rfl ?_
  refine r_iaload rfl (.inl (fx_t31 fx)) (vp_ct (fx_n31 fx) (vp_in_nI (by omega) (by omega))) ?_
  refine WR_tI (congrArg (hI h (ad 31)) ((nI_clamp (by omega)) : _ = a)) ?_
  refine WR_tI (y := nI t) e1 ?_
  refine r_ic (x := 3) rfl rfl ?_
  refine r_iload rfl rfl ?_
  refine r_cv (y := 168) (ra := [.int b, .int 3, .int (nI t)]) (rest := []) rfl ⟨⟨rfl, rfl⟩, rfl, by decide⟩ (fx_t30 fx) rfl rfl (Nat.le_of_ble_eq_true rfl) ?_
  refine in_168 (Nat.le_of_ble_eq_true rfl) ?_
  show WR _ cd_168 0 [some (.ref (ad 30)), some (.int (nI t)), some (.int 3), some (.int b)] [] h _
  refine r_iload rfl rfl ?_
  refine r_ic (x := (-1)) rfl rfl ?_
  refine r_icmp_eq (tg := 18) rfl rfl (fun q => False.elim (by have : (nI t).toInt = ((t : Nat) : Int) := nI_toInt (by omega); have : (-1 : Int32).toInt = -1 := rfl; have := i_eq q; omega)) (fun _ => ?_)
  refine r_aload rfl rfl ?_
  refine r_iload rfl rfl ?_
  refine r_cv (y := 166) (ra := [.int (nI t)]) (rest := []) rfl ⟨⟨rfl, rfl⟩, rfl, by decide⟩ (fx_t30 fx) rfl rfl (Nat.le_of_ble_eq_true rfl) ?_
  refine in_166 (Nat.le_of_ble_eq_true rfl) ?_
  show WR _ cd_166 0 [some (.ref (ad 30)), some (.int (nI t))] [] h _
  refine r_iload rfl rfl ?_
  refine r_ic (x := (-1)) rfl rfl ?_
  refine r_icmp_ne (tg := 9) rfl rfl (fun _ => ?_) (fun q => False.elim (by have : (nI t).toInt = ((t : Nat) : Int) := nI_toInt (by omega); have : (-1 : Int32).toInt = -1 := rfl; have := i_eq q; omega))
  refine r_iload rfl rfl ?_
  refine r_ic (x := 1000) rfl rfl ?_
  refine r_icmp_lt (tg := 21) rfl rfl (fun _ => ?_) (fun q => False.elim (by have : (nI t).toInt = ((t : Nat) : Int) := nI_toInt (by omega); have : (1000 : Int32).toInt = 1000 := rfl; have := i_nlt q; omega))
  refine r_aload rfl rfl ?_
  refine r_getA (b := ad 33) rfl ⟨rfl, rfl, rfl⟩ (fx_t30 fx) (fx_r30_2 fx) ?_
  refine r_iload rfl rfl ?_
  refine r_iaload rfl (.inl (fx_t33 fx)) (vp_ct (fx_n33 fx) (vp_in_nI (by omega) (by omega))) ?_
  refine WR_tI (congrArg (hI h (ad 33)) ((nI_clamp (by omega)) : _ = t)) ?_
  refine WR_tI (y := nI ln) s1 ?_
  refine r_iret rfl ?_
  show WR _ cd_168 10 [some (.ref (ad 30)), some (.int (nI t)), some (.int 3), some (.int b)] [.int (nI ln)] h _
  refine r_iload rfl rfl ?_
  refine r_icmp_eq (tg := 18) rfl rfl (fun q => False.elim (by have : (nI ln).toInt = ((ln : Nat) : Int) := nI_toInt (by omega); have : (3 : Int32).toInt = 3 := rfl; have := i_eq q; omega)) (fun _ => ?_)
  refine r_ic (x := 4) rfl rfl ?_
  refine r_goto (tg := 50) rfl rfl ?_
  refine r_iret rfl ?_
  show WR _ cd_216 164 [some (.ref (ad 30)), some (.int 2), some (.int (nI a)), some (.int b), some (.int c), none] [.int 4] h _
  refine r_istore (lv' := [some (.ref (ad 30)), some (.int 2), some (.int (nI a)), some (.int b), some (.int c), some (.int 4)]) rfl (Nat.le_of_ble_eq_true rfl) rfl ?_
  refine r_iload rfl rfl ?_
  refine r_if_ne (tg := 190) rfl rfl (fun _ => ?_) (fun q => absurd q (by decide))
  refine r_iload rfl rfl ?_
  refine r_iret rfl ?_
  exact (L1)

set_option maxHeartbeats 2000000 in
theorem w_m2o {d : Nat} {Q : mQ} {n : Nat} {ad sa : Nat → Nat} {z0 : Nat} {h : mH} (fx : FX n ad sa z0 h) {a t sz : Nat} (ha : a < 24) (ht : t < 250) (s3 : sz ≤ 30) (e1 : hI h (ad 31) a = nI t) (s1 : hI h (ad 33) t = 3) (z1 : hI h (ad 35) t = nI sz) {b c : Int32} (hb : b.toInt < 0) 
    (L1 : Q (some (.int 2)) h) : EV (d + 3) 216 [.ref (ad 30), .int 2, .int (nI a), .int b, .int c] h Q := by
  have fx0 := fx
  refine in_216 (Nat.le_of_ble_eq_true rfl) ?_
  show WR _ cd_216 0 [some (.ref (ad 30)), some (.int 2), some (.int (nI a)), some (.int b), some (.int c), none] [] h _
  refine r_iload rfl rfl ?_
  refine r_tswL (tg := 152) rfl (by decide) ?_
  refine r_aload rfl rfl ?_
  refine r_aload rfl rfl ?_
  refine r_getA (b := ad 31) rfl ⟨rfl, rfl, rfl⟩ (fx_t30 fx) (fx_r30_0 fx) ?_
  refine r_iload rfl rfl ?_
  refine r_iaload rfl (.inl (fx_t31 fx)) (vp_ct (fx_n31 fx) (vp_in_nI (by omega) (by omega))) ?_
  refine WR_tI (congrArg (hI h (ad 31)) ((nI_clamp (by omega)) : _ = a)) ?_
  refine WR_tI (y := nI t) e1 ?_
  refine r_ic (x := 3) rfl rfl ?_
  refine r_iload rfl rfl ?_
  refine r_cv (y := 168) (ra := [.int b, .int 3, .int (nI t)]) (rest := []) rfl ⟨⟨rfl, rfl⟩, rfl, by decide⟩ (fx_t30 fx) rfl rfl (Nat.le_of_ble_eq_true rfl) ?_
  refine in_168 (Nat.le_of_ble_eq_true rfl) ?_
  show WR _ cd_168 0 [some (.ref (ad 30)), some (.int (nI t)), some (.int 3), some (.int b)] [] h _
  refine r_iload rfl rfl ?_
  refine r_ic (x := (-1)) rfl rfl ?_
  refine r_icmp_eq (tg := 18) rfl rfl (fun q => False.elim (by have : (nI t).toInt = ((t : Nat) : Int) := nI_toInt (by omega); have : (-1 : Int32).toInt = -1 := rfl; have := i_eq q; omega)) (fun _ => ?_)
  refine r_aload rfl rfl ?_
  refine r_iload rfl rfl ?_
  refine r_cv (y := 166) (ra := [.int (nI t)]) (rest := []) rfl ⟨⟨rfl, rfl⟩, rfl, by decide⟩ (fx_t30 fx) rfl rfl (Nat.le_of_ble_eq_true rfl) ?_
  refine in_166 (Nat.le_of_ble_eq_true rfl) ?_
  show WR _ cd_166 0 [some (.ref (ad 30)), some (.int (nI t))] [] h _
  refine r_iload rfl rfl ?_
  refine r_ic (x := (-1)) rfl rfl ?_
  refine r_icmp_ne (tg := 9) rfl rfl (fun _ => ?_) (fun q => False.elim (by have : (nI t).toInt = ((t : Nat) : Int) := nI_toInt (by omega); have : (-1 : Int32).toInt = -1 := rfl; have := i_eq q; omega))
  refine r_iload rfl rfl ?_
  refine r_ic (x := 1000) rfl rfl ?_
  refine r_icmp_lt (tg := 21) rfl rfl (fun _ => ?_) (fun q => False.elim (by have : (nI t).toInt = ((t : Nat) : Int) := nI_toInt (by omega); have : (1000 : Int32).toInt = 1000 := rfl; have := i_nlt q; omega))
  refine r_aload rfl rfl ?_
  refine r_getA (b := ad 33) rfl ⟨rfl, rfl, rfl⟩ (fx_t30 fx) (fx_r30_2 fx) ?_
  refine r_iload rfl rfl ?_
  refine r_iaload rfl (.inl (fx_t33 fx)) (vp_ct (fx_n33 fx) (vp_in_nI (by omega) (by omega))) ?_
  refine WR_tI (congrArg (hI h (ad 33)) ((nI_clamp (by omega)) : _ = t)) ?_
  refine WR_tI (y := 3) s1 ?_
  refine r_iret rfl ?_
  show WR _ cd_168 10 [some (.ref (ad 30)), some (.int (nI t)), some (.int 3), some (.int b)] [.int 3] h _
  refine r_iload rfl rfl ?_
  refine r_icmp_eq (tg := 18) rfl rfl (fun _ => ?_) (fun q => absurd q (by decide))
  refine r_iload rfl rfl ?_
  refine r_ic (x := (-1)) rfl rfl ?_
  refine r_icmp_ne (tg := 27) rfl rfl (fun _ => ?_) (fun q => False.elim (by have : (nI t).toInt = ((t : Nat) : Int) := nI_toInt (by omega); have : (-1 : Int32).toInt = -1 := rfl; have := i_eq q; omega))
  refine r_iload rfl rfl ?_
  refine r_i2l rfl ?_
  refine r_lc (x := 0) rfl rfl ?_
  refine r_aload rfl rfl ?_
  refine r_getA (b := ad 35) rfl ⟨rfl, rfl, rfl⟩ (fx_t30 fx) (fx_r30_4 fx) ?_
  refine r_iload rfl rfl ?_
  refine r_iaload rfl (.inl (fx_t35 fx)) (vp_ct (fx_n35 fx) (vp_in_nI (by omega) (by omega))) ?_
  refine WR_tI (congrArg (hI h (ad 35)) ((nI_clamp (by omega)) : _ = t)) ?_
  refine WR_tI (y := nI sz) z1 ?_
  refine r_ic (x := 1) rfl rfl ?_
  refine r_isub rfl ?_
  refine r_i2l rfl ?_
  refine r_cs (y := 155) (ra := [.long (((nI sz) - 1).toInt64), .long 0, .long b.toInt64]) (rest := []) rfl ⟨⟨rfl, rfl⟩, by decide⟩ rfl rfl (Nat.le_of_ble_eq_true rfl) ?_
  refine in_155 (Nat.le_of_ble_eq_true rfl) ?_
  show WR _ cd_155 0 [some (.long b.toInt64), none, some (.long 0), none, some (.long (((nI sz) - 1).toInt64)), none] [] h _
  refine r_lload rfl rfl ?_
  refine r_lload rfl rfl ?_
  refine r_lif_lt (tg := 17) rfl rfl rfl (fun _ => ?_) (fun q => False.elim (by have := hb; have := i_rg b; have := w_t b; have : (0 : Int64).toInt = 0 := rfl; have := l_nlt q; omega))
  refine r_ic (x := 0) rfl rfl ?_
  refine r_zret rfl (.inl rfl) ?_
  show WR _ cd_168 42 [some (.ref (ad 30)), some (.int (nI t)), some (.int 3), some (.int b)] [.int 0] h _
  refine r_if_ne (tg := 49) rfl rfl (fun q => absurd q (by decide)) (fun _ => ?_)
  refine r_ic (x := 2) rfl rfl ?_
  refine r_goto (tg := 50) rfl rfl ?_
  refine r_iret rfl ?_
  show WR _ cd_216 164 [some (.ref (ad 30)), some (.int 2), some (.int (nI a)), some (.int b), some (.int c), none] [.int 2] h _
  refine r_istore (lv' := [some (.ref (ad 30)), some (.int 2), some (.int (nI a)), some (.int b), some (.int c), some (.int 2)]) rfl (Nat.le_of_ble_eq_true rfl) rfl ?_
  refine r_iload rfl rfl ?_
  refine r_if_ne (tg := 190) rfl rfl (fun _ => ?_) (fun q => absurd q (by decide))
  refine r_iload rfl rfl ?_
  refine r_iret rfl ?_
  exact (L1)

set_option maxHeartbeats 2000000 in
theorem w_m2p {d : Nat} {Q : mQ} {n : Nat} {ad sa : Nat → Nat} {z0 : Nat} {h : mH} (fx : FX n ad sa z0 h) {a t sz : Nat} (ha : a < 24) (ht : t < 250) (s3 : sz ≤ 30) (e1 : hI h (ad 31) a = nI t) (s1 : hI h (ad 33) t = 3) (z1 : hI h (ad 35) t = nI sz) {b : Nat} {c : Int32} (hb : sz ≤ b) (hb2 : b < 2 ^ 31) 
    (L1 : Q (some (.int 2)) h) : EV (d + 3) 216 [.ref (ad 30), .int 2, .int (nI a), .int (nI b), .int c] h Q := by
  have fx0 := fx
  refine in_216 (Nat.le_of_ble_eq_true rfl) ?_
  show WR _ cd_216 0 [some (.ref (ad 30)), some (.int 2), some (.int (nI a)), some (.int (nI b)), some (.int c), none] [] h _
  refine r_iload rfl rfl ?_
  refine r_tswL (tg := 152) rfl (by decide) ?_
  refine r_aload rfl rfl ?_
  refine r_aload rfl rfl ?_
  refine r_getA (b := ad 31) rfl ⟨rfl, rfl, rfl⟩ (fx_t30 fx) (fx_r30_0 fx) ?_
  refine r_iload rfl rfl ?_
  refine r_iaload rfl (.inl (fx_t31 fx)) (vp_ct (fx_n31 fx) (vp_in_nI (by omega) (by omega))) ?_
  refine WR_tI (congrArg (hI h (ad 31)) ((nI_clamp (by omega)) : _ = a)) ?_
  refine WR_tI (y := nI t) e1 ?_
  refine r_ic (x := 3) rfl rfl ?_
  refine r_iload rfl rfl ?_
  refine r_cv (y := 168) (ra := [.int (nI b), .int 3, .int (nI t)]) (rest := []) rfl ⟨⟨rfl, rfl⟩, rfl, by decide⟩ (fx_t30 fx) rfl rfl (Nat.le_of_ble_eq_true rfl) ?_
  refine in_168 (Nat.le_of_ble_eq_true rfl) ?_
  show WR _ cd_168 0 [some (.ref (ad 30)), some (.int (nI t)), some (.int 3), some (.int (nI b))] [] h _
  refine r_iload rfl rfl ?_
  refine r_ic (x := (-1)) rfl rfl ?_
  refine r_icmp_eq (tg := 18) rfl rfl (fun q => False.elim (by have : (nI t).toInt = ((t : Nat) : Int) := nI_toInt (by omega); have : (-1 : Int32).toInt = -1 := rfl; have := i_eq q; omega)) (fun _ => ?_)
  refine r_aload rfl rfl ?_
  refine r_iload rfl rfl ?_
  refine r_cv (y := 166) (ra := [.int (nI t)]) (rest := []) rfl ⟨⟨rfl, rfl⟩, rfl, by decide⟩ (fx_t30 fx) rfl rfl (Nat.le_of_ble_eq_true rfl) ?_
  refine in_166 (Nat.le_of_ble_eq_true rfl) ?_
  show WR _ cd_166 0 [some (.ref (ad 30)), some (.int (nI t))] [] h _
  refine r_iload rfl rfl ?_
  refine r_ic (x := (-1)) rfl rfl ?_
  refine r_icmp_ne (tg := 9) rfl rfl (fun _ => ?_) (fun q => False.elim (by have : (nI t).toInt = ((t : Nat) : Int) := nI_toInt (by omega); have : (-1 : Int32).toInt = -1 := rfl; have := i_eq q; omega))
  refine r_iload rfl rfl ?_
  refine r_ic (x := 1000) rfl rfl ?_
  refine r_icmp_lt (tg := 21) rfl rfl (fun _ => ?_) (fun q => False.elim (by have : (nI t).toInt = ((t : Nat) : Int) := nI_toInt (by omega); have : (1000 : Int32).toInt = 1000 := rfl; have := i_nlt q; omega))
  refine r_aload rfl rfl ?_
  refine r_getA (b := ad 33) rfl ⟨rfl, rfl, rfl⟩ (fx_t30 fx) (fx_r30_2 fx) ?_
  refine r_iload rfl rfl ?_
  refine r_iaload rfl (.inl (fx_t33 fx)) (vp_ct (fx_n33 fx) (vp_in_nI (by omega) (by omega))) ?_
  refine WR_tI (congrArg (hI h (ad 33)) ((nI_clamp (by omega)) : _ = t)) ?_
  refine WR_tI (y := 3) s1 ?_
  refine r_iret rfl ?_
  show WR _ cd_168 10 [some (.ref (ad 30)), some (.int (nI t)), some (.int 3), some (.int (nI b))] [.int 3] h _
  refine r_iload rfl rfl ?_
  refine r_icmp_eq (tg := 18) rfl rfl (fun _ => ?_) (fun q => absurd q (by decide))
  refine r_iload rfl rfl ?_
  refine r_ic (x := (-1)) rfl rfl ?_
  refine r_icmp_ne (tg := 27) rfl rfl (fun _ => ?_) (fun q => False.elim (by have : (nI t).toInt = ((t : Nat) : Int) := nI_toInt (by omega); have : (-1 : Int32).toInt = -1 := rfl; have := i_eq q; omega))
  refine r_iload rfl rfl ?_
  refine r_i2l rfl ?_
  refine WR_tL (y := lN b) (nI_l (by omega)) ?_
  refine r_lc (x := 0) rfl rfl ?_
  refine r_aload rfl rfl ?_
  refine r_getA (b := ad 35) rfl ⟨rfl, rfl, rfl⟩ (fx_t30 fx) (fx_r30_4 fx) ?_
  refine r_iload rfl rfl ?_
  refine r_iaload rfl (.inl (fx_t35 fx)) (vp_ct (fx_n35 fx) (vp_in_nI (by omega) (by omega))) ?_
  refine WR_tI (congrArg (hI h (ad 35)) ((nI_clamp (by omega)) : _ = t)) ?_
  refine WR_tI (y := nI sz) z1 ?_
  refine r_ic (x := 1) rfl rfl ?_
  refine r_isub rfl ?_
  refine r_i2l rfl ?_
  refine r_cs (y := 155) (ra := [.long (((nI sz) - 1).toInt64), .long 0, .long (lN b)]) (rest := []) rfl ⟨⟨rfl, rfl⟩, by decide⟩ rfl rfl (Nat.le_of_ble_eq_true rfl) ?_
  refine in_155 (Nat.le_of_ble_eq_true rfl) ?_
  show WR _ cd_155 0 [some (.long (lN b)), none, some (.long 0), none, some (.long (((nI sz) - 1).toInt64)), none] [] h _
  refine r_lload rfl rfl ?_
  refine r_lload rfl rfl ?_
  refine r_lif_lt (tg := 17) rfl rfl rfl (fun q => False.elim (by have : (lN b).toInt = ((b : Nat) : Int) := lN_toInt (by omega); have : (0 : Int64).toInt = 0 := rfl; have := l_lt q; omega)) (fun _ => ?_)
  refine r_lload rfl rfl ?_
  refine r_lload rfl rfl ?_
  refine r_lif_gt (tg := 17) rfl rfl rfl (fun _ => ?_) (fun q => False.elim (by have : (lN b).toInt = ((b : Nat) : Int) := lN_toInt (by omega); have : (nI sz).toInt = ((sz : Nat) : Int) := nI_toInt (by omega); have : (1 : Int32).toInt = 1 := rfl; have := sub_t (x := nI sz) (y := 1) (by have : (nI sz).toInt = ((sz : Nat) : Int) := nI_toInt (by omega); have : (1 : Int32).toInt = 1 := rfl; omega) (by have : (nI sz).toInt = ((sz : Nat) : Int) := nI_toInt (by omega); have : (1 : Int32).toInt = 1 := rfl; omega); have := w_t ((nI sz) - 1); have := l_nlt q; omega))
  refine r_ic (x := 0) rfl rfl ?_
  refine r_zret rfl (.inl rfl) ?_
  show WR _ cd_168 42 [some (.ref (ad 30)), some (.int (nI t)), some (.int 3), some (.int (nI b))] [.int 0] h _
  refine r_if_ne (tg := 49) rfl rfl (fun q => absurd q (by decide)) (fun _ => ?_)
  refine r_ic (x := 2) rfl rfl ?_
  refine r_goto (tg := 50) rfl rfl ?_
  refine r_iret rfl ?_
  show WR _ cd_216 164 [some (.ref (ad 30)), some (.int 2), some (.int (nI a)), some (.int (nI b)), some (.int c), none] [.int 2] h _
  refine r_istore (lv' := [some (.ref (ad 30)), some (.int 2), some (.int (nI a)), some (.int (nI b)), some (.int c), some (.int 2)]) rfl (Nat.le_of_ble_eq_true rfl) rfl ?_
  refine r_iload rfl rfl ?_
  refine r_if_ne (tg := 190) rfl rfl (fun _ => ?_) (fun q => absurd q (by decide))
  refine r_iload rfl rfl ?_
  refine r_iret rfl ?_
  exact (L1)

set_option maxHeartbeats 2000000 in
theorem w_m2w {d : Nat} {Q : mQ} {n : Nat} {ad sa : Nat → Nat} {z0 : Nat} {h : mH} (fx : FX n ad sa z0 h) {a t sz : Nat} (ha : a < 24) (ht : t < 250) (s3 : sz ≤ 30) (e1 : hI h (ad 31) a = nI t) (s1 : hI h (ad 33) t = 3) (z1 : hI h (ad 35) t = nI sz) {b : Nat} {c : Int32} (hb : b < sz) 
    (L1 : Q (some (.int 0)) (sL h (ad 36) (30 * t + b) c.toInt64)) : EV (d + 3) 216 [.ref (ad 30), .int 2, .int (nI a), .int (nI b), .int c] h Q := by
  have fx0 := fx
  refine in_216 (Nat.le_of_ble_eq_true rfl) ?_
  show WR _ cd_216 0 [some (.ref (ad 30)), some (.int 2), some (.int (nI a)), some (.int (nI b)), some (.int c), none] [] h _
  refine r_iload rfl rfl ?_
  refine r_tswL (tg := 152) rfl (by decide) ?_
  refine r_aload rfl rfl ?_
  refine r_aload rfl rfl ?_
  refine r_getA (b := ad 31) rfl ⟨rfl, rfl, rfl⟩ (fx_t30 fx) (fx_r30_0 fx) ?_
  refine r_iload rfl rfl ?_
  refine r_iaload rfl (.inl (fx_t31 fx)) (vp_ct (fx_n31 fx) (vp_in_nI (by omega) (by omega))) ?_
  refine WR_tI (congrArg (hI h (ad 31)) ((nI_clamp (by omega)) : _ = a)) ?_
  refine WR_tI (y := nI t) e1 ?_
  refine r_ic (x := 3) rfl rfl ?_
  refine r_iload rfl rfl ?_
  refine r_cv (y := 168) (ra := [.int (nI b), .int 3, .int (nI t)]) (rest := []) rfl ⟨⟨rfl, rfl⟩, rfl, by decide⟩ (fx_t30 fx) rfl rfl (Nat.le_of_ble_eq_true rfl) ?_
  refine in_168 (Nat.le_of_ble_eq_true rfl) ?_
  show WR _ cd_168 0 [some (.ref (ad 30)), some (.int (nI t)), some (.int 3), some (.int (nI b))] [] h _
  refine r_iload rfl rfl ?_
  refine r_ic (x := (-1)) rfl rfl ?_
  refine r_icmp_eq (tg := 18) rfl rfl (fun q => False.elim (by have : (nI t).toInt = ((t : Nat) : Int) := nI_toInt (by omega); have : (-1 : Int32).toInt = -1 := rfl; have := i_eq q; omega)) (fun _ => ?_)
  refine r_aload rfl rfl ?_
  refine r_iload rfl rfl ?_
  refine r_cv (y := 166) (ra := [.int (nI t)]) (rest := []) rfl ⟨⟨rfl, rfl⟩, rfl, by decide⟩ (fx_t30 fx) rfl rfl (Nat.le_of_ble_eq_true rfl) ?_
  refine in_166 (Nat.le_of_ble_eq_true rfl) ?_
  show WR _ cd_166 0 [some (.ref (ad 30)), some (.int (nI t))] [] h _
  refine r_iload rfl rfl ?_
  refine r_ic (x := (-1)) rfl rfl ?_
  refine r_icmp_ne (tg := 9) rfl rfl (fun _ => ?_) (fun q => False.elim (by have : (nI t).toInt = ((t : Nat) : Int) := nI_toInt (by omega); have : (-1 : Int32).toInt = -1 := rfl; have := i_eq q; omega))
  refine r_iload rfl rfl ?_
  refine r_ic (x := 1000) rfl rfl ?_
  refine r_icmp_lt (tg := 21) rfl rfl (fun _ => ?_) (fun q => False.elim (by have : (nI t).toInt = ((t : Nat) : Int) := nI_toInt (by omega); have : (1000 : Int32).toInt = 1000 := rfl; have := i_nlt q; omega))
  refine r_aload rfl rfl ?_
  refine r_getA (b := ad 33) rfl ⟨rfl, rfl, rfl⟩ (fx_t30 fx) (fx_r30_2 fx) ?_
  refine r_iload rfl rfl ?_
  refine r_iaload rfl (.inl (fx_t33 fx)) (vp_ct (fx_n33 fx) (vp_in_nI (by omega) (by omega))) ?_
  refine WR_tI (congrArg (hI h (ad 33)) ((nI_clamp (by omega)) : _ = t)) ?_
  refine WR_tI (y := 3) s1 ?_
  refine r_iret rfl ?_
  show WR _ cd_168 10 [some (.ref (ad 30)), some (.int (nI t)), some (.int 3), some (.int (nI b))] [.int 3] h _
  refine r_iload rfl rfl ?_
  refine r_icmp_eq (tg := 18) rfl rfl (fun _ => ?_) (fun q => absurd q (by decide))
  refine r_iload rfl rfl ?_
  refine r_ic (x := (-1)) rfl rfl ?_
  refine r_icmp_ne (tg := 27) rfl rfl (fun _ => ?_) (fun q => False.elim (by have : (nI t).toInt = ((t : Nat) : Int) := nI_toInt (by omega); have : (-1 : Int32).toInt = -1 := rfl; have := i_eq q; omega))
  refine r_iload rfl rfl ?_
  refine r_i2l rfl ?_
  refine WR_tL (y := lN b) (nI_l (by omega)) ?_
  refine r_lc (x := 0) rfl rfl ?_
  refine r_aload rfl rfl ?_
  refine r_getA (b := ad 35) rfl ⟨rfl, rfl, rfl⟩ (fx_t30 fx) (fx_r30_4 fx) ?_
  refine r_iload rfl rfl ?_
  refine r_iaload rfl (.inl (fx_t35 fx)) (vp_ct (fx_n35 fx) (vp_in_nI (by omega) (by omega))) ?_
  refine WR_tI (congrArg (hI h (ad 35)) ((nI_clamp (by omega)) : _ = t)) ?_
  refine WR_tI (y := nI sz) z1 ?_
  refine r_ic (x := 1) rfl rfl ?_
  refine r_isub rfl ?_
  refine WR_tI (y := nI (sz - 1)) (Eq.trans (pk_sub (a := sz) (b := 1) (by omega)) (congrArg nI (by omega))) ?_
  refine r_i2l rfl ?_
  refine WR_tL (y := lN (sz - 1)) (nI_l (by omega)) ?_
  refine r_cs (y := 155) (ra := [.long (lN (sz - 1)), .long 0, .long (lN b)]) (rest := []) rfl ⟨⟨rfl, rfl⟩, by decide⟩ rfl rfl (Nat.le_of_ble_eq_true rfl) ?_
  refine in_155 (Nat.le_of_ble_eq_true rfl) ?_
  show WR _ cd_155 0 [some (.long (lN b)), none, some (.long 0), none, some (.long (lN (sz - 1))), none] [] h _
  refine r_lload rfl rfl ?_
  refine r_lload rfl rfl ?_
  refine r_lif_lt (tg := 17) rfl rfl rfl (fun q => False.elim (by have : (lN b).toInt = ((b : Nat) : Int) := lN_toInt (by omega); have : (0 : Int64).toInt = 0 := rfl; have := l_lt q; omega)) (fun _ => ?_)
  refine r_lload rfl rfl ?_
  refine r_lload rfl rfl ?_
  refine r_lif_gt (tg := 17) rfl rfl rfl (fun q => False.elim (by have : (lN b).toInt = ((b : Nat) : Int) := lN_toInt (by omega); have : (lN (sz - 1)).toInt = ((sz - 1 : Nat) : Int) := lN_toInt (by omega); have := l_lt q; omega)) (fun _ => ?_)
  refine r_ic (x := 1) rfl rfl ?_
  refine r_goto (tg := 18) rfl rfl ?_
  refine r_zret rfl (.inr rfl) ?_
  show WR _ cd_168 42 [some (.ref (ad 30)), some (.int (nI t)), some (.int 3), some (.int (nI b))] [.int 1] h _
  refine r_if_ne (tg := 49) rfl rfl (fun _ => ?_) (fun q => absurd q (by decide))
  refine r_ic (x := 0) rfl rfl ?_
  refine r_iret rfl ?_
  show WR _ cd_216 164 [some (.ref (ad 30)), some (.int 2), some (.int (nI a)), some (.int (nI b)), some (.int c), none] [.int 0] h _
  refine r_istore (lv' := [some (.ref (ad 30)), some (.int 2), some (.int (nI a)), some (.int (nI b)), some (.int c), some (.int 0)]) rfl (Nat.le_of_ble_eq_true rfl) rfl ?_
  refine r_iload rfl rfl ?_
  refine r_if_ne (tg := 190) rfl rfl (fun q => absurd q (by decide)) (fun _ => ?_)
  refine r_aload rfl rfl ?_
  refine r_getA (b := ad 36) rfl ⟨rfl, rfl, rfl⟩ (fx_t30 fx) (fx_r30_5 fx) ?_
  refine r_ic (x := 30) rfl rfl ?_
  refine r_aload rfl rfl ?_
  refine r_getA (b := ad 31) rfl ⟨rfl, rfl, rfl⟩ (fx_t30 fx) (fx_r30_0 fx) ?_
  refine r_iload rfl rfl ?_
  refine r_iaload rfl (.inl (fx_t31 fx)) (vp_ct (fx_n31 fx) (vp_in_nI (by omega) (by omega))) ?_
  refine WR_tI (congrArg (hI h (ad 31)) ((nI_clamp (by omega)) : _ = a)) ?_
  refine WR_tI (y := nI t) e1 ?_
  refine r_imul rfl ?_
  refine WR_tI (y := nI (30 * t)) (Eq.trans (pk_mul 30 t) (congrArg nI (by omega))) ?_
  refine r_iload rfl rfl ?_
  refine r_iadd rfl ?_
  refine WR_tI (y := nI (30 * t + b)) (Eq.trans (nI_add (30 * t) b) (congrArg nI (by omega))) ?_
  refine r_iload rfl rfl ?_
  refine r_i2l rfl ?_
  refine r_lastore rfl (fx_t36 fx) (vp_ct (fx_n36 fx) (vp_in_nI (by omega) (by omega))) ?_
  refine WR_h (h2 := sL h (ad 36) (30 * t + b) c.toInt64) (congrArg (fun z => sL h (ad 36) z c.toInt64) ((nI_clamp (by omega)) : _ = 30 * t + b)) ?_
  have fx : FX n ad sa z0 (sL h (ad 36) (30 * t + b) c.toInt64) := (FX.sL fx)
  refine r_iload rfl rfl ?_
  refine r_iret rfl ?_
  exact (L1)

set_option maxHeartbeats 2000000 in
theorem w_m3l {d : Nat} {Q : mQ} {n : Nat} {ad sa : Nat → Nat} {z0 : Nat} {h : mH} (fx : FX n ad sa z0 h) {S : Nat} {a b c : Int32} (es : hI h (ad 30) 35 = nI S) (hS : S < 60) 
    (L1 : Q (some (.int 0)) (sI (sI h (ad 53) S a) (ad 30) 35 (nI (S + 1)))) : EV (d + 2) 216 [.ref (ad 30), .int 3, .int a, .int b, .int c] h Q := by
  have fx0 := fx
  refine in_216 (Nat.le_of_ble_eq_true rfl) ?_
  show WR _ cd_216 0 [some (.ref (ad 30)), some (.int 3), some (.int a), some (.int b), some (.int c), none] [] h _
  refine r_iload rfl rfl ?_
  refine r_tswL (tg := 193) rfl (by decide) ?_
  refine r_aload rfl rfl ?_
  refine r_iload rfl rfl ?_
  refine r_cv (y := 218) (ra := [.int a]) (rest := []) rfl ⟨⟨rfl, rfl⟩, rfl, by decide⟩ (fx_t30 fx) rfl rfl (Nat.le_of_ble_eq_true rfl) ?_
  refine in_218 (Nat.le_of_ble_eq_true rfl) ?_
  show WR _ cd_218 0 [some (.ref (ad 30)), some (.int a)] [] h _
  refine r_aload rfl rfl ?_
  refine r_getI rfl ⟨rfl, rfl, rfl⟩ (fx_t30 fx) ?_
  refine WR_tI (y := nI S) es ?_
  refine r_ic (x := 60) rfl rfl ?_
  refine r_icmp_ge (tg := 19) rfl rfl (fun q => False.elim (by have : (nI S).toInt = ((S : Nat) : Int) := nI_toInt (by omega); have : (60 : Int32).toInt = 60 := rfl; have := i_le q; omega)) (fun _ => ?_)
  refine r_aload rfl rfl ?_
  refine r_getA (b := ad 53) rfl ⟨rfl, rfl, rfl⟩ (fx_t30 fx) (fx_r30_36 fx) ?_
  refine r_aload rfl rfl ?_
  refine r_getI rfl ⟨rfl, rfl, rfl⟩ (fx_t30 fx) ?_
  refine WR_tI (y := nI S) es ?_
  refine r_iload rfl rfl ?_
  refine r_iastore rfl (fx_t53 fx) (vp_ct (fx_n53 fx) (vp_in_nI (by omega) (by omega))) ?_
  refine WR_h (h2 := sI h (ad 53) S a) (congrArg (fun z => sI h (ad 53) z a) ((nI_clamp (by omega)) : _ = S)) ?_
  have fx : FX n ad sa z0 (sI h (ad 53) S a) := (FX.sI fx)
  refine r_aload rfl rfl ?_
  refine r_dup rfl rfl ?_
  refine r_getI rfl ⟨rfl, rfl, rfl⟩ (fx_t30 fx) ?_
  refine WR_tI (y := nI S) (Eq.trans (I_ne (fx_ne fx (by decide))) es) ?_
  refine r_ic (x := 1) rfl rfl ?_
  refine r_iadd rfl ?_
  refine WR_tI (y := nI (S + 1)) (Eq.trans (nI_add S 1) (congrArg nI (by omega))) ?_
  refine r_putI rfl ⟨rfl, rfl, rfl⟩ (fx_t30 fx) ?_
  have fx : FX n ad sa z0 (sI (sI h (ad 53) S a) (ad 30) 35 (nI (S + 1))) := (FX.sI fx)
  refine r_vret rfl ?_
  show WR _ cd_216 198 [some (.ref (ad 30)), some (.int 3), some (.int a), some (.int b), some (.int c), none] [] (sI (sI h (ad 53) S a) (ad 30) 35 (nI (S + 1))) _
  refine r_ic (x := 0) rfl rfl ?_
  refine r_iret rfl ?_
  exact (L1)

set_option maxHeartbeats 2000000 in
theorem w_m3g {d : Nat} {Q : mQ} {n : Nat} {ad sa : Nat → Nat} {z0 : Nat} {h : mH} (fx : FX n ad sa z0 h) {S : Nat} {a b c : Int32} (es : hI h (ad 30) 35 = nI S) (hS : 60 ≤ S) (hS2 : S < 1000) 
    (L1 : Q (some (.int 0)) (sI h (ad 30) 35 (nI (S + 1)))) : EV (d + 2) 216 [.ref (ad 30), .int 3, .int a, .int b, .int c] h Q := by
  have fx0 := fx
  refine in_216 (Nat.le_of_ble_eq_true rfl) ?_
  show WR _ cd_216 0 [some (.ref (ad 30)), some (.int 3), some (.int a), some (.int b), some (.int c), none] [] h _
  refine r_iload rfl rfl ?_
  refine r_tswL (tg := 193) rfl (by decide) ?_
  refine r_aload rfl rfl ?_
  refine r_iload rfl rfl ?_
  refine r_cv (y := 218) (ra := [.int a]) (rest := []) rfl ⟨⟨rfl, rfl⟩, rfl, by decide⟩ (fx_t30 fx) rfl rfl (Nat.le_of_ble_eq_true rfl) ?_
  refine in_218 (Nat.le_of_ble_eq_true rfl) ?_
  show WR _ cd_218 0 [some (.ref (ad 30)), some (.int a)] [] h _
  refine r_aload rfl rfl ?_
  refine r_getI rfl ⟨rfl, rfl, rfl⟩ (fx_t30 fx) ?_
  refine WR_tI (y := nI S) es ?_
  refine r_ic (x := 60) rfl rfl ?_
  refine r_icmp_ge (tg := 19) rfl rfl (fun _ => ?_) (fun q => False.elim (by have : (nI S).toInt = ((S : Nat) : Int) := nI_toInt (by omega); have : (60 : Int32).toInt = 60 := rfl; have := i_nle q; omega))
  refine r_aload rfl rfl ?_
  refine r_dup rfl rfl ?_
  refine r_getI rfl ⟨rfl, rfl, rfl⟩ (fx_t30 fx) ?_
  refine WR_tI (y := nI S) es ?_
  refine r_ic (x := 1) rfl rfl ?_
  refine r_iadd rfl ?_
  refine WR_tI (y := nI (S + 1)) (Eq.trans (nI_add S 1) (congrArg nI (by omega))) ?_
  refine r_putI rfl ⟨rfl, rfl, rfl⟩ (fx_t30 fx) ?_
  have fx : FX n ad sa z0 (sI h (ad 30) 35 (nI (S + 1))) := (FX.sI fx)
  refine r_vret rfl ?_
  show WR _ cd_216 198 [some (.ref (ad 30)), some (.int 3), some (.int a), some (.int b), some (.int c), none] [] (sI h (ad 30) 35 (nI (S + 1))) _
  refine r_ic (x := 0) rfl rfl ?_
  refine r_iret rfl ?_
  exact (L1)

set_option maxHeartbeats 2000000 in
theorem w_m5l {d : Nat} {Q : mQ} {n : Nat} {ad sa : Nat → Nat} {z0 : Nat} {h : mH} (fx : FX n ad sa z0 h) {S : Nat} {a b c : Int32} (es : hI h (ad 30) 35 = nI S) (hS : S < 60) 
    (L1 : Q (some (.int 0)) (sI (sI h (ad 53) S (hI h (ad 30) 33)) (ad 30) 35 (nI (S + 1)))) : EV (d + 2) 216 [.ref (ad 30), .int 5, .int a, .int b, .int c] h Q := by
  have fx0 := fx
  refine in_216 (Nat.le_of_ble_eq_true rfl) ?_
  show WR _ cd_216 0 [some (.ref (ad 30)), some (.int 5), some (.int a), some (.int b), some (.int c), none] [] h _
  refine r_iload rfl rfl ?_
  refine r_tswL (tg := 208) rfl (by decide) ?_
  refine r_aload rfl rfl ?_
  refine r_aload rfl rfl ?_
  refine r_getI rfl ⟨rfl, rfl, rfl⟩ (fx_t30 fx) ?_
  refine r_cv (y := 218) (ra := [.int (hI h (ad 30) 33)]) (rest := []) rfl ⟨⟨rfl, rfl⟩, rfl, by decide⟩ (fx_t30 fx) rfl rfl (Nat.le_of_ble_eq_true rfl) ?_
  refine in_218 (Nat.le_of_ble_eq_true rfl) ?_
  show WR _ cd_218 0 [some (.ref (ad 30)), some (.int (hI h (ad 30) 33))] [] h _
  refine r_aload rfl rfl ?_
  refine r_getI rfl ⟨rfl, rfl, rfl⟩ (fx_t30 fx) ?_
  refine WR_tI (y := nI S) es ?_
  refine r_ic (x := 60) rfl rfl ?_
  refine r_icmp_ge (tg := 19) rfl rfl (fun q => False.elim (by have : (nI S).toInt = ((S : Nat) : Int) := nI_toInt (by omega); have : (60 : Int32).toInt = 60 := rfl; have := i_le q; omega)) (fun _ => ?_)
  refine r_aload rfl rfl ?_
  refine r_getA (b := ad 53) rfl ⟨rfl, rfl, rfl⟩ (fx_t30 fx) (fx_r30_36 fx) ?_
  refine r_aload rfl rfl ?_
  refine r_getI rfl ⟨rfl, rfl, rfl⟩ (fx_t30 fx) ?_
  refine WR_tI (y := nI S) es ?_
  refine r_iload rfl rfl ?_
  refine r_iastore rfl (fx_t53 fx) (vp_ct (fx_n53 fx) (vp_in_nI (by omega) (by omega))) ?_
  refine WR_h (h2 := sI h (ad 53) S (hI h (ad 30) 33)) (congrArg (fun z => sI h (ad 53) z (hI h (ad 30) 33)) ((nI_clamp (by omega)) : _ = S)) ?_
  have fx : FX n ad sa z0 (sI h (ad 53) S (hI h (ad 30) 33)) := (FX.sI fx)
  refine r_aload rfl rfl ?_
  refine r_dup rfl rfl ?_
  refine r_getI rfl ⟨rfl, rfl, rfl⟩ (fx_t30 fx) ?_
  refine WR_tI (y := nI S) (Eq.trans (I_ne (fx_ne fx (by decide))) es) ?_
  refine r_ic (x := 1) rfl rfl ?_
  refine r_iadd rfl ?_
  refine WR_tI (y := nI (S + 1)) (Eq.trans (nI_add S 1) (congrArg nI (by omega))) ?_
  refine r_putI rfl ⟨rfl, rfl, rfl⟩ (fx_t30 fx) ?_
  have fx : FX n ad sa z0 (sI (sI h (ad 53) S (hI h (ad 30) 33)) (ad 30) 35 (nI (S + 1))) := (FX.sI fx)
  refine r_vret rfl ?_
  show WR _ cd_216 216 [some (.ref (ad 30)), some (.int 5), some (.int a), some (.int b), some (.int c), none] [] (sI (sI h (ad 53) S (hI h (ad 30) 33)) (ad 30) 35 (nI (S + 1))) _
  refine r_ic (x := 0) rfl rfl ?_
  refine r_iret rfl ?_
  exact (L1)

set_option maxHeartbeats 2000000 in
theorem w_m5g {d : Nat} {Q : mQ} {n : Nat} {ad sa : Nat → Nat} {z0 : Nat} {h : mH} (fx : FX n ad sa z0 h) {S : Nat} {a b c : Int32} (es : hI h (ad 30) 35 = nI S) (hS : 60 ≤ S) (hS2 : S < 1000) 
    (L1 : Q (some (.int 0)) (sI h (ad 30) 35 (nI (S + 1)))) : EV (d + 2) 216 [.ref (ad 30), .int 5, .int a, .int b, .int c] h Q := by
  have fx0 := fx
  refine in_216 (Nat.le_of_ble_eq_true rfl) ?_
  show WR _ cd_216 0 [some (.ref (ad 30)), some (.int 5), some (.int a), some (.int b), some (.int c), none] [] h _
  refine r_iload rfl rfl ?_
  refine r_tswL (tg := 208) rfl (by decide) ?_
  refine r_aload rfl rfl ?_
  refine r_aload rfl rfl ?_
  refine r_getI rfl ⟨rfl, rfl, rfl⟩ (fx_t30 fx) ?_
  refine r_cv (y := 218) (ra := [.int (hI h (ad 30) 33)]) (rest := []) rfl ⟨⟨rfl, rfl⟩, rfl, by decide⟩ (fx_t30 fx) rfl rfl (Nat.le_of_ble_eq_true rfl) ?_
  refine in_218 (Nat.le_of_ble_eq_true rfl) ?_
  show WR _ cd_218 0 [some (.ref (ad 30)), some (.int (hI h (ad 30) 33))] [] h _
  refine r_aload rfl rfl ?_
  refine r_getI rfl ⟨rfl, rfl, rfl⟩ (fx_t30 fx) ?_
  refine WR_tI (y := nI S) es ?_
  refine r_ic (x := 60) rfl rfl ?_
  refine r_icmp_ge (tg := 19) rfl rfl (fun _ => ?_) (fun q => False.elim (by have : (nI S).toInt = ((S : Nat) : Int) := nI_toInt (by omega); have : (60 : Int32).toInt = 60 := rfl; have := i_nle q; omega))
  refine r_aload rfl rfl ?_
  refine r_dup rfl rfl ?_
  refine r_getI rfl ⟨rfl, rfl, rfl⟩ (fx_t30 fx) ?_
  refine WR_tI (y := nI S) es ?_
  refine r_ic (x := 1) rfl rfl ?_
  refine r_iadd rfl ?_
  refine WR_tI (y := nI (S + 1)) (Eq.trans (nI_add S 1) (congrArg nI (by omega))) ?_
  refine r_putI rfl ⟨rfl, rfl, rfl⟩ (fx_t30 fx) ?_
  have fx : FX n ad sa z0 (sI h (ad 30) 35 (nI (S + 1))) := (FX.sI fx)
  refine r_vret rfl ?_
  show WR _ cd_216 216 [some (.ref (ad 30)), some (.int 5), some (.int a), some (.int b), some (.int c), none] [] (sI h (ad 30) 35 (nI (S + 1))) _
  refine r_ic (x := 0) rfl rfl ?_
  refine r_iret rfl ?_
  exact (L1)

set_option maxHeartbeats 2000000 in
theorem w_m4 {d : Nat} {Q : mQ} {n : Nat} {ad sa : Nat → Nat} {z0 : Nat} {h : mH} (fx : FX n ad sa z0 h) {a b c : Int32} 
    (L1 : Q (some (.int 0)) (sI (sI h (ad 30) 29 2) (ad 30) 30 a)) : EV (d + 2) 216 [.ref (ad 30), .int 4, .int a, .int b, .int c] h Q := by
  have fx0 := fx
  refine in_216 (Nat.le_of_ble_eq_true rfl) ?_
  show WR _ cd_216 0 [some (.ref (ad 30)), some (.int 4), some (.int a), some (.int b), some (.int c), none] [] h _
  refine r_iload rfl rfl ?_
  refine r_tswL (tg := 200) rfl (by decide) ?_
  refine r_aload rfl rfl ?_
  refine r_ic (x := 2) rfl rfl ?_
  refine r_iload rfl rfl ?_
  refine r_cv (y := 212) (ra := [.int a, .int 2]) (rest := []) rfl ⟨⟨rfl, rfl⟩, rfl, by decide⟩ (fx_t30 fx) rfl rfl (Nat.le_of_ble_eq_true rfl) ?_
  refine in_212 (Nat.le_of_ble_eq_true rfl) ?_
  show WR _ cd_212 0 [some (.ref (ad 30)), some (.int 2), some (.int a)] [] h _
  refine r_aload rfl rfl ?_
  refine r_iload rfl rfl ?_
  refine r_putI rfl ⟨rfl, rfl, rfl⟩ (fx_t30 fx) ?_
  have fx : FX n ad sa z0 (sI h (ad 30) 29 2) := (FX.sI fx)
  refine r_aload rfl rfl ?_
  refine r_iload rfl rfl ?_
  refine r_putI rfl ⟨rfl, rfl, rfl⟩ (fx_t30 fx) ?_
  have fx : FX n ad sa z0 (sI (sI h (ad 30) 29 2) (ad 30) 30 a) := (FX.sI fx)
  refine r_vret rfl ?_
  show WR _ cd_216 206 [some (.ref (ad 30)), some (.int 4), some (.int a), some (.int b), some (.int c), none] [] (sI (sI h (ad 30) 29 2) (ad 30) 30 a) _
  refine r_ic (x := 0) rfl rfl ?_
  refine r_iret rfl ?_
  exact (L1)

set_option maxHeartbeats 2000000 in
theorem w_m6 {d : Nat} {Q : mQ} {n : Nat} {ad sa : Nat → Nat} {z0 : Nat} {h : mH} (fx : FX n ad sa z0 h) {a b c : Int32} 
    (L1 : Q (some (.int a)) h) : EV (d + 1) 216 [.ref (ad 30), .int 6, .int a, .int b, .int c] h Q := by
  have fx0 := fx
  refine in_216 (Nat.le_of_ble_eq_true rfl) ?_
  show WR _ cd_216 0 [some (.ref (ad 30)), some (.int 6), some (.int a), some (.int b), some (.int c), none] [] h _
  refine r_iload rfl rfl ?_
  refine r_tswL (tg := 256) rfl (by decide) ?_
  refine r_iload rfl rfl ?_
  refine r_iret rfl ?_
  exact (L1)

set_option maxHeartbeats 2000000 in
theorem w_m11l {d : Nat} {Q : mQ} {n : Nat} {ad sa : Nat → Nat} {z0 : Nat} {h : mH} (fx : FX n ad sa z0 h) {a S : Nat} {b c v : Int32} (ha : a < 6) (e9 : hI h (ad 56) a = v) (es : hI h (ad 30) 35 = nI S) (hS : S < 60) 
    (L1 : ¬ v = 0 → Q (some (.int 0)) (sI (sI h (ad 53) S v) (ad 30) 35 (nI (S + 1))))
    (L2 : v = 0 → Q (some (.int 7)) h) : EV (d + 2) 216 [.ref (ad 30), .int 11, .int (nI a), .int b, .int c] h Q := by
  have fx0 := fx
  refine in_216 (Nat.le_of_ble_eq_true rfl) ?_
  show WR _ cd_216 0 [some (.ref (ad 30)), some (.int 11), some (.int (nI a)), some (.int b), some (.int c), none] [] h _
  refine r_iload rfl rfl ?_
  refine r_tswL (tg := 218) rfl (by decide) ?_
  refine r_aload rfl rfl ?_
  refine r_getA (b := ad 56) rfl ⟨rfl, rfl, rfl⟩ (fx_t30 fx) (fx_r30_40 fx) ?_
  refine r_iload rfl rfl ?_
  refine r_iaload rfl (.inl (fx_t56 fx)) (vp_ct (fx_n56 fx) (vp_in_nI (by omega) (by omega))) ?_
  refine WR_tI (congrArg (hI h (ad 56)) ((nI_clamp (by omega)) : _ = a)) ?_
  refine WR_tI (y := v) e9 ?_
  refine r_if_ne (tg := 230) rfl rfl (fun c1 => ?_) (fun c1 => ?_)
  · refine r_aload rfl rfl ?_
    refine r_aload rfl rfl ?_
    refine r_getA (b := ad 56) rfl ⟨rfl, rfl, rfl⟩ (fx_t30 fx) (fx_r30_40 fx) ?_
    refine r_iload rfl rfl ?_
    refine r_iaload rfl (.inl (fx_t56 fx)) (vp_ct (fx_n56 fx) (vp_in_nI (by omega) (by omega))) ?_
    refine WR_tI (congrArg (hI h (ad 56)) ((nI_clamp (by omega)) : _ = a)) ?_
    refine WR_tI (y := v) e9 ?_
    refine r_cv (y := 218) (ra := [.int v]) (rest := []) rfl ⟨⟨rfl, rfl⟩, rfl, by decide⟩ (fx_t30 fx) rfl rfl (Nat.le_of_ble_eq_true rfl) ?_
    refine in_218 (Nat.le_of_ble_eq_true rfl) ?_
    show WR _ cd_218 0 [some (.ref (ad 30)), some (.int v)] [] h _
    refine r_aload rfl rfl ?_
    refine r_getI rfl ⟨rfl, rfl, rfl⟩ (fx_t30 fx) ?_
    refine WR_tI (y := nI S) es ?_
    refine r_ic (x := 60) rfl rfl ?_
    refine r_icmp_ge (tg := 19) rfl rfl (fun q => False.elim (by have : (nI S).toInt = ((S : Nat) : Int) := nI_toInt (by omega); have : (60 : Int32).toInt = 60 := rfl; have := i_le q; omega)) (fun _ => ?_)
    refine r_aload rfl rfl ?_
    refine r_getA (b := ad 53) rfl ⟨rfl, rfl, rfl⟩ (fx_t30 fx) (fx_r30_36 fx) ?_
    refine r_aload rfl rfl ?_
    refine r_getI rfl ⟨rfl, rfl, rfl⟩ (fx_t30 fx) ?_
    refine WR_tI (y := nI S) es ?_
    refine r_iload rfl rfl ?_
    refine r_iastore rfl (fx_t53 fx) (vp_ct (fx_n53 fx) (vp_in_nI (by omega) (by omega))) ?_
    refine WR_h (h2 := sI h (ad 53) S v) (congrArg (fun z => sI h (ad 53) z v) ((nI_clamp (by omega)) : _ = S)) ?_
    have fx : FX n ad sa z0 (sI h (ad 53) S v) := (FX.sI fx)
    refine r_aload rfl rfl ?_
    refine r_dup rfl rfl ?_
    refine r_getI rfl ⟨rfl, rfl, rfl⟩ (fx_t30 fx) ?_
    refine WR_tI (y := nI S) (Eq.trans (I_ne (fx_ne fx (by decide))) es) ?_
    refine r_ic (x := 1) rfl rfl ?_
    refine r_iadd rfl ?_
    refine WR_tI (y := nI (S + 1)) (Eq.trans (nI_add S 1) (congrArg nI (by omega))) ?_
    refine r_putI rfl ⟨rfl, rfl, rfl⟩ (fx_t30 fx) ?_
    have fx : FX n ad sa z0 (sI (sI h (ad 53) S v) (ad 30) 35 (nI (S + 1))) := (FX.sI fx)
    refine r_vret rfl ?_
    show WR _ cd_216 240 [some (.ref (ad 30)), some (.int 11), some (.int (nI a)), some (.int b), some (.int c), none] [] (sI (sI h (ad 53) S v) (ad 30) 35 (nI (S + 1))) _
    refine r_ic (x := 0) rfl rfl ?_
    refine r_iret rfl ?_
    exact (L1 c1)
  · refine r_ic (x := 7) rfl rfl ?_
    refine r_iret rfl ?_
    exact (L2 c1)

set_option maxHeartbeats 2000000 in
theorem w_m11g {d : Nat} {Q : mQ} {n : Nat} {ad sa : Nat → Nat} {z0 : Nat} {h : mH} (fx : FX n ad sa z0 h) {a S : Nat} {b c v : Int32} (ha : a < 6) (e9 : hI h (ad 56) a = v) (es : hI h (ad 30) 35 = nI S) (hS : 60 ≤ S) (hS2 : S < 1000) 
    (L1 : ¬ v = 0 → Q (some (.int 0)) (sI h (ad 30) 35 (nI (S + 1))))
    (L2 : v = 0 → Q (some (.int 7)) h) : EV (d + 2) 216 [.ref (ad 30), .int 11, .int (nI a), .int b, .int c] h Q := by
  have fx0 := fx
  refine in_216 (Nat.le_of_ble_eq_true rfl) ?_
  show WR _ cd_216 0 [some (.ref (ad 30)), some (.int 11), some (.int (nI a)), some (.int b), some (.int c), none] [] h _
  refine r_iload rfl rfl ?_
  refine r_tswL (tg := 218) rfl (by decide) ?_
  refine r_aload rfl rfl ?_
  refine r_getA (b := ad 56) rfl ⟨rfl, rfl, rfl⟩ (fx_t30 fx) (fx_r30_40 fx) ?_
  refine r_iload rfl rfl ?_
  refine r_iaload rfl (.inl (fx_t56 fx)) (vp_ct (fx_n56 fx) (vp_in_nI (by omega) (by omega))) ?_
  refine WR_tI (congrArg (hI h (ad 56)) ((nI_clamp (by omega)) : _ = a)) ?_
  refine WR_tI (y := v) e9 ?_
  refine r_if_ne (tg := 230) rfl rfl (fun c1 => ?_) (fun c1 => ?_)
  · refine r_aload rfl rfl ?_
    refine r_aload rfl rfl ?_
    refine r_getA (b := ad 56) rfl ⟨rfl, rfl, rfl⟩ (fx_t30 fx) (fx_r30_40 fx) ?_
    refine r_iload rfl rfl ?_
    refine r_iaload rfl (.inl (fx_t56 fx)) (vp_ct (fx_n56 fx) (vp_in_nI (by omega) (by omega))) ?_
    refine WR_tI (congrArg (hI h (ad 56)) ((nI_clamp (by omega)) : _ = a)) ?_
    refine WR_tI (y := v) e9 ?_
    refine r_cv (y := 218) (ra := [.int v]) (rest := []) rfl ⟨⟨rfl, rfl⟩, rfl, by decide⟩ (fx_t30 fx) rfl rfl (Nat.le_of_ble_eq_true rfl) ?_
    refine in_218 (Nat.le_of_ble_eq_true rfl) ?_
    show WR _ cd_218 0 [some (.ref (ad 30)), some (.int v)] [] h _
    refine r_aload rfl rfl ?_
    refine r_getI rfl ⟨rfl, rfl, rfl⟩ (fx_t30 fx) ?_
    refine WR_tI (y := nI S) es ?_
    refine r_ic (x := 60) rfl rfl ?_
    refine r_icmp_ge (tg := 19) rfl rfl (fun _ => ?_) (fun q => False.elim (by have : (nI S).toInt = ((S : Nat) : Int) := nI_toInt (by omega); have : (60 : Int32).toInt = 60 := rfl; have := i_nle q; omega))
    refine r_aload rfl rfl ?_
    refine r_dup rfl rfl ?_
    refine r_getI rfl ⟨rfl, rfl, rfl⟩ (fx_t30 fx) ?_
    refine WR_tI (y := nI S) es ?_
    refine r_ic (x := 1) rfl rfl ?_
    refine r_iadd rfl ?_
    refine WR_tI (y := nI (S + 1)) (Eq.trans (nI_add S 1) (congrArg nI (by omega))) ?_
    refine r_putI rfl ⟨rfl, rfl, rfl⟩ (fx_t30 fx) ?_
    have fx : FX n ad sa z0 (sI h (ad 30) 35 (nI (S + 1))) := (FX.sI fx)
    refine r_vret rfl ?_
    show WR _ cd_216 240 [some (.ref (ad 30)), some (.int 11), some (.int (nI a)), some (.int b), some (.int c), none] [] (sI h (ad 30) 35 (nI (S + 1))) _
    refine r_ic (x := 0) rfl rfl ?_
    refine r_iret rfl ?_
    exact (L1 c1)
  · refine r_ic (x := 7) rfl rfl ?_
    refine r_iret rfl ?_
    exact (L2 c1)

set_option maxHeartbeats 2000000 in
theorem w_m12zs {d : Nat} {Q : mQ} {n : Nat} {ad sa : Nat → Nat} {z0 : Nat} {h : mH} (fx : FX n ad sa z0 h) {a : Nat} {c : Int32} {v : Int32} {b : Nat} (hb : b ≤ 2) (ha : a < 6) (e9 : hI h (ad 56) a = v) (eh : hI h (ad 30) 37 = 0) 
    (L1 : ¬ v = 0 → Q (some (.int 1)) h)
    (L2 : v = 0 → Q (some (.int 1)) h) : EV (d + 2) 216 [.ref (ad 30), .int 12, .int (nI a), .int (nI b), .int c] h Q := by
  have fx0 := fx
  refine in_216 (Nat.le_of_ble_eq_true rfl) ?_
  show WR _ cd_216 0 [some (.ref (ad 30)), some (.int 12), some (.int (nI a)), some (.int (nI b)), some (.int c), none] [] h _
  refine r_iload rfl rfl ?_
  refine r_tswL (tg := 242) rfl (by decide) ?_
  refine r_aload rfl rfl ?_
  refine r_iload rfl rfl ?_
  refine r_iload rfl rfl ?_
  refine r_cv (y := 219) (ra := [.int (nI b), .int (nI a)]) (rest := []) rfl ⟨⟨rfl, rfl⟩, rfl, by decide⟩ (fx_t30 fx) rfl rfl (Nat.le_of_ble_eq_true rfl) ?_
  refine in_219 (Nat.le_of_ble_eq_true rfl) ?_
  show WR _ cd_219 0 [some (.ref (ad 30)), some (.int (nI a)), some (.int (nI b)), none, none] [] h _
  refine r_aload rfl rfl ?_
  refine r_getA (b := ad 56) rfl ⟨rfl, rfl, rfl⟩ (fx_t30 fx) (fx_r30_40 fx) ?_
  refine r_iload rfl rfl ?_
  refine r_iaload rfl (.inl (fx_t56 fx)) (vp_ct (fx_n56 fx) (vp_in_nI (by omega) (by omega))) ?_
  refine WR_tI (congrArg (hI h (ad 56)) ((nI_clamp (by omega)) : _ = a)) ?_
  refine WR_tI (y := v) e9 ?_
  refine r_if_ne (tg := 17) rfl rfl (fun c1 => ?_) (fun c1 => ?_)
  · refine r_aload rfl rfl ?_
    refine r_getI rfl ⟨rfl, rfl, rfl⟩ (fx_t30 fx) ?_
    refine WR_tI (y := 0) eh ?_
    refine r_if_ne (tg := 26) rfl rfl (fun q => absurd q (by decide)) (fun _ => ?_)
    refine r_ic (x := 1) rfl rfl ?_
    refine r_iret rfl ?_
    show WR _ cd_216 248 [some (.ref (ad 30)), some (.int 12), some (.int (nI a)), some (.int (nI b)), some (.int c), none] [.int 1] h _
    refine r_iret rfl ?_
    exact (L1 c1)
  · refine r_iload rfl rfl ?_
    refine r_ic (x := 2) rfl rfl ?_
    refine r_icmp_le (tg := 17) rfl rfl (fun _ => ?_) (fun q => False.elim (by have : (nI b).toInt = ((b : Nat) : Int) := nI_toInt (by omega); have : (2 : Int32).toInt = 2 := rfl; have := i_nle q; omega))
    refine r_aload rfl rfl ?_
    refine r_getI rfl ⟨rfl, rfl, rfl⟩ (fx_t30 fx) ?_
    refine WR_tI (y := 0) eh ?_
    refine r_if_ne (tg := 26) rfl rfl (fun q => absurd q (by decide)) (fun _ => ?_)
    refine r_ic (x := 1) rfl rfl ?_
    refine r_iret rfl ?_
    show WR _ cd_216 248 [some (.ref (ad 30)), some (.int 12), some (.int (nI a)), some (.int (nI b)), some (.int c), none] [.int 1] h _
    refine r_iret rfl ?_
    exact (L2 c1)

set_option maxHeartbeats 2000000 in
theorem w_m12ts {d : Nat} {Q : mQ} {n : Nat} {ad sa : Nat → Nat} {z0 : Nat} {h : mH} (fx : FX n ad sa z0 h) {a H t : Nat} {c : Int32} {v : Int32} {b : Nat} (hb : b ≤ 2) (ha : a < 6) (e9 : hI h (ad 56) a = v) (eh : hI h (ad 30) 37 = nI H) (hH1 : 1 ≤ H) (hH : H ≤ 100) (ht : t < 250) (e2 : hI h (ad 54) (H - 1) = nI t) 
    (L1 : ¬ v = 0 → Q (some (.int 4)) h)
    (L2 : v = 0 → Q (some (.int 4)) h) : EV (d + 2) 216 [.ref (ad 30), .int 12, .int (nI a), .int (nI b), .int c] h Q := by
  have fx0 := fx
  refine in_216 (Nat.le_of_ble_eq_true rfl) ?_
  show WR _ cd_216 0 [some (.ref (ad 30)), some (.int 12), some (.int (nI a)), some (.int (nI b)), some (.int c), none] [] h _
  refine r_iload rfl rfl ?_
  refine r_tswL (tg := 242) rfl (by decide) ?_
  refine r_aload rfl rfl ?_
  refine r_iload rfl rfl ?_
  refine r_iload rfl rfl ?_
  refine r_cv (y := 219) (ra := [.int (nI b), .int (nI a)]) (rest := []) rfl ⟨⟨rfl, rfl⟩, rfl, by decide⟩ (fx_t30 fx) rfl rfl (Nat.le_of_ble_eq_true rfl) ?_
  refine in_219 (Nat.le_of_ble_eq_true rfl) ?_
  show WR _ cd_219 0 [some (.ref (ad 30)), some (.int (nI a)), some (.int (nI b)), none, none] [] h _
  refine r_aload rfl rfl ?_
  refine r_getA (b := ad 56) rfl ⟨rfl, rfl, rfl⟩ (fx_t30 fx) (fx_r30_40 fx) ?_
  refine r_iload rfl rfl ?_
  refine r_iaload rfl (.inl (fx_t56 fx)) (vp_ct (fx_n56 fx) (vp_in_nI (by omega) (by omega))) ?_
  refine WR_tI (congrArg (hI h (ad 56)) ((nI_clamp (by omega)) : _ = a)) ?_
  refine WR_tI (y := v) e9 ?_
  refine r_if_ne (tg := 17) rfl rfl (fun c1 => ?_) (fun c1 => ?_)
  · refine r_aload rfl rfl ?_
    refine r_getI rfl ⟨rfl, rfl, rfl⟩ (fx_t30 fx) ?_
    refine WR_tI (y := nI H) eh ?_
    refine r_if_ne (tg := 26) rfl rfl (fun _ => ?_) (fun q => False.elim (by have : (nI H).toInt = ((H : Nat) : Int) := nI_toInt (by omega); have : (0 : Int32).toInt = 0 := rfl; have := i_eq q; omega))
    refine r_aload rfl rfl ?_
    refine r_getA (b := ad 54) rfl ⟨rfl, rfl, rfl⟩ (fx_t30 fx) (fx_r30_38 fx) ?_
    refine r_aload rfl rfl ?_
    refine r_getI rfl ⟨rfl, rfl, rfl⟩ (fx_t30 fx) ?_
    refine WR_tI (y := nI H) eh ?_
    refine r_ic (x := 1) rfl rfl ?_
    refine r_isub rfl ?_
    refine WR_tI (y := nI (H - 1)) (Eq.trans (pk_sub (a := H) (b := 1) (by omega)) (congrArg nI (by omega))) ?_
    refine r_iaload rfl (.inl (fx_t54 fx)) (vp_ct (fx_n54 fx) (vp_in_nI (by omega) (by omega))) ?_
    refine WR_tI (congrArg (hI h (ad 54)) ((nI_clamp (by omega)) : _ = H - 1)) ?_
    refine WR_tI (y := nI t) e2 ?_
    refine r_ic (x := 1000) rfl rfl ?_
    refine r_isub rfl ?_
    refine r_istore (lv' := [some (.ref (ad 30)), some (.int (nI a)), some (.int (nI b)), some (.int ((nI t) - 1000)), none]) rfl (Nat.le_of_ble_eq_true rfl) rfl ?_
    refine r_iload rfl rfl ?_
    refine r_if_lt (tg := 74) rfl rfl (fun _ => ?_) (fun q => False.elim (by have : (nI t).toInt = ((t : Nat) : Int) := nI_toInt (by omega); have : (1000 : Int32).toInt = 1000 := rfl; have := sub_t (x := nI t) (y := 1000) (by have : (nI t).toInt = ((t : Nat) : Int) := nI_toInt (by omega); have : (1000 : Int32).toInt = 1000 := rfl; omega) (by have : (nI t).toInt = ((t : Nat) : Int) := nI_toInt (by omega); have : (1000 : Int32).toInt = 1000 := rfl; omega); have : (0 : Int32).toInt = 0 := rfl; have := i_nlt q; omega))
    refine r_ic (x := 4) rfl rfl ?_
    refine r_iret rfl ?_
    show WR _ cd_216 248 [some (.ref (ad 30)), some (.int 12), some (.int (nI a)), some (.int (nI b)), some (.int c), none] [.int 4] h _
    refine r_iret rfl ?_
    exact (L1 c1)
  · refine r_iload rfl rfl ?_
    refine r_ic (x := 2) rfl rfl ?_
    refine r_icmp_le (tg := 17) rfl rfl (fun _ => ?_) (fun q => False.elim (by have : (nI b).toInt = ((b : Nat) : Int) := nI_toInt (by omega); have : (2 : Int32).toInt = 2 := rfl; have := i_nle q; omega))
    refine r_aload rfl rfl ?_
    refine r_getI rfl ⟨rfl, rfl, rfl⟩ (fx_t30 fx) ?_
    refine WR_tI (y := nI H) eh ?_
    refine r_if_ne (tg := 26) rfl rfl (fun _ => ?_) (fun q => False.elim (by have : (nI H).toInt = ((H : Nat) : Int) := nI_toInt (by omega); have : (0 : Int32).toInt = 0 := rfl; have := i_eq q; omega))
    refine r_aload rfl rfl ?_
    refine r_getA (b := ad 54) rfl ⟨rfl, rfl, rfl⟩ (fx_t30 fx) (fx_r30_38 fx) ?_
    refine r_aload rfl rfl ?_
    refine r_getI rfl ⟨rfl, rfl, rfl⟩ (fx_t30 fx) ?_
    refine WR_tI (y := nI H) eh ?_
    refine r_ic (x := 1) rfl rfl ?_
    refine r_isub rfl ?_
    refine WR_tI (y := nI (H - 1)) (Eq.trans (pk_sub (a := H) (b := 1) (by omega)) (congrArg nI (by omega))) ?_
    refine r_iaload rfl (.inl (fx_t54 fx)) (vp_ct (fx_n54 fx) (vp_in_nI (by omega) (by omega))) ?_
    refine WR_tI (congrArg (hI h (ad 54)) ((nI_clamp (by omega)) : _ = H - 1)) ?_
    refine WR_tI (y := nI t) e2 ?_
    refine r_ic (x := 1000) rfl rfl ?_
    refine r_isub rfl ?_
    refine r_istore (lv' := [some (.ref (ad 30)), some (.int (nI a)), some (.int (nI b)), some (.int ((nI t) - 1000)), none]) rfl (Nat.le_of_ble_eq_true rfl) rfl ?_
    refine r_iload rfl rfl ?_
    refine r_if_lt (tg := 74) rfl rfl (fun _ => ?_) (fun q => False.elim (by have : (nI t).toInt = ((t : Nat) : Int) := nI_toInt (by omega); have : (1000 : Int32).toInt = 1000 := rfl; have := sub_t (x := nI t) (y := 1000) (by have : (nI t).toInt = ((t : Nat) : Int) := nI_toInt (by omega); have : (1000 : Int32).toInt = 1000 := rfl; omega) (by have : (nI t).toInt = ((t : Nat) : Int) := nI_toInt (by omega); have : (1000 : Int32).toInt = 1000 := rfl; omega); have : (0 : Int32).toInt = 0 := rfl; have := i_nlt q; omega))
    refine r_ic (x := 4) rfl rfl ?_
    refine r_iret rfl ?_
    show WR _ cd_216 248 [some (.ref (ad 30)), some (.int 12), some (.int (nI a)), some (.int (nI b)), some (.int c), none] [.int 4] h _
    refine r_iret rfl ?_
    exact (L2 c1)

set_option maxHeartbeats 2000000 in
theorem w_m12ns {d : Nat} {Q : mQ} {n : Nat} {ad sa : Nat → Nat} {z0 : Nat} {h : mH} (fx : FX n ad sa z0 h) {a H qp : Nat} {c : Int32} {v : Int32} {b : Nat} (hb : b ≤ 2) (ha : a < 6) (e9 : hI h (ad 56) a = v) (eh : hI h (ad 30) 37 = nI H) (hH1 : 1 ≤ H) (hH : H ≤ 100) (hq : qp < 60) (e2 : hI h (ad 54) (H - 1) = nI (1000 + qp)) {kd : Nat} (kx : hI h (ad 37) qp = nI kd) (k7 : kd < 7) (of_ : ¬ ofK kd 7 = true) 
    (L1 : ¬ v = 0 → Q (some (.int 4)) h)
    (L2 : v = 0 → Q (some (.int 4)) h) : EV (d + 3) 216 [.ref (ad 30), .int 12, .int (nI a), .int (nI b), .int c] h Q := by
  have fx0 := fx
  refine in_216 (Nat.le_of_ble_eq_true rfl) ?_
  show WR _ cd_216 0 [some (.ref (ad 30)), some (.int 12), some (.int (nI a)), some (.int (nI b)), some (.int c), none] [] h _
  refine r_iload rfl rfl ?_
  refine r_tswL (tg := 242) rfl (by decide) ?_
  refine r_aload rfl rfl ?_
  refine r_iload rfl rfl ?_
  refine r_iload rfl rfl ?_
  refine r_cv (y := 219) (ra := [.int (nI b), .int (nI a)]) (rest := []) rfl ⟨⟨rfl, rfl⟩, rfl, by decide⟩ (fx_t30 fx) rfl rfl (Nat.le_of_ble_eq_true rfl) ?_
  refine in_219 (Nat.le_of_ble_eq_true rfl) ?_
  show WR _ cd_219 0 [some (.ref (ad 30)), some (.int (nI a)), some (.int (nI b)), none, none] [] h _
  refine r_aload rfl rfl ?_
  refine r_getA (b := ad 56) rfl ⟨rfl, rfl, rfl⟩ (fx_t30 fx) (fx_r30_40 fx) ?_
  refine r_iload rfl rfl ?_
  refine r_iaload rfl (.inl (fx_t56 fx)) (vp_ct (fx_n56 fx) (vp_in_nI (by omega) (by omega))) ?_
  refine WR_tI (congrArg (hI h (ad 56)) ((nI_clamp (by omega)) : _ = a)) ?_
  refine WR_tI (y := v) e9 ?_
  refine r_if_ne (tg := 17) rfl rfl (fun c1 => ?_) (fun c1 => ?_)
  · refine r_aload rfl rfl ?_
    refine r_getI rfl ⟨rfl, rfl, rfl⟩ (fx_t30 fx) ?_
    refine WR_tI (y := nI H) eh ?_
    refine r_if_ne (tg := 26) rfl rfl (fun _ => ?_) (fun q => False.elim (by have : (nI H).toInt = ((H : Nat) : Int) := nI_toInt (by omega); have : (0 : Int32).toInt = 0 := rfl; have := i_eq q; omega))
    refine r_aload rfl rfl ?_
    refine r_getA (b := ad 54) rfl ⟨rfl, rfl, rfl⟩ (fx_t30 fx) (fx_r30_38 fx) ?_
    refine r_aload rfl rfl ?_
    refine r_getI rfl ⟨rfl, rfl, rfl⟩ (fx_t30 fx) ?_
    refine WR_tI (y := nI H) eh ?_
    refine r_ic (x := 1) rfl rfl ?_
    refine r_isub rfl ?_
    refine WR_tI (y := nI (H - 1)) (Eq.trans (pk_sub (a := H) (b := 1) (by omega)) (congrArg nI (by omega))) ?_
    refine r_iaload rfl (.inl (fx_t54 fx)) (vp_ct (fx_n54 fx) (vp_in_nI (by omega) (by omega))) ?_
    refine WR_tI (congrArg (hI h (ad 54)) ((nI_clamp (by omega)) : _ = H - 1)) ?_
    refine WR_tI (y := nI (qp + 1000)) (Eq.trans e2 (congrArg nI (Nat.add_comm 1000 qp))) ?_
    refine r_ic (x := 1000) rfl rfl ?_
    refine r_isub rfl ?_
    refine WR_tI (y := nI qp) (Eq.trans (pk_sub (a := qp + 1000) (b := 1000) (by omega)) (congrArg nI (by omega))) ?_
    refine r_istore (lv' := [some (.ref (ad 30)), some (.int (nI a)), some (.int (nI b)), some (.int (nI qp)), none]) rfl (Nat.le_of_ble_eq_true rfl) rfl ?_
    refine r_iload rfl rfl ?_
    refine r_if_lt (tg := 74) rfl rfl (fun q => False.elim (by have : (nI qp).toInt = ((qp : Nat) : Int) := nI_toInt (by omega); have : (0 : Int32).toInt = 0 := rfl; have := i_lt q; omega)) (fun _ => ?_)
    refine r_aload rfl rfl ?_
    refine r_iload rfl rfl ?_
    refine r_iload rfl rfl ?_
    refine r_ic (x := 3) rfl rfl ?_
    refine r_icmp_ge (tg := 58) rfl rfl (fun q => False.elim (by have : (nI b).toInt = ((b : Nat) : Int) := nI_toInt (by omega); have : (3 : Int32).toInt = 3 := rfl; have := i_le q; omega)) (fun _ => ?_)
    refine r_ic (x := 7) rfl rfl ?_
    refine r_goto (tg := 68) rfl rfl ?_
    refine r_cv (y := 177) (ra := [.int 7, .int (nI qp)]) (rest := []) rfl ⟨⟨rfl, rfl⟩, rfl, by decide⟩ (fx_t30 fx) rfl rfl (Nat.le_of_ble_eq_true rfl) ?_
    refine c_misOf (h := h) (q := qp) (kd := kd) (k := 7) fx hq kx k7 (by decide) ?_
    rw [if_neg of_]
    show WR _ cd_219 71 [some (.ref (ad 30)), some (.int (nI a)), some (.int (nI b)), some (.int (nI qp)), none] [.int 0] h _
    refine r_if_ne (tg := 76) rfl rfl (fun q => absurd q (by decide)) (fun _ => ?_)
    refine r_ic (x := 4) rfl rfl ?_
    refine r_iret rfl ?_
    show WR _ cd_216 248 [some (.ref (ad 30)), some (.int 12), some (.int (nI a)), some (.int (nI b)), some (.int c), none] [.int 4] h _
    refine r_iret rfl ?_
    exact (L1 c1)
  · refine r_iload rfl rfl ?_
    refine r_ic (x := 2) rfl rfl ?_
    refine r_icmp_le (tg := 17) rfl rfl (fun _ => ?_) (fun q => False.elim (by have : (nI b).toInt = ((b : Nat) : Int) := nI_toInt (by omega); have : (2 : Int32).toInt = 2 := rfl; have := i_nle q; omega))
    refine r_aload rfl rfl ?_
    refine r_getI rfl ⟨rfl, rfl, rfl⟩ (fx_t30 fx) ?_
    refine WR_tI (y := nI H) eh ?_
    refine r_if_ne (tg := 26) rfl rfl (fun _ => ?_) (fun q => False.elim (by have : (nI H).toInt = ((H : Nat) : Int) := nI_toInt (by omega); have : (0 : Int32).toInt = 0 := rfl; have := i_eq q; omega))
    refine r_aload rfl rfl ?_
    refine r_getA (b := ad 54) rfl ⟨rfl, rfl, rfl⟩ (fx_t30 fx) (fx_r30_38 fx) ?_
    refine r_aload rfl rfl ?_
    refine r_getI rfl ⟨rfl, rfl, rfl⟩ (fx_t30 fx) ?_
    refine WR_tI (y := nI H) eh ?_
    refine r_ic (x := 1) rfl rfl ?_
    refine r_isub rfl ?_
    refine WR_tI (y := nI (H - 1)) (Eq.trans (pk_sub (a := H) (b := 1) (by omega)) (congrArg nI (by omega))) ?_
    refine r_iaload rfl (.inl (fx_t54 fx)) (vp_ct (fx_n54 fx) (vp_in_nI (by omega) (by omega))) ?_
    refine WR_tI (congrArg (hI h (ad 54)) ((nI_clamp (by omega)) : _ = H - 1)) ?_
    refine WR_tI (y := nI (qp + 1000)) (Eq.trans e2 (congrArg nI (Nat.add_comm 1000 qp))) ?_
    refine r_ic (x := 1000) rfl rfl ?_
    refine r_isub rfl ?_
    refine WR_tI (y := nI qp) (Eq.trans (pk_sub (a := qp + 1000) (b := 1000) (by omega)) (congrArg nI (by omega))) ?_
    refine r_istore (lv' := [some (.ref (ad 30)), some (.int (nI a)), some (.int (nI b)), some (.int (nI qp)), none]) rfl (Nat.le_of_ble_eq_true rfl) rfl ?_
    refine r_iload rfl rfl ?_
    refine r_if_lt (tg := 74) rfl rfl (fun q => False.elim (by have : (nI qp).toInt = ((qp : Nat) : Int) := nI_toInt (by omega); have : (0 : Int32).toInt = 0 := rfl; have := i_lt q; omega)) (fun _ => ?_)
    refine r_aload rfl rfl ?_
    refine r_iload rfl rfl ?_
    refine r_iload rfl rfl ?_
    refine r_ic (x := 3) rfl rfl ?_
    refine r_icmp_ge (tg := 58) rfl rfl (fun q => False.elim (by have : (nI b).toInt = ((b : Nat) : Int) := nI_toInt (by omega); have : (3 : Int32).toInt = 3 := rfl; have := i_le q; omega)) (fun _ => ?_)
    refine r_ic (x := 7) rfl rfl ?_
    refine r_goto (tg := 68) rfl rfl ?_
    refine r_cv (y := 177) (ra := [.int 7, .int (nI qp)]) (rest := []) rfl ⟨⟨rfl, rfl⟩, rfl, by decide⟩ (fx_t30 fx) rfl rfl (Nat.le_of_ble_eq_true rfl) ?_
    refine c_misOf (h := h) (q := qp) (kd := kd) (k := 7) fx hq kx k7 (by decide) ?_
    rw [if_neg of_]
    show WR _ cd_219 71 [some (.ref (ad 30)), some (.int (nI a)), some (.int (nI b)), some (.int (nI qp)), none] [.int 0] h _
    refine r_if_ne (tg := 76) rfl rfl (fun q => absurd q (by decide)) (fun _ => ?_)
    refine r_ic (x := 4) rfl rfl ?_
    refine r_iret rfl ?_
    show WR _ cd_216 248 [some (.ref (ad 30)), some (.int 12), some (.int (nI a)), some (.int (nI b)), some (.int c), none] [.int 4] h _
    refine r_iret rfl ?_
    exact (L2 c1)

set_option maxHeartbeats 2000000 in
theorem w_m12es {d : Nat} {Q : mQ} {n : Nat} {ad sa : Nat → Nat} {z0 : Nat} {h : mH} (fx : FX n ad sa z0 h) {a H qp : Nat} {c : Int32} {v : Int32} {b : Nat} (hb : b ≤ 2) (ha : a < 6) (e9 : hI h (ad 56) a = v) (eh : hI h (ad 30) 37 = nI H) (hH1 : 1 ≤ H) (hH : H ≤ 100) (hq : qp < 60) (e2 : hI h (ad 54) (H - 1) = nI (1000 + qp)) {kd : Nat} (kx : hI h (ad 37) qp = nI kd) (k7 : kd < 7) (of_ : ofK kd 7 = true) (r3 : hI h (ad 57) (5 * a + b) = -1) 
    (L1 : ¬ v = 0 → Q (some (.int 0)) (sI (sI h (ad 30) 37 (nI (H - 1))) (ad 57) (5 * a + b) (nI qp)))
    (L2 : v = 0 → Q (some (.int 0)) (sI (sI h (ad 30) 37 (nI (H - 1))) (ad 57) (5 * a + b) (nI qp))) : EV (d + 3) 216 [.ref (ad 30), .int 12, .int (nI a), .int (nI b), .int c] h Q := by
  have fx0 := fx
  refine in_216 (Nat.le_of_ble_eq_true rfl) ?_
  show WR _ cd_216 0 [some (.ref (ad 30)), some (.int 12), some (.int (nI a)), some (.int (nI b)), some (.int c), none] [] h _
  refine r_iload rfl rfl ?_
  refine r_tswL (tg := 242) rfl (by decide) ?_
  refine r_aload rfl rfl ?_
  refine r_iload rfl rfl ?_
  refine r_iload rfl rfl ?_
  refine r_cv (y := 219) (ra := [.int (nI b), .int (nI a)]) (rest := []) rfl ⟨⟨rfl, rfl⟩, rfl, by decide⟩ (fx_t30 fx) rfl rfl (Nat.le_of_ble_eq_true rfl) ?_
  refine in_219 (Nat.le_of_ble_eq_true rfl) ?_
  show WR _ cd_219 0 [some (.ref (ad 30)), some (.int (nI a)), some (.int (nI b)), none, none] [] h _
  refine r_aload rfl rfl ?_
  refine r_getA (b := ad 56) rfl ⟨rfl, rfl, rfl⟩ (fx_t30 fx) (fx_r30_40 fx) ?_
  refine r_iload rfl rfl ?_
  refine r_iaload rfl (.inl (fx_t56 fx)) (vp_ct (fx_n56 fx) (vp_in_nI (by omega) (by omega))) ?_
  refine WR_tI (congrArg (hI h (ad 56)) ((nI_clamp (by omega)) : _ = a)) ?_
  refine WR_tI (y := v) e9 ?_
  refine r_if_ne (tg := 17) rfl rfl (fun c1 => ?_) (fun c1 => ?_)
  · refine r_aload rfl rfl ?_
    refine r_getI rfl ⟨rfl, rfl, rfl⟩ (fx_t30 fx) ?_
    refine WR_tI (y := nI H) eh ?_
    refine r_if_ne (tg := 26) rfl rfl (fun _ => ?_) (fun q => False.elim (by have : (nI H).toInt = ((H : Nat) : Int) := nI_toInt (by omega); have : (0 : Int32).toInt = 0 := rfl; have := i_eq q; omega))
    refine r_aload rfl rfl ?_
    refine r_getA (b := ad 54) rfl ⟨rfl, rfl, rfl⟩ (fx_t30 fx) (fx_r30_38 fx) ?_
    refine r_aload rfl rfl ?_
    refine r_getI rfl ⟨rfl, rfl, rfl⟩ (fx_t30 fx) ?_
    refine WR_tI (y := nI H) eh ?_
    refine r_ic (x := 1) rfl rfl ?_
    refine r_isub rfl ?_
    refine WR_tI (y := nI (H - 1)) (Eq.trans (pk_sub (a := H) (b := 1) (by omega)) (congrArg nI (by omega))) ?_
    refine r_iaload rfl (.inl (fx_t54 fx)) (vp_ct (fx_n54 fx) (vp_in_nI (by omega) (by omega))) ?_
    refine WR_tI (congrArg (hI h (ad 54)) ((nI_clamp (by omega)) : _ = H - 1)) ?_
    refine WR_tI (y := nI (qp + 1000)) (Eq.trans e2 (congrArg nI (Nat.add_comm 1000 qp))) ?_
    refine r_ic (x := 1000) rfl rfl ?_
    refine r_isub rfl ?_
    refine WR_tI (y := nI qp) (Eq.trans (pk_sub (a := qp + 1000) (b := 1000) (by omega)) (congrArg nI (by omega))) ?_
    refine r_istore (lv' := [some (.ref (ad 30)), some (.int (nI a)), some (.int (nI b)), some (.int (nI qp)), none]) rfl (Nat.le_of_ble_eq_true rfl) rfl ?_
    refine r_iload rfl rfl ?_
    refine r_if_lt (tg := 74) rfl rfl (fun q => False.elim (by have : (nI qp).toInt = ((qp : Nat) : Int) := nI_toInt (by omega); have : (0 : Int32).toInt = 0 := rfl; have := i_lt q; omega)) (fun _ => ?_)
    refine r_aload rfl rfl ?_
    refine r_iload rfl rfl ?_
    refine r_iload rfl rfl ?_
    refine r_ic (x := 3) rfl rfl ?_
    refine r_icmp_ge (tg := 58) rfl rfl (fun q => False.elim (by have : (nI b).toInt = ((b : Nat) : Int) := nI_toInt (by omega); have : (3 : Int32).toInt = 3 := rfl; have := i_le q; omega)) (fun _ => ?_)
    refine r_ic (x := 7) rfl rfl ?_
    refine r_goto (tg := 68) rfl rfl ?_
    refine r_cv (y := 177) (ra := [.int 7, .int (nI qp)]) (rest := []) rfl ⟨⟨rfl, rfl⟩, rfl, by decide⟩ (fx_t30 fx) rfl rfl (Nat.le_of_ble_eq_true rfl) ?_
    refine c_misOf (h := h) (q := qp) (kd := kd) (k := 7) fx hq kx k7 (by decide) ?_
    rw [if_pos of_]
    show WR _ cd_219 71 [some (.ref (ad 30)), some (.int (nI a)), some (.int (nI b)), some (.int (nI qp)), none] [.int 1] h _
    refine r_if_ne (tg := 76) rfl rfl (fun _ => ?_) (fun q => absurd q (by decide))
    refine r_aload rfl rfl ?_
    refine r_dup rfl rfl ?_
    refine r_getI rfl ⟨rfl, rfl, rfl⟩ (fx_t30 fx) ?_
    refine WR_tI (y := nI H) eh ?_
    refine r_ic (x := 1) rfl rfl ?_
    refine r_isub rfl ?_
    refine WR_tI (y := nI (H - 1)) (Eq.trans (pk_sub (a := H) (b := 1) (by omega)) (congrArg nI (by omega))) ?_
    refine r_putI rfl ⟨rfl, rfl, rfl⟩ (fx_t30 fx) ?_
    have fx : FX n ad sa z0 (sI h (ad 30) 37 (nI (H - 1))) := (FX.sI fx)
    refine r_aload rfl rfl ?_
    refine r_getA (b := ad 57) rfl ⟨rfl, rfl, rfl⟩ (fx_t30 fx) (fx_r30_41 fx) ?_
    refine r_ic (x := 5) rfl rfl ?_
    refine r_iload rfl rfl ?_
    refine r_imul rfl ?_
    refine WR_tI (y := nI (5 * a)) (Eq.trans (pk_mul 5 a) (congrArg nI (by omega))) ?_
    refine r_iload rfl rfl ?_
    refine r_iadd rfl ?_
    refine WR_tI (y := nI (5 * a + b)) (Eq.trans (nI_add (5 * a) b) (congrArg nI (by omega))) ?_
    refine r_iaload rfl (.inl (fx_t57 fx)) (vp_ct (fx_n57 fx) (vp_in_nI (by omega) (by omega))) ?_
    refine WR_tI (congrArg (hI (sI h (ad 30) 37 (nI (H - 1))) (ad 57)) ((nI_clamp (by omega)) : _ = 5 * a + b)) ?_
    refine WR_tI (y := (-1)) (Eq.trans (I_ne (fx_ne fx (by decide))) r3) ?_
    refine r_istore (lv' := [some (.ref (ad 30)), some (.int (nI a)), some (.int (nI b)), some (.int (nI qp)), some (.int (-1))]) rfl (Nat.le_of_ble_eq_true rfl) rfl ?_
    refine r_aload rfl rfl ?_
    refine r_getA (b := ad 57) rfl ⟨rfl, rfl, rfl⟩ (fx_t30 fx) (fx_r30_41 fx) ?_
    refine r_ic (x := 5) rfl rfl ?_
    refine r_iload rfl rfl ?_
    refine r_imul rfl ?_
    refine WR_tI (y := nI (5 * a)) (Eq.trans (pk_mul 5 a) (congrArg nI (by omega))) ?_
    refine r_iload rfl rfl ?_
    refine r_iadd rfl ?_
    refine WR_tI (y := nI (5 * a + b)) (Eq.trans (nI_add (5 * a) b) (congrArg nI (by omega))) ?_
    refine r_iload rfl rfl ?_
    refine r_iastore rfl (fx_t57 fx) (vp_ct (fx_n57 fx) (vp_in_nI (by omega) (by omega))) ?_
    refine WR_h (h2 := sI (sI h (ad 30) 37 (nI (H - 1))) (ad 57) (5 * a + b) (nI qp)) (congrArg (fun z => sI (sI h (ad 30) 37 (nI (H - 1))) (ad 57) z (nI qp)) ((nI_clamp (by omega)) : _ = 5 * a + b)) ?_
    have fx : FX n ad sa z0 (sI (sI h (ad 30) 37 (nI (H - 1))) (ad 57) (5 * a + b) (nI qp)) := (FX.sI fx)
    refine r_iload rfl rfl ?_
    refine r_if_lt (tg := 126) rfl rfl (fun _ => ?_) (fun q => absurd q (by decide))
    refine r_ic (x := 0) rfl rfl ?_
    refine r_iret rfl ?_
    show WR _ cd_216 248 [some (.ref (ad 30)), some (.int 12), some (.int (nI a)), some (.int (nI b)), some (.int c), none] [.int 0] (sI (sI h (ad 30) 37 (nI (H - 1))) (ad 57) (5 * a + b) (nI qp)) _
    refine r_iret rfl ?_
    exact (L1 c1)
  · refine r_iload rfl rfl ?_
    refine r_ic (x := 2) rfl rfl ?_
    refine r_icmp_le (tg := 17) rfl rfl (fun _ => ?_) (fun q => False.elim (by have : (nI b).toInt = ((b : Nat) : Int) := nI_toInt (by omega); have : (2 : Int32).toInt = 2 := rfl; have := i_nle q; omega))
    refine r_aload rfl rfl ?_
    refine r_getI rfl ⟨rfl, rfl, rfl⟩ (fx_t30 fx) ?_
    refine WR_tI (y := nI H) eh ?_
    refine r_if_ne (tg := 26) rfl rfl (fun _ => ?_) (fun q => False.elim (by have : (nI H).toInt = ((H : Nat) : Int) := nI_toInt (by omega); have : (0 : Int32).toInt = 0 := rfl; have := i_eq q; omega))
    refine r_aload rfl rfl ?_
    refine r_getA (b := ad 54) rfl ⟨rfl, rfl, rfl⟩ (fx_t30 fx) (fx_r30_38 fx) ?_
    refine r_aload rfl rfl ?_
    refine r_getI rfl ⟨rfl, rfl, rfl⟩ (fx_t30 fx) ?_
    refine WR_tI (y := nI H) eh ?_
    refine r_ic (x := 1) rfl rfl ?_
    refine r_isub rfl ?_
    refine WR_tI (y := nI (H - 1)) (Eq.trans (pk_sub (a := H) (b := 1) (by omega)) (congrArg nI (by omega))) ?_
    refine r_iaload rfl (.inl (fx_t54 fx)) (vp_ct (fx_n54 fx) (vp_in_nI (by omega) (by omega))) ?_
    refine WR_tI (congrArg (hI h (ad 54)) ((nI_clamp (by omega)) : _ = H - 1)) ?_
    refine WR_tI (y := nI (qp + 1000)) (Eq.trans e2 (congrArg nI (Nat.add_comm 1000 qp))) ?_
    refine r_ic (x := 1000) rfl rfl ?_
    refine r_isub rfl ?_
    refine WR_tI (y := nI qp) (Eq.trans (pk_sub (a := qp + 1000) (b := 1000) (by omega)) (congrArg nI (by omega))) ?_
    refine r_istore (lv' := [some (.ref (ad 30)), some (.int (nI a)), some (.int (nI b)), some (.int (nI qp)), none]) rfl (Nat.le_of_ble_eq_true rfl) rfl ?_
    refine r_iload rfl rfl ?_
    refine r_if_lt (tg := 74) rfl rfl (fun q => False.elim (by have : (nI qp).toInt = ((qp : Nat) : Int) := nI_toInt (by omega); have : (0 : Int32).toInt = 0 := rfl; have := i_lt q; omega)) (fun _ => ?_)
    refine r_aload rfl rfl ?_
    refine r_iload rfl rfl ?_
    refine r_iload rfl rfl ?_
    refine r_ic (x := 3) rfl rfl ?_
    refine r_icmp_ge (tg := 58) rfl rfl (fun q => False.elim (by have : (nI b).toInt = ((b : Nat) : Int) := nI_toInt (by omega); have : (3 : Int32).toInt = 3 := rfl; have := i_le q; omega)) (fun _ => ?_)
    refine r_ic (x := 7) rfl rfl ?_
    refine r_goto (tg := 68) rfl rfl ?_
    refine r_cv (y := 177) (ra := [.int 7, .int (nI qp)]) (rest := []) rfl ⟨⟨rfl, rfl⟩, rfl, by decide⟩ (fx_t30 fx) rfl rfl (Nat.le_of_ble_eq_true rfl) ?_
    refine c_misOf (h := h) (q := qp) (kd := kd) (k := 7) fx hq kx k7 (by decide) ?_
    rw [if_pos of_]
    show WR _ cd_219 71 [some (.ref (ad 30)), some (.int (nI a)), some (.int (nI b)), some (.int (nI qp)), none] [.int 1] h _
    refine r_if_ne (tg := 76) rfl rfl (fun _ => ?_) (fun q => absurd q (by decide))
    refine r_aload rfl rfl ?_
    refine r_dup rfl rfl ?_
    refine r_getI rfl ⟨rfl, rfl, rfl⟩ (fx_t30 fx) ?_
    refine WR_tI (y := nI H) eh ?_
    refine r_ic (x := 1) rfl rfl ?_
    refine r_isub rfl ?_
    refine WR_tI (y := nI (H - 1)) (Eq.trans (pk_sub (a := H) (b := 1) (by omega)) (congrArg nI (by omega))) ?_
    refine r_putI rfl ⟨rfl, rfl, rfl⟩ (fx_t30 fx) ?_
    have fx : FX n ad sa z0 (sI h (ad 30) 37 (nI (H - 1))) := (FX.sI fx)
    refine r_aload rfl rfl ?_
    refine r_getA (b := ad 57) rfl ⟨rfl, rfl, rfl⟩ (fx_t30 fx) (fx_r30_41 fx) ?_
    refine r_ic (x := 5) rfl rfl ?_
    refine r_iload rfl rfl ?_
    refine r_imul rfl ?_
    refine WR_tI (y := nI (5 * a)) (Eq.trans (pk_mul 5 a) (congrArg nI (by omega))) ?_
    refine r_iload rfl rfl ?_
    refine r_iadd rfl ?_
    refine WR_tI (y := nI (5 * a + b)) (Eq.trans (nI_add (5 * a) b) (congrArg nI (by omega))) ?_
    refine r_iaload rfl (.inl (fx_t57 fx)) (vp_ct (fx_n57 fx) (vp_in_nI (by omega) (by omega))) ?_
    refine WR_tI (congrArg (hI (sI h (ad 30) 37 (nI (H - 1))) (ad 57)) ((nI_clamp (by omega)) : _ = 5 * a + b)) ?_
    refine WR_tI (y := (-1)) (Eq.trans (I_ne (fx_ne fx (by decide))) r3) ?_
    refine r_istore (lv' := [some (.ref (ad 30)), some (.int (nI a)), some (.int (nI b)), some (.int (nI qp)), some (.int (-1))]) rfl (Nat.le_of_ble_eq_true rfl) rfl ?_
    refine r_aload rfl rfl ?_
    refine r_getA (b := ad 57) rfl ⟨rfl, rfl, rfl⟩ (fx_t30 fx) (fx_r30_41 fx) ?_
    refine r_ic (x := 5) rfl rfl ?_
    refine r_iload rfl rfl ?_
    refine r_imul rfl ?_
    refine WR_tI (y := nI (5 * a)) (Eq.trans (pk_mul 5 a) (congrArg nI (by omega))) ?_
    refine r_iload rfl rfl ?_
    refine r_iadd rfl ?_
    refine WR_tI (y := nI (5 * a + b)) (Eq.trans (nI_add (5 * a) b) (congrArg nI (by omega))) ?_
    refine r_iload rfl rfl ?_
    refine r_iastore rfl (fx_t57 fx) (vp_ct (fx_n57 fx) (vp_in_nI (by omega) (by omega))) ?_
    refine WR_h (h2 := sI (sI h (ad 30) 37 (nI (H - 1))) (ad 57) (5 * a + b) (nI qp)) (congrArg (fun z => sI (sI h (ad 30) 37 (nI (H - 1))) (ad 57) z (nI qp)) ((nI_clamp (by omega)) : _ = 5 * a + b)) ?_
    have fx : FX n ad sa z0 (sI (sI h (ad 30) 37 (nI (H - 1))) (ad 57) (5 * a + b) (nI qp)) := (FX.sI fx)
    refine r_iload rfl rfl ?_
    refine r_if_lt (tg := 126) rfl rfl (fun _ => ?_) (fun q => absurd q (by decide))
    refine r_ic (x := 0) rfl rfl ?_
    refine r_iret rfl ?_
    show WR _ cd_216 248 [some (.ref (ad 30)), some (.int 12), some (.int (nI a)), some (.int (nI b)), some (.int c), none] [.int 0] (sI (sI h (ad 30) 37 (nI (H - 1))) (ad 57) (5 * a + b) (nI qp)) _
    refine r_iret rfl ?_
    exact (L2 c1)

set_option maxHeartbeats 2000000 in
theorem w_m12fs {d : Nat} {Q : mQ} {n : Nat} {ad sa : Nat → Nat} {z0 : Nat} {h : mH} (fx : FX n ad sa z0 h) {a H qp y : Nat} {c : Int32} {v : Int32} {b : Nat} (hb : b ≤ 2) (ha : a < 6) (e9 : hI h (ad 56) a = v) (eh : hI h (ad 30) 37 = nI H) (hH1 : 1 ≤ H) (hH : H ≤ 100) (hq : qp < 60) (e2 : hI h (ad 54) (H - 1) = nI (1000 + qp)) {kd : Nat} (kx : hI h (ad 37) qp = nI kd) (k7 : kd < 7) (of_ : ofK kd 7 = true) (hy : y < 60) (r3 : hI h (ad 57) (5 * a + b) = nI y) 
    (L1 : ¬ v = 0 → Q (some (.int 0)) (sI (sI (sI (sI (sI h (ad 30) 37 (nI (H - 1))) (ad 57) (5 * a + b) (nI qp)) (ad 54) (H - 1) (nI (y + 1000))) (ad 55) (H - 1) 23) (ad 30) 37 (nI H)))
    (L2 : v = 0 → Q (some (.int 0)) (sI (sI (sI (sI (sI h (ad 30) 37 (nI (H - 1))) (ad 57) (5 * a + b) (nI qp)) (ad 54) (H - 1) (nI (y + 1000))) (ad 55) (H - 1) 23) (ad 30) 37 (nI H))) : EV (d + 3) 216 [.ref (ad 30), .int 12, .int (nI a), .int (nI b), .int c] h Q := by
  have fx0 := fx
  refine in_216 (Nat.le_of_ble_eq_true rfl) ?_
  show WR _ cd_216 0 [some (.ref (ad 30)), some (.int 12), some (.int (nI a)), some (.int (nI b)), some (.int c), none] [] h _
  refine r_iload rfl rfl ?_
  refine r_tswL (tg := 242) rfl (by decide) ?_
  refine r_aload rfl rfl ?_
  refine r_iload rfl rfl ?_
  refine r_iload rfl rfl ?_
  refine r_cv (y := 219) (ra := [.int (nI b), .int (nI a)]) (rest := []) rfl ⟨⟨rfl, rfl⟩, rfl, by decide⟩ (fx_t30 fx) rfl rfl (Nat.le_of_ble_eq_true rfl) ?_
  refine in_219 (Nat.le_of_ble_eq_true rfl) ?_
  show WR _ cd_219 0 [some (.ref (ad 30)), some (.int (nI a)), some (.int (nI b)), none, none] [] h _
  refine r_aload rfl rfl ?_
  refine r_getA (b := ad 56) rfl ⟨rfl, rfl, rfl⟩ (fx_t30 fx) (fx_r30_40 fx) ?_
  refine r_iload rfl rfl ?_
  refine r_iaload rfl (.inl (fx_t56 fx)) (vp_ct (fx_n56 fx) (vp_in_nI (by omega) (by omega))) ?_
  refine WR_tI (congrArg (hI h (ad 56)) ((nI_clamp (by omega)) : _ = a)) ?_
  refine WR_tI (y := v) e9 ?_
  refine r_if_ne (tg := 17) rfl rfl (fun c1 => ?_) (fun c1 => ?_)
  · refine r_aload rfl rfl ?_
    refine r_getI rfl ⟨rfl, rfl, rfl⟩ (fx_t30 fx) ?_
    refine WR_tI (y := nI H) eh ?_
    refine r_if_ne (tg := 26) rfl rfl (fun _ => ?_) (fun q => False.elim (by have : (nI H).toInt = ((H : Nat) : Int) := nI_toInt (by omega); have : (0 : Int32).toInt = 0 := rfl; have := i_eq q; omega))
    refine r_aload rfl rfl ?_
    refine r_getA (b := ad 54) rfl ⟨rfl, rfl, rfl⟩ (fx_t30 fx) (fx_r30_38 fx) ?_
    refine r_aload rfl rfl ?_
    refine r_getI rfl ⟨rfl, rfl, rfl⟩ (fx_t30 fx) ?_
    refine WR_tI (y := nI H) eh ?_
    refine r_ic (x := 1) rfl rfl ?_
    refine r_isub rfl ?_
    refine WR_tI (y := nI (H - 1)) (Eq.trans (pk_sub (a := H) (b := 1) (by omega)) (congrArg nI (by omega))) ?_
    refine r_iaload rfl (.inl (fx_t54 fx)) (vp_ct (fx_n54 fx) (vp_in_nI (by omega) (by omega))) ?_
    refine WR_tI (congrArg (hI h (ad 54)) ((nI_clamp (by omega)) : _ = H - 1)) ?_
    refine WR_tI (y := nI (qp + 1000)) (Eq.trans e2 (congrArg nI (Nat.add_comm 1000 qp))) ?_
    refine r_ic (x := 1000) rfl rfl ?_
    refine r_isub rfl ?_
    refine WR_tI (y := nI qp) (Eq.trans (pk_sub (a := qp + 1000) (b := 1000) (by omega)) (congrArg nI (by omega))) ?_
    refine r_istore (lv' := [some (.ref (ad 30)), some (.int (nI a)), some (.int (nI b)), some (.int (nI qp)), none]) rfl (Nat.le_of_ble_eq_true rfl) rfl ?_
    refine r_iload rfl rfl ?_
    refine r_if_lt (tg := 74) rfl rfl (fun q => False.elim (by have : (nI qp).toInt = ((qp : Nat) : Int) := nI_toInt (by omega); have : (0 : Int32).toInt = 0 := rfl; have := i_lt q; omega)) (fun _ => ?_)
    refine r_aload rfl rfl ?_
    refine r_iload rfl rfl ?_
    refine r_iload rfl rfl ?_
    refine r_ic (x := 3) rfl rfl ?_
    refine r_icmp_ge (tg := 58) rfl rfl (fun q => False.elim (by have : (nI b).toInt = ((b : Nat) : Int) := nI_toInt (by omega); have : (3 : Int32).toInt = 3 := rfl; have := i_le q; omega)) (fun _ => ?_)
    refine r_ic (x := 7) rfl rfl ?_
    refine r_goto (tg := 68) rfl rfl ?_
    refine r_cv (y := 177) (ra := [.int 7, .int (nI qp)]) (rest := []) rfl ⟨⟨rfl, rfl⟩, rfl, by decide⟩ (fx_t30 fx) rfl rfl (Nat.le_of_ble_eq_true rfl) ?_
    refine c_misOf (h := h) (q := qp) (kd := kd) (k := 7) fx hq kx k7 (by decide) ?_
    rw [if_pos of_]
    show WR _ cd_219 71 [some (.ref (ad 30)), some (.int (nI a)), some (.int (nI b)), some (.int (nI qp)), none] [.int 1] h _
    refine r_if_ne (tg := 76) rfl rfl (fun _ => ?_) (fun q => absurd q (by decide))
    refine r_aload rfl rfl ?_
    refine r_dup rfl rfl ?_
    refine r_getI rfl ⟨rfl, rfl, rfl⟩ (fx_t30 fx) ?_
    refine WR_tI (y := nI H) eh ?_
    refine r_ic (x := 1) rfl rfl ?_
    refine r_isub rfl ?_
    refine WR_tI (y := nI (H - 1)) (Eq.trans (pk_sub (a := H) (b := 1) (by omega)) (congrArg nI (by omega))) ?_
    refine r_putI rfl ⟨rfl, rfl, rfl⟩ (fx_t30 fx) ?_
    have fx : FX n ad sa z0 (sI h (ad 30) 37 (nI (H - 1))) := (FX.sI fx)
    refine r_aload rfl rfl ?_
    refine r_getA (b := ad 57) rfl ⟨rfl, rfl, rfl⟩ (fx_t30 fx) (fx_r30_41 fx) ?_
    refine r_ic (x := 5) rfl rfl ?_
    refine r_iload rfl rfl ?_
    refine r_imul rfl ?_
    refine WR_tI (y := nI (5 * a)) (Eq.trans (pk_mul 5 a) (congrArg nI (by omega))) ?_
    refine r_iload rfl rfl ?_
    refine r_iadd rfl ?_
    refine WR_tI (y := nI (5 * a + b)) (Eq.trans (nI_add (5 * a) b) (congrArg nI (by omega))) ?_
    refine r_iaload rfl (.inl (fx_t57 fx)) (vp_ct (fx_n57 fx) (vp_in_nI (by omega) (by omega))) ?_
    refine WR_tI (congrArg (hI (sI h (ad 30) 37 (nI (H - 1))) (ad 57)) ((nI_clamp (by omega)) : _ = 5 * a + b)) ?_
    refine WR_tI (y := nI y) (Eq.trans (I_ne (fx_ne fx (by decide))) r3) ?_
    refine r_istore (lv' := [some (.ref (ad 30)), some (.int (nI a)), some (.int (nI b)), some (.int (nI qp)), some (.int (nI y))]) rfl (Nat.le_of_ble_eq_true rfl) rfl ?_
    refine r_aload rfl rfl ?_
    refine r_getA (b := ad 57) rfl ⟨rfl, rfl, rfl⟩ (fx_t30 fx) (fx_r30_41 fx) ?_
    refine r_ic (x := 5) rfl rfl ?_
    refine r_iload rfl rfl ?_
    refine r_imul rfl ?_
    refine WR_tI (y := nI (5 * a)) (Eq.trans (pk_mul 5 a) (congrArg nI (by omega))) ?_
    refine r_iload rfl rfl ?_
    refine r_iadd rfl ?_
    refine WR_tI (y := nI (5 * a + b)) (Eq.trans (nI_add (5 * a) b) (congrArg nI (by omega))) ?_
    refine r_iload rfl rfl ?_
    refine r_iastore rfl (fx_t57 fx) (vp_ct (fx_n57 fx) (vp_in_nI (by omega) (by omega))) ?_
    refine WR_h (h2 := sI (sI h (ad 30) 37 (nI (H - 1))) (ad 57) (5 * a + b) (nI qp)) (congrArg (fun z => sI (sI h (ad 30) 37 (nI (H - 1))) (ad 57) z (nI qp)) ((nI_clamp (by omega)) : _ = 5 * a + b)) ?_
    have fx : FX n ad sa z0 (sI (sI h (ad 30) 37 (nI (H - 1))) (ad 57) (5 * a + b) (nI qp)) := (FX.sI fx)
    refine r_iload rfl rfl ?_
    refine r_if_lt (tg := 126) rfl rfl (fun q => False.elim (by have : (nI y).toInt = ((y : Nat) : Int) := nI_toInt (by omega); have : (0 : Int32).toInt = 0 := rfl; have := i_lt q; omega)) (fun _ => ?_)
    refine r_aload rfl rfl ?_
    refine r_ic (x := 1000) rfl rfl ?_
    refine r_iload rfl rfl ?_
    refine r_iadd rfl ?_
    refine WR_tI (y := nI (y + 1000)) (Eq.trans (nI_add 1000 y) (congrArg nI (by omega))) ?_
    refine r_ic (x := 23) rfl rfl ?_
    refine r_cv (y := 217) (ra := [.int 23, .int (nI (y + 1000))]) (rest := []) rfl ⟨⟨rfl, rfl⟩, rfl, by decide⟩ (fx_t30 fx) rfl rfl (Nat.le_of_ble_eq_true rfl) ?_
    refine in_217 (Nat.le_of_ble_eq_true rfl) ?_
    show WR _ cd_217 0 [some (.ref (ad 30)), some (.int (nI (y + 1000))), some (.int 23)] [] (sI (sI h (ad 30) 37 (nI (H - 1))) (ad 57) (5 * a + b) (nI qp)) _
    refine r_aload rfl rfl ?_
    refine r_getA (b := ad 54) rfl ⟨rfl, rfl, rfl⟩ (fx_t30 fx) (fx_r30_38 fx) ?_
    refine r_aload rfl rfl ?_
    refine r_getI rfl ⟨rfl, rfl, rfl⟩ (fx_t30 fx) ?_
    refine WR_tI (y := nI (H - 1)) (Eq.trans (I_ne (fx_ne fx (by decide))) I_eq) ?_
    refine r_iload rfl rfl ?_
    refine r_iastore rfl (fx_t54 fx) (vp_ct (fx_n54 fx) (vp_in_nI (by omega) (by omega))) ?_
    refine WR_h (h2 := sI (sI (sI h (ad 30) 37 (nI (H - 1))) (ad 57) (5 * a + b) (nI qp)) (ad 54) (H - 1) (nI (y + 1000))) (congrArg (fun z => sI (sI (sI h (ad 30) 37 (nI (H - 1))) (ad 57) (5 * a + b) (nI qp)) (ad 54) z (nI (y + 1000))) ((nI_clamp (by omega)) : _ = H - 1)) ?_
    have fx : FX n ad sa z0 (sI (sI (sI h (ad 30) 37 (nI (H - 1))) (ad 57) (5 * a + b) (nI qp)) (ad 54) (H - 1) (nI (y + 1000))) := (FX.sI fx)
    refine r_aload rfl rfl ?_
    refine r_getA (b := ad 55) rfl ⟨rfl, rfl, rfl⟩ (fx_t30 fx) (fx_r30_39 fx) ?_
    refine r_aload rfl rfl ?_
    refine r_getI rfl ⟨rfl, rfl, rfl⟩ (fx_t30 fx) ?_
    refine WR_tI (y := nI (H - 1)) (Eq.trans (I_ne (fx_ne fx (by decide))) (Eq.trans (I_ne (fx_ne fx (by decide))) I_eq)) ?_
    refine r_iload rfl rfl ?_
    refine r_iastore rfl (fx_t55 fx) (vp_ct (fx_n55 fx) (vp_in_nI (by omega) (by omega))) ?_
    refine WR_h (h2 := sI (sI (sI (sI h (ad 30) 37 (nI (H - 1))) (ad 57) (5 * a + b) (nI qp)) (ad 54) (H - 1) (nI (y + 1000))) (ad 55) (H - 1) 23) (congrArg (fun z => sI (sI (sI (sI h (ad 30) 37 (nI (H - 1))) (ad 57) (5 * a + b) (nI qp)) (ad 54) (H - 1) (nI (y + 1000))) (ad 55) z 23) ((nI_clamp (by omega)) : _ = H - 1)) ?_
    have fx : FX n ad sa z0 (sI (sI (sI (sI h (ad 30) 37 (nI (H - 1))) (ad 57) (5 * a + b) (nI qp)) (ad 54) (H - 1) (nI (y + 1000))) (ad 55) (H - 1) 23) := (FX.sI fx)
    refine r_aload rfl rfl ?_
    refine r_dup rfl rfl ?_
    refine r_getI rfl ⟨rfl, rfl, rfl⟩ (fx_t30 fx) ?_
    refine WR_tI (y := nI (H - 1)) (Eq.trans (I_ne (fx_ne fx (by decide))) (Eq.trans (I_ne (fx_ne fx (by decide))) (Eq.trans (I_ne (fx_ne fx (by decide))) I_eq))) ?_
    refine r_ic (x := 1) rfl rfl ?_
    refine r_iadd rfl ?_
    refine WR_tI (y := nI H) (Eq.trans (nI_add (H - 1) 1) (congrArg nI (by omega))) ?_
    refine r_putI rfl ⟨rfl, rfl, rfl⟩ (fx_t30 fx) ?_
    have fx : FX n ad sa z0 (sI (sI (sI (sI (sI h (ad 30) 37 (nI (H - 1))) (ad 57) (5 * a + b) (nI qp)) (ad 54) (H - 1) (nI (y + 1000))) (ad 55) (H - 1) 23) (ad 30) 37 (nI H)) := (FX.sI fx)
    refine r_vret rfl ?_
    show WR _ cd_219 126 [some (.ref (ad 30)), some (.int (nI a)), some (.int (nI b)), some (.int (nI qp)), some (.int (nI y))] [] (sI (sI (sI (sI (sI h (ad 30) 37 (nI (H - 1))) (ad 57) (5 * a + b) (nI qp)) (ad 54) (H - 1) (nI (y + 1000))) (ad 55) (H - 1) 23) (ad 30) 37 (nI H)) _
    refine r_ic (x := 0) rfl rfl ?_
    refine r_iret rfl ?_
    show WR _ cd_216 248 [some (.ref (ad 30)), some (.int 12), some (.int (nI a)), some (.int (nI b)), some (.int c), none] [.int 0] (sI (sI (sI (sI (sI h (ad 30) 37 (nI (H - 1))) (ad 57) (5 * a + b) (nI qp)) (ad 54) (H - 1) (nI (y + 1000))) (ad 55) (H - 1) 23) (ad 30) 37 (nI H)) _
    refine r_iret rfl ?_
    exact (L1 c1)
  · refine r_iload rfl rfl ?_
    refine r_ic (x := 2) rfl rfl ?_
    refine r_icmp_le (tg := 17) rfl rfl (fun _ => ?_) (fun q => False.elim (by have : (nI b).toInt = ((b : Nat) : Int) := nI_toInt (by omega); have : (2 : Int32).toInt = 2 := rfl; have := i_nle q; omega))
    refine r_aload rfl rfl ?_
    refine r_getI rfl ⟨rfl, rfl, rfl⟩ (fx_t30 fx) ?_
    refine WR_tI (y := nI H) eh ?_
    refine r_if_ne (tg := 26) rfl rfl (fun _ => ?_) (fun q => False.elim (by have : (nI H).toInt = ((H : Nat) : Int) := nI_toInt (by omega); have : (0 : Int32).toInt = 0 := rfl; have := i_eq q; omega))
    refine r_aload rfl rfl ?_
    refine r_getA (b := ad 54) rfl ⟨rfl, rfl, rfl⟩ (fx_t30 fx) (fx_r30_38 fx) ?_
    refine r_aload rfl rfl ?_
    refine r_getI rfl ⟨rfl, rfl, rfl⟩ (fx_t30 fx) ?_
    refine WR_tI (y := nI H) eh ?_
    refine r_ic (x := 1) rfl rfl ?_
    refine r_isub rfl ?_
    refine WR_tI (y := nI (H - 1)) (Eq.trans (pk_sub (a := H) (b := 1) (by omega)) (congrArg nI (by omega))) ?_
    refine r_iaload rfl (.inl (fx_t54 fx)) (vp_ct (fx_n54 fx) (vp_in_nI (by omega) (by omega))) ?_
    refine WR_tI (congrArg (hI h (ad 54)) ((nI_clamp (by omega)) : _ = H - 1)) ?_
    refine WR_tI (y := nI (qp + 1000)) (Eq.trans e2 (congrArg nI (Nat.add_comm 1000 qp))) ?_
    refine r_ic (x := 1000) rfl rfl ?_
    refine r_isub rfl ?_
    refine WR_tI (y := nI qp) (Eq.trans (pk_sub (a := qp + 1000) (b := 1000) (by omega)) (congrArg nI (by omega))) ?_
    refine r_istore (lv' := [some (.ref (ad 30)), some (.int (nI a)), some (.int (nI b)), some (.int (nI qp)), none]) rfl (Nat.le_of_ble_eq_true rfl) rfl ?_
    refine r_iload rfl rfl ?_
    refine r_if_lt (tg := 74) rfl rfl (fun q => False.elim (by have : (nI qp).toInt = ((qp : Nat) : Int) := nI_toInt (by omega); have : (0 : Int32).toInt = 0 := rfl; have := i_lt q; omega)) (fun _ => ?_)
    refine r_aload rfl rfl ?_
    refine r_iload rfl rfl ?_
    refine r_iload rfl rfl ?_
    refine r_ic (x := 3) rfl rfl ?_
    refine r_icmp_ge (tg := 58) rfl rfl (fun q => False.elim (by have : (nI b).toInt = ((b : Nat) : Int) := nI_toInt (by omega); have : (3 : Int32).toInt = 3 := rfl; have := i_le q; omega)) (fun _ => ?_)
    refine r_ic (x := 7) rfl rfl ?_
    refine r_goto (tg := 68) rfl rfl ?_
    refine r_cv (y := 177) (ra := [.int 7, .int (nI qp)]) (rest := []) rfl ⟨⟨rfl, rfl⟩, rfl, by decide⟩ (fx_t30 fx) rfl rfl (Nat.le_of_ble_eq_true rfl) ?_
    refine c_misOf (h := h) (q := qp) (kd := kd) (k := 7) fx hq kx k7 (by decide) ?_
    rw [if_pos of_]
    show WR _ cd_219 71 [some (.ref (ad 30)), some (.int (nI a)), some (.int (nI b)), some (.int (nI qp)), none] [.int 1] h _
    refine r_if_ne (tg := 76) rfl rfl (fun _ => ?_) (fun q => absurd q (by decide))
    refine r_aload rfl rfl ?_
    refine r_dup rfl rfl ?_
    refine r_getI rfl ⟨rfl, rfl, rfl⟩ (fx_t30 fx) ?_
    refine WR_tI (y := nI H) eh ?_
    refine r_ic (x := 1) rfl rfl ?_
    refine r_isub rfl ?_
    refine WR_tI (y := nI (H - 1)) (Eq.trans (pk_sub (a := H) (b := 1) (by omega)) (congrArg nI (by omega))) ?_
    refine r_putI rfl ⟨rfl, rfl, rfl⟩ (fx_t30 fx) ?_
    have fx : FX n ad sa z0 (sI h (ad 30) 37 (nI (H - 1))) := (FX.sI fx)
    refine r_aload rfl rfl ?_
    refine r_getA (b := ad 57) rfl ⟨rfl, rfl, rfl⟩ (fx_t30 fx) (fx_r30_41 fx) ?_
    refine r_ic (x := 5) rfl rfl ?_
    refine r_iload rfl rfl ?_
    refine r_imul rfl ?_
    refine WR_tI (y := nI (5 * a)) (Eq.trans (pk_mul 5 a) (congrArg nI (by omega))) ?_
    refine r_iload rfl rfl ?_
    refine r_iadd rfl ?_
    refine WR_tI (y := nI (5 * a + b)) (Eq.trans (nI_add (5 * a) b) (congrArg nI (by omega))) ?_
    refine r_iaload rfl (.inl (fx_t57 fx)) (vp_ct (fx_n57 fx) (vp_in_nI (by omega) (by omega))) ?_
    refine WR_tI (congrArg (hI (sI h (ad 30) 37 (nI (H - 1))) (ad 57)) ((nI_clamp (by omega)) : _ = 5 * a + b)) ?_
    refine WR_tI (y := nI y) (Eq.trans (I_ne (fx_ne fx (by decide))) r3) ?_
    refine r_istore (lv' := [some (.ref (ad 30)), some (.int (nI a)), some (.int (nI b)), some (.int (nI qp)), some (.int (nI y))]) rfl (Nat.le_of_ble_eq_true rfl) rfl ?_
    refine r_aload rfl rfl ?_
    refine r_getA (b := ad 57) rfl ⟨rfl, rfl, rfl⟩ (fx_t30 fx) (fx_r30_41 fx) ?_
    refine r_ic (x := 5) rfl rfl ?_
    refine r_iload rfl rfl ?_
    refine r_imul rfl ?_
    refine WR_tI (y := nI (5 * a)) (Eq.trans (pk_mul 5 a) (congrArg nI (by omega))) ?_
    refine r_iload rfl rfl ?_
    refine r_iadd rfl ?_
    refine WR_tI (y := nI (5 * a + b)) (Eq.trans (nI_add (5 * a) b) (congrArg nI (by omega))) ?_
    refine r_iload rfl rfl ?_
    refine r_iastore rfl (fx_t57 fx) (vp_ct (fx_n57 fx) (vp_in_nI (by omega) (by omega))) ?_
    refine WR_h (h2 := sI (sI h (ad 30) 37 (nI (H - 1))) (ad 57) (5 * a + b) (nI qp)) (congrArg (fun z => sI (sI h (ad 30) 37 (nI (H - 1))) (ad 57) z (nI qp)) ((nI_clamp (by omega)) : _ = 5 * a + b)) ?_
    have fx : FX n ad sa z0 (sI (sI h (ad 30) 37 (nI (H - 1))) (ad 57) (5 * a + b) (nI qp)) := (FX.sI fx)
    refine r_iload rfl rfl ?_
    refine r_if_lt (tg := 126) rfl rfl (fun q => False.elim (by have : (nI y).toInt = ((y : Nat) : Int) := nI_toInt (by omega); have : (0 : Int32).toInt = 0 := rfl; have := i_lt q; omega)) (fun _ => ?_)
    refine r_aload rfl rfl ?_
    refine r_ic (x := 1000) rfl rfl ?_
    refine r_iload rfl rfl ?_
    refine r_iadd rfl ?_
    refine WR_tI (y := nI (y + 1000)) (Eq.trans (nI_add 1000 y) (congrArg nI (by omega))) ?_
    refine r_ic (x := 23) rfl rfl ?_
    refine r_cv (y := 217) (ra := [.int 23, .int (nI (y + 1000))]) (rest := []) rfl ⟨⟨rfl, rfl⟩, rfl, by decide⟩ (fx_t30 fx) rfl rfl (Nat.le_of_ble_eq_true rfl) ?_
    refine in_217 (Nat.le_of_ble_eq_true rfl) ?_
    show WR _ cd_217 0 [some (.ref (ad 30)), some (.int (nI (y + 1000))), some (.int 23)] [] (sI (sI h (ad 30) 37 (nI (H - 1))) (ad 57) (5 * a + b) (nI qp)) _
    refine r_aload rfl rfl ?_
    refine r_getA (b := ad 54) rfl ⟨rfl, rfl, rfl⟩ (fx_t30 fx) (fx_r30_38 fx) ?_
    refine r_aload rfl rfl ?_
    refine r_getI rfl ⟨rfl, rfl, rfl⟩ (fx_t30 fx) ?_
    refine WR_tI (y := nI (H - 1)) (Eq.trans (I_ne (fx_ne fx (by decide))) I_eq) ?_
    refine r_iload rfl rfl ?_
    refine r_iastore rfl (fx_t54 fx) (vp_ct (fx_n54 fx) (vp_in_nI (by omega) (by omega))) ?_
    refine WR_h (h2 := sI (sI (sI h (ad 30) 37 (nI (H - 1))) (ad 57) (5 * a + b) (nI qp)) (ad 54) (H - 1) (nI (y + 1000))) (congrArg (fun z => sI (sI (sI h (ad 30) 37 (nI (H - 1))) (ad 57) (5 * a + b) (nI qp)) (ad 54) z (nI (y + 1000))) ((nI_clamp (by omega)) : _ = H - 1)) ?_
    have fx : FX n ad sa z0 (sI (sI (sI h (ad 30) 37 (nI (H - 1))) (ad 57) (5 * a + b) (nI qp)) (ad 54) (H - 1) (nI (y + 1000))) := (FX.sI fx)
    refine r_aload rfl rfl ?_
    refine r_getA (b := ad 55) rfl ⟨rfl, rfl, rfl⟩ (fx_t30 fx) (fx_r30_39 fx) ?_
    refine r_aload rfl rfl ?_
    refine r_getI rfl ⟨rfl, rfl, rfl⟩ (fx_t30 fx) ?_
    refine WR_tI (y := nI (H - 1)) (Eq.trans (I_ne (fx_ne fx (by decide))) (Eq.trans (I_ne (fx_ne fx (by decide))) I_eq)) ?_
    refine r_iload rfl rfl ?_
    refine r_iastore rfl (fx_t55 fx) (vp_ct (fx_n55 fx) (vp_in_nI (by omega) (by omega))) ?_
    refine WR_h (h2 := sI (sI (sI (sI h (ad 30) 37 (nI (H - 1))) (ad 57) (5 * a + b) (nI qp)) (ad 54) (H - 1) (nI (y + 1000))) (ad 55) (H - 1) 23) (congrArg (fun z => sI (sI (sI (sI h (ad 30) 37 (nI (H - 1))) (ad 57) (5 * a + b) (nI qp)) (ad 54) (H - 1) (nI (y + 1000))) (ad 55) z 23) ((nI_clamp (by omega)) : _ = H - 1)) ?_
    have fx : FX n ad sa z0 (sI (sI (sI (sI h (ad 30) 37 (nI (H - 1))) (ad 57) (5 * a + b) (nI qp)) (ad 54) (H - 1) (nI (y + 1000))) (ad 55) (H - 1) 23) := (FX.sI fx)
    refine r_aload rfl rfl ?_
    refine r_dup rfl rfl ?_
    refine r_getI rfl ⟨rfl, rfl, rfl⟩ (fx_t30 fx) ?_
    refine WR_tI (y := nI (H - 1)) (Eq.trans (I_ne (fx_ne fx (by decide))) (Eq.trans (I_ne (fx_ne fx (by decide))) (Eq.trans (I_ne (fx_ne fx (by decide))) I_eq))) ?_
    refine r_ic (x := 1) rfl rfl ?_
    refine r_iadd rfl ?_
    refine WR_tI (y := nI H) (Eq.trans (nI_add (H - 1) 1) (congrArg nI (by omega))) ?_
    refine r_putI rfl ⟨rfl, rfl, rfl⟩ (fx_t30 fx) ?_
    have fx : FX n ad sa z0 (sI (sI (sI (sI (sI h (ad 30) 37 (nI (H - 1))) (ad 57) (5 * a + b) (nI qp)) (ad 54) (H - 1) (nI (y + 1000))) (ad 55) (H - 1) 23) (ad 30) 37 (nI H)) := (FX.sI fx)
    refine r_vret rfl ?_
    show WR _ cd_219 126 [some (.ref (ad 30)), some (.int (nI a)), some (.int (nI b)), some (.int (nI qp)), some (.int (nI y))] [] (sI (sI (sI (sI (sI h (ad 30) 37 (nI (H - 1))) (ad 57) (5 * a + b) (nI qp)) (ad 54) (H - 1) (nI (y + 1000))) (ad 55) (H - 1) 23) (ad 30) 37 (nI H)) _
    refine r_ic (x := 0) rfl rfl ?_
    refine r_iret rfl ?_
    show WR _ cd_216 248 [some (.ref (ad 30)), some (.int 12), some (.int (nI a)), some (.int (nI b)), some (.int c), none] [.int 0] (sI (sI (sI (sI (sI h (ad 30) 37 (nI (H - 1))) (ad 57) (5 * a + b) (nI qp)) (ad 54) (H - 1) (nI (y + 1000))) (ad 55) (H - 1) 23) (ad 30) 37 (nI H)) _
    refine r_iret rfl ?_
    exact (L2 c1)

set_option maxHeartbeats 2000000 in
theorem w_m13ns {d : Nat} {Q : mQ} {n : Nat} {ad sa : Nat → Nat} {z0 : Nat} {h : mH} (fx : FX n ad sa z0 h) {a : Nat} {c : Int32} {v : Int32} {b : Nat} (hb : b ≤ 2) (ha : a < 6) (e9 : hI h (ad 56) a = v) (r3 : hI h (ad 57) (5 * a + b) = -1) 
    (L1 : ¬ v = 0 → Q (some (.int 1)) h)
    (L2 : v = 0 → Q (some (.int 1)) h) : EV (d + 2) 216 [.ref (ad 30), .int 13, .int (nI a), .int (nI b), .int c] h Q := by
  have fx0 := fx
  refine in_216 (Nat.le_of_ble_eq_true rfl) ?_
  show WR _ cd_216 0 [some (.ref (ad 30)), some (.int 13), some (.int (nI a)), some (.int (nI b)), some (.int c), none] [] h _
  refine r_iload rfl rfl ?_
  refine r_tswL (tg := 249) rfl (by decide) ?_
  refine r_aload rfl rfl ?_
  refine r_iload rfl rfl ?_
  refine r_iload rfl rfl ?_
  refine r_cv (y := 220) (ra := [.int (nI b), .int (nI a)]) (rest := []) rfl ⟨⟨rfl, rfl⟩, rfl, by decide⟩ (fx_t30 fx) rfl rfl (Nat.le_of_ble_eq_true rfl) ?_
  refine in_220 (Nat.le_of_ble_eq_true rfl) ?_
  show WR _ cd_220 0 [some (.ref (ad 30)), some (.int (nI a)), some (.int (nI b)), none] [] h _
  refine r_aload rfl rfl ?_
  refine r_getA (b := ad 56) rfl ⟨rfl, rfl, rfl⟩ (fx_t30 fx) (fx_r30_40 fx) ?_
  refine r_iload rfl rfl ?_
  refine r_iaload rfl (.inl (fx_t56 fx)) (vp_ct (fx_n56 fx) (vp_in_nI (by omega) (by omega))) ?_
  refine WR_tI (congrArg (hI h (ad 56)) ((nI_clamp (by omega)) : _ = a)) ?_
  refine WR_tI (y := v) e9 ?_
  refine r_if_ne (tg := 17) rfl rfl (fun c1 => ?_) (fun c1 => ?_)
  · refine r_aload rfl rfl ?_
    refine r_getA (b := ad 57) rfl ⟨rfl, rfl, rfl⟩ (fx_t30 fx) (fx_r30_41 fx) ?_
    refine r_ic (x := 5) rfl rfl ?_
    refine r_iload rfl rfl ?_
    refine r_imul rfl ?_
    refine WR_tI (y := nI (5 * a)) (Eq.trans (pk_mul 5 a) (congrArg nI (by omega))) ?_
    refine r_iload rfl rfl ?_
    refine r_iadd rfl ?_
    refine WR_tI (y := nI (5 * a + b)) (Eq.trans (nI_add (5 * a) b) (congrArg nI (by omega))) ?_
    refine r_iaload rfl (.inl (fx_t57 fx)) (vp_ct (fx_n57 fx) (vp_in_nI (by omega) (by omega))) ?_
    refine WR_tI (congrArg (hI h (ad 57)) ((nI_clamp (by omega)) : _ = 5 * a + b)) ?_
    refine WR_tI (y := (-1)) r3 ?_
    refine r_istore (lv' := [some (.ref (ad 30)), some (.int (nI a)), some (.int (nI b)), some (.int (-1))]) rfl (Nat.le_of_ble_eq_true rfl) rfl ?_
    refine r_iload rfl rfl ?_
    refine r_if_ge (tg := 34) rfl rfl (fun q => absurd q (by decide)) (fun _ => ?_)
    refine r_ic (x := 1) rfl rfl ?_
    refine r_iret rfl ?_
    show WR _ cd_216 255 [some (.ref (ad 30)), some (.int 13), some (.int (nI a)), some (.int (nI b)), some (.int c), none] [.int 1] h _
    refine r_iret rfl ?_
    exact (L1 c1)
  · refine r_iload rfl rfl ?_
    refine r_ic (x := 2) rfl rfl ?_
    refine r_icmp_le (tg := 17) rfl rfl (fun _ => ?_) (fun q => False.elim (by have : (nI b).toInt = ((b : Nat) : Int) := nI_toInt (by omega); have : (2 : Int32).toInt = 2 := rfl; have := i_nle q; omega))
    refine r_aload rfl rfl ?_
    refine r_getA (b := ad 57) rfl ⟨rfl, rfl, rfl⟩ (fx_t30 fx) (fx_r30_41 fx) ?_
    refine r_ic (x := 5) rfl rfl ?_
    refine r_iload rfl rfl ?_
    refine r_imul rfl ?_
    refine WR_tI (y := nI (5 * a)) (Eq.trans (pk_mul 5 a) (congrArg nI (by omega))) ?_
    refine r_iload rfl rfl ?_
    refine r_iadd rfl ?_
    refine WR_tI (y := nI (5 * a + b)) (Eq.trans (nI_add (5 * a) b) (congrArg nI (by omega))) ?_
    refine r_iaload rfl (.inl (fx_t57 fx)) (vp_ct (fx_n57 fx) (vp_in_nI (by omega) (by omega))) ?_
    refine WR_tI (congrArg (hI h (ad 57)) ((nI_clamp (by omega)) : _ = 5 * a + b)) ?_
    refine WR_tI (y := (-1)) r3 ?_
    refine r_istore (lv' := [some (.ref (ad 30)), some (.int (nI a)), some (.int (nI b)), some (.int (-1))]) rfl (Nat.le_of_ble_eq_true rfl) rfl ?_
    refine r_iload rfl rfl ?_
    refine r_if_ge (tg := 34) rfl rfl (fun q => absurd q (by decide)) (fun _ => ?_)
    refine r_ic (x := 1) rfl rfl ?_
    refine r_iret rfl ?_
    show WR _ cd_216 255 [some (.ref (ad 30)), some (.int 13), some (.int (nI a)), some (.int (nI b)), some (.int c), none] [.int 1] h _
    refine r_iret rfl ?_
    exact (L2 c1)

set_option maxHeartbeats 2000000 in
theorem w_m13ss {d : Nat} {Q : mQ} {n : Nat} {ad sa : Nat → Nat} {z0 : Nat} {h : mH} (fx : FX n ad sa z0 h) {a H y : Nat} {c : Int32} {v : Int32} {b : Nat} (hb : b ≤ 2) (ha : a < 6) (e9 : hI h (ad 56) a = v) (eh : hI h (ad 30) 37 = nI H) (hH : H < 100) (hy : y < 60) (r3 : hI h (ad 57) (5 * a + b) = nI y) 
    (L1 : ¬ v = 0 → Q (some (.int 0)) (sI (sI (sI (sI h (ad 54) H (nI (y + 1000))) (ad 55) H 23) (ad 30) 37 (nI (H + 1))) (ad 57) (5 * a + b) (-1)))
    (L2 : v = 0 → Q (some (.int 0)) (sI (sI (sI (sI h (ad 54) H (nI (y + 1000))) (ad 55) H 23) (ad 30) 37 (nI (H + 1))) (ad 57) (5 * a + b) (-1))) : EV (d + 3) 216 [.ref (ad 30), .int 13, .int (nI a), .int (nI b), .int c] h Q := by
  have fx0 := fx
  refine in_216 (Nat.le_of_ble_eq_true rfl) ?_
  show WR _ cd_216 0 [some (.ref (ad 30)), some (.int 13), some (.int (nI a)), some (.int (nI b)), some (.int c), none] [] h _
  refine r_iload rfl rfl ?_
  refine r_tswL (tg := 249) rfl (by decide) ?_
  refine r_aload rfl rfl ?_
  refine r_iload rfl rfl ?_
  refine r_iload rfl rfl ?_
  refine r_cv (y := 220) (ra := [.int (nI b), .int (nI a)]) (rest := []) rfl ⟨⟨rfl, rfl⟩, rfl, by decide⟩ (fx_t30 fx) rfl rfl (Nat.le_of_ble_eq_true rfl) ?_
  refine in_220 (Nat.le_of_ble_eq_true rfl) ?_
  show WR _ cd_220 0 [some (.ref (ad 30)), some (.int (nI a)), some (.int (nI b)), none] [] h _
  refine r_aload rfl rfl ?_
  refine r_getA (b := ad 56) rfl ⟨rfl, rfl, rfl⟩ (fx_t30 fx) (fx_r30_40 fx) ?_
  refine r_iload rfl rfl ?_
  refine r_iaload rfl (.inl (fx_t56 fx)) (vp_ct (fx_n56 fx) (vp_in_nI (by omega) (by omega))) ?_
  refine WR_tI (congrArg (hI h (ad 56)) ((nI_clamp (by omega)) : _ = a)) ?_
  refine WR_tI (y := v) e9 ?_
  refine r_if_ne (tg := 17) rfl rfl (fun c1 => ?_) (fun c1 => ?_)
  · refine r_aload rfl rfl ?_
    refine r_getA (b := ad 57) rfl ⟨rfl, rfl, rfl⟩ (fx_t30 fx) (fx_r30_41 fx) ?_
    refine r_ic (x := 5) rfl rfl ?_
    refine r_iload rfl rfl ?_
    refine r_imul rfl ?_
    refine WR_tI (y := nI (5 * a)) (Eq.trans (pk_mul 5 a) (congrArg nI (by omega))) ?_
    refine r_iload rfl rfl ?_
    refine r_iadd rfl ?_
    refine WR_tI (y := nI (5 * a + b)) (Eq.trans (nI_add (5 * a) b) (congrArg nI (by omega))) ?_
    refine r_iaload rfl (.inl (fx_t57 fx)) (vp_ct (fx_n57 fx) (vp_in_nI (by omega) (by omega))) ?_
    refine WR_tI (congrArg (hI h (ad 57)) ((nI_clamp (by omega)) : _ = 5 * a + b)) ?_
    refine WR_tI (y := nI y) r3 ?_
    refine r_istore (lv' := [some (.ref (ad 30)), some (.int (nI a)), some (.int (nI b)), some (.int (nI y))]) rfl (Nat.le_of_ble_eq_true rfl) rfl ?_
    refine r_iload rfl rfl ?_
    refine r_if_ge (tg := 34) rfl rfl (fun _ => ?_) (fun q => False.elim (by have : (nI y).toInt = ((y : Nat) : Int) := nI_toInt (by omega); have : (0 : Int32).toInt = 0 := rfl; have := i_nle q; omega))
    refine r_aload rfl rfl ?_
    refine r_ic (x := 1000) rfl rfl ?_
    refine r_iload rfl rfl ?_
    refine r_iadd rfl ?_
    refine WR_tI (y := nI (y + 1000)) (Eq.trans (nI_add 1000 y) (congrArg nI (by omega))) ?_
    refine r_ic (x := 23) rfl rfl ?_
    refine r_cv (y := 217) (ra := [.int 23, .int (nI (y + 1000))]) (rest := []) rfl ⟨⟨rfl, rfl⟩, rfl, by decide⟩ (fx_t30 fx) rfl rfl (Nat.le_of_ble_eq_true rfl) ?_
    refine in_217 (Nat.le_of_ble_eq_true rfl) ?_
    show WR _ cd_217 0 [some (.ref (ad 30)), some (.int (nI (y + 1000))), some (.int 23)] [] h _
    refine r_aload rfl rfl ?_
    refine r_getA (b := ad 54) rfl ⟨rfl, rfl, rfl⟩ (fx_t30 fx) (fx_r30_38 fx) ?_
    refine r_aload rfl rfl ?_
    refine r_getI rfl ⟨rfl, rfl, rfl⟩ (fx_t30 fx) ?_
    refine WR_tI (y := nI H) eh ?_
    refine r_iload rfl rfl ?_
    refine r_iastore rfl (fx_t54 fx) (vp_ct (fx_n54 fx) (vp_in_nI (by omega) (by omega))) ?_
    refine WR_h (h2 := sI h (ad 54) H (nI (y + 1000))) (congrArg (fun z => sI h (ad 54) z (nI (y + 1000))) ((nI_clamp (by omega)) : _ = H)) ?_
    have fx : FX n ad sa z0 (sI h (ad 54) H (nI (y + 1000))) := (FX.sI fx)
    refine r_aload rfl rfl ?_
    refine r_getA (b := ad 55) rfl ⟨rfl, rfl, rfl⟩ (fx_t30 fx) (fx_r30_39 fx) ?_
    refine r_aload rfl rfl ?_
    refine r_getI rfl ⟨rfl, rfl, rfl⟩ (fx_t30 fx) ?_
    refine WR_tI (y := nI H) (Eq.trans (I_ne (fx_ne fx (by decide))) eh) ?_
    refine r_iload rfl rfl ?_
    refine r_iastore rfl (fx_t55 fx) (vp_ct (fx_n55 fx) (vp_in_nI (by omega) (by omega))) ?_
    refine WR_h (h2 := sI (sI h (ad 54) H (nI (y + 1000))) (ad 55) H 23) (congrArg (fun z => sI (sI h (ad 54) H (nI (y + 1000))) (ad 55) z 23) ((nI_clamp (by omega)) : _ = H)) ?_
    have fx : FX n ad sa z0 (sI (sI h (ad 54) H (nI (y + 1000))) (ad 55) H 23) := (FX.sI fx)
    refine r_aload rfl rfl ?_
    refine r_dup rfl rfl ?_
    refine r_getI rfl ⟨rfl, rfl, rfl⟩ (fx_t30 fx) ?_
    refine WR_tI (y := nI H) (Eq.trans (I_ne (fx_ne fx (by decide))) (Eq.trans (I_ne (fx_ne fx (by decide))) eh)) ?_
    refine r_ic (x := 1) rfl rfl ?_
    refine r_iadd rfl ?_
    refine WR_tI (y := nI (H + 1)) (Eq.trans (nI_add H 1) (congrArg nI (by omega))) ?_
    refine r_putI rfl ⟨rfl, rfl, rfl⟩ (fx_t30 fx) ?_
    have fx : FX n ad sa z0 (sI (sI (sI h (ad 54) H (nI (y + 1000))) (ad 55) H 23) (ad 30) 37 (nI (H + 1))) := (FX.sI fx)
    refine r_vret rfl ?_
    show WR _ cd_220 45 [some (.ref (ad 30)), some (.int (nI a)), some (.int (nI b)), some (.int (nI y))] [] (sI (sI (sI h (ad 54) H (nI (y + 1000))) (ad 55) H 23) (ad 30) 37 (nI (H + 1))) _
    refine r_aload rfl rfl ?_
    refine r_getA (b := ad 57) rfl ⟨rfl, rfl, rfl⟩ (fx_t30 fx) (fx_r30_41 fx) ?_
    refine r_ic (x := 5) rfl rfl ?_
    refine r_iload rfl rfl ?_
    refine r_imul rfl ?_
    refine WR_tI (y := nI (5 * a)) (Eq.trans (pk_mul 5 a) (congrArg nI (by omega))) ?_
    refine r_iload rfl rfl ?_
    refine r_iadd rfl ?_
    refine WR_tI (y := nI (5 * a + b)) (Eq.trans (nI_add (5 * a) b) (congrArg nI (by omega))) ?_
    refine r_ic (x := (-1)) rfl rfl ?_
    refine r_iastore rfl (fx_t57 fx) (vp_ct (fx_n57 fx) (vp_in_nI (by omega) (by omega))) ?_
    refine WR_h (h2 := sI (sI (sI (sI h (ad 54) H (nI (y + 1000))) (ad 55) H 23) (ad 30) 37 (nI (H + 1))) (ad 57) (5 * a + b) (-1)) (congrArg (fun z => sI (sI (sI (sI h (ad 54) H (nI (y + 1000))) (ad 55) H 23) (ad 30) 37 (nI (H + 1))) (ad 57) z (-1)) ((nI_clamp (by omega)) : _ = 5 * a + b)) ?_
    have fx : FX n ad sa z0 (sI (sI (sI (sI h (ad 54) H (nI (y + 1000))) (ad 55) H 23) (ad 30) 37 (nI (H + 1))) (ad 57) (5 * a + b) (-1)) := (FX.sI fx)
    refine r_ic (x := 0) rfl rfl ?_
    refine r_iret rfl ?_
    show WR _ cd_216 255 [some (.ref (ad 30)), some (.int 13), some (.int (nI a)), some (.int (nI b)), some (.int c), none] [.int 0] (sI (sI (sI (sI h (ad 54) H (nI (y + 1000))) (ad 55) H 23) (ad 30) 37 (nI (H + 1))) (ad 57) (5 * a + b) (-1)) _
    refine r_iret rfl ?_
    exact (L1 c1)
  · refine r_iload rfl rfl ?_
    refine r_ic (x := 2) rfl rfl ?_
    refine r_icmp_le (tg := 17) rfl rfl (fun _ => ?_) (fun q => False.elim (by have : (nI b).toInt = ((b : Nat) : Int) := nI_toInt (by omega); have : (2 : Int32).toInt = 2 := rfl; have := i_nle q; omega))
    refine r_aload rfl rfl ?_
    refine r_getA (b := ad 57) rfl ⟨rfl, rfl, rfl⟩ (fx_t30 fx) (fx_r30_41 fx) ?_
    refine r_ic (x := 5) rfl rfl ?_
    refine r_iload rfl rfl ?_
    refine r_imul rfl ?_
    refine WR_tI (y := nI (5 * a)) (Eq.trans (pk_mul 5 a) (congrArg nI (by omega))) ?_
    refine r_iload rfl rfl ?_
    refine r_iadd rfl ?_
    refine WR_tI (y := nI (5 * a + b)) (Eq.trans (nI_add (5 * a) b) (congrArg nI (by omega))) ?_
    refine r_iaload rfl (.inl (fx_t57 fx)) (vp_ct (fx_n57 fx) (vp_in_nI (by omega) (by omega))) ?_
    refine WR_tI (congrArg (hI h (ad 57)) ((nI_clamp (by omega)) : _ = 5 * a + b)) ?_
    refine WR_tI (y := nI y) r3 ?_
    refine r_istore (lv' := [some (.ref (ad 30)), some (.int (nI a)), some (.int (nI b)), some (.int (nI y))]) rfl (Nat.le_of_ble_eq_true rfl) rfl ?_
    refine r_iload rfl rfl ?_
    refine r_if_ge (tg := 34) rfl rfl (fun _ => ?_) (fun q => False.elim (by have : (nI y).toInt = ((y : Nat) : Int) := nI_toInt (by omega); have : (0 : Int32).toInt = 0 := rfl; have := i_nle q; omega))
    refine r_aload rfl rfl ?_
    refine r_ic (x := 1000) rfl rfl ?_
    refine r_iload rfl rfl ?_
    refine r_iadd rfl ?_
    refine WR_tI (y := nI (y + 1000)) (Eq.trans (nI_add 1000 y) (congrArg nI (by omega))) ?_
    refine r_ic (x := 23) rfl rfl ?_
    refine r_cv (y := 217) (ra := [.int 23, .int (nI (y + 1000))]) (rest := []) rfl ⟨⟨rfl, rfl⟩, rfl, by decide⟩ (fx_t30 fx) rfl rfl (Nat.le_of_ble_eq_true rfl) ?_
    refine in_217 (Nat.le_of_ble_eq_true rfl) ?_
    show WR _ cd_217 0 [some (.ref (ad 30)), some (.int (nI (y + 1000))), some (.int 23)] [] h _
    refine r_aload rfl rfl ?_
    refine r_getA (b := ad 54) rfl ⟨rfl, rfl, rfl⟩ (fx_t30 fx) (fx_r30_38 fx) ?_
    refine r_aload rfl rfl ?_
    refine r_getI rfl ⟨rfl, rfl, rfl⟩ (fx_t30 fx) ?_
    refine WR_tI (y := nI H) eh ?_
    refine r_iload rfl rfl ?_
    refine r_iastore rfl (fx_t54 fx) (vp_ct (fx_n54 fx) (vp_in_nI (by omega) (by omega))) ?_
    refine WR_h (h2 := sI h (ad 54) H (nI (y + 1000))) (congrArg (fun z => sI h (ad 54) z (nI (y + 1000))) ((nI_clamp (by omega)) : _ = H)) ?_
    have fx : FX n ad sa z0 (sI h (ad 54) H (nI (y + 1000))) := (FX.sI fx)
    refine r_aload rfl rfl ?_
    refine r_getA (b := ad 55) rfl ⟨rfl, rfl, rfl⟩ (fx_t30 fx) (fx_r30_39 fx) ?_
    refine r_aload rfl rfl ?_
    refine r_getI rfl ⟨rfl, rfl, rfl⟩ (fx_t30 fx) ?_
    refine WR_tI (y := nI H) (Eq.trans (I_ne (fx_ne fx (by decide))) eh) ?_
    refine r_iload rfl rfl ?_
    refine r_iastore rfl (fx_t55 fx) (vp_ct (fx_n55 fx) (vp_in_nI (by omega) (by omega))) ?_
    refine WR_h (h2 := sI (sI h (ad 54) H (nI (y + 1000))) (ad 55) H 23) (congrArg (fun z => sI (sI h (ad 54) H (nI (y + 1000))) (ad 55) z 23) ((nI_clamp (by omega)) : _ = H)) ?_
    have fx : FX n ad sa z0 (sI (sI h (ad 54) H (nI (y + 1000))) (ad 55) H 23) := (FX.sI fx)
    refine r_aload rfl rfl ?_
    refine r_dup rfl rfl ?_
    refine r_getI rfl ⟨rfl, rfl, rfl⟩ (fx_t30 fx) ?_
    refine WR_tI (y := nI H) (Eq.trans (I_ne (fx_ne fx (by decide))) (Eq.trans (I_ne (fx_ne fx (by decide))) eh)) ?_
    refine r_ic (x := 1) rfl rfl ?_
    refine r_iadd rfl ?_
    refine WR_tI (y := nI (H + 1)) (Eq.trans (nI_add H 1) (congrArg nI (by omega))) ?_
    refine r_putI rfl ⟨rfl, rfl, rfl⟩ (fx_t30 fx) ?_
    have fx : FX n ad sa z0 (sI (sI (sI h (ad 54) H (nI (y + 1000))) (ad 55) H 23) (ad 30) 37 (nI (H + 1))) := (FX.sI fx)
    refine r_vret rfl ?_
    show WR _ cd_220 45 [some (.ref (ad 30)), some (.int (nI a)), some (.int (nI b)), some (.int (nI y))] [] (sI (sI (sI h (ad 54) H (nI (y + 1000))) (ad 55) H 23) (ad 30) 37 (nI (H + 1))) _
    refine r_aload rfl rfl ?_
    refine r_getA (b := ad 57) rfl ⟨rfl, rfl, rfl⟩ (fx_t30 fx) (fx_r30_41 fx) ?_
    refine r_ic (x := 5) rfl rfl ?_
    refine r_iload rfl rfl ?_
    refine r_imul rfl ?_
    refine WR_tI (y := nI (5 * a)) (Eq.trans (pk_mul 5 a) (congrArg nI (by omega))) ?_
    refine r_iload rfl rfl ?_
    refine r_iadd rfl ?_
    refine WR_tI (y := nI (5 * a + b)) (Eq.trans (nI_add (5 * a) b) (congrArg nI (by omega))) ?_
    refine r_ic (x := (-1)) rfl rfl ?_
    refine r_iastore rfl (fx_t57 fx) (vp_ct (fx_n57 fx) (vp_in_nI (by omega) (by omega))) ?_
    refine WR_h (h2 := sI (sI (sI (sI h (ad 54) H (nI (y + 1000))) (ad 55) H 23) (ad 30) 37 (nI (H + 1))) (ad 57) (5 * a + b) (-1)) (congrArg (fun z => sI (sI (sI (sI h (ad 54) H (nI (y + 1000))) (ad 55) H 23) (ad 30) 37 (nI (H + 1))) (ad 57) z (-1)) ((nI_clamp (by omega)) : _ = 5 * a + b)) ?_
    have fx : FX n ad sa z0 (sI (sI (sI (sI h (ad 54) H (nI (y + 1000))) (ad 55) H 23) (ad 30) 37 (nI (H + 1))) (ad 57) (5 * a + b) (-1)) := (FX.sI fx)
    refine r_ic (x := 0) rfl rfl ?_
    refine r_iret rfl ?_
    show WR _ cd_216 255 [some (.ref (ad 30)), some (.int 13), some (.int (nI a)), some (.int (nI b)), some (.int c), none] [.int 0] (sI (sI (sI (sI h (ad 54) H (nI (y + 1000))) (ad 55) H 23) (ad 30) 37 (nI (H + 1))) (ad 57) (5 * a + b) (-1)) _
    refine r_iret rfl ?_
    exact (L2 c1)

set_option maxHeartbeats 2000000 in
theorem w_m12h3 {d : Nat} {Q : mQ} {n : Nat} {ad sa : Nat → Nat} {z0 : Nat} {h : mH} (fx : FX n ad sa z0 h) {a : Nat} {c : Int32} (ha : a < 6) (e9 : hI h (ad 56) a = 0) 
    (L1 : Q (some (.int 7)) h) : EV (d + 2) 216 [.ref (ad 30), .int 12, .int (nI a), .int 3, .int c] h Q := by
  have fx0 := fx
  refine in_216 (Nat.le_of_ble_eq_true rfl) ?_
  show WR _ cd_216 0 [some (.ref (ad 30)), some (.int 12), some (.int (nI a)), some (.int 3), some (.int c), none] [] h _
  refine r_iload rfl rfl ?_
  refine r_tswL (tg := 242) rfl (by decide) ?_
  refine r_aload rfl rfl ?_
  refine r_iload rfl rfl ?_
  refine r_iload rfl rfl ?_
  refine r_cv (y := 219) (ra := [.int 3, .int (nI a)]) (rest := []) rfl ⟨⟨rfl, rfl⟩, rfl, by decide⟩ (fx_t30 fx) rfl rfl (Nat.le_of_ble_eq_true rfl) ?_
  refine in_219 (Nat.le_of_ble_eq_true rfl) ?_
  show WR _ cd_219 0 [some (.ref (ad 30)), some (.int (nI a)), some (.int 3), none, none] [] h _
  refine r_aload rfl rfl ?_
  refine r_getA (b := ad 56) rfl ⟨rfl, rfl, rfl⟩ (fx_t30 fx) (fx_r30_40 fx) ?_
  refine r_iload rfl rfl ?_
  refine r_iaload rfl (.inl (fx_t56 fx)) (vp_ct (fx_n56 fx) (vp_in_nI (by omega) (by omega))) ?_
  refine WR_tI (congrArg (hI h (ad 56)) ((nI_clamp (by omega)) : _ = a)) ?_
  refine WR_tI (y := 0) e9 ?_
  refine r_if_ne (tg := 17) rfl rfl (fun q => absurd q (by decide)) (fun _ => ?_)
  refine r_iload rfl rfl ?_
  refine r_ic (x := 2) rfl rfl ?_
  refine r_icmp_le (tg := 17) rfl rfl (fun q => absurd q (by decide)) (fun _ => ?_)
  refine r_ic (x := 7) rfl rfl ?_
  refine r_iret rfl ?_
  show WR _ cd_216 248 [some (.ref (ad 30)), some (.int 12), some (.int (nI a)), some (.int 3), some (.int c), none] [.int 7] h _
  refine r_iret rfl ?_
  exact (L1)

set_option maxHeartbeats 2000000 in
theorem w_m13h3 {d : Nat} {Q : mQ} {n : Nat} {ad sa : Nat → Nat} {z0 : Nat} {h : mH} (fx : FX n ad sa z0 h) {a : Nat} {c : Int32} (ha : a < 6) (e9 : hI h (ad 56) a = 0) 
    (L1 : Q (some (.int 7)) h) : EV (d + 2) 216 [.ref (ad 30), .int 13, .int (nI a), .int 3, .int c] h Q := by
  have fx0 := fx
  refine in_216 (Nat.le_of_ble_eq_true rfl) ?_
  show WR _ cd_216 0 [some (.ref (ad 30)), some (.int 13), some (.int (nI a)), some (.int 3), some (.int c), none] [] h _
  refine r_iload rfl rfl ?_
  refine r_tswL (tg := 249) rfl (by decide) ?_
  refine r_aload rfl rfl ?_
  refine r_iload rfl rfl ?_
  refine r_iload rfl rfl ?_
  refine r_cv (y := 220) (ra := [.int 3, .int (nI a)]) (rest := []) rfl ⟨⟨rfl, rfl⟩, rfl, by decide⟩ (fx_t30 fx) rfl rfl (Nat.le_of_ble_eq_true rfl) ?_
  refine in_220 (Nat.le_of_ble_eq_true rfl) ?_
  show WR _ cd_220 0 [some (.ref (ad 30)), some (.int (nI a)), some (.int 3), none] [] h _
  refine r_aload rfl rfl ?_
  refine r_getA (b := ad 56) rfl ⟨rfl, rfl, rfl⟩ (fx_t30 fx) (fx_r30_40 fx) ?_
  refine r_iload rfl rfl ?_
  refine r_iaload rfl (.inl (fx_t56 fx)) (vp_ct (fx_n56 fx) (vp_in_nI (by omega) (by omega))) ?_
  refine WR_tI (congrArg (hI h (ad 56)) ((nI_clamp (by omega)) : _ = a)) ?_
  refine WR_tI (y := 0) e9 ?_
  refine r_if_ne (tg := 17) rfl rfl (fun q => absurd q (by decide)) (fun _ => ?_)
  refine r_iload rfl rfl ?_
  refine r_ic (x := 2) rfl rfl ?_
  refine r_icmp_le (tg := 17) rfl rfl (fun q => absurd q (by decide)) (fun _ => ?_)
  refine r_ic (x := 7) rfl rfl ?_
  refine r_iret rfl ?_
  show WR _ cd_216 255 [some (.ref (ad 30)), some (.int 13), some (.int (nI a)), some (.int 3), some (.int c), none] [.int 7] h _
  refine r_iret rfl ?_
  exact (L1)

set_option maxHeartbeats 2000000 in
theorem w_m12z3 {d : Nat} {Q : mQ} {n : Nat} {ad sa : Nat → Nat} {z0 : Nat} {h : mH} (fx : FX n ad sa z0 h) {a : Nat} {c : Int32} {v : Int32} (ha : a < 6) (e9 : hI h (ad 56) a = v) (eh : hI h (ad 30) 37 = 0) 
    (L1 : ¬ v = 0 → Q (some (.int 1)) h)
    (L2 : v = 0 → Q (some (.int 7)) h) : EV (d + 2) 216 [.ref (ad 30), .int 12, .int (nI a), .int 3, .int c] h Q := by
  have fx0 := fx
  refine in_216 (Nat.le_of_ble_eq_true rfl) ?_
  show WR _ cd_216 0 [some (.ref (ad 30)), some (.int 12), some (.int (nI a)), some (.int 3), some (.int c), none] [] h _
  refine r_iload rfl rfl ?_
  refine r_tswL (tg := 242) rfl (by decide) ?_
  refine r_aload rfl rfl ?_
  refine r_iload rfl rfl ?_
  refine r_iload rfl rfl ?_
  refine r_cv (y := 219) (ra := [.int 3, .int (nI a)]) (rest := []) rfl ⟨⟨rfl, rfl⟩, rfl, by decide⟩ (fx_t30 fx) rfl rfl (Nat.le_of_ble_eq_true rfl) ?_
  refine in_219 (Nat.le_of_ble_eq_true rfl) ?_
  show WR _ cd_219 0 [some (.ref (ad 30)), some (.int (nI a)), some (.int 3), none, none] [] h _
  refine r_aload rfl rfl ?_
  refine r_getA (b := ad 56) rfl ⟨rfl, rfl, rfl⟩ (fx_t30 fx) (fx_r30_40 fx) ?_
  refine r_iload rfl rfl ?_
  refine r_iaload rfl (.inl (fx_t56 fx)) (vp_ct (fx_n56 fx) (vp_in_nI (by omega) (by omega))) ?_
  refine WR_tI (congrArg (hI h (ad 56)) ((nI_clamp (by omega)) : _ = a)) ?_
  refine WR_tI (y := v) e9 ?_
  refine r_if_ne (tg := 17) rfl rfl (fun c1 => ?_) (fun c1 => ?_)
  · refine r_aload rfl rfl ?_
    refine r_getI rfl ⟨rfl, rfl, rfl⟩ (fx_t30 fx) ?_
    refine WR_tI (y := 0) eh ?_
    refine r_if_ne (tg := 26) rfl rfl (fun q => absurd q (by decide)) (fun _ => ?_)
    refine r_ic (x := 1) rfl rfl ?_
    refine r_iret rfl ?_
    show WR _ cd_216 248 [some (.ref (ad 30)), some (.int 12), some (.int (nI a)), some (.int 3), some (.int c), none] [.int 1] h _
    refine r_iret rfl ?_
    exact (L1 c1)
  · refine r_iload rfl rfl ?_
    refine r_ic (x := 2) rfl rfl ?_
    refine r_icmp_le (tg := 17) rfl rfl (fun q => absurd q (by decide)) (fun _ => ?_)
    refine r_ic (x := 7) rfl rfl ?_
    refine r_iret rfl ?_
    show WR _ cd_216 248 [some (.ref (ad 30)), some (.int 12), some (.int (nI a)), some (.int 3), some (.int c), none] [.int 7] h _
    refine r_iret rfl ?_
    exact (L2 c1)

set_option maxHeartbeats 2000000 in
theorem w_m12t3 {d : Nat} {Q : mQ} {n : Nat} {ad sa : Nat → Nat} {z0 : Nat} {h : mH} (fx : FX n ad sa z0 h) {a H t : Nat} {c : Int32} {v : Int32} (ha : a < 6) (e9 : hI h (ad 56) a = v) (eh : hI h (ad 30) 37 = nI H) (hH1 : 1 ≤ H) (hH : H ≤ 100) (ht : t < 250) (e2 : hI h (ad 54) (H - 1) = nI t) 
    (L1 : ¬ v = 0 → Q (some (.int 4)) h)
    (L2 : v = 0 → Q (some (.int 7)) h) : EV (d + 2) 216 [.ref (ad 30), .int 12, .int (nI a), .int 3, .int c] h Q := by
  have fx0 := fx
  refine in_216 (Nat.le_of_ble_eq_true rfl) ?_
  show WR _ cd_216 0 [some (.ref (ad 30)), some (.int 12), some (.int (nI a)), some (.int 3), some (.int c), none] [] h _
  refine r_iload rfl rfl ?_
  refine r_tswL (tg := 242) rfl (by decide) ?_
  refine r_aload rfl rfl ?_
  refine r_iload rfl rfl ?_
  refine r_iload rfl rfl ?_
  refine r_cv (y := 219) (ra := [.int 3, .int (nI a)]) (rest := []) rfl ⟨⟨rfl, rfl⟩, rfl, by decide⟩ (fx_t30 fx) rfl rfl (Nat.le_of_ble_eq_true rfl) ?_
  refine in_219 (Nat.le_of_ble_eq_true rfl) ?_
  show WR _ cd_219 0 [some (.ref (ad 30)), some (.int (nI a)), some (.int 3), none, none] [] h _
  refine r_aload rfl rfl ?_
  refine r_getA (b := ad 56) rfl ⟨rfl, rfl, rfl⟩ (fx_t30 fx) (fx_r30_40 fx) ?_
  refine r_iload rfl rfl ?_
  refine r_iaload rfl (.inl (fx_t56 fx)) (vp_ct (fx_n56 fx) (vp_in_nI (by omega) (by omega))) ?_
  refine WR_tI (congrArg (hI h (ad 56)) ((nI_clamp (by omega)) : _ = a)) ?_
  refine WR_tI (y := v) e9 ?_
  refine r_if_ne (tg := 17) rfl rfl (fun c1 => ?_) (fun c1 => ?_)
  · refine r_aload rfl rfl ?_
    refine r_getI rfl ⟨rfl, rfl, rfl⟩ (fx_t30 fx) ?_
    refine WR_tI (y := nI H) eh ?_
    refine r_if_ne (tg := 26) rfl rfl (fun _ => ?_) (fun q => False.elim (by have : (nI H).toInt = ((H : Nat) : Int) := nI_toInt (by omega); have : (0 : Int32).toInt = 0 := rfl; have := i_eq q; omega))
    refine r_aload rfl rfl ?_
    refine r_getA (b := ad 54) rfl ⟨rfl, rfl, rfl⟩ (fx_t30 fx) (fx_r30_38 fx) ?_
    refine r_aload rfl rfl ?_
    refine r_getI rfl ⟨rfl, rfl, rfl⟩ (fx_t30 fx) ?_
    refine WR_tI (y := nI H) eh ?_
    refine r_ic (x := 1) rfl rfl ?_
    refine r_isub rfl ?_
    refine WR_tI (y := nI (H - 1)) (Eq.trans (pk_sub (a := H) (b := 1) (by omega)) (congrArg nI (by omega))) ?_
    refine r_iaload rfl (.inl (fx_t54 fx)) (vp_ct (fx_n54 fx) (vp_in_nI (by omega) (by omega))) ?_
    refine WR_tI (congrArg (hI h (ad 54)) ((nI_clamp (by omega)) : _ = H - 1)) ?_
    refine WR_tI (y := nI t) e2 ?_
    refine r_ic (x := 1000) rfl rfl ?_
    refine r_isub rfl ?_
    refine r_istore (lv' := [some (.ref (ad 30)), some (.int (nI a)), some (.int 3), some (.int ((nI t) - 1000)), none]) rfl (Nat.le_of_ble_eq_true rfl) rfl ?_
    refine r_iload rfl rfl ?_
    refine r_if_lt (tg := 74) rfl rfl (fun _ => ?_) (fun q => False.elim (by have : (nI t).toInt = ((t : Nat) : Int) := nI_toInt (by omega); have : (1000 : Int32).toInt = 1000 := rfl; have := sub_t (x := nI t) (y := 1000) (by have : (nI t).toInt = ((t : Nat) : Int) := nI_toInt (by omega); have : (1000 : Int32).toInt = 1000 := rfl; omega) (by have : (nI t).toInt = ((t : Nat) : Int) := nI_toInt (by omega); have : (1000 : Int32).toInt = 1000 := rfl; omega); have : (0 : Int32).toInt = 0 := rfl; have := i_nlt q; omega))
    refine r_ic (x := 4) rfl rfl ?_
    refine r_iret rfl ?_
    show WR _ cd_216 248 [some (.ref (ad 30)), some (.int 12), some (.int (nI a)), some (.int 3), some (.int c), none] [.int 4] h _
    refine r_iret rfl ?_
    exact (L1 c1)
  · refine r_iload rfl rfl ?_
    refine r_ic (x := 2) rfl rfl ?_
    refine r_icmp_le (tg := 17) rfl rfl (fun q => absurd q (by decide)) (fun _ => ?_)
    refine r_ic (x := 7) rfl rfl ?_
    refine r_iret rfl ?_
    show WR _ cd_216 248 [some (.ref (ad 30)), some (.int 12), some (.int (nI a)), some (.int 3), some (.int c), none] [.int 7] h _
    refine r_iret rfl ?_
    exact (L2 c1)

set_option maxHeartbeats 2000000 in
theorem w_m12n3 {d : Nat} {Q : mQ} {n : Nat} {ad sa : Nat → Nat} {z0 : Nat} {h : mH} (fx : FX n ad sa z0 h) {a H qp : Nat} {c : Int32} {v : Int32} (ha : a < 6) (e9 : hI h (ad 56) a = v) (eh : hI h (ad 30) 37 = nI H) (hH1 : 1 ≤ H) (hH : H ≤ 100) (hq : qp < 60) (e2 : hI h (ad 54) (H - 1) = nI (1000 + qp)) {kd : Nat} (kx : hI h (ad 37) qp = nI kd) (k7 : kd < 7) (of_ : ¬ ofK kd 3 = true) 
    (L1 : ¬ v = 0 → Q (some (.int 4)) h)
    (L2 : v = 0 → Q (some (.int 7)) h) : EV (d + 3) 216 [.ref (ad 30), .int 12, .int (nI a), .int 3, .int c] h Q := by
  have fx0 := fx
  refine in_216 (Nat.le_of_ble_eq_true rfl) ?_
  show WR _ cd_216 0 [some (.ref (ad 30)), some (.int 12), some (.int (nI a)), some (.int 3), some (.int c), none] [] h _
  refine r_iload rfl rfl ?_
  refine r_tswL (tg := 242) rfl (by decide) ?_
  refine r_aload rfl rfl ?_
  refine r_iload rfl rfl ?_
  refine r_iload rfl rfl ?_
  refine r_cv (y := 219) (ra := [.int 3, .int (nI a)]) (rest := []) rfl ⟨⟨rfl, rfl⟩, rfl, by decide⟩ (fx_t30 fx) rfl rfl (Nat.le_of_ble_eq_true rfl) ?_
  refine in_219 (Nat.le_of_ble_eq_true rfl) ?_
  show WR _ cd_219 0 [some (.ref (ad 30)), some (.int (nI a)), some (.int 3), none, none] [] h _
  refine r_aload rfl rfl ?_
  refine r_getA (b := ad 56) rfl ⟨rfl, rfl, rfl⟩ (fx_t30 fx) (fx_r30_40 fx) ?_
  refine r_iload rfl rfl ?_
  refine r_iaload rfl (.inl (fx_t56 fx)) (vp_ct (fx_n56 fx) (vp_in_nI (by omega) (by omega))) ?_
  refine WR_tI (congrArg (hI h (ad 56)) ((nI_clamp (by omega)) : _ = a)) ?_
  refine WR_tI (y := v) e9 ?_
  refine r_if_ne (tg := 17) rfl rfl (fun c1 => ?_) (fun c1 => ?_)
  · refine r_aload rfl rfl ?_
    refine r_getI rfl ⟨rfl, rfl, rfl⟩ (fx_t30 fx) ?_
    refine WR_tI (y := nI H) eh ?_
    refine r_if_ne (tg := 26) rfl rfl (fun _ => ?_) (fun q => False.elim (by have : (nI H).toInt = ((H : Nat) : Int) := nI_toInt (by omega); have : (0 : Int32).toInt = 0 := rfl; have := i_eq q; omega))
    refine r_aload rfl rfl ?_
    refine r_getA (b := ad 54) rfl ⟨rfl, rfl, rfl⟩ (fx_t30 fx) (fx_r30_38 fx) ?_
    refine r_aload rfl rfl ?_
    refine r_getI rfl ⟨rfl, rfl, rfl⟩ (fx_t30 fx) ?_
    refine WR_tI (y := nI H) eh ?_
    refine r_ic (x := 1) rfl rfl ?_
    refine r_isub rfl ?_
    refine WR_tI (y := nI (H - 1)) (Eq.trans (pk_sub (a := H) (b := 1) (by omega)) (congrArg nI (by omega))) ?_
    refine r_iaload rfl (.inl (fx_t54 fx)) (vp_ct (fx_n54 fx) (vp_in_nI (by omega) (by omega))) ?_
    refine WR_tI (congrArg (hI h (ad 54)) ((nI_clamp (by omega)) : _ = H - 1)) ?_
    refine WR_tI (y := nI (qp + 1000)) (Eq.trans e2 (congrArg nI (Nat.add_comm 1000 qp))) ?_
    refine r_ic (x := 1000) rfl rfl ?_
    refine r_isub rfl ?_
    refine WR_tI (y := nI qp) (Eq.trans (pk_sub (a := qp + 1000) (b := 1000) (by omega)) (congrArg nI (by omega))) ?_
    refine r_istore (lv' := [some (.ref (ad 30)), some (.int (nI a)), some (.int 3), some (.int (nI qp)), none]) rfl (Nat.le_of_ble_eq_true rfl) rfl ?_
    refine r_iload rfl rfl ?_
    refine r_if_lt (tg := 74) rfl rfl (fun q => False.elim (by have : (nI qp).toInt = ((qp : Nat) : Int) := nI_toInt (by omega); have : (0 : Int32).toInt = 0 := rfl; have := i_lt q; omega)) (fun _ => ?_)
    refine r_aload rfl rfl ?_
    refine r_iload rfl rfl ?_
    refine r_iload rfl rfl ?_
    refine r_ic (x := 3) rfl rfl ?_
    refine r_icmp_ge (tg := 58) rfl rfl (fun _ => ?_) (fun q => absurd q (by decide))
    refine r_iload rfl rfl ?_
    refine r_ic (x := 3) rfl rfl ?_
    refine r_icmp_ne (tg := 67) rfl rfl (fun q => absurd q (by decide)) (fun _ => ?_)
    refine r_ic (x := 3) rfl rfl ?_
    refine r_goto (tg := 68) rfl rfl ?_
    refine r_cv (y := 177) (ra := [.int 3, .int (nI qp)]) (rest := []) rfl ⟨⟨rfl, rfl⟩, rfl, by decide⟩ (fx_t30 fx) rfl rfl (Nat.le_of_ble_eq_true rfl) ?_
    refine c_misOf (h := h) (q := qp) (kd := kd) (k := 3) fx hq kx k7 (by decide) ?_
    rw [if_neg of_]
    show WR _ cd_219 71 [some (.ref (ad 30)), some (.int (nI a)), some (.int 3), some (.int (nI qp)), none] [.int 0] h _
    refine r_if_ne (tg := 76) rfl rfl (fun q => absurd q (by decide)) (fun _ => ?_)
    refine r_ic (x := 4) rfl rfl ?_
    refine r_iret rfl ?_
    show WR _ cd_216 248 [some (.ref (ad 30)), some (.int 12), some (.int (nI a)), some (.int 3), some (.int c), none] [.int 4] h _
    refine r_iret rfl ?_
    exact (L1 c1)
  · refine r_iload rfl rfl ?_
    refine r_ic (x := 2) rfl rfl ?_
    refine r_icmp_le (tg := 17) rfl rfl (fun q => absurd q (by decide)) (fun _ => ?_)
    refine r_ic (x := 7) rfl rfl ?_
    refine r_iret rfl ?_
    show WR _ cd_216 248 [some (.ref (ad 30)), some (.int 12), some (.int (nI a)), some (.int 3), some (.int c), none] [.int 7] h _
    refine r_iret rfl ?_
    exact (L2 c1)

set_option maxHeartbeats 2000000 in
theorem w_m12e3 {d : Nat} {Q : mQ} {n : Nat} {ad sa : Nat → Nat} {z0 : Nat} {h : mH} (fx : FX n ad sa z0 h) {a H qp : Nat} {c : Int32} {v : Int32} (ha : a < 6) (e9 : hI h (ad 56) a = v) (eh : hI h (ad 30) 37 = nI H) (hH1 : 1 ≤ H) (hH : H ≤ 100) (hq : qp < 60) (e2 : hI h (ad 54) (H - 1) = nI (1000 + qp)) {kd : Nat} (kx : hI h (ad 37) qp = nI kd) (k7 : kd < 7) (of_ : ofK kd 3 = true) (r3 : hI h (ad 57) (5 * a + 3) = -1) 
    (L1 : ¬ v = 0 → Q (some (.int 0)) (sI (sI h (ad 30) 37 (nI (H - 1))) (ad 57) (5 * a + 3) (nI qp)))
    (L2 : v = 0 → Q (some (.int 7)) h) : EV (d + 3) 216 [.ref (ad 30), .int 12, .int (nI a), .int 3, .int c] h Q := by
  have fx0 := fx
  refine in_216 (Nat.le_of_ble_eq_true rfl) ?_
  show WR _ cd_216 0 [some (.ref (ad 30)), some (.int 12), some (.int (nI a)), some (.int 3), some (.int c), none] [] h _
  refine r_iload rfl rfl ?_
  refine r_tswL (tg := 242) rfl (by decide) ?_
  refine r_aload rfl rfl ?_
  refine r_iload rfl rfl ?_
  refine r_iload rfl rfl ?_
  refine r_cv (y := 219) (ra := [.int 3, .int (nI a)]) (rest := []) rfl ⟨⟨rfl, rfl⟩, rfl, by decide⟩ (fx_t30 fx) rfl rfl (Nat.le_of_ble_eq_true rfl) ?_
  refine in_219 (Nat.le_of_ble_eq_true rfl) ?_
  show WR _ cd_219 0 [some (.ref (ad 30)), some (.int (nI a)), some (.int 3), none, none] [] h _
  refine r_aload rfl rfl ?_
  refine r_getA (b := ad 56) rfl ⟨rfl, rfl, rfl⟩ (fx_t30 fx) (fx_r30_40 fx) ?_
  refine r_iload rfl rfl ?_
  refine r_iaload rfl (.inl (fx_t56 fx)) (vp_ct (fx_n56 fx) (vp_in_nI (by omega) (by omega))) ?_
  refine WR_tI (congrArg (hI h (ad 56)) ((nI_clamp (by omega)) : _ = a)) ?_
  refine WR_tI (y := v) e9 ?_
  refine r_if_ne (tg := 17) rfl rfl (fun c1 => ?_) (fun c1 => ?_)
  · refine r_aload rfl rfl ?_
    refine r_getI rfl ⟨rfl, rfl, rfl⟩ (fx_t30 fx) ?_
    refine WR_tI (y := nI H) eh ?_
    refine r_if_ne (tg := 26) rfl rfl (fun _ => ?_) (fun q => False.elim (by have : (nI H).toInt = ((H : Nat) : Int) := nI_toInt (by omega); have : (0 : Int32).toInt = 0 := rfl; have := i_eq q; omega))
    refine r_aload rfl rfl ?_
    refine r_getA (b := ad 54) rfl ⟨rfl, rfl, rfl⟩ (fx_t30 fx) (fx_r30_38 fx) ?_
    refine r_aload rfl rfl ?_
    refine r_getI rfl ⟨rfl, rfl, rfl⟩ (fx_t30 fx) ?_
    refine WR_tI (y := nI H) eh ?_
    refine r_ic (x := 1) rfl rfl ?_
    refine r_isub rfl ?_
    refine WR_tI (y := nI (H - 1)) (Eq.trans (pk_sub (a := H) (b := 1) (by omega)) (congrArg nI (by omega))) ?_
    refine r_iaload rfl (.inl (fx_t54 fx)) (vp_ct (fx_n54 fx) (vp_in_nI (by omega) (by omega))) ?_
    refine WR_tI (congrArg (hI h (ad 54)) ((nI_clamp (by omega)) : _ = H - 1)) ?_
    refine WR_tI (y := nI (qp + 1000)) (Eq.trans e2 (congrArg nI (Nat.add_comm 1000 qp))) ?_
    refine r_ic (x := 1000) rfl rfl ?_
    refine r_isub rfl ?_
    refine WR_tI (y := nI qp) (Eq.trans (pk_sub (a := qp + 1000) (b := 1000) (by omega)) (congrArg nI (by omega))) ?_
    refine r_istore (lv' := [some (.ref (ad 30)), some (.int (nI a)), some (.int 3), some (.int (nI qp)), none]) rfl (Nat.le_of_ble_eq_true rfl) rfl ?_
    refine r_iload rfl rfl ?_
    refine r_if_lt (tg := 74) rfl rfl (fun q => False.elim (by have : (nI qp).toInt = ((qp : Nat) : Int) := nI_toInt (by omega); have : (0 : Int32).toInt = 0 := rfl; have := i_lt q; omega)) (fun _ => ?_)
    refine r_aload rfl rfl ?_
    refine r_iload rfl rfl ?_
    refine r_iload rfl rfl ?_
    refine r_ic (x := 3) rfl rfl ?_
    refine r_icmp_ge (tg := 58) rfl rfl (fun _ => ?_) (fun q => absurd q (by decide))
    refine r_iload rfl rfl ?_
    refine r_ic (x := 3) rfl rfl ?_
    refine r_icmp_ne (tg := 67) rfl rfl (fun q => absurd q (by decide)) (fun _ => ?_)
    refine r_ic (x := 3) rfl rfl ?_
    refine r_goto (tg := 68) rfl rfl ?_
    refine r_cv (y := 177) (ra := [.int 3, .int (nI qp)]) (rest := []) rfl ⟨⟨rfl, rfl⟩, rfl, by decide⟩ (fx_t30 fx) rfl rfl (Nat.le_of_ble_eq_true rfl) ?_
    refine c_misOf (h := h) (q := qp) (kd := kd) (k := 3) fx hq kx k7 (by decide) ?_
    rw [if_pos of_]
    show WR _ cd_219 71 [some (.ref (ad 30)), some (.int (nI a)), some (.int 3), some (.int (nI qp)), none] [.int 1] h _
    refine r_if_ne (tg := 76) rfl rfl (fun _ => ?_) (fun q => absurd q (by decide))
    refine r_aload rfl rfl ?_
    refine r_dup rfl rfl ?_
    refine r_getI rfl ⟨rfl, rfl, rfl⟩ (fx_t30 fx) ?_
    refine WR_tI (y := nI H) eh ?_
    refine r_ic (x := 1) rfl rfl ?_
    refine r_isub rfl ?_
    refine WR_tI (y := nI (H - 1)) (Eq.trans (pk_sub (a := H) (b := 1) (by omega)) (congrArg nI (by omega))) ?_
    refine r_putI rfl ⟨rfl, rfl, rfl⟩ (fx_t30 fx) ?_
    have fx : FX n ad sa z0 (sI h (ad 30) 37 (nI (H - 1))) := (FX.sI fx)
    refine r_aload rfl rfl ?_
    refine r_getA (b := ad 57) rfl ⟨rfl, rfl, rfl⟩ (fx_t30 fx) (fx_r30_41 fx) ?_
    refine r_ic (x := 5) rfl rfl ?_
    refine r_iload rfl rfl ?_
    refine r_imul rfl ?_
    refine WR_tI (y := nI (5 * a)) (Eq.trans (pk_mul 5 a) (congrArg nI (by omega))) ?_
    refine r_iload rfl rfl ?_
    refine r_iadd rfl ?_
    refine WR_tI (y := nI (5 * a + 3)) (Eq.trans (nI_add (5 * a) 3) (congrArg nI (by omega))) ?_
    refine r_iaload rfl (.inl (fx_t57 fx)) (vp_ct (fx_n57 fx) (vp_in_nI (by omega) (by omega))) ?_
    refine WR_tI (congrArg (hI (sI h (ad 30) 37 (nI (H - 1))) (ad 57)) ((nI_clamp (by omega)) : _ = 5 * a + 3)) ?_
    refine WR_tI (y := (-1)) (Eq.trans (I_ne (fx_ne fx (by decide))) r3) ?_
    refine r_istore (lv' := [some (.ref (ad 30)), some (.int (nI a)), some (.int 3), some (.int (nI qp)), some (.int (-1))]) rfl (Nat.le_of_ble_eq_true rfl) rfl ?_
    refine r_aload rfl rfl ?_
    refine r_getA (b := ad 57) rfl ⟨rfl, rfl, rfl⟩ (fx_t30 fx) (fx_r30_41 fx) ?_
    refine r_ic (x := 5) rfl rfl ?_
    refine r_iload rfl rfl ?_
    refine r_imul rfl ?_
    refine WR_tI (y := nI (5 * a)) (Eq.trans (pk_mul 5 a) (congrArg nI (by omega))) ?_
    refine r_iload rfl rfl ?_
    refine r_iadd rfl ?_
    refine WR_tI (y := nI (5 * a + 3)) (Eq.trans (nI_add (5 * a) 3) (congrArg nI (by omega))) ?_
    refine r_iload rfl rfl ?_
    refine r_iastore rfl (fx_t57 fx) (vp_ct (fx_n57 fx) (vp_in_nI (by omega) (by omega))) ?_
    refine WR_h (h2 := sI (sI h (ad 30) 37 (nI (H - 1))) (ad 57) (5 * a + 3) (nI qp)) (congrArg (fun z => sI (sI h (ad 30) 37 (nI (H - 1))) (ad 57) z (nI qp)) ((nI_clamp (by omega)) : _ = 5 * a + 3)) ?_
    have fx : FX n ad sa z0 (sI (sI h (ad 30) 37 (nI (H - 1))) (ad 57) (5 * a + 3) (nI qp)) := (FX.sI fx)
    refine r_iload rfl rfl ?_
    refine r_if_lt (tg := 126) rfl rfl (fun _ => ?_) (fun q => absurd q (by decide))
    refine r_ic (x := 0) rfl rfl ?_
    refine r_iret rfl ?_
    show WR _ cd_216 248 [some (.ref (ad 30)), some (.int 12), some (.int (nI a)), some (.int 3), some (.int c), none] [.int 0] (sI (sI h (ad 30) 37 (nI (H - 1))) (ad 57) (5 * a + 3) (nI qp)) _
    refine r_iret rfl ?_
    exact (L1 c1)
  · refine r_iload rfl rfl ?_
    refine r_ic (x := 2) rfl rfl ?_
    refine r_icmp_le (tg := 17) rfl rfl (fun q => absurd q (by decide)) (fun _ => ?_)
    refine r_ic (x := 7) rfl rfl ?_
    refine r_iret rfl ?_
    show WR _ cd_216 248 [some (.ref (ad 30)), some (.int 12), some (.int (nI a)), some (.int 3), some (.int c), none] [.int 7] h _
    refine r_iret rfl ?_
    exact (L2 c1)

set_option maxHeartbeats 2000000 in
theorem w_m12f3 {d : Nat} {Q : mQ} {n : Nat} {ad sa : Nat → Nat} {z0 : Nat} {h : mH} (fx : FX n ad sa z0 h) {a H qp y : Nat} {c : Int32} {v : Int32} (ha : a < 6) (e9 : hI h (ad 56) a = v) (eh : hI h (ad 30) 37 = nI H) (hH1 : 1 ≤ H) (hH : H ≤ 100) (hq : qp < 60) (e2 : hI h (ad 54) (H - 1) = nI (1000 + qp)) {kd : Nat} (kx : hI h (ad 37) qp = nI kd) (k7 : kd < 7) (of_ : ofK kd 3 = true) (hy : y < 60) (r3 : hI h (ad 57) (5 * a + 3) = nI y) 
    (L1 : ¬ v = 0 → Q (some (.int 0)) (sI (sI (sI (sI (sI h (ad 30) 37 (nI (H - 1))) (ad 57) (5 * a + 3) (nI qp)) (ad 54) (H - 1) (nI (y + 1000))) (ad 55) (H - 1) 23) (ad 30) 37 (nI H)))
    (L2 : v = 0 → Q (some (.int 7)) h) : EV (d + 3) 216 [.ref (ad 30), .int 12, .int (nI a), .int 3, .int c] h Q := by
  have fx0 := fx
  refine in_216 (Nat.le_of_ble_eq_true rfl) ?_
  show WR _ cd_216 0 [some (.ref (ad 30)), some (.int 12), some (.int (nI a)), some (.int 3), some (.int c), none] [] h _
  refine r_iload rfl rfl ?_
  refine r_tswL (tg := 242) rfl (by decide) ?_
  refine r_aload rfl rfl ?_
  refine r_iload rfl rfl ?_
  refine r_iload rfl rfl ?_
  refine r_cv (y := 219) (ra := [.int 3, .int (nI a)]) (rest := []) rfl ⟨⟨rfl, rfl⟩, rfl, by decide⟩ (fx_t30 fx) rfl rfl (Nat.le_of_ble_eq_true rfl) ?_
  refine in_219 (Nat.le_of_ble_eq_true rfl) ?_
  show WR _ cd_219 0 [some (.ref (ad 30)), some (.int (nI a)), some (.int 3), none, none] [] h _
  refine r_aload rfl rfl ?_
  refine r_getA (b := ad 56) rfl ⟨rfl, rfl, rfl⟩ (fx_t30 fx) (fx_r30_40 fx) ?_
  refine r_iload rfl rfl ?_
  refine r_iaload rfl (.inl (fx_t56 fx)) (vp_ct (fx_n56 fx) (vp_in_nI (by omega) (by omega))) ?_
  refine WR_tI (congrArg (hI h (ad 56)) ((nI_clamp (by omega)) : _ = a)) ?_
  refine WR_tI (y := v) e9 ?_
  refine r_if_ne (tg := 17) rfl rfl (fun c1 => ?_) (fun c1 => ?_)
  · refine r_aload rfl rfl ?_
    refine r_getI rfl ⟨rfl, rfl, rfl⟩ (fx_t30 fx) ?_
    refine WR_tI (y := nI H) eh ?_
    refine r_if_ne (tg := 26) rfl rfl (fun _ => ?_) (fun q => False.elim (by have : (nI H).toInt = ((H : Nat) : Int) := nI_toInt (by omega); have : (0 : Int32).toInt = 0 := rfl; have := i_eq q; omega))
    refine r_aload rfl rfl ?_
    refine r_getA (b := ad 54) rfl ⟨rfl, rfl, rfl⟩ (fx_t30 fx) (fx_r30_38 fx) ?_
    refine r_aload rfl rfl ?_
    refine r_getI rfl ⟨rfl, rfl, rfl⟩ (fx_t30 fx) ?_
    refine WR_tI (y := nI H) eh ?_
    refine r_ic (x := 1) rfl rfl ?_
    refine r_isub rfl ?_
    refine WR_tI (y := nI (H - 1)) (Eq.trans (pk_sub (a := H) (b := 1) (by omega)) (congrArg nI (by omega))) ?_
    refine r_iaload rfl (.inl (fx_t54 fx)) (vp_ct (fx_n54 fx) (vp_in_nI (by omega) (by omega))) ?_
    refine WR_tI (congrArg (hI h (ad 54)) ((nI_clamp (by omega)) : _ = H - 1)) ?_
    refine WR_tI (y := nI (qp + 1000)) (Eq.trans e2 (congrArg nI (Nat.add_comm 1000 qp))) ?_
    refine r_ic (x := 1000) rfl rfl ?_
    refine r_isub rfl ?_
    refine WR_tI (y := nI qp) (Eq.trans (pk_sub (a := qp + 1000) (b := 1000) (by omega)) (congrArg nI (by omega))) ?_
    refine r_istore (lv' := [some (.ref (ad 30)), some (.int (nI a)), some (.int 3), some (.int (nI qp)), none]) rfl (Nat.le_of_ble_eq_true rfl) rfl ?_
    refine r_iload rfl rfl ?_
    refine r_if_lt (tg := 74) rfl rfl (fun q => False.elim (by have : (nI qp).toInt = ((qp : Nat) : Int) := nI_toInt (by omega); have : (0 : Int32).toInt = 0 := rfl; have := i_lt q; omega)) (fun _ => ?_)
    refine r_aload rfl rfl ?_
    refine r_iload rfl rfl ?_
    refine r_iload rfl rfl ?_
    refine r_ic (x := 3) rfl rfl ?_
    refine r_icmp_ge (tg := 58) rfl rfl (fun _ => ?_) (fun q => absurd q (by decide))
    refine r_iload rfl rfl ?_
    refine r_ic (x := 3) rfl rfl ?_
    refine r_icmp_ne (tg := 67) rfl rfl (fun q => absurd q (by decide)) (fun _ => ?_)
    refine r_ic (x := 3) rfl rfl ?_
    refine r_goto (tg := 68) rfl rfl ?_
    refine r_cv (y := 177) (ra := [.int 3, .int (nI qp)]) (rest := []) rfl ⟨⟨rfl, rfl⟩, rfl, by decide⟩ (fx_t30 fx) rfl rfl (Nat.le_of_ble_eq_true rfl) ?_
    refine c_misOf (h := h) (q := qp) (kd := kd) (k := 3) fx hq kx k7 (by decide) ?_
    rw [if_pos of_]
    show WR _ cd_219 71 [some (.ref (ad 30)), some (.int (nI a)), some (.int 3), some (.int (nI qp)), none] [.int 1] h _
    refine r_if_ne (tg := 76) rfl rfl (fun _ => ?_) (fun q => absurd q (by decide))
    refine r_aload rfl rfl ?_
    refine r_dup rfl rfl ?_
    refine r_getI rfl ⟨rfl, rfl, rfl⟩ (fx_t30 fx) ?_
    refine WR_tI (y := nI H) eh ?_
    refine r_ic (x := 1) rfl rfl ?_
    refine r_isub rfl ?_
    refine WR_tI (y := nI (H - 1)) (Eq.trans (pk_sub (a := H) (b := 1) (by omega)) (congrArg nI (by omega))) ?_
    refine r_putI rfl ⟨rfl, rfl, rfl⟩ (fx_t30 fx) ?_
    have fx : FX n ad sa z0 (sI h (ad 30) 37 (nI (H - 1))) := (FX.sI fx)
    refine r_aload rfl rfl ?_
    refine r_getA (b := ad 57) rfl ⟨rfl, rfl, rfl⟩ (fx_t30 fx) (fx_r30_41 fx) ?_
    refine r_ic (x := 5) rfl rfl ?_
    refine r_iload rfl rfl ?_
    refine r_imul rfl ?_
    refine WR_tI (y := nI (5 * a)) (Eq.trans (pk_mul 5 a) (congrArg nI (by omega))) ?_
    refine r_iload rfl rfl ?_
    refine r_iadd rfl ?_
    refine WR_tI (y := nI (5 * a + 3)) (Eq.trans (nI_add (5 * a) 3) (congrArg nI (by omega))) ?_
    refine r_iaload rfl (.inl (fx_t57 fx)) (vp_ct (fx_n57 fx) (vp_in_nI (by omega) (by omega))) ?_
    refine WR_tI (congrArg (hI (sI h (ad 30) 37 (nI (H - 1))) (ad 57)) ((nI_clamp (by omega)) : _ = 5 * a + 3)) ?_
    refine WR_tI (y := nI y) (Eq.trans (I_ne (fx_ne fx (by decide))) r3) ?_
    refine r_istore (lv' := [some (.ref (ad 30)), some (.int (nI a)), some (.int 3), some (.int (nI qp)), some (.int (nI y))]) rfl (Nat.le_of_ble_eq_true rfl) rfl ?_
    refine r_aload rfl rfl ?_
    refine r_getA (b := ad 57) rfl ⟨rfl, rfl, rfl⟩ (fx_t30 fx) (fx_r30_41 fx) ?_
    refine r_ic (x := 5) rfl rfl ?_
    refine r_iload rfl rfl ?_
    refine r_imul rfl ?_
    refine WR_tI (y := nI (5 * a)) (Eq.trans (pk_mul 5 a) (congrArg nI (by omega))) ?_
    refine r_iload rfl rfl ?_
    refine r_iadd rfl ?_
    refine WR_tI (y := nI (5 * a + 3)) (Eq.trans (nI_add (5 * a) 3) (congrArg nI (by omega))) ?_
    refine r_iload rfl rfl ?_
    refine r_iastore rfl (fx_t57 fx) (vp_ct (fx_n57 fx) (vp_in_nI (by omega) (by omega))) ?_
    refine WR_h (h2 := sI (sI h (ad 30) 37 (nI (H - 1))) (ad 57) (5 * a + 3) (nI qp)) (congrArg (fun z => sI (sI h (ad 30) 37 (nI (H - 1))) (ad 57) z (nI qp)) ((nI_clamp (by omega)) : _ = 5 * a + 3)) ?_
    have fx : FX n ad sa z0 (sI (sI h (ad 30) 37 (nI (H - 1))) (ad 57) (5 * a + 3) (nI qp)) := (FX.sI fx)
    refine r_iload rfl rfl ?_
    refine r_if_lt (tg := 126) rfl rfl (fun q => False.elim (by have : (nI y).toInt = ((y : Nat) : Int) := nI_toInt (by omega); have : (0 : Int32).toInt = 0 := rfl; have := i_lt q; omega)) (fun _ => ?_)
    refine r_aload rfl rfl ?_
    refine r_ic (x := 1000) rfl rfl ?_
    refine r_iload rfl rfl ?_
    refine r_iadd rfl ?_
    refine WR_tI (y := nI (y + 1000)) (Eq.trans (nI_add 1000 y) (congrArg nI (by omega))) ?_
    refine r_ic (x := 23) rfl rfl ?_
    refine r_cv (y := 217) (ra := [.int 23, .int (nI (y + 1000))]) (rest := []) rfl ⟨⟨rfl, rfl⟩, rfl, by decide⟩ (fx_t30 fx) rfl rfl (Nat.le_of_ble_eq_true rfl) ?_
    refine in_217 (Nat.le_of_ble_eq_true rfl) ?_
    show WR _ cd_217 0 [some (.ref (ad 30)), some (.int (nI (y + 1000))), some (.int 23)] [] (sI (sI h (ad 30) 37 (nI (H - 1))) (ad 57) (5 * a + 3) (nI qp)) _
    refine r_aload rfl rfl ?_
    refine r_getA (b := ad 54) rfl ⟨rfl, rfl, rfl⟩ (fx_t30 fx) (fx_r30_38 fx) ?_
    refine r_aload rfl rfl ?_
    refine r_getI rfl ⟨rfl, rfl, rfl⟩ (fx_t30 fx) ?_
    refine WR_tI (y := nI (H - 1)) (Eq.trans (I_ne (fx_ne fx (by decide))) I_eq) ?_
    refine r_iload rfl rfl ?_
    refine r_iastore rfl (fx_t54 fx) (vp_ct (fx_n54 fx) (vp_in_nI (by omega) (by omega))) ?_
    refine WR_h (h2 := sI (sI (sI h (ad 30) 37 (nI (H - 1))) (ad 57) (5 * a + 3) (nI qp)) (ad 54) (H - 1) (nI (y + 1000))) (congrArg (fun z => sI (sI (sI h (ad 30) 37 (nI (H - 1))) (ad 57) (5 * a + 3) (nI qp)) (ad 54) z (nI (y + 1000))) ((nI_clamp (by omega)) : _ = H - 1)) ?_
    have fx : FX n ad sa z0 (sI (sI (sI h (ad 30) 37 (nI (H - 1))) (ad 57) (5 * a + 3) (nI qp)) (ad 54) (H - 1) (nI (y + 1000))) := (FX.sI fx)
    refine r_aload rfl rfl ?_
    refine r_getA (b := ad 55) rfl ⟨rfl, rfl, rfl⟩ (fx_t30 fx) (fx_r30_39 fx) ?_
    refine r_aload rfl rfl ?_
    refine r_getI rfl ⟨rfl, rfl, rfl⟩ (fx_t30 fx) ?_
    refine WR_tI (y := nI (H - 1)) (Eq.trans (I_ne (fx_ne fx (by decide))) (Eq.trans (I_ne (fx_ne fx (by decide))) I_eq)) ?_
    refine r_iload rfl rfl ?_
    refine r_iastore rfl (fx_t55 fx) (vp_ct (fx_n55 fx) (vp_in_nI (by omega) (by omega))) ?_
    refine WR_h (h2 := sI (sI (sI (sI h (ad 30) 37 (nI (H - 1))) (ad 57) (5 * a + 3) (nI qp)) (ad 54) (H - 1) (nI (y + 1000))) (ad 55) (H - 1) 23) (congrArg (fun z => sI (sI (sI (sI h (ad 30) 37 (nI (H - 1))) (ad 57) (5 * a + 3) (nI qp)) (ad 54) (H - 1) (nI (y + 1000))) (ad 55) z 23) ((nI_clamp (by omega)) : _ = H - 1)) ?_
    have fx : FX n ad sa z0 (sI (sI (sI (sI h (ad 30) 37 (nI (H - 1))) (ad 57) (5 * a + 3) (nI qp)) (ad 54) (H - 1) (nI (y + 1000))) (ad 55) (H - 1) 23) := (FX.sI fx)
    refine r_aload rfl rfl ?_
    refine r_dup rfl rfl ?_
    refine r_getI rfl ⟨rfl, rfl, rfl⟩ (fx_t30 fx) ?_
    refine WR_tI (y := nI (H - 1)) (Eq.trans (I_ne (fx_ne fx (by decide))) (Eq.trans (I_ne (fx_ne fx (by decide))) (Eq.trans (I_ne (fx_ne fx (by decide))) I_eq))) ?_
    refine r_ic (x := 1) rfl rfl ?_
    refine r_iadd rfl ?_
    refine WR_tI (y := nI H) (Eq.trans (nI_add (H - 1) 1) (congrArg nI (by omega))) ?_
    refine r_putI rfl ⟨rfl, rfl, rfl⟩ (fx_t30 fx) ?_
    have fx : FX n ad sa z0 (sI (sI (sI (sI (sI h (ad 30) 37 (nI (H - 1))) (ad 57) (5 * a + 3) (nI qp)) (ad 54) (H - 1) (nI (y + 1000))) (ad 55) (H - 1) 23) (ad 30) 37 (nI H)) := (FX.sI fx)
    refine r_vret rfl ?_
    show WR _ cd_219 126 [some (.ref (ad 30)), some (.int (nI a)), some (.int 3), some (.int (nI qp)), some (.int (nI y))] [] (sI (sI (sI (sI (sI h (ad 30) 37 (nI (H - 1))) (ad 57) (5 * a + 3) (nI qp)) (ad 54) (H - 1) (nI (y + 1000))) (ad 55) (H - 1) 23) (ad 30) 37 (nI H)) _
    refine r_ic (x := 0) rfl rfl ?_
    refine r_iret rfl ?_
    show WR _ cd_216 248 [some (.ref (ad 30)), some (.int 12), some (.int (nI a)), some (.int 3), some (.int c), none] [.int 0] (sI (sI (sI (sI (sI h (ad 30) 37 (nI (H - 1))) (ad 57) (5 * a + 3) (nI qp)) (ad 54) (H - 1) (nI (y + 1000))) (ad 55) (H - 1) 23) (ad 30) 37 (nI H)) _
    refine r_iret rfl ?_
    exact (L1 c1)
  · refine r_iload rfl rfl ?_
    refine r_ic (x := 2) rfl rfl ?_
    refine r_icmp_le (tg := 17) rfl rfl (fun q => absurd q (by decide)) (fun _ => ?_)
    refine r_ic (x := 7) rfl rfl ?_
    refine r_iret rfl ?_
    show WR _ cd_216 248 [some (.ref (ad 30)), some (.int 12), some (.int (nI a)), some (.int 3), some (.int c), none] [.int 7] h _
    refine r_iret rfl ?_
    exact (L2 c1)

set_option maxHeartbeats 2000000 in
theorem w_m13n3 {d : Nat} {Q : mQ} {n : Nat} {ad sa : Nat → Nat} {z0 : Nat} {h : mH} (fx : FX n ad sa z0 h) {a : Nat} {c : Int32} {v : Int32} (ha : a < 6) (e9 : hI h (ad 56) a = v) (r3 : hI h (ad 57) (5 * a + 3) = -1) 
    (L1 : ¬ v = 0 → Q (some (.int 1)) h)
    (L2 : v = 0 → Q (some (.int 7)) h) : EV (d + 2) 216 [.ref (ad 30), .int 13, .int (nI a), .int 3, .int c] h Q := by
  have fx0 := fx
  refine in_216 (Nat.le_of_ble_eq_true rfl) ?_
  show WR _ cd_216 0 [some (.ref (ad 30)), some (.int 13), some (.int (nI a)), some (.int 3), some (.int c), none] [] h _
  refine r_iload rfl rfl ?_
  refine r_tswL (tg := 249) rfl (by decide) ?_
  refine r_aload rfl rfl ?_
  refine r_iload rfl rfl ?_
  refine r_iload rfl rfl ?_
  refine r_cv (y := 220) (ra := [.int 3, .int (nI a)]) (rest := []) rfl ⟨⟨rfl, rfl⟩, rfl, by decide⟩ (fx_t30 fx) rfl rfl (Nat.le_of_ble_eq_true rfl) ?_
  refine in_220 (Nat.le_of_ble_eq_true rfl) ?_
  show WR _ cd_220 0 [some (.ref (ad 30)), some (.int (nI a)), some (.int 3), none] [] h _
  refine r_aload rfl rfl ?_
  refine r_getA (b := ad 56) rfl ⟨rfl, rfl, rfl⟩ (fx_t30 fx) (fx_r30_40 fx) ?_
  refine r_iload rfl rfl ?_
  refine r_iaload rfl (.inl (fx_t56 fx)) (vp_ct (fx_n56 fx) (vp_in_nI (by omega) (by omega))) ?_
  refine WR_tI (congrArg (hI h (ad 56)) ((nI_clamp (by omega)) : _ = a)) ?_
  refine WR_tI (y := v) e9 ?_
  refine r_if_ne (tg := 17) rfl rfl (fun c1 => ?_) (fun c1 => ?_)
  · refine r_aload rfl rfl ?_
    refine r_getA (b := ad 57) rfl ⟨rfl, rfl, rfl⟩ (fx_t30 fx) (fx_r30_41 fx) ?_
    refine r_ic (x := 5) rfl rfl ?_
    refine r_iload rfl rfl ?_
    refine r_imul rfl ?_
    refine WR_tI (y := nI (5 * a)) (Eq.trans (pk_mul 5 a) (congrArg nI (by omega))) ?_
    refine r_iload rfl rfl ?_
    refine r_iadd rfl ?_
    refine WR_tI (y := nI (5 * a + 3)) (Eq.trans (nI_add (5 * a) 3) (congrArg nI (by omega))) ?_
    refine r_iaload rfl (.inl (fx_t57 fx)) (vp_ct (fx_n57 fx) (vp_in_nI (by omega) (by omega))) ?_
    refine WR_tI (congrArg (hI h (ad 57)) ((nI_clamp (by omega)) : _ = 5 * a + 3)) ?_
    refine WR_tI (y := (-1)) r3 ?_
    refine r_istore (lv' := [some (.ref (ad 30)), some (.int (nI a)), some (.int 3), some (.int (-1))]) rfl (Nat.le_of_ble_eq_true rfl) rfl ?_
    refine r_iload rfl rfl ?_
    refine r_if_ge (tg := 34) rfl rfl (fun q => absurd q (by decide)) (fun _ => ?_)
    refine r_ic (x := 1) rfl rfl ?_
    refine r_iret rfl ?_
    show WR _ cd_216 255 [some (.ref (ad 30)), some (.int 13), some (.int (nI a)), some (.int 3), some (.int c), none] [.int 1] h _
    refine r_iret rfl ?_
    exact (L1 c1)
  · refine r_iload rfl rfl ?_
    refine r_ic (x := 2) rfl rfl ?_
    refine r_icmp_le (tg := 17) rfl rfl (fun q => absurd q (by decide)) (fun _ => ?_)
    refine r_ic (x := 7) rfl rfl ?_
    refine r_iret rfl ?_
    show WR _ cd_216 255 [some (.ref (ad 30)), some (.int 13), some (.int (nI a)), some (.int 3), some (.int c), none] [.int 7] h _
    refine r_iret rfl ?_
    exact (L2 c1)

set_option maxHeartbeats 2000000 in
theorem w_m13s3 {d : Nat} {Q : mQ} {n : Nat} {ad sa : Nat → Nat} {z0 : Nat} {h : mH} (fx : FX n ad sa z0 h) {a H y : Nat} {c : Int32} {v : Int32} (ha : a < 6) (e9 : hI h (ad 56) a = v) (eh : hI h (ad 30) 37 = nI H) (hH : H < 100) (hy : y < 60) (r3 : hI h (ad 57) (5 * a + 3) = nI y) 
    (L1 : ¬ v = 0 → Q (some (.int 0)) (sI (sI (sI (sI h (ad 54) H (nI (y + 1000))) (ad 55) H 23) (ad 30) 37 (nI (H + 1))) (ad 57) (5 * a + 3) (-1)))
    (L2 : v = 0 → Q (some (.int 7)) h) : EV (d + 3) 216 [.ref (ad 30), .int 13, .int (nI a), .int 3, .int c] h Q := by
  have fx0 := fx
  refine in_216 (Nat.le_of_ble_eq_true rfl) ?_
  show WR _ cd_216 0 [some (.ref (ad 30)), some (.int 13), some (.int (nI a)), some (.int 3), some (.int c), none] [] h _
  refine r_iload rfl rfl ?_
  refine r_tswL (tg := 249) rfl (by decide) ?_
  refine r_aload rfl rfl ?_
  refine r_iload rfl rfl ?_
  refine r_iload rfl rfl ?_
  refine r_cv (y := 220) (ra := [.int 3, .int (nI a)]) (rest := []) rfl ⟨⟨rfl, rfl⟩, rfl, by decide⟩ (fx_t30 fx) rfl rfl (Nat.le_of_ble_eq_true rfl) ?_
  refine in_220 (Nat.le_of_ble_eq_true rfl) ?_
  show WR _ cd_220 0 [some (.ref (ad 30)), some (.int (nI a)), some (.int 3), none] [] h _
  refine r_aload rfl rfl ?_
  refine r_getA (b := ad 56) rfl ⟨rfl, rfl, rfl⟩ (fx_t30 fx) (fx_r30_40 fx) ?_
  refine r_iload rfl rfl ?_
  refine r_iaload rfl (.inl (fx_t56 fx)) (vp_ct (fx_n56 fx) (vp_in_nI (by omega) (by omega))) ?_
  refine WR_tI (congrArg (hI h (ad 56)) ((nI_clamp (by omega)) : _ = a)) ?_
  refine WR_tI (y := v) e9 ?_
  refine r_if_ne (tg := 17) rfl rfl (fun c1 => ?_) (fun c1 => ?_)
  · refine r_aload rfl rfl ?_
    refine r_getA (b := ad 57) rfl ⟨rfl, rfl, rfl⟩ (fx_t30 fx) (fx_r30_41 fx) ?_
    refine r_ic (x := 5) rfl rfl ?_
    refine r_iload rfl rfl ?_
    refine r_imul rfl ?_
    refine WR_tI (y := nI (5 * a)) (Eq.trans (pk_mul 5 a) (congrArg nI (by omega))) ?_
    refine r_iload rfl rfl ?_
    refine r_iadd rfl ?_
    refine WR_tI (y := nI (5 * a + 3)) (Eq.trans (nI_add (5 * a) 3) (congrArg nI (by omega))) ?_
    refine r_iaload rfl (.inl (fx_t57 fx)) (vp_ct (fx_n57 fx) (vp_in_nI (by omega) (by omega))) ?_
    refine WR_tI (congrArg (hI h (ad 57)) ((nI_clamp (by omega)) : _ = 5 * a + 3)) ?_
    refine WR_tI (y := nI y) r3 ?_
    refine r_istore (lv' := [some (.ref (ad 30)), some (.int (nI a)), some (.int 3), some (.int (nI y))]) rfl (Nat.le_of_ble_eq_true rfl) rfl ?_
    refine r_iload rfl rfl ?_
    refine r_if_ge (tg := 34) rfl rfl (fun _ => ?_) (fun q => False.elim (by have : (nI y).toInt = ((y : Nat) : Int) := nI_toInt (by omega); have : (0 : Int32).toInt = 0 := rfl; have := i_nle q; omega))
    refine r_aload rfl rfl ?_
    refine r_ic (x := 1000) rfl rfl ?_
    refine r_iload rfl rfl ?_
    refine r_iadd rfl ?_
    refine WR_tI (y := nI (y + 1000)) (Eq.trans (nI_add 1000 y) (congrArg nI (by omega))) ?_
    refine r_ic (x := 23) rfl rfl ?_
    refine r_cv (y := 217) (ra := [.int 23, .int (nI (y + 1000))]) (rest := []) rfl ⟨⟨rfl, rfl⟩, rfl, by decide⟩ (fx_t30 fx) rfl rfl (Nat.le_of_ble_eq_true rfl) ?_
    refine in_217 (Nat.le_of_ble_eq_true rfl) ?_
    show WR _ cd_217 0 [some (.ref (ad 30)), some (.int (nI (y + 1000))), some (.int 23)] [] h _
    refine r_aload rfl rfl ?_
    refine r_getA (b := ad 54) rfl ⟨rfl, rfl, rfl⟩ (fx_t30 fx) (fx_r30_38 fx) ?_
    refine r_aload rfl rfl ?_
    refine r_getI rfl ⟨rfl, rfl, rfl⟩ (fx_t30 fx) ?_
    refine WR_tI (y := nI H) eh ?_
    refine r_iload rfl rfl ?_
    refine r_iastore rfl (fx_t54 fx) (vp_ct (fx_n54 fx) (vp_in_nI (by omega) (by omega))) ?_
    refine WR_h (h2 := sI h (ad 54) H (nI (y + 1000))) (congrArg (fun z => sI h (ad 54) z (nI (y + 1000))) ((nI_clamp (by omega)) : _ = H)) ?_
    have fx : FX n ad sa z0 (sI h (ad 54) H (nI (y + 1000))) := (FX.sI fx)
    refine r_aload rfl rfl ?_
    refine r_getA (b := ad 55) rfl ⟨rfl, rfl, rfl⟩ (fx_t30 fx) (fx_r30_39 fx) ?_
    refine r_aload rfl rfl ?_
    refine r_getI rfl ⟨rfl, rfl, rfl⟩ (fx_t30 fx) ?_
    refine WR_tI (y := nI H) (Eq.trans (I_ne (fx_ne fx (by decide))) eh) ?_
    refine r_iload rfl rfl ?_
    refine r_iastore rfl (fx_t55 fx) (vp_ct (fx_n55 fx) (vp_in_nI (by omega) (by omega))) ?_
    refine WR_h (h2 := sI (sI h (ad 54) H (nI (y + 1000))) (ad 55) H 23) (congrArg (fun z => sI (sI h (ad 54) H (nI (y + 1000))) (ad 55) z 23) ((nI_clamp (by omega)) : _ = H)) ?_
    have fx : FX n ad sa z0 (sI (sI h (ad 54) H (nI (y + 1000))) (ad 55) H 23) := (FX.sI fx)
    refine r_aload rfl rfl ?_
    refine r_dup rfl rfl ?_
    refine r_getI rfl ⟨rfl, rfl, rfl⟩ (fx_t30 fx) ?_
    refine WR_tI (y := nI H) (Eq.trans (I_ne (fx_ne fx (by decide))) (Eq.trans (I_ne (fx_ne fx (by decide))) eh)) ?_
    refine r_ic (x := 1) rfl rfl ?_
    refine r_iadd rfl ?_
    refine WR_tI (y := nI (H + 1)) (Eq.trans (nI_add H 1) (congrArg nI (by omega))) ?_
    refine r_putI rfl ⟨rfl, rfl, rfl⟩ (fx_t30 fx) ?_
    have fx : FX n ad sa z0 (sI (sI (sI h (ad 54) H (nI (y + 1000))) (ad 55) H 23) (ad 30) 37 (nI (H + 1))) := (FX.sI fx)
    refine r_vret rfl ?_
    show WR _ cd_220 45 [some (.ref (ad 30)), some (.int (nI a)), some (.int 3), some (.int (nI y))] [] (sI (sI (sI h (ad 54) H (nI (y + 1000))) (ad 55) H 23) (ad 30) 37 (nI (H + 1))) _
    refine r_aload rfl rfl ?_
    refine r_getA (b := ad 57) rfl ⟨rfl, rfl, rfl⟩ (fx_t30 fx) (fx_r30_41 fx) ?_
    refine r_ic (x := 5) rfl rfl ?_
    refine r_iload rfl rfl ?_
    refine r_imul rfl ?_
    refine WR_tI (y := nI (5 * a)) (Eq.trans (pk_mul 5 a) (congrArg nI (by omega))) ?_
    refine r_iload rfl rfl ?_
    refine r_iadd rfl ?_
    refine WR_tI (y := nI (5 * a + 3)) (Eq.trans (nI_add (5 * a) 3) (congrArg nI (by omega))) ?_
    refine r_ic (x := (-1)) rfl rfl ?_
    refine r_iastore rfl (fx_t57 fx) (vp_ct (fx_n57 fx) (vp_in_nI (by omega) (by omega))) ?_
    refine WR_h (h2 := sI (sI (sI (sI h (ad 54) H (nI (y + 1000))) (ad 55) H 23) (ad 30) 37 (nI (H + 1))) (ad 57) (5 * a + 3) (-1)) (congrArg (fun z => sI (sI (sI (sI h (ad 54) H (nI (y + 1000))) (ad 55) H 23) (ad 30) 37 (nI (H + 1))) (ad 57) z (-1)) ((nI_clamp (by omega)) : _ = 5 * a + 3)) ?_
    have fx : FX n ad sa z0 (sI (sI (sI (sI h (ad 54) H (nI (y + 1000))) (ad 55) H 23) (ad 30) 37 (nI (H + 1))) (ad 57) (5 * a + 3) (-1)) := (FX.sI fx)
    refine r_ic (x := 0) rfl rfl ?_
    refine r_iret rfl ?_
    show WR _ cd_216 255 [some (.ref (ad 30)), some (.int 13), some (.int (nI a)), some (.int 3), some (.int c), none] [.int 0] (sI (sI (sI (sI h (ad 54) H (nI (y + 1000))) (ad 55) H 23) (ad 30) 37 (nI (H + 1))) (ad 57) (5 * a + 3) (-1)) _
    refine r_iret rfl ?_
    exact (L1 c1)
  · refine r_iload rfl rfl ?_
    refine r_ic (x := 2) rfl rfl ?_
    refine r_icmp_le (tg := 17) rfl rfl (fun q => absurd q (by decide)) (fun _ => ?_)
    refine r_ic (x := 7) rfl rfl ?_
    refine r_iret rfl ?_
    show WR _ cd_216 255 [some (.ref (ad 30)), some (.int 13), some (.int (nI a)), some (.int 3), some (.int c), none] [.int 7] h _
    refine r_iret rfl ?_
    exact (L2 c1)

set_option maxHeartbeats 2000000 in
theorem w_m12h4 {d : Nat} {Q : mQ} {n : Nat} {ad sa : Nat → Nat} {z0 : Nat} {h : mH} (fx : FX n ad sa z0 h) {a : Nat} {c : Int32} (ha : a < 6) (e9 : hI h (ad 56) a = 0) 
    (L1 : Q (some (.int 7)) h) : EV (d + 2) 216 [.ref (ad 30), .int 12, .int (nI a), .int 4, .int c] h Q := by
  have fx0 := fx
  refine in_216 (Nat.le_of_ble_eq_true rfl) ?_
  show WR _ cd_216 0 [some (.ref (ad 30)), some (.int 12), some (.int (nI a)), some (.int 4), some (.int c), none] [] h _
  refine r_iload rfl rfl ?_
  refine r_tswL (tg := 242) rfl (by decide) ?_
  refine r_aload rfl rfl ?_
  refine r_iload rfl rfl ?_
  refine r_iload rfl rfl ?_
  refine r_cv (y := 219) (ra := [.int 4, .int (nI a)]) (rest := []) rfl ⟨⟨rfl, rfl⟩, rfl, by decide⟩ (fx_t30 fx) rfl rfl (Nat.le_of_ble_eq_true rfl) ?_
  refine in_219 (Nat.le_of_ble_eq_true rfl) ?_
  show WR _ cd_219 0 [some (.ref (ad 30)), some (.int (nI a)), some (.int 4), none, none] [] h _
  refine r_aload rfl rfl ?_
  refine r_getA (b := ad 56) rfl ⟨rfl, rfl, rfl⟩ (fx_t30 fx) (fx_r30_40 fx) ?_
  refine r_iload rfl rfl ?_
  refine r_iaload rfl (.inl (fx_t56 fx)) (vp_ct (fx_n56 fx) (vp_in_nI (by omega) (by omega))) ?_
  refine WR_tI (congrArg (hI h (ad 56)) ((nI_clamp (by omega)) : _ = a)) ?_
  refine WR_tI (y := 0) e9 ?_
  refine r_if_ne (tg := 17) rfl rfl (fun q => absurd q (by decide)) (fun _ => ?_)
  refine r_iload rfl rfl ?_
  refine r_ic (x := 2) rfl rfl ?_
  refine r_icmp_le (tg := 17) rfl rfl (fun q => absurd q (by decide)) (fun _ => ?_)
  refine r_ic (x := 7) rfl rfl ?_
  refine r_iret rfl ?_
  show WR _ cd_216 248 [some (.ref (ad 30)), some (.int 12), some (.int (nI a)), some (.int 4), some (.int c), none] [.int 7] h _
  refine r_iret rfl ?_
  exact (L1)

set_option maxHeartbeats 2000000 in
theorem w_m13h4 {d : Nat} {Q : mQ} {n : Nat} {ad sa : Nat → Nat} {z0 : Nat} {h : mH} (fx : FX n ad sa z0 h) {a : Nat} {c : Int32} (ha : a < 6) (e9 : hI h (ad 56) a = 0) 
    (L1 : Q (some (.int 7)) h) : EV (d + 2) 216 [.ref (ad 30), .int 13, .int (nI a), .int 4, .int c] h Q := by
  have fx0 := fx
  refine in_216 (Nat.le_of_ble_eq_true rfl) ?_
  show WR _ cd_216 0 [some (.ref (ad 30)), some (.int 13), some (.int (nI a)), some (.int 4), some (.int c), none] [] h _
  refine r_iload rfl rfl ?_
  refine r_tswL (tg := 249) rfl (by decide) ?_
  refine r_aload rfl rfl ?_
  refine r_iload rfl rfl ?_
  refine r_iload rfl rfl ?_
  refine r_cv (y := 220) (ra := [.int 4, .int (nI a)]) (rest := []) rfl ⟨⟨rfl, rfl⟩, rfl, by decide⟩ (fx_t30 fx) rfl rfl (Nat.le_of_ble_eq_true rfl) ?_
  refine in_220 (Nat.le_of_ble_eq_true rfl) ?_
  show WR _ cd_220 0 [some (.ref (ad 30)), some (.int (nI a)), some (.int 4), none] [] h _
  refine r_aload rfl rfl ?_
  refine r_getA (b := ad 56) rfl ⟨rfl, rfl, rfl⟩ (fx_t30 fx) (fx_r30_40 fx) ?_
  refine r_iload rfl rfl ?_
  refine r_iaload rfl (.inl (fx_t56 fx)) (vp_ct (fx_n56 fx) (vp_in_nI (by omega) (by omega))) ?_
  refine WR_tI (congrArg (hI h (ad 56)) ((nI_clamp (by omega)) : _ = a)) ?_
  refine WR_tI (y := 0) e9 ?_
  refine r_if_ne (tg := 17) rfl rfl (fun q => absurd q (by decide)) (fun _ => ?_)
  refine r_iload rfl rfl ?_
  refine r_ic (x := 2) rfl rfl ?_
  refine r_icmp_le (tg := 17) rfl rfl (fun q => absurd q (by decide)) (fun _ => ?_)
  refine r_ic (x := 7) rfl rfl ?_
  refine r_iret rfl ?_
  show WR _ cd_216 255 [some (.ref (ad 30)), some (.int 13), some (.int (nI a)), some (.int 4), some (.int c), none] [.int 7] h _
  refine r_iret rfl ?_
  exact (L1)

set_option maxHeartbeats 2000000 in
theorem w_m12z4 {d : Nat} {Q : mQ} {n : Nat} {ad sa : Nat → Nat} {z0 : Nat} {h : mH} (fx : FX n ad sa z0 h) {a : Nat} {c : Int32} {v : Int32} (ha : a < 6) (e9 : hI h (ad 56) a = v) (eh : hI h (ad 30) 37 = 0) 
    (L1 : ¬ v = 0 → Q (some (.int 1)) h)
    (L2 : v = 0 → Q (some (.int 7)) h) : EV (d + 2) 216 [.ref (ad 30), .int 12, .int (nI a), .int 4, .int c] h Q := by
  have fx0 := fx
  refine in_216 (Nat.le_of_ble_eq_true rfl) ?_
  show WR _ cd_216 0 [some (.ref (ad 30)), some (.int 12), some (.int (nI a)), some (.int 4), some (.int c), none] [] h _
  refine r_iload rfl rfl ?_
  refine r_tswL (tg := 242) rfl (by decide) ?_
  refine r_aload rfl rfl ?_
  refine r_iload rfl rfl ?_
  refine r_iload rfl rfl ?_
  refine r_cv (y := 219) (ra := [.int 4, .int (nI a)]) (rest := []) rfl ⟨⟨rfl, rfl⟩, rfl, by decide⟩ (fx_t30 fx) rfl rfl (Nat.le_of_ble_eq_true rfl) ?_
  refine in_219 (Nat.le_of_ble_eq_true rfl) ?_
  show WR _ cd_219 0 [some (.ref (ad 30)), some (.int (nI a)), some (.int 4), none, none] [] h _
  refine r_aload rfl rfl ?_
  refine r_getA (b := ad 56) rfl ⟨rfl, rfl, rfl⟩ (fx_t30 fx) (fx_r30_40 fx) ?_
  refine r_iload rfl rfl ?_
  refine r_iaload rfl (.inl (fx_t56 fx)) (vp_ct (fx_n56 fx) (vp_in_nI (by omega) (by omega))) ?_
  refine WR_tI (congrArg (hI h (ad 56)) ((nI_clamp (by omega)) : _ = a)) ?_
  refine WR_tI (y := v) e9 ?_
  refine r_if_ne (tg := 17) rfl rfl (fun c1 => ?_) (fun c1 => ?_)
  · refine r_aload rfl rfl ?_
    refine r_getI rfl ⟨rfl, rfl, rfl⟩ (fx_t30 fx) ?_
    refine WR_tI (y := 0) eh ?_
    refine r_if_ne (tg := 26) rfl rfl (fun q => absurd q (by decide)) (fun _ => ?_)
    refine r_ic (x := 1) rfl rfl ?_
    refine r_iret rfl ?_
    show WR _ cd_216 248 [some (.ref (ad 30)), some (.int 12), some (.int (nI a)), some (.int 4), some (.int c), none] [.int 1] h _
    refine r_iret rfl ?_
    exact (L1 c1)
  · refine r_iload rfl rfl ?_
    refine r_ic (x := 2) rfl rfl ?_
    refine r_icmp_le (tg := 17) rfl rfl (fun q => absurd q (by decide)) (fun _ => ?_)
    refine r_ic (x := 7) rfl rfl ?_
    refine r_iret rfl ?_
    show WR _ cd_216 248 [some (.ref (ad 30)), some (.int 12), some (.int (nI a)), some (.int 4), some (.int c), none] [.int 7] h _
    refine r_iret rfl ?_
    exact (L2 c1)

set_option maxHeartbeats 2000000 in
theorem w_m12t4 {d : Nat} {Q : mQ} {n : Nat} {ad sa : Nat → Nat} {z0 : Nat} {h : mH} (fx : FX n ad sa z0 h) {a H t : Nat} {c : Int32} {v : Int32} (ha : a < 6) (e9 : hI h (ad 56) a = v) (eh : hI h (ad 30) 37 = nI H) (hH1 : 1 ≤ H) (hH : H ≤ 100) (ht : t < 250) (e2 : hI h (ad 54) (H - 1) = nI t) 
    (L1 : ¬ v = 0 → Q (some (.int 4)) h)
    (L2 : v = 0 → Q (some (.int 7)) h) : EV (d + 2) 216 [.ref (ad 30), .int 12, .int (nI a), .int 4, .int c] h Q := by
  have fx0 := fx
  refine in_216 (Nat.le_of_ble_eq_true rfl) ?_
  show WR _ cd_216 0 [some (.ref (ad 30)), some (.int 12), some (.int (nI a)), some (.int 4), some (.int c), none] [] h _
  refine r_iload rfl rfl ?_
  refine r_tswL (tg := 242) rfl (by decide) ?_
  refine r_aload rfl rfl ?_
  refine r_iload rfl rfl ?_
  refine r_iload rfl rfl ?_
  refine r_cv (y := 219) (ra := [.int 4, .int (nI a)]) (rest := []) rfl ⟨⟨rfl, rfl⟩, rfl, by decide⟩ (fx_t30 fx) rfl rfl (Nat.le_of_ble_eq_true rfl) ?_
  refine in_219 (Nat.le_of_ble_eq_true rfl) ?_
  show WR _ cd_219 0 [some (.ref (ad 30)), some (.int (nI a)), some (.int 4), none, none] [] h _
  refine r_aload rfl rfl ?_
  refine r_getA (b := ad 56) rfl ⟨rfl, rfl, rfl⟩ (fx_t30 fx) (fx_r30_40 fx) ?_
  refine r_iload rfl rfl ?_
  refine r_iaload rfl (.inl (fx_t56 fx)) (vp_ct (fx_n56 fx) (vp_in_nI (by omega) (by omega))) ?_
  refine WR_tI (congrArg (hI h (ad 56)) ((nI_clamp (by omega)) : _ = a)) ?_
  refine WR_tI (y := v) e9 ?_
  refine r_if_ne (tg := 17) rfl rfl (fun c1 => ?_) (fun c1 => ?_)
  · refine r_aload rfl rfl ?_
    refine r_getI rfl ⟨rfl, rfl, rfl⟩ (fx_t30 fx) ?_
    refine WR_tI (y := nI H) eh ?_
    refine r_if_ne (tg := 26) rfl rfl (fun _ => ?_) (fun q => False.elim (by have : (nI H).toInt = ((H : Nat) : Int) := nI_toInt (by omega); have : (0 : Int32).toInt = 0 := rfl; have := i_eq q; omega))
    refine r_aload rfl rfl ?_
    refine r_getA (b := ad 54) rfl ⟨rfl, rfl, rfl⟩ (fx_t30 fx) (fx_r30_38 fx) ?_
    refine r_aload rfl rfl ?_
    refine r_getI rfl ⟨rfl, rfl, rfl⟩ (fx_t30 fx) ?_
    refine WR_tI (y := nI H) eh ?_
    refine r_ic (x := 1) rfl rfl ?_
    refine r_isub rfl ?_
    refine WR_tI (y := nI (H - 1)) (Eq.trans (pk_sub (a := H) (b := 1) (by omega)) (congrArg nI (by omega))) ?_
    refine r_iaload rfl (.inl (fx_t54 fx)) (vp_ct (fx_n54 fx) (vp_in_nI (by omega) (by omega))) ?_
    refine WR_tI (congrArg (hI h (ad 54)) ((nI_clamp (by omega)) : _ = H - 1)) ?_
    refine WR_tI (y := nI t) e2 ?_
    refine r_ic (x := 1000) rfl rfl ?_
    refine r_isub rfl ?_
    refine r_istore (lv' := [some (.ref (ad 30)), some (.int (nI a)), some (.int 4), some (.int ((nI t) - 1000)), none]) rfl (Nat.le_of_ble_eq_true rfl) rfl ?_
    refine r_iload rfl rfl ?_
    refine r_if_lt (tg := 74) rfl rfl (fun _ => ?_) (fun q => False.elim (by have : (nI t).toInt = ((t : Nat) : Int) := nI_toInt (by omega); have : (1000 : Int32).toInt = 1000 := rfl; have := sub_t (x := nI t) (y := 1000) (by have : (nI t).toInt = ((t : Nat) : Int) := nI_toInt (by omega); have : (1000 : Int32).toInt = 1000 := rfl; omega) (by have : (nI t).toInt = ((t : Nat) : Int) := nI_toInt (by omega); have : (1000 : Int32).toInt = 1000 := rfl; omega); have : (0 : Int32).toInt = 0 := rfl; have := i_nlt q; omega))
    refine r_ic (x := 4) rfl rfl ?_
    refine r_iret rfl ?_
    show WR _ cd_216 248 [some (.ref (ad 30)), some (.int 12), some (.int (nI a)), some (.int 4), some (.int c), none] [.int 4] h _
    refine r_iret rfl ?_
    exact (L1 c1)
  · refine r_iload rfl rfl ?_
    refine r_ic (x := 2) rfl rfl ?_
    refine r_icmp_le (tg := 17) rfl rfl (fun q => absurd q (by decide)) (fun _ => ?_)
    refine r_ic (x := 7) rfl rfl ?_
    refine r_iret rfl ?_
    show WR _ cd_216 248 [some (.ref (ad 30)), some (.int 12), some (.int (nI a)), some (.int 4), some (.int c), none] [.int 7] h _
    refine r_iret rfl ?_
    exact (L2 c1)

set_option maxHeartbeats 2000000 in
theorem w_m12n4 {d : Nat} {Q : mQ} {n : Nat} {ad sa : Nat → Nat} {z0 : Nat} {h : mH} (fx : FX n ad sa z0 h) {a H qp : Nat} {c : Int32} {v : Int32} (ha : a < 6) (e9 : hI h (ad 56) a = v) (eh : hI h (ad 30) 37 = nI H) (hH1 : 1 ≤ H) (hH : H ≤ 100) (hq : qp < 60) (e2 : hI h (ad 54) (H - 1) = nI (1000 + qp)) {kd : Nat} (kx : hI h (ad 37) qp = nI kd) (k7 : kd < 7) (of_ : ¬ ofK kd 5 = true) 
    (L1 : ¬ v = 0 → Q (some (.int 4)) h)
    (L2 : v = 0 → Q (some (.int 7)) h) : EV (d + 3) 216 [.ref (ad 30), .int 12, .int (nI a), .int 4, .int c] h Q := by
  have fx0 := fx
  refine in_216 (Nat.le_of_ble_eq_true rfl) ?_
  show WR _ cd_216 0 [some (.ref (ad 30)), some (.int 12), some (.int (nI a)), some (.int 4), some (.int c), none] [] h _
  refine r_iload rfl rfl ?_
  refine r_tswL (tg := 242) rfl (by decide) ?_
  refine r_aload rfl rfl ?_
  refine r_iload rfl rfl ?_
  refine r_iload rfl rfl ?_
  refine r_cv (y := 219) (ra := [.int 4, .int (nI a)]) (rest := []) rfl ⟨⟨rfl, rfl⟩, rfl, by decide⟩ (fx_t30 fx) rfl rfl (Nat.le_of_ble_eq_true rfl) ?_
  refine in_219 (Nat.le_of_ble_eq_true rfl) ?_
  show WR _ cd_219 0 [some (.ref (ad 30)), some (.int (nI a)), some (.int 4), none, none] [] h _
  refine r_aload rfl rfl ?_
  refine r_getA (b := ad 56) rfl ⟨rfl, rfl, rfl⟩ (fx_t30 fx) (fx_r30_40 fx) ?_
  refine r_iload rfl rfl ?_
  refine r_iaload rfl (.inl (fx_t56 fx)) (vp_ct (fx_n56 fx) (vp_in_nI (by omega) (by omega))) ?_
  refine WR_tI (congrArg (hI h (ad 56)) ((nI_clamp (by omega)) : _ = a)) ?_
  refine WR_tI (y := v) e9 ?_
  refine r_if_ne (tg := 17) rfl rfl (fun c1 => ?_) (fun c1 => ?_)
  · refine r_aload rfl rfl ?_
    refine r_getI rfl ⟨rfl, rfl, rfl⟩ (fx_t30 fx) ?_
    refine WR_tI (y := nI H) eh ?_
    refine r_if_ne (tg := 26) rfl rfl (fun _ => ?_) (fun q => False.elim (by have : (nI H).toInt = ((H : Nat) : Int) := nI_toInt (by omega); have : (0 : Int32).toInt = 0 := rfl; have := i_eq q; omega))
    refine r_aload rfl rfl ?_
    refine r_getA (b := ad 54) rfl ⟨rfl, rfl, rfl⟩ (fx_t30 fx) (fx_r30_38 fx) ?_
    refine r_aload rfl rfl ?_
    refine r_getI rfl ⟨rfl, rfl, rfl⟩ (fx_t30 fx) ?_
    refine WR_tI (y := nI H) eh ?_
    refine r_ic (x := 1) rfl rfl ?_
    refine r_isub rfl ?_
    refine WR_tI (y := nI (H - 1)) (Eq.trans (pk_sub (a := H) (b := 1) (by omega)) (congrArg nI (by omega))) ?_
    refine r_iaload rfl (.inl (fx_t54 fx)) (vp_ct (fx_n54 fx) (vp_in_nI (by omega) (by omega))) ?_
    refine WR_tI (congrArg (hI h (ad 54)) ((nI_clamp (by omega)) : _ = H - 1)) ?_
    refine WR_tI (y := nI (qp + 1000)) (Eq.trans e2 (congrArg nI (Nat.add_comm 1000 qp))) ?_
    refine r_ic (x := 1000) rfl rfl ?_
    refine r_isub rfl ?_
    refine WR_tI (y := nI qp) (Eq.trans (pk_sub (a := qp + 1000) (b := 1000) (by omega)) (congrArg nI (by omega))) ?_
    refine r_istore (lv' := [some (.ref (ad 30)), some (.int (nI a)), some (.int 4), some (.int (nI qp)), none]) rfl (Nat.le_of_ble_eq_true rfl) rfl ?_
    refine r_iload rfl rfl ?_
    refine r_if_lt (tg := 74) rfl rfl (fun q => False.elim (by have : (nI qp).toInt = ((qp : Nat) : Int) := nI_toInt (by omega); have : (0 : Int32).toInt = 0 := rfl; have := i_lt q; omega)) (fun _ => ?_)
    refine r_aload rfl rfl ?_
    refine r_iload rfl rfl ?_
    refine r_iload rfl rfl ?_
    refine r_ic (x := 3) rfl rfl ?_
    refine r_icmp_ge (tg := 58) rfl rfl (fun _ => ?_) (fun q => absurd q (by decide))
    refine r_iload rfl rfl ?_
    refine r_ic (x := 3) rfl rfl ?_
    refine r_icmp_ne (tg := 67) rfl rfl (fun _ => ?_) (fun q => absurd q (by decide))
    refine r_ic (x := 5) rfl rfl ?_
    refine r_cv (y := 177) (ra := [.int 5, .int (nI qp)]) (rest := []) rfl ⟨⟨rfl, rfl⟩, rfl, by decide⟩ (fx_t30 fx) rfl rfl (Nat.le_of_ble_eq_true rfl) ?_
    refine c_misOf (h := h) (q := qp) (kd := kd) (k := 5) fx hq kx k7 (by decide) ?_
    rw [if_neg of_]
    show WR _ cd_219 71 [some (.ref (ad 30)), some (.int (nI a)), some (.int 4), some (.int (nI qp)), none] [.int 0] h _
    refine r_if_ne (tg := 76) rfl rfl (fun q => absurd q (by decide)) (fun _ => ?_)
    refine r_ic (x := 4) rfl rfl ?_
    refine r_iret rfl ?_
    show WR _ cd_216 248 [some (.ref (ad 30)), some (.int 12), some (.int (nI a)), some (.int 4), some (.int c), none] [.int 4] h _
    refine r_iret rfl ?_
    exact (L1 c1)
  · refine r_iload rfl rfl ?_
    refine r_ic (x := 2) rfl rfl ?_
    refine r_icmp_le (tg := 17) rfl rfl (fun q => absurd q (by decide)) (fun _ => ?_)
    refine r_ic (x := 7) rfl rfl ?_
    refine r_iret rfl ?_
    show WR _ cd_216 248 [some (.ref (ad 30)), some (.int 12), some (.int (nI a)), some (.int 4), some (.int c), none] [.int 7] h _
    refine r_iret rfl ?_
    exact (L2 c1)

set_option maxHeartbeats 2000000 in
theorem w_m12e4 {d : Nat} {Q : mQ} {n : Nat} {ad sa : Nat → Nat} {z0 : Nat} {h : mH} (fx : FX n ad sa z0 h) {a H qp : Nat} {c : Int32} {v : Int32} (ha : a < 6) (e9 : hI h (ad 56) a = v) (eh : hI h (ad 30) 37 = nI H) (hH1 : 1 ≤ H) (hH : H ≤ 100) (hq : qp < 60) (e2 : hI h (ad 54) (H - 1) = nI (1000 + qp)) {kd : Nat} (kx : hI h (ad 37) qp = nI kd) (k7 : kd < 7) (of_ : ofK kd 5 = true) (r3 : hI h (ad 57) (5 * a + 4) = -1) 
    (L1 : ¬ v = 0 → Q (some (.int 0)) (sI (sI h (ad 30) 37 (nI (H - 1))) (ad 57) (5 * a + 4) (nI qp)))
    (L2 : v = 0 → Q (some (.int 7)) h) : EV (d + 3) 216 [.ref (ad 30), .int 12, .int (nI a), .int 4, .int c] h Q := by
  have fx0 := fx
  refine in_216 (Nat.le_of_ble_eq_true rfl) ?_
  show WR _ cd_216 0 [some (.ref (ad 30)), some (.int 12), some (.int (nI a)), some (.int 4), some (.int c), none] [] h _
  refine r_iload rfl rfl ?_
  refine r_tswL (tg := 242) rfl (by decide) ?_
  refine r_aload rfl rfl ?_
  refine r_iload rfl rfl ?_
  refine r_iload rfl rfl ?_
  refine r_cv (y := 219) (ra := [.int 4, .int (nI a)]) (rest := []) rfl ⟨⟨rfl, rfl⟩, rfl, by decide⟩ (fx_t30 fx) rfl rfl (Nat.le_of_ble_eq_true rfl) ?_
  refine in_219 (Nat.le_of_ble_eq_true rfl) ?_
  show WR _ cd_219 0 [some (.ref (ad 30)), some (.int (nI a)), some (.int 4), none, none] [] h _
  refine r_aload rfl rfl ?_
  refine r_getA (b := ad 56) rfl ⟨rfl, rfl, rfl⟩ (fx_t30 fx) (fx_r30_40 fx) ?_
  refine r_iload rfl rfl ?_
  refine r_iaload rfl (.inl (fx_t56 fx)) (vp_ct (fx_n56 fx) (vp_in_nI (by omega) (by omega))) ?_
  refine WR_tI (congrArg (hI h (ad 56)) ((nI_clamp (by omega)) : _ = a)) ?_
  refine WR_tI (y := v) e9 ?_
  refine r_if_ne (tg := 17) rfl rfl (fun c1 => ?_) (fun c1 => ?_)
  · refine r_aload rfl rfl ?_
    refine r_getI rfl ⟨rfl, rfl, rfl⟩ (fx_t30 fx) ?_
    refine WR_tI (y := nI H) eh ?_
    refine r_if_ne (tg := 26) rfl rfl (fun _ => ?_) (fun q => False.elim (by have : (nI H).toInt = ((H : Nat) : Int) := nI_toInt (by omega); have : (0 : Int32).toInt = 0 := rfl; have := i_eq q; omega))
    refine r_aload rfl rfl ?_
    refine r_getA (b := ad 54) rfl ⟨rfl, rfl, rfl⟩ (fx_t30 fx) (fx_r30_38 fx) ?_
    refine r_aload rfl rfl ?_
    refine r_getI rfl ⟨rfl, rfl, rfl⟩ (fx_t30 fx) ?_
    refine WR_tI (y := nI H) eh ?_
    refine r_ic (x := 1) rfl rfl ?_
    refine r_isub rfl ?_
    refine WR_tI (y := nI (H - 1)) (Eq.trans (pk_sub (a := H) (b := 1) (by omega)) (congrArg nI (by omega))) ?_
    refine r_iaload rfl (.inl (fx_t54 fx)) (vp_ct (fx_n54 fx) (vp_in_nI (by omega) (by omega))) ?_
    refine WR_tI (congrArg (hI h (ad 54)) ((nI_clamp (by omega)) : _ = H - 1)) ?_
    refine WR_tI (y := nI (qp + 1000)) (Eq.trans e2 (congrArg nI (Nat.add_comm 1000 qp))) ?_
    refine r_ic (x := 1000) rfl rfl ?_
    refine r_isub rfl ?_
    refine WR_tI (y := nI qp) (Eq.trans (pk_sub (a := qp + 1000) (b := 1000) (by omega)) (congrArg nI (by omega))) ?_
    refine r_istore (lv' := [some (.ref (ad 30)), some (.int (nI a)), some (.int 4), some (.int (nI qp)), none]) rfl (Nat.le_of_ble_eq_true rfl) rfl ?_
    refine r_iload rfl rfl ?_
    refine r_if_lt (tg := 74) rfl rfl (fun q => False.elim (by have : (nI qp).toInt = ((qp : Nat) : Int) := nI_toInt (by omega); have : (0 : Int32).toInt = 0 := rfl; have := i_lt q; omega)) (fun _ => ?_)
    refine r_aload rfl rfl ?_
    refine r_iload rfl rfl ?_
    refine r_iload rfl rfl ?_
    refine r_ic (x := 3) rfl rfl ?_
    refine r_icmp_ge (tg := 58) rfl rfl (fun _ => ?_) (fun q => absurd q (by decide))
    refine r_iload rfl rfl ?_
    refine r_ic (x := 3) rfl rfl ?_
    refine r_icmp_ne (tg := 67) rfl rfl (fun _ => ?_) (fun q => absurd q (by decide))
    refine r_ic (x := 5) rfl rfl ?_
    refine r_cv (y := 177) (ra := [.int 5, .int (nI qp)]) (rest := []) rfl ⟨⟨rfl, rfl⟩, rfl, by decide⟩ (fx_t30 fx) rfl rfl (Nat.le_of_ble_eq_true rfl) ?_
    refine c_misOf (h := h) (q := qp) (kd := kd) (k := 5) fx hq kx k7 (by decide) ?_
    rw [if_pos of_]
    show WR _ cd_219 71 [some (.ref (ad 30)), some (.int (nI a)), some (.int 4), some (.int (nI qp)), none] [.int 1] h _
    refine r_if_ne (tg := 76) rfl rfl (fun _ => ?_) (fun q => absurd q (by decide))
    refine r_aload rfl rfl ?_
    refine r_dup rfl rfl ?_
    refine r_getI rfl ⟨rfl, rfl, rfl⟩ (fx_t30 fx) ?_
    refine WR_tI (y := nI H) eh ?_
    refine r_ic (x := 1) rfl rfl ?_
    refine r_isub rfl ?_
    refine WR_tI (y := nI (H - 1)) (Eq.trans (pk_sub (a := H) (b := 1) (by omega)) (congrArg nI (by omega))) ?_
    refine r_putI rfl ⟨rfl, rfl, rfl⟩ (fx_t30 fx) ?_
    have fx : FX n ad sa z0 (sI h (ad 30) 37 (nI (H - 1))) := (FX.sI fx)
    refine r_aload rfl rfl ?_
    refine r_getA (b := ad 57) rfl ⟨rfl, rfl, rfl⟩ (fx_t30 fx) (fx_r30_41 fx) ?_
    refine r_ic (x := 5) rfl rfl ?_
    refine r_iload rfl rfl ?_
    refine r_imul rfl ?_
    refine WR_tI (y := nI (5 * a)) (Eq.trans (pk_mul 5 a) (congrArg nI (by omega))) ?_
    refine r_iload rfl rfl ?_
    refine r_iadd rfl ?_
    refine WR_tI (y := nI (5 * a + 4)) (Eq.trans (nI_add (5 * a) 4) (congrArg nI (by omega))) ?_
    refine r_iaload rfl (.inl (fx_t57 fx)) (vp_ct (fx_n57 fx) (vp_in_nI (by omega) (by omega))) ?_
    refine WR_tI (congrArg (hI (sI h (ad 30) 37 (nI (H - 1))) (ad 57)) ((nI_clamp (by omega)) : _ = 5 * a + 4)) ?_
    refine WR_tI (y := (-1)) (Eq.trans (I_ne (fx_ne fx (by decide))) r3) ?_
    refine r_istore (lv' := [some (.ref (ad 30)), some (.int (nI a)), some (.int 4), some (.int (nI qp)), some (.int (-1))]) rfl (Nat.le_of_ble_eq_true rfl) rfl ?_
    refine r_aload rfl rfl ?_
    refine r_getA (b := ad 57) rfl ⟨rfl, rfl, rfl⟩ (fx_t30 fx) (fx_r30_41 fx) ?_
    refine r_ic (x := 5) rfl rfl ?_
    refine r_iload rfl rfl ?_
    refine r_imul rfl ?_
    refine WR_tI (y := nI (5 * a)) (Eq.trans (pk_mul 5 a) (congrArg nI (by omega))) ?_
    refine r_iload rfl rfl ?_
    refine r_iadd rfl ?_
    refine WR_tI (y := nI (5 * a + 4)) (Eq.trans (nI_add (5 * a) 4) (congrArg nI (by omega))) ?_
    refine r_iload rfl rfl ?_
    refine r_iastore rfl (fx_t57 fx) (vp_ct (fx_n57 fx) (vp_in_nI (by omega) (by omega))) ?_
    refine WR_h (h2 := sI (sI h (ad 30) 37 (nI (H - 1))) (ad 57) (5 * a + 4) (nI qp)) (congrArg (fun z => sI (sI h (ad 30) 37 (nI (H - 1))) (ad 57) z (nI qp)) ((nI_clamp (by omega)) : _ = 5 * a + 4)) ?_
    have fx : FX n ad sa z0 (sI (sI h (ad 30) 37 (nI (H - 1))) (ad 57) (5 * a + 4) (nI qp)) := (FX.sI fx)
    refine r_iload rfl rfl ?_
    refine r_if_lt (tg := 126) rfl rfl (fun _ => ?_) (fun q => absurd q (by decide))
    refine r_ic (x := 0) rfl rfl ?_
    refine r_iret rfl ?_
    show WR _ cd_216 248 [some (.ref (ad 30)), some (.int 12), some (.int (nI a)), some (.int 4), some (.int c), none] [.int 0] (sI (sI h (ad 30) 37 (nI (H - 1))) (ad 57) (5 * a + 4) (nI qp)) _
    refine r_iret rfl ?_
    exact (L1 c1)
  · refine r_iload rfl rfl ?_
    refine r_ic (x := 2) rfl rfl ?_
    refine r_icmp_le (tg := 17) rfl rfl (fun q => absurd q (by decide)) (fun _ => ?_)
    refine r_ic (x := 7) rfl rfl ?_
    refine r_iret rfl ?_
    show WR _ cd_216 248 [some (.ref (ad 30)), some (.int 12), some (.int (nI a)), some (.int 4), some (.int c), none] [.int 7] h _
    refine r_iret rfl ?_
    exact (L2 c1)

set_option maxHeartbeats 2000000 in
theorem w_m12f4 {d : Nat} {Q : mQ} {n : Nat} {ad sa : Nat → Nat} {z0 : Nat} {h : mH} (fx : FX n ad sa z0 h) {a H qp y : Nat} {c : Int32} {v : Int32} (ha : a < 6) (e9 : hI h (ad 56) a = v) (eh : hI h (ad 30) 37 = nI H) (hH1 : 1 ≤ H) (hH : H ≤ 100) (hq : qp < 60) (e2 : hI h (ad 54) (H - 1) = nI (1000 + qp)) {kd : Nat} (kx : hI h (ad 37) qp = nI kd) (k7 : kd < 7) (of_ : ofK kd 5 = true) (hy : y < 60) (r3 : hI h (ad 57) (5 * a + 4) = nI y) 
    (L1 : ¬ v = 0 → Q (some (.int 0)) (sI (sI (sI (sI (sI h (ad 30) 37 (nI (H - 1))) (ad 57) (5 * a + 4) (nI qp)) (ad 54) (H - 1) (nI (y + 1000))) (ad 55) (H - 1) 23) (ad 30) 37 (nI H)))
    (L2 : v = 0 → Q (some (.int 7)) h) : EV (d + 3) 216 [.ref (ad 30), .int 12, .int (nI a), .int 4, .int c] h Q := by
  have fx0 := fx
  refine in_216 (Nat.le_of_ble_eq_true rfl) ?_
  show WR _ cd_216 0 [some (.ref (ad 30)), some (.int 12), some (.int (nI a)), some (.int 4), some (.int c), none] [] h _
  refine r_iload rfl rfl ?_
  refine r_tswL (tg := 242) rfl (by decide) ?_
  refine r_aload rfl rfl ?_
  refine r_iload rfl rfl ?_
  refine r_iload rfl rfl ?_
  refine r_cv (y := 219) (ra := [.int 4, .int (nI a)]) (rest := []) rfl ⟨⟨rfl, rfl⟩, rfl, by decide⟩ (fx_t30 fx) rfl rfl (Nat.le_of_ble_eq_true rfl) ?_
  refine in_219 (Nat.le_of_ble_eq_true rfl) ?_
  show WR _ cd_219 0 [some (.ref (ad 30)), some (.int (nI a)), some (.int 4), none, none] [] h _
  refine r_aload rfl rfl ?_
  refine r_getA (b := ad 56) rfl ⟨rfl, rfl, rfl⟩ (fx_t30 fx) (fx_r30_40 fx) ?_
  refine r_iload rfl rfl ?_
  refine r_iaload rfl (.inl (fx_t56 fx)) (vp_ct (fx_n56 fx) (vp_in_nI (by omega) (by omega))) ?_
  refine WR_tI (congrArg (hI h (ad 56)) ((nI_clamp (by omega)) : _ = a)) ?_
  refine WR_tI (y := v) e9 ?_
  refine r_if_ne (tg := 17) rfl rfl (fun c1 => ?_) (fun c1 => ?_)
  · refine r_aload rfl rfl ?_
    refine r_getI rfl ⟨rfl, rfl, rfl⟩ (fx_t30 fx) ?_
    refine WR_tI (y := nI H) eh ?_
    refine r_if_ne (tg := 26) rfl rfl (fun _ => ?_) (fun q => False.elim (by have : (nI H).toInt = ((H : Nat) : Int) := nI_toInt (by omega); have : (0 : Int32).toInt = 0 := rfl; have := i_eq q; omega))
    refine r_aload rfl rfl ?_
    refine r_getA (b := ad 54) rfl ⟨rfl, rfl, rfl⟩ (fx_t30 fx) (fx_r30_38 fx) ?_
    refine r_aload rfl rfl ?_
    refine r_getI rfl ⟨rfl, rfl, rfl⟩ (fx_t30 fx) ?_
    refine WR_tI (y := nI H) eh ?_
    refine r_ic (x := 1) rfl rfl ?_
    refine r_isub rfl ?_
    refine WR_tI (y := nI (H - 1)) (Eq.trans (pk_sub (a := H) (b := 1) (by omega)) (congrArg nI (by omega))) ?_
    refine r_iaload rfl (.inl (fx_t54 fx)) (vp_ct (fx_n54 fx) (vp_in_nI (by omega) (by omega))) ?_
    refine WR_tI (congrArg (hI h (ad 54)) ((nI_clamp (by omega)) : _ = H - 1)) ?_
    refine WR_tI (y := nI (qp + 1000)) (Eq.trans e2 (congrArg nI (Nat.add_comm 1000 qp))) ?_
    refine r_ic (x := 1000) rfl rfl ?_
    refine r_isub rfl ?_
    refine WR_tI (y := nI qp) (Eq.trans (pk_sub (a := qp + 1000) (b := 1000) (by omega)) (congrArg nI (by omega))) ?_
    refine r_istore (lv' := [some (.ref (ad 30)), some (.int (nI a)), some (.int 4), some (.int (nI qp)), none]) rfl (Nat.le_of_ble_eq_true rfl) rfl ?_
    refine r_iload rfl rfl ?_
    refine r_if_lt (tg := 74) rfl rfl (fun q => False.elim (by have : (nI qp).toInt = ((qp : Nat) : Int) := nI_toInt (by omega); have : (0 : Int32).toInt = 0 := rfl; have := i_lt q; omega)) (fun _ => ?_)
    refine r_aload rfl rfl ?_
    refine r_iload rfl rfl ?_
    refine r_iload rfl rfl ?_
    refine r_ic (x := 3) rfl rfl ?_
    refine r_icmp_ge (tg := 58) rfl rfl (fun _ => ?_) (fun q => absurd q (by decide))
    refine r_iload rfl rfl ?_
    refine r_ic (x := 3) rfl rfl ?_
    refine r_icmp_ne (tg := 67) rfl rfl (fun _ => ?_) (fun q => absurd q (by decide))
    refine r_ic (x := 5) rfl rfl ?_
    refine r_cv (y := 177) (ra := [.int 5, .int (nI qp)]) (rest := []) rfl ⟨⟨rfl, rfl⟩, rfl, by decide⟩ (fx_t30 fx) rfl rfl (Nat.le_of_ble_eq_true rfl) ?_
    refine c_misOf (h := h) (q := qp) (kd := kd) (k := 5) fx hq kx k7 (by decide) ?_
    rw [if_pos of_]
    show WR _ cd_219 71 [some (.ref (ad 30)), some (.int (nI a)), some (.int 4), some (.int (nI qp)), none] [.int 1] h _
    refine r_if_ne (tg := 76) rfl rfl (fun _ => ?_) (fun q => absurd q (by decide))
    refine r_aload rfl rfl ?_
    refine r_dup rfl rfl ?_
    refine r_getI rfl ⟨rfl, rfl, rfl⟩ (fx_t30 fx) ?_
    refine WR_tI (y := nI H) eh ?_
    refine r_ic (x := 1) rfl rfl ?_
    refine r_isub rfl ?_
    refine WR_tI (y := nI (H - 1)) (Eq.trans (pk_sub (a := H) (b := 1) (by omega)) (congrArg nI (by omega))) ?_
    refine r_putI rfl ⟨rfl, rfl, rfl⟩ (fx_t30 fx) ?_
    have fx : FX n ad sa z0 (sI h (ad 30) 37 (nI (H - 1))) := (FX.sI fx)
    refine r_aload rfl rfl ?_
    refine r_getA (b := ad 57) rfl ⟨rfl, rfl, rfl⟩ (fx_t30 fx) (fx_r30_41 fx) ?_
    refine r_ic (x := 5) rfl rfl ?_
    refine r_iload rfl rfl ?_
    refine r_imul rfl ?_
    refine WR_tI (y := nI (5 * a)) (Eq.trans (pk_mul 5 a) (congrArg nI (by omega))) ?_
    refine r_iload rfl rfl ?_
    refine r_iadd rfl ?_
    refine WR_tI (y := nI (5 * a + 4)) (Eq.trans (nI_add (5 * a) 4) (congrArg nI (by omega))) ?_
    refine r_iaload rfl (.inl (fx_t57 fx)) (vp_ct (fx_n57 fx) (vp_in_nI (by omega) (by omega))) ?_
    refine WR_tI (congrArg (hI (sI h (ad 30) 37 (nI (H - 1))) (ad 57)) ((nI_clamp (by omega)) : _ = 5 * a + 4)) ?_
    refine WR_tI (y := nI y) (Eq.trans (I_ne (fx_ne fx (by decide))) r3) ?_
    refine r_istore (lv' := [some (.ref (ad 30)), some (.int (nI a)), some (.int 4), some (.int (nI qp)), some (.int (nI y))]) rfl (Nat.le_of_ble_eq_true rfl) rfl ?_
    refine r_aload rfl rfl ?_
    refine r_getA (b := ad 57) rfl ⟨rfl, rfl, rfl⟩ (fx_t30 fx) (fx_r30_41 fx) ?_
    refine r_ic (x := 5) rfl rfl ?_
    refine r_iload rfl rfl ?_
    refine r_imul rfl ?_
    refine WR_tI (y := nI (5 * a)) (Eq.trans (pk_mul 5 a) (congrArg nI (by omega))) ?_
    refine r_iload rfl rfl ?_
    refine r_iadd rfl ?_
    refine WR_tI (y := nI (5 * a + 4)) (Eq.trans (nI_add (5 * a) 4) (congrArg nI (by omega))) ?_
    refine r_iload rfl rfl ?_
    refine r_iastore rfl (fx_t57 fx) (vp_ct (fx_n57 fx) (vp_in_nI (by omega) (by omega))) ?_
    refine WR_h (h2 := sI (sI h (ad 30) 37 (nI (H - 1))) (ad 57) (5 * a + 4) (nI qp)) (congrArg (fun z => sI (sI h (ad 30) 37 (nI (H - 1))) (ad 57) z (nI qp)) ((nI_clamp (by omega)) : _ = 5 * a + 4)) ?_
    have fx : FX n ad sa z0 (sI (sI h (ad 30) 37 (nI (H - 1))) (ad 57) (5 * a + 4) (nI qp)) := (FX.sI fx)
    refine r_iload rfl rfl ?_
    refine r_if_lt (tg := 126) rfl rfl (fun q => False.elim (by have : (nI y).toInt = ((y : Nat) : Int) := nI_toInt (by omega); have : (0 : Int32).toInt = 0 := rfl; have := i_lt q; omega)) (fun _ => ?_)
    refine r_aload rfl rfl ?_
    refine r_ic (x := 1000) rfl rfl ?_
    refine r_iload rfl rfl ?_
    refine r_iadd rfl ?_
    refine WR_tI (y := nI (y + 1000)) (Eq.trans (nI_add 1000 y) (congrArg nI (by omega))) ?_
    refine r_ic (x := 23) rfl rfl ?_
    refine r_cv (y := 217) (ra := [.int 23, .int (nI (y + 1000))]) (rest := []) rfl ⟨⟨rfl, rfl⟩, rfl, by decide⟩ (fx_t30 fx) rfl rfl (Nat.le_of_ble_eq_true rfl) ?_
    refine in_217 (Nat.le_of_ble_eq_true rfl) ?_
    show WR _ cd_217 0 [some (.ref (ad 30)), some (.int (nI (y + 1000))), some (.int 23)] [] (sI (sI h (ad 30) 37 (nI (H - 1))) (ad 57) (5 * a + 4) (nI qp)) _
    refine r_aload rfl rfl ?_
    refine r_getA (b := ad 54) rfl ⟨rfl, rfl, rfl⟩ (fx_t30 fx) (fx_r30_38 fx) ?_
    refine r_aload rfl rfl ?_
    refine r_getI rfl ⟨rfl, rfl, rfl⟩ (fx_t30 fx) ?_
    refine WR_tI (y := nI (H - 1)) (Eq.trans (I_ne (fx_ne fx (by decide))) I_eq) ?_
    refine r_iload rfl rfl ?_
    refine r_iastore rfl (fx_t54 fx) (vp_ct (fx_n54 fx) (vp_in_nI (by omega) (by omega))) ?_
    refine WR_h (h2 := sI (sI (sI h (ad 30) 37 (nI (H - 1))) (ad 57) (5 * a + 4) (nI qp)) (ad 54) (H - 1) (nI (y + 1000))) (congrArg (fun z => sI (sI (sI h (ad 30) 37 (nI (H - 1))) (ad 57) (5 * a + 4) (nI qp)) (ad 54) z (nI (y + 1000))) ((nI_clamp (by omega)) : _ = H - 1)) ?_
    have fx : FX n ad sa z0 (sI (sI (sI h (ad 30) 37 (nI (H - 1))) (ad 57) (5 * a + 4) (nI qp)) (ad 54) (H - 1) (nI (y + 1000))) := (FX.sI fx)
    refine r_aload rfl rfl ?_
    refine r_getA (b := ad 55) rfl ⟨rfl, rfl, rfl⟩ (fx_t30 fx) (fx_r30_39 fx) ?_
    refine r_aload rfl rfl ?_
    refine r_getI rfl ⟨rfl, rfl, rfl⟩ (fx_t30 fx) ?_
    refine WR_tI (y := nI (H - 1)) (Eq.trans (I_ne (fx_ne fx (by decide))) (Eq.trans (I_ne (fx_ne fx (by decide))) I_eq)) ?_
    refine r_iload rfl rfl ?_
    refine r_iastore rfl (fx_t55 fx) (vp_ct (fx_n55 fx) (vp_in_nI (by omega) (by omega))) ?_
    refine WR_h (h2 := sI (sI (sI (sI h (ad 30) 37 (nI (H - 1))) (ad 57) (5 * a + 4) (nI qp)) (ad 54) (H - 1) (nI (y + 1000))) (ad 55) (H - 1) 23) (congrArg (fun z => sI (sI (sI (sI h (ad 30) 37 (nI (H - 1))) (ad 57) (5 * a + 4) (nI qp)) (ad 54) (H - 1) (nI (y + 1000))) (ad 55) z 23) ((nI_clamp (by omega)) : _ = H - 1)) ?_
    have fx : FX n ad sa z0 (sI (sI (sI (sI h (ad 30) 37 (nI (H - 1))) (ad 57) (5 * a + 4) (nI qp)) (ad 54) (H - 1) (nI (y + 1000))) (ad 55) (H - 1) 23) := (FX.sI fx)
    refine r_aload rfl rfl ?_
    refine r_dup rfl rfl ?_
    refine r_getI rfl ⟨rfl, rfl, rfl⟩ (fx_t30 fx) ?_
    refine WR_tI (y := nI (H - 1)) (Eq.trans (I_ne (fx_ne fx (by decide))) (Eq.trans (I_ne (fx_ne fx (by decide))) (Eq.trans (I_ne (fx_ne fx (by decide))) I_eq))) ?_
    refine r_ic (x := 1) rfl rfl ?_
    refine r_iadd rfl ?_
    refine WR_tI (y := nI H) (Eq.trans (nI_add (H - 1) 1) (congrArg nI (by omega))) ?_
    refine r_putI rfl ⟨rfl, rfl, rfl⟩ (fx_t30 fx) ?_
    have fx : FX n ad sa z0 (sI (sI (sI (sI (sI h (ad 30) 37 (nI (H - 1))) (ad 57) (5 * a + 4) (nI qp)) (ad 54) (H - 1) (nI (y + 1000))) (ad 55) (H - 1) 23) (ad 30) 37 (nI H)) := (FX.sI fx)
    refine r_vret rfl ?_
    show WR _ cd_219 126 [some (.ref (ad 30)), some (.int (nI a)), some (.int 4), some (.int (nI qp)), some (.int (nI y))] [] (sI (sI (sI (sI (sI h (ad 30) 37 (nI (H - 1))) (ad 57) (5 * a + 4) (nI qp)) (ad 54) (H - 1) (nI (y + 1000))) (ad 55) (H - 1) 23) (ad 30) 37 (nI H)) _
    refine r_ic (x := 0) rfl rfl ?_
    refine r_iret rfl ?_
    show WR _ cd_216 248 [some (.ref (ad 30)), some (.int 12), some (.int (nI a)), some (.int 4), some (.int c), none] [.int 0] (sI (sI (sI (sI (sI h (ad 30) 37 (nI (H - 1))) (ad 57) (5 * a + 4) (nI qp)) (ad 54) (H - 1) (nI (y + 1000))) (ad 55) (H - 1) 23) (ad 30) 37 (nI H)) _
    refine r_iret rfl ?_
    exact (L1 c1)
  · refine r_iload rfl rfl ?_
    refine r_ic (x := 2) rfl rfl ?_
    refine r_icmp_le (tg := 17) rfl rfl (fun q => absurd q (by decide)) (fun _ => ?_)
    refine r_ic (x := 7) rfl rfl ?_
    refine r_iret rfl ?_
    show WR _ cd_216 248 [some (.ref (ad 30)), some (.int 12), some (.int (nI a)), some (.int 4), some (.int c), none] [.int 7] h _
    refine r_iret rfl ?_
    exact (L2 c1)

set_option maxHeartbeats 2000000 in
theorem w_m13n4 {d : Nat} {Q : mQ} {n : Nat} {ad sa : Nat → Nat} {z0 : Nat} {h : mH} (fx : FX n ad sa z0 h) {a : Nat} {c : Int32} {v : Int32} (ha : a < 6) (e9 : hI h (ad 56) a = v) (r3 : hI h (ad 57) (5 * a + 4) = -1) 
    (L1 : ¬ v = 0 → Q (some (.int 1)) h)
    (L2 : v = 0 → Q (some (.int 7)) h) : EV (d + 2) 216 [.ref (ad 30), .int 13, .int (nI a), .int 4, .int c] h Q := by
  have fx0 := fx
  refine in_216 (Nat.le_of_ble_eq_true rfl) ?_
  show WR _ cd_216 0 [some (.ref (ad 30)), some (.int 13), some (.int (nI a)), some (.int 4), some (.int c), none] [] h _
  refine r_iload rfl rfl ?_
  refine r_tswL (tg := 249) rfl (by decide) ?_
  refine r_aload rfl rfl ?_
  refine r_iload rfl rfl ?_
  refine r_iload rfl rfl ?_
  refine r_cv (y := 220) (ra := [.int 4, .int (nI a)]) (rest := []) rfl ⟨⟨rfl, rfl⟩, rfl, by decide⟩ (fx_t30 fx) rfl rfl (Nat.le_of_ble_eq_true rfl) ?_
  refine in_220 (Nat.le_of_ble_eq_true rfl) ?_
  show WR _ cd_220 0 [some (.ref (ad 30)), some (.int (nI a)), some (.int 4), none] [] h _
  refine r_aload rfl rfl ?_
  refine r_getA (b := ad 56) rfl ⟨rfl, rfl, rfl⟩ (fx_t30 fx) (fx_r30_40 fx) ?_
  refine r_iload rfl rfl ?_
  refine r_iaload rfl (.inl (fx_t56 fx)) (vp_ct (fx_n56 fx) (vp_in_nI (by omega) (by omega))) ?_
  refine WR_tI (congrArg (hI h (ad 56)) ((nI_clamp (by omega)) : _ = a)) ?_
  refine WR_tI (y := v) e9 ?_
  refine r_if_ne (tg := 17) rfl rfl (fun c1 => ?_) (fun c1 => ?_)
  · refine r_aload rfl rfl ?_
    refine r_getA (b := ad 57) rfl ⟨rfl, rfl, rfl⟩ (fx_t30 fx) (fx_r30_41 fx) ?_
    refine r_ic (x := 5) rfl rfl ?_
    refine r_iload rfl rfl ?_
    refine r_imul rfl ?_
    refine WR_tI (y := nI (5 * a)) (Eq.trans (pk_mul 5 a) (congrArg nI (by omega))) ?_
    refine r_iload rfl rfl ?_
    refine r_iadd rfl ?_
    refine WR_tI (y := nI (5 * a + 4)) (Eq.trans (nI_add (5 * a) 4) (congrArg nI (by omega))) ?_
    refine r_iaload rfl (.inl (fx_t57 fx)) (vp_ct (fx_n57 fx) (vp_in_nI (by omega) (by omega))) ?_
    refine WR_tI (congrArg (hI h (ad 57)) ((nI_clamp (by omega)) : _ = 5 * a + 4)) ?_
    refine WR_tI (y := (-1)) r3 ?_
    refine r_istore (lv' := [some (.ref (ad 30)), some (.int (nI a)), some (.int 4), some (.int (-1))]) rfl (Nat.le_of_ble_eq_true rfl) rfl ?_
    refine r_iload rfl rfl ?_
    refine r_if_ge (tg := 34) rfl rfl (fun q => absurd q (by decide)) (fun _ => ?_)
    refine r_ic (x := 1) rfl rfl ?_
    refine r_iret rfl ?_
    show WR _ cd_216 255 [some (.ref (ad 30)), some (.int 13), some (.int (nI a)), some (.int 4), some (.int c), none] [.int 1] h _
    refine r_iret rfl ?_
    exact (L1 c1)
  · refine r_iload rfl rfl ?_
    refine r_ic (x := 2) rfl rfl ?_
    refine r_icmp_le (tg := 17) rfl rfl (fun q => absurd q (by decide)) (fun _ => ?_)
    refine r_ic (x := 7) rfl rfl ?_
    refine r_iret rfl ?_
    show WR _ cd_216 255 [some (.ref (ad 30)), some (.int 13), some (.int (nI a)), some (.int 4), some (.int c), none] [.int 7] h _
    refine r_iret rfl ?_
    exact (L2 c1)

set_option maxHeartbeats 2000000 in
theorem w_m13s4 {d : Nat} {Q : mQ} {n : Nat} {ad sa : Nat → Nat} {z0 : Nat} {h : mH} (fx : FX n ad sa z0 h) {a H y : Nat} {c : Int32} {v : Int32} (ha : a < 6) (e9 : hI h (ad 56) a = v) (eh : hI h (ad 30) 37 = nI H) (hH : H < 100) (hy : y < 60) (r3 : hI h (ad 57) (5 * a + 4) = nI y) 
    (L1 : ¬ v = 0 → Q (some (.int 0)) (sI (sI (sI (sI h (ad 54) H (nI (y + 1000))) (ad 55) H 23) (ad 30) 37 (nI (H + 1))) (ad 57) (5 * a + 4) (-1)))
    (L2 : v = 0 → Q (some (.int 7)) h) : EV (d + 3) 216 [.ref (ad 30), .int 13, .int (nI a), .int 4, .int c] h Q := by
  have fx0 := fx
  refine in_216 (Nat.le_of_ble_eq_true rfl) ?_
  show WR _ cd_216 0 [some (.ref (ad 30)), some (.int 13), some (.int (nI a)), some (.int 4), some (.int c), none] [] h _
  refine r_iload rfl rfl ?_
  refine r_tswL (tg := 249) rfl (by decide) ?_
  refine r_aload rfl rfl ?_
  refine r_iload rfl rfl ?_
  refine r_iload rfl rfl ?_
  refine r_cv (y := 220) (ra := [.int 4, .int (nI a)]) (rest := []) rfl ⟨⟨rfl, rfl⟩, rfl, by decide⟩ (fx_t30 fx) rfl rfl (Nat.le_of_ble_eq_true rfl) ?_
  refine in_220 (Nat.le_of_ble_eq_true rfl) ?_
  show WR _ cd_220 0 [some (.ref (ad 30)), some (.int (nI a)), some (.int 4), none] [] h _
  refine r_aload rfl rfl ?_
  refine r_getA (b := ad 56) rfl ⟨rfl, rfl, rfl⟩ (fx_t30 fx) (fx_r30_40 fx) ?_
  refine r_iload rfl rfl ?_
  refine r_iaload rfl (.inl (fx_t56 fx)) (vp_ct (fx_n56 fx) (vp_in_nI (by omega) (by omega))) ?_
  refine WR_tI (congrArg (hI h (ad 56)) ((nI_clamp (by omega)) : _ = a)) ?_
  refine WR_tI (y := v) e9 ?_
  refine r_if_ne (tg := 17) rfl rfl (fun c1 => ?_) (fun c1 => ?_)
  · refine r_aload rfl rfl ?_
    refine r_getA (b := ad 57) rfl ⟨rfl, rfl, rfl⟩ (fx_t30 fx) (fx_r30_41 fx) ?_
    refine r_ic (x := 5) rfl rfl ?_
    refine r_iload rfl rfl ?_
    refine r_imul rfl ?_
    refine WR_tI (y := nI (5 * a)) (Eq.trans (pk_mul 5 a) (congrArg nI (by omega))) ?_
    refine r_iload rfl rfl ?_
    refine r_iadd rfl ?_
    refine WR_tI (y := nI (5 * a + 4)) (Eq.trans (nI_add (5 * a) 4) (congrArg nI (by omega))) ?_
    refine r_iaload rfl (.inl (fx_t57 fx)) (vp_ct (fx_n57 fx) (vp_in_nI (by omega) (by omega))) ?_
    refine WR_tI (congrArg (hI h (ad 57)) ((nI_clamp (by omega)) : _ = 5 * a + 4)) ?_
    refine WR_tI (y := nI y) r3 ?_
    refine r_istore (lv' := [some (.ref (ad 30)), some (.int (nI a)), some (.int 4), some (.int (nI y))]) rfl (Nat.le_of_ble_eq_true rfl) rfl ?_
    refine r_iload rfl rfl ?_
    refine r_if_ge (tg := 34) rfl rfl (fun _ => ?_) (fun q => False.elim (by have : (nI y).toInt = ((y : Nat) : Int) := nI_toInt (by omega); have : (0 : Int32).toInt = 0 := rfl; have := i_nle q; omega))
    refine r_aload rfl rfl ?_
    refine r_ic (x := 1000) rfl rfl ?_
    refine r_iload rfl rfl ?_
    refine r_iadd rfl ?_
    refine WR_tI (y := nI (y + 1000)) (Eq.trans (nI_add 1000 y) (congrArg nI (by omega))) ?_
    refine r_ic (x := 23) rfl rfl ?_
    refine r_cv (y := 217) (ra := [.int 23, .int (nI (y + 1000))]) (rest := []) rfl ⟨⟨rfl, rfl⟩, rfl, by decide⟩ (fx_t30 fx) rfl rfl (Nat.le_of_ble_eq_true rfl) ?_
    refine in_217 (Nat.le_of_ble_eq_true rfl) ?_
    show WR _ cd_217 0 [some (.ref (ad 30)), some (.int (nI (y + 1000))), some (.int 23)] [] h _
    refine r_aload rfl rfl ?_
    refine r_getA (b := ad 54) rfl ⟨rfl, rfl, rfl⟩ (fx_t30 fx) (fx_r30_38 fx) ?_
    refine r_aload rfl rfl ?_
    refine r_getI rfl ⟨rfl, rfl, rfl⟩ (fx_t30 fx) ?_
    refine WR_tI (y := nI H) eh ?_
    refine r_iload rfl rfl ?_
    refine r_iastore rfl (fx_t54 fx) (vp_ct (fx_n54 fx) (vp_in_nI (by omega) (by omega))) ?_
    refine WR_h (h2 := sI h (ad 54) H (nI (y + 1000))) (congrArg (fun z => sI h (ad 54) z (nI (y + 1000))) ((nI_clamp (by omega)) : _ = H)) ?_
    have fx : FX n ad sa z0 (sI h (ad 54) H (nI (y + 1000))) := (FX.sI fx)
    refine r_aload rfl rfl ?_
    refine r_getA (b := ad 55) rfl ⟨rfl, rfl, rfl⟩ (fx_t30 fx) (fx_r30_39 fx) ?_
    refine r_aload rfl rfl ?_
    refine r_getI rfl ⟨rfl, rfl, rfl⟩ (fx_t30 fx) ?_
    refine WR_tI (y := nI H) (Eq.trans (I_ne (fx_ne fx (by decide))) eh) ?_
    refine r_iload rfl rfl ?_
    refine r_iastore rfl (fx_t55 fx) (vp_ct (fx_n55 fx) (vp_in_nI (by omega) (by omega))) ?_
    refine WR_h (h2 := sI (sI h (ad 54) H (nI (y + 1000))) (ad 55) H 23) (congrArg (fun z => sI (sI h (ad 54) H (nI (y + 1000))) (ad 55) z 23) ((nI_clamp (by omega)) : _ = H)) ?_
    have fx : FX n ad sa z0 (sI (sI h (ad 54) H (nI (y + 1000))) (ad 55) H 23) := (FX.sI fx)
    refine r_aload rfl rfl ?_
    refine r_dup rfl rfl ?_
    refine r_getI rfl ⟨rfl, rfl, rfl⟩ (fx_t30 fx) ?_
    refine WR_tI (y := nI H) (Eq.trans (I_ne (fx_ne fx (by decide))) (Eq.trans (I_ne (fx_ne fx (by decide))) eh)) ?_
    refine r_ic (x := 1) rfl rfl ?_
    refine r_iadd rfl ?_
    refine WR_tI (y := nI (H + 1)) (Eq.trans (nI_add H 1) (congrArg nI (by omega))) ?_
    refine r_putI rfl ⟨rfl, rfl, rfl⟩ (fx_t30 fx) ?_
    have fx : FX n ad sa z0 (sI (sI (sI h (ad 54) H (nI (y + 1000))) (ad 55) H 23) (ad 30) 37 (nI (H + 1))) := (FX.sI fx)
    refine r_vret rfl ?_
    show WR _ cd_220 45 [some (.ref (ad 30)), some (.int (nI a)), some (.int 4), some (.int (nI y))] [] (sI (sI (sI h (ad 54) H (nI (y + 1000))) (ad 55) H 23) (ad 30) 37 (nI (H + 1))) _
    refine r_aload rfl rfl ?_
    refine r_getA (b := ad 57) rfl ⟨rfl, rfl, rfl⟩ (fx_t30 fx) (fx_r30_41 fx) ?_
    refine r_ic (x := 5) rfl rfl ?_
    refine r_iload rfl rfl ?_
    refine r_imul rfl ?_
    refine WR_tI (y := nI (5 * a)) (Eq.trans (pk_mul 5 a) (congrArg nI (by omega))) ?_
    refine r_iload rfl rfl ?_
    refine r_iadd rfl ?_
    refine WR_tI (y := nI (5 * a + 4)) (Eq.trans (nI_add (5 * a) 4) (congrArg nI (by omega))) ?_
    refine r_ic (x := (-1)) rfl rfl ?_
    refine r_iastore rfl (fx_t57 fx) (vp_ct (fx_n57 fx) (vp_in_nI (by omega) (by omega))) ?_
    refine WR_h (h2 := sI (sI (sI (sI h (ad 54) H (nI (y + 1000))) (ad 55) H 23) (ad 30) 37 (nI (H + 1))) (ad 57) (5 * a + 4) (-1)) (congrArg (fun z => sI (sI (sI (sI h (ad 54) H (nI (y + 1000))) (ad 55) H 23) (ad 30) 37 (nI (H + 1))) (ad 57) z (-1)) ((nI_clamp (by omega)) : _ = 5 * a + 4)) ?_
    have fx : FX n ad sa z0 (sI (sI (sI (sI h (ad 54) H (nI (y + 1000))) (ad 55) H 23) (ad 30) 37 (nI (H + 1))) (ad 57) (5 * a + 4) (-1)) := (FX.sI fx)
    refine r_ic (x := 0) rfl rfl ?_
    refine r_iret rfl ?_
    show WR _ cd_216 255 [some (.ref (ad 30)), some (.int 13), some (.int (nI a)), some (.int 4), some (.int c), none] [.int 0] (sI (sI (sI (sI h (ad 54) H (nI (y + 1000))) (ad 55) H 23) (ad 30) 37 (nI (H + 1))) (ad 57) (5 * a + 4) (-1)) _
    refine r_iret rfl ?_
    exact (L1 c1)
  · refine r_iload rfl rfl ?_
    refine r_ic (x := 2) rfl rfl ?_
    refine r_icmp_le (tg := 17) rfl rfl (fun q => absurd q (by decide)) (fun _ => ?_)
    refine r_ic (x := 7) rfl rfl ?_
    refine r_iret rfl ?_
    show WR _ cd_216 255 [some (.ref (ad 30)), some (.int 13), some (.int (nI a)), some (.int 4), some (.int c), none] [.int 7] h _
    refine r_iret rfl ?_
    exact (L2 c1)

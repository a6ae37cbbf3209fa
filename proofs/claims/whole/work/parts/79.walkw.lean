/-! ===== walks of welcomes and of the tail of copy; printed ===== -/
set_option maxHeartbeats 2000000 in
theorem w_wl0 {d : Nat} {Q : mQ} {n : Nat} {ad sa : Nat → Nat} {z0 : Nat} {h : mH} (fx : FX n ad sa z0 h) {b : Nat} (tb : hT h b = 6) 
    (L1 : Q (some (.int 1)) h) : EV (d + 1) 47 [.ref b, .null] h Q := by
  have fx0 := fx
  refine in_47 (Nat.le_of_ble_eq_true rfl) ?_
  show WR _ cd_47 0 [some (.ref b), some (.null), none] [] h _
  refine r_aload0 rfl rfl ?_
  refine r_ifnonnullN (tg := 6) rfl rfl ?_
  refine r_ic (x := 1) rfl rfl ?_
  refine r_zret rfl (.inr rfl) ?_
  exact (L1)

set_option maxHeartbeats 2000000 in
theorem w_wlgr {d : Nat} {Q : mQ} {n : Nat} {ad sa : Nat → Nat} {z0 : Nat} {h : mH} (fx : FX n ad sa z0 h) {b x : Nat} (tb : hT h b = 6) (kb : hI h b 0 = -1) (tx : hT h x = 5) (lx : hI h x 0 = 3) 
    (L1 : Q (some (.int 1)) h) : EV (d + 2) 47 [.ref b, .ref x] h Q := by
  have fx0 := fx
  refine in_47 (Nat.le_of_ble_eq_true rfl) ?_
  show WR _ cd_47 0 [some (.ref b), some (.ref x), none] [] h _
  refine r_aload rfl rfl ?_
  refine r_ifnonnullA (tg := 6) rfl rfl ?_
  refine r_aload rfl rfl ?_
  refine r_getI rfl ⟨rfl, rfl, rfl⟩ tb ?_
  refine WR_tI (y := (-1)) kb ?_
  refine r_ic (x := (-1)) rfl rfl ?_
  refine r_icmp_ne (tg := 28) rfl rfl (fun q => absurd q (by decide)) (fun _ => ?_)
  refine r_aload rfl rfl ?_
  refine r_cw (y := 27) (ra := []) (rest := []) rfl ⟨rfl, rfl⟩ (by rw [show hT h x = 5 from tx]; rfl) rfl rfl (Nat.le_of_ble_eq_true rfl) ?_
  refine in_27 (Nat.le_of_ble_eq_true rfl) ?_
  show WR _ cd_27 0 [some (.ref x)] [] h _
  refine r_aload rfl rfl ?_
  refine r_getI rfl ⟨rfl, rfl, rfl⟩ tx ?_
  refine WR_tI (y := 3) lx ?_
  refine r_iret rfl ?_
  show WR _ cd_47 18 [some (.ref b), some (.ref x), none] [.int 3] h _
  refine r_ic (x := 3) rfl rfl ?_
  refine r_icmp_ne (tg := 26) rfl rfl (fun q => absurd q (by decide)) (fun _ => ?_)
  refine r_ic (x := 1) rfl rfl ?_
  refine r_goto (tg := 27) rfl rfl ?_
  refine r_zret rfl (.inr rfl) ?_
  exact (L1)

set_option maxHeartbeats 2000000 in
theorem w_wlgp {d : Nat} {Q : mQ} {n : Nat} {ad sa : Nat → Nat} {z0 : Nat} {h : mH} (fx : FX n ad sa z0 h) {b x : Nat} (tb : hT h b = 6) (kb : hI h b 0 = -1) (tx : hT h x = 4) 
    (L1 : Q (some (.int 0)) h) : EV (d + 2) 47 [.ref b, .ref x] h Q := by
  have fx0 := fx
  refine in_47 (Nat.le_of_ble_eq_true rfl) ?_
  show WR _ cd_47 0 [some (.ref b), some (.ref x), none] [] h _
  refine r_aload rfl rfl ?_
  refine r_ifnonnullA (tg := 6) rfl rfl ?_
  refine r_aload rfl rfl ?_
  refine r_getI rfl ⟨rfl, rfl, rfl⟩ tb ?_
  refine WR_tI (y := (-1)) kb ?_
  refine r_ic (x := (-1)) rfl rfl ?_
  refine r_icmp_ne (tg := 28) rfl rfl (fun q => absurd q (by decide)) (fun _ => ?_)
  refine r_aload rfl rfl ?_
  refine r_cw (y := 26) (ra := []) (rest := []) rfl ⟨rfl, rfl⟩ (by rw [show hT h x = 4 from tx]; rfl) rfl rfl (Nat.le_of_ble_eq_true rfl) ?_
  refine in_26 (Nat.le_of_ble_eq_true rfl) ?_
  show WR _ cd_26 0 [some (.ref x)] [] h _
  refine r_ic (x := 10) rfl rfl ?_
  refine r_iret rfl ?_
  show WR _ cd_47 18 [some (.ref b), some (.ref x), none] [.int 10] h _
  refine r_ic (x := 3) rfl rfl ?_
  refine r_icmp_ne (tg := 26) rfl rfl (fun _ => ?_) (fun q => absurd q (by decide))
  refine r_ic (x := 0) rfl rfl ?_
  refine r_zret rfl (.inl rfl) ?_
  exact (L1)

set_option maxHeartbeats 2000000 in
theorem w_wlcr {d : Nat} {Q : mQ} {n : Nat} {ad sa : Nat → Nat} {z0 : Nat} {h : mH} (fx : FX n ad sa z0 h) {b x : Nat} (tb : hT h b = 6) {k : Nat} (k8 : k < 8) (kb : hI h b 0 = nI k) (tx : hT h x = 5) 
    (L1 : Q (some (.int 0)) h) : EV (d + 1) 47 [.ref b, .ref x] h Q := by
  have fx0 := fx
  refine in_47 (Nat.le_of_ble_eq_true rfl) ?_
  show WR _ cd_47 0 [some (.ref b), some (.ref x), none] [] h _
  refine r_aload rfl rfl ?_
  refine r_ifnonnullA (tg := 6) rfl rfl ?_
  refine r_aload rfl rfl ?_
  refine r_getI rfl ⟨rfl, rfl, rfl⟩ tb ?_
  refine WR_tI (y := nI k) kb ?_
  refine r_ic (x := (-1)) rfl rfl ?_
  refine r_icmp_ne (tg := 28) rfl rfl (fun _ => ?_) (fun q => False.elim (by have : (nI k).toInt = ((k : Nat) : Int) := nI_toInt (by omega); have : (-1 : Int32).toInt = -1 := rfl; have := i_eq q; omega))
  refine r_aload rfl rfl ?_
  refine r_instW rfl (by decide) tx (by decide) ?_
  refine r_if_eq (tg := 55) rfl rfl (fun _ => ?_) (fun q => absurd q (by decide))
  refine r_ic (x := 0) rfl rfl ?_
  refine r_zret rfl (.inl rfl) ?_
  exact (L1)

set_option maxHeartbeats 2000000 in
theorem w_wlcp {d : Nat} {Q : mQ} {n : Nat} {ad sa : Nat → Nat} {z0 : Nat} {h : mH} (fx : FX n ad sa z0 h) {b x : Nat} (tb : hT h b = 6) {k : Nat} (k8 : k < 8) (kb : hI h b 0 = nI k) (tx : hT h x = 4) 
    (C1 : EV (d) 48 [.ref x, .int (nI k)] h (fun v h2 => WR (d) cd_47 48 [some (.ref b), some (.ref x), some (.ref x)] (v.toList ++ []) h2 Q)) : EV (d + 1) 47 [.ref b, .ref x] h Q := by
  have fx0 := fx
  refine in_47 (Nat.le_of_ble_eq_true rfl) ?_
  show WR _ cd_47 0 [some (.ref b), some (.ref x), none] [] h _
  refine r_aload rfl rfl ?_
  refine r_ifnonnullA (tg := 6) rfl rfl ?_
  refine r_aload rfl rfl ?_
  refine r_getI rfl ⟨rfl, rfl, rfl⟩ tb ?_
  refine WR_tI (y := nI k) kb ?_
  refine r_ic (x := (-1)) rfl rfl ?_
  refine r_icmp_ne (tg := 28) rfl rfl (fun _ => ?_) (fun q => False.elim (by have : (nI k).toInt = ((k : Nat) : Int) := nI_toInt (by omega); have : (-1 : Int32).toInt = -1 := rfl; have := i_eq q; omega))
  refine r_aload rfl rfl ?_
  refine r_instY rfl (by decide) tx ?_
  refine r_if_eq (tg := 55) rfl rfl (fun q => absurd q (by decide)) (fun _ => ?_)
  refine r_aload rfl rfl ?_
  refine r_cast rfl tx ?_
  refine r_astore (lv' := [some (.ref b), some (.ref x), some (.ref x)]) rfl (Nat.le_of_ble_eq_true rfl) rfl ?_
  refine r_aload rfl rfl ?_
  refine r_aload rfl rfl ?_
  refine r_getI rfl ⟨rfl, rfl, rfl⟩ tb ?_
  refine WR_tI (y := nI k) kb ?_
  refine r_cv (y := 48) (ra := [.int (nI k)]) (rest := []) rfl ⟨⟨rfl, rfl⟩, rfl, by decide⟩ tx rfl rfl (Nat.le_of_ble_eq_true rfl) ?_
  exact (C1)

set_option maxHeartbeats 2000000 in
theorem w_wl48 {d : Nat} {Q : mQ} {n : Nat} {ad sa : Nat → Nat} {z0 : Nat} {h : mH} (fx : FX n ad sa z0 h) {b x : Nat} (v : Int32) 
    (L1 : v = 0 → Q (some (.int 0)) h)
    (L2 : ¬ v = 0 → Q (some (.int 1)) h) : WR (d) cd_47 48 [some (.ref b), some (.ref x), some (.ref x)] [.int v] h Q := by
  have fx0 := fx
  refine r_if_eq (tg := 55) rfl rfl (fun c1 => ?_) (fun c1 => ?_)
  · refine r_ic (x := 0) rfl rfl ?_
    refine r_zret rfl (.inl rfl) ?_
    exact (L1 c1)
  · refine r_ic (x := 1) rfl rfl ?_
    refine r_goto (tg := 56) rfl rfl ?_
    refine r_zret rfl (.inr rfl) ?_
    exact (L2 c1)

set_option maxHeartbeats 2000000 in
theorem w_ctR {d : Nat} {Q : mQ} {n : Nat} {ad sa : Nat → Nat} {z0 : Nat} {h : mH} (fx : FX n ad sa z0 h) {kc i ke j m a b : Nat} (ta : hT h a = 5) 
    (C1 : EV (d) 56 [.ref a, .ref b, .int (nI i), .int (nI j), .int (nI m)] h (fun v h2 => WR (d) cd_51 118 [some (.ref (ad 0)), some (.int (nI kc)), some (.int (nI i)), some (.int (nI ke)), some (.int (nI j)), some (.int (nI m)), some (.ref a), some (.ref b), none] (v.toList ++ []) h2 Q)) : WR (d) cd_51 106 [some (.ref (ad 0)), some (.int (nI kc)), some (.int (nI i)), some (.int (nI ke)), some (.int (nI j)), some (.int (nI m)), some (.ref a), some (.ref b), none] [] h Q := by
  have fx0 := fx
  refine r_aload rfl rfl ?_
  refine r_aload rfl rfl ?_
  refine r_iload rfl rfl ?_
  refine r_iload rfl rfl ?_
  refine r_iload rfl rfl ?_
  refine r_cw (y := 56) (ra := [.int (nI m), .int (nI j), .int (nI i), .ref b]) (rest := []) rfl ⟨rfl, rfl⟩ (by rw [show hT h a = 5 from ta]; rfl) rfl rfl (Nat.le_of_ble_eq_true rfl) ?_
  exact (C1)

set_option maxHeartbeats 2000000 in
theorem w_ctS {d : Nat} {Q : mQ} {n : Nat} {ad sa : Nat → Nat} {z0 : Nat} {h : mH} (fx : FX n ad sa z0 h) {kc i ke j m a b : Nat} (ta : hT h a = 6) 
    (C1 : EV (d) 57 [.ref a, .ref b, .int (nI i), .int (nI j), .int (nI m)] h (fun v h2 => WR (d) cd_51 118 [some (.ref (ad 0)), some (.int (nI kc)), some (.int (nI i)), some (.int (nI ke)), some (.int (nI j)), some (.int (nI m)), some (.ref a), some (.ref b), none] (v.toList ++ []) h2 Q)) : WR (d) cd_51 106 [some (.ref (ad 0)), some (.int (nI kc)), some (.int (nI i)), some (.int (nI ke)), some (.int (nI j)), some (.int (nI m)), some (.ref a), some (.ref b), none] [] h Q := by
  have fx0 := fx
  refine r_aload rfl rfl ?_
  refine r_aload rfl rfl ?_
  refine r_iload rfl rfl ?_
  refine r_iload rfl rfl ?_
  refine r_iload rfl rfl ?_
  refine r_cw (y := 57) (ra := [.int (nI m), .int (nI j), .int (nI i), .ref b]) (rest := []) rfl ⟨rfl, rfl⟩ (by rw [show hT h a = 6 from ta]; rfl) rfl rfl (Nat.le_of_ble_eq_true rfl) ?_
  exact (C1)

set_option maxHeartbeats 2000000 in
theorem w_ct0 {d : Nat} {Q : mQ} {n : Nat} {ad sa : Nat → Nat} {z0 : Nat} {h : mH} (fx : FX n ad sa z0 h) {kc i ke j m a b : Nat} 
    (L1 : Q (some (.int (nI m))) h) : WR (d) cd_51 118 [some (.ref (ad 0)), some (.int (nI kc)), some (.int (nI i)), some (.int (nI ke)), some (.int (nI j)), some (.int (nI m)), some (.ref a), some (.ref b), none] [.int 0] h Q := by
  have fx0 := fx
  refine r_istore (lv' := [some (.ref (ad 0)), some (.int (nI kc)), some (.int (nI i)), some (.int (nI ke)), some (.int (nI j)), some (.int (nI m)), some (.ref a), some (.ref b), some (.int 0)]) rfl (Nat.le_of_ble_eq_true rfl) rfl ?_
  refine r_iload rfl rfl ?_
  refine r_if_ge (tg := 134) rfl rfl (fun _ => ?_) (fun q => absurd q (by decide))
  refine r_iload rfl rfl ?_
  refine r_iret rfl ?_
  exact (L1)

set_option maxHeartbeats 2000000 in
theorem w_ct5 {d : Nat} {Q : mQ} {n : Nat} {ad sa : Nat → Nat} {z0 : Nat} {h : mH} (fx : FX n ad sa z0 h) {kc i ke j m a b : Nat} 
    (L1 : Q (some (.int (-15))) (sI h (ad 0) 6 (-15))) : WR (d + 1) cd_51 118 [some (.ref (ad 0)), some (.int (nI kc)), some (.int (nI i)), some (.int (nI ke)), some (.int (nI j)), some (.int (nI m)), some (.ref a), some (.ref b), none] [.int (-15)] h Q := by
  have fx0 := fx
  refine r_istore (lv' := [some (.ref (ad 0)), some (.int (nI kc)), some (.int (nI i)), some (.int (nI ke)), some (.int (nI j)), some (.int (nI m)), some (.ref a), some (.ref b), some (.int (-15))]) rfl (Nat.le_of_ble_eq_true rfl) rfl ?_
  refine r_iload rfl rfl ?_
  refine r_if_ge (tg := 134) rfl rfl (fun q => absurd q (by decide)) (fun _ => ?_)
  refine r_aload rfl rfl ?_
  refine r_iload rfl rfl ?_
  refine r_cv (y := 13) (ra := [.int (-15)]) (rest := []) rfl ⟨⟨rfl, rfl⟩, rfl, by decide⟩ (fx_t0 fx) rfl rfl (Nat.le_of_ble_eq_true rfl) ?_
  refine in_13 (Nat.le_of_ble_eq_true rfl) ?_
  show WR _ cd_13 0 [some (.ref (ad 0)), some (.int (-15))] [] h _
  refine r_aload rfl rfl ?_
  refine r_iload rfl rfl ?_
  refine r_putI rfl ⟨rfl, rfl, rfl⟩ (fx_t0 fx) ?_
  have fx : FX n ad sa z0 (sI h (ad 0) 6 (-15)) := (FX.sI fx)
  refine r_iload rfl rfl ?_
  refine r_iret rfl ?_
  show WR _ cd_51 131 [some (.ref (ad 0)), some (.int (nI kc)), some (.int (nI i)), some (.int (nI ke)), some (.int (nI j)), some (.int (nI m)), some (.ref a), some (.ref b), some (.int (-15))] [.int (-15)] (sI h (ad 0) 6 (-15)) _
  refine r_goto (tg := 136) rfl rfl ?_
  refine r_iret rfl ?_
  exact (L1)

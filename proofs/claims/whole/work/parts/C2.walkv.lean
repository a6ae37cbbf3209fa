/-! ===== walks of run: the votes; printed ===== -/
set_option maxHeartbeats 2000000 in
theorem w_rr0 {d : Nat} {Q : mQ} {n : Nat} {ad sa : Nat → Nat} {z0 : Nat} {h : mH} (fx : FX n ad sa z0 h) {t : Nat} 
    (K1 : WR (d) cd_129 2 [some (.ref (ad (100 + 5 * t))), some (.int 0)] [] h Q) : EV (d + 1) 129 [.ref (ad (100 + 5 * t))] h Q := by
  have fx0 := fx
  refine in_129 (Nat.le_of_ble_eq_true rfl) ?_
  show WR _ cd_129 0 [some (.ref (ad (100 + 5 * t))), none] [] h _
  refine r_ic (x := 0) rfl rfl ?_
  refine r_istore (lv' := [some (.ref (ad (100 + 5 * t))), some (.int 0)]) rfl (Nat.le_of_ble_eq_true rfl) rfl ?_
  exact (K1)

set_option maxHeartbeats 2000000 in
theorem w_rre {d : Nat} {Q : mQ} {n : Nat} {ad sa : Nat → Nat} {z0 : Nat} {h : mH} (fx : FX n ad sa z0 h) {t : Nat} 
    (L1 : Q none h) : WR (d) cd_129 2 [some (.ref (ad (100 + 5 * t))), some (.int 3)] [] h Q := by
  have fx0 := fx
  refine r_iload rfl rfl ?_
  refine r_ic (x := 3) rfl rfl ?_
  refine r_icmp_ge (tg := 37) rfl rfl (fun _ => ?_) (fun q => absurd q (by decide))
  refine r_vret rfl ?_
  exact (L1)

set_option maxHeartbeats 2000000 in
theorem w_rrs {d : Nat} {Q : mQ} {n : Nat} {ad sa : Nat → Nat} {z0 : Nat} {h : mH} (fx : FX n ad sa z0 h) {t : Nat} (ha : t < n) (n6 : n ≤ 6) (tu2 : hT h (ad (100 + 5 * t)) = 8) (r5 : hR h (ad (100 + 5 * t)) 5 = some (ad (101 + 5 * t))) (r6 : hR h (ad (100 + 5 * t)) 6 = some (ad (102 + 5 * t))) (r7 : hR h (ad (100 + 5 * t)) 7 = some (ad (103 + 5 * t))) (r8 : hR h (ad (100 + 5 * t)) 8 = some (ad (104 + 5 * t))) (k1 : hT h (ad (101 + 5 * t)) = 26) (l1 : hN h (ad (101 + 5 * t)) = 5) (k2 : hT h (ad (102 + 5 * t)) = 21) (l2 : hN h (ad (102 + 5 * t)) = 3) (k3 : hT h (ad (103 + 5 * t)) = 21) (l3 : hN h (ad (103 + 5 * t)) = 3) (k4 : hT h (ad (104 + 5 * t)) = 21) (l4 : hN h (ad (104 + 5 * t)) = 3) {s : Nat} (s3 : s < 3) 
    (K1 : WR (d) cd_129 2 [some (.ref (ad (100 + 5 * t))), some (.int (nI (s + 1)))] [] (sL (sL h (ad (104 + 5 * t)) s (hL h (ad (103 + 5 * t)) s)) (ad (103 + 5 * t)) s (hL h (ad (102 + 5 * t)) s)) Q) : WR (d) cd_129 2 [some (.ref (ad (100 + 5 * t))), some (.int (nI s))] [] h Q := by
  have fx0 := fx
  refine r_iload rfl rfl ?_
  refine r_ic (x := 3) rfl rfl ?_
  refine r_icmp_ge (tg := 37) rfl rfl (fun q => False.elim (by have : (nI s).toInt = ((s : Nat) : Int) := nI_toInt (by omega); have : (3 : Int32).toInt = 3 := rfl; have := i_le q; omega)) (fun _ => ?_)
  refine r_aload rfl rfl ?_
  refine r_getA (b := ad (104 + 5 * t)) rfl ⟨rfl, rfl, rfl⟩ tu2 r8 ?_
  refine r_iload rfl rfl ?_
  refine r_aload rfl rfl ?_
  refine r_getA (b := ad (103 + 5 * t)) rfl ⟨rfl, rfl, rfl⟩ tu2 r7 ?_
  refine r_iload rfl rfl ?_
  refine r_laload rfl k3 (vp_ct l3 (vp_in_nI (by omega) (by omega))) ?_
  refine WR_tL (congrArg (hL h (ad (103 + 5 * t))) ((nI_clamp (by omega)) : _ = s)) ?_
  refine r_lastore rfl k4 (vp_ct l4 (vp_in_nI (by omega) (by omega))) ?_
  refine WR_h (h2 := sL h (ad (104 + 5 * t)) s (hL h (ad (103 + 5 * t)) s)) (congrArg (fun z => sL h (ad (104 + 5 * t)) z (hL h (ad (103 + 5 * t)) s)) ((nI_clamp (by omega)) : _ = s)) ?_
  have fx : FX n ad sa z0 (sL h (ad (104 + 5 * t)) s (hL h (ad (103 + 5 * t)) s)) := (FX.sL fx)
  refine r_aload rfl rfl ?_
  refine r_getA (b := ad (103 + 5 * t)) rfl ⟨rfl, rfl, rfl⟩ tu2 (Eq.trans R_oL r7) ?_
  refine r_iload rfl rfl ?_
  refine r_aload rfl rfl ?_
  refine r_getA (b := ad (102 + 5 * t)) rfl ⟨rfl, rfl, rfl⟩ tu2 (Eq.trans R_oL r6) ?_
  refine r_iload rfl rfl ?_
  refine r_laload rfl k2 (vp_ct l2 (vp_in_nI (by omega) (by omega))) ?_
  refine WR_tL (congrArg (hL (sL h (ad (104 + 5 * t)) s (hL h (ad (103 + 5 * t)) s)) (ad (102 + 5 * t))) ((nI_clamp (by omega)) : _ = s)) ?_
  refine WR_tL (y := hL h (ad (102 + 5 * t)) s) (L_ne (fx_ne fx (by omega))) ?_
  refine r_lastore rfl k3 (vp_ct l3 (vp_in_nI (by omega) (by omega))) ?_
  refine WR_h (h2 := sL (sL h (ad (104 + 5 * t)) s (hL h (ad (103 + 5 * t)) s)) (ad (103 + 5 * t)) s (hL h (ad (102 + 5 * t)) s)) (congrArg (fun z => sL (sL h (ad (104 + 5 * t)) s (hL h (ad (103 + 5 * t)) s)) (ad (103 + 5 * t)) z (hL h (ad (102 + 5 * t)) s)) ((nI_clamp (by omega)) : _ = s)) ?_
  have fx : FX n ad sa z0 (sL (sL h (ad (104 + 5 * t)) s (hL h (ad (103 + 5 * t)) s)) (ad (103 + 5 * t)) s (hL h (ad (102 + 5 * t)) s)) := (FX.sL fx)
  refine r_iinc (y := nI (s + 1)) (lv' := [some (.ref (ad (100 + 5 * t))), some (.int (nI (s + 1)))]) rfl rfl (nI_1 _) rfl ?_
  refine r_goto (tg := 2) rfl rfl ?_
  exact (K1)

set_option maxHeartbeats 2000000 in
theorem w_vo00 {d : Nat} {Q : mQ} {n : Nat} {ad sa : Nat → Nat} {z0 : Nat} {h : mH} (fx : FX n ad sa z0 h) {t st : Nat} (e5 : hI h (ad 4) 5 = 0) (s2 : st ≤ 30000) (e3 : hI h (ad 4) 3 = nI st) 
    (K1 : WR (d) cd_130 26 [some (.ref (ad 4)), some (.ref (ad (100 + 5 * t))), some (.int 0), some (.int 0), some (.int 0), none] [] h Q) : EV (d + 1) 130 [.ref (ad 4), .ref (ad (100 + 5 * t))] h Q := by
  have fx0 := fx
  refine in_130 (Nat.le_of_ble_eq_true rfl) ?_
  show WR _ cd_130 0 [some (.ref (ad 4)), some (.ref (ad (100 + 5 * t))), none, none, none, none] [] h _
  refine r_aload rfl rfl ?_
  refine r_getZ rfl ⟨rfl, rfl, rfl⟩ (fx_t4 fx) ?_
  refine WR_tI (y := 0) e5 ?_
  refine r_if_eq (tg := 19) rfl rfl (fun _ => ?_) (fun q => absurd q (by decide))
  refine r_ic (x := 0) rfl rfl ?_
  refine r_istore (lv' := [some (.ref (ad 4)), some (.ref (ad (100 + 5 * t))), some (.int 0), none, none, none]) rfl (Nat.le_of_ble_eq_true rfl) rfl ?_
  refine r_ic (x := 0) rfl rfl ?_
  refine r_istore (lv' := [some (.ref (ad 4)), some (.ref (ad (100 + 5 * t))), some (.int 0), some (.int 0), none, none]) rfl (Nat.le_of_ble_eq_true rfl) rfl ?_
  refine r_ic (x := 0) rfl rfl ?_
  refine r_istore (lv' := [some (.ref (ad 4)), some (.ref (ad (100 + 5 * t))), some (.int 0), some (.int 0), some (.int 0), none]) rfl (Nat.le_of_ble_eq_true rfl) rfl ?_
  exact (K1)

set_option maxHeartbeats 2000000 in
theorem w_vo01 {d : Nat} {Q : mQ} {n : Nat} {ad sa : Nat → Nat} {z0 : Nat} {h : mH} (fx : FX n ad sa z0 h) {t st : Nat} (e5 : hI h (ad 4) 5 = 1) (s2 : st ≤ 30000) (e3 : hI h (ad 4) 3 = nI st) 
    (K1 : (nI st) < 2 → WR (d) cd_130 26 [some (.ref (ad 4)), some (.ref (ad (100 + 5 * t))), some (.int 0), some (.int 0), some (.int 0), none] [] h Q)
    (K2 : ¬ (nI st) < 2 → WR (d) cd_130 26 [some (.ref (ad 4)), some (.ref (ad (100 + 5 * t))), some (.int 1), some (.int 0), some (.int 0), none] [] h Q) : EV (d + 1) 130 [.ref (ad 4), .ref (ad (100 + 5 * t))] h Q := by
  have fx0 := fx
  refine in_130 (Nat.le_of_ble_eq_true rfl) ?_
  show WR _ cd_130 0 [some (.ref (ad 4)), some (.ref (ad (100 + 5 * t))), none, none, none, none] [] h _
  refine r_aload rfl rfl ?_
  refine r_getZ rfl ⟨rfl, rfl, rfl⟩ (fx_t4 fx) ?_
  refine WR_tI (y := 1) e5 ?_
  refine r_if_eq (tg := 19) rfl rfl (fun q => absurd q (by decide)) (fun _ => ?_)
  refine r_aload rfl rfl ?_
  refine r_getI rfl ⟨rfl, rfl, rfl⟩ (fx_t4 fx) ?_
  refine WR_tI (y := nI st) e3 ?_
  refine r_ic (x := 2) rfl rfl ?_
  refine r_icmp_lt (tg := 19) rfl rfl (fun c1 => ?_) (fun c1 => ?_)
  · refine r_ic (x := 0) rfl rfl ?_
    refine r_istore (lv' := [some (.ref (ad 4)), some (.ref (ad (100 + 5 * t))), some (.int 0), none, none, none]) rfl (Nat.le_of_ble_eq_true rfl) rfl ?_
    refine r_ic (x := 0) rfl rfl ?_
    refine r_istore (lv' := [some (.ref (ad 4)), some (.ref (ad (100 + 5 * t))), some (.int 0), some (.int 0), none, none]) rfl (Nat.le_of_ble_eq_true rfl) rfl ?_
    refine r_ic (x := 0) rfl rfl ?_
    refine r_istore (lv' := [some (.ref (ad 4)), some (.ref (ad (100 + 5 * t))), some (.int 0), some (.int 0), some (.int 0), none]) rfl (Nat.le_of_ble_eq_true rfl) rfl ?_
    exact (K1 c1)
  · refine r_ic (x := 1) rfl rfl ?_
    refine r_goto (tg := 20) rfl rfl ?_
    refine r_istore (lv' := [some (.ref (ad 4)), some (.ref (ad (100 + 5 * t))), some (.int 1), none, none, none]) rfl (Nat.le_of_ble_eq_true rfl) rfl ?_
    refine r_ic (x := 0) rfl rfl ?_
    refine r_istore (lv' := [some (.ref (ad 4)), some (.ref (ad (100 + 5 * t))), some (.int 1), some (.int 0), none, none]) rfl (Nat.le_of_ble_eq_true rfl) rfl ?_
    refine r_ic (x := 0) rfl rfl ?_
    refine r_istore (lv' := [some (.ref (ad 4)), some (.ref (ad (100 + 5 * t))), some (.int 1), some (.int 0), some (.int 0), none]) rfl (Nat.le_of_ble_eq_true rfl) rfl ?_
    exact (K2 c1)

set_option maxHeartbeats 2000000 in
theorem w_von {d : Nat} {Q : mQ} {n : Nat} {ad sa : Nat → Nat} {z0 : Nat} {h : mH} (fx : FX n ad sa z0 h) {t : Nat} (ha : t < n) (n6 : n ≤ 6) (tu2 : hT h (ad (100 + 5 * t)) = 8) (r5 : hR h (ad (100 + 5 * t)) 5 = some (ad (101 + 5 * t))) (r6 : hR h (ad (100 + 5 * t)) 6 = some (ad (102 + 5 * t))) (r7 : hR h (ad (100 + 5 * t)) 7 = some (ad (103 + 5 * t))) (r8 : hR h (ad (100 + 5 * t)) 8 = some (ad (104 + 5 * t))) (k1 : hT h (ad (101 + 5 * t)) = 26) (l1 : hN h (ad (101 + 5 * t)) = 5) (k2 : hT h (ad (102 + 5 * t)) = 21) (l2 : hN h (ad (102 + 5 * t)) = 3) (k3 : hT h (ad (103 + 5 * t)) = 21) (l3 : hN h (ad (103 + 5 * t)) = 3) (k4 : hT h (ad (104 + 5 * t)) = 21) (l4 : hN h (ad (104 + 5 * t)) = 3) {k s : Nat} (s3 : s < 3) (ks : k ≤ s) {o5 : Option Value} {mf : Int32} (rs : hR h (ad (101 + 5 * t)) s = none) 
    (K1 : WR (d) cd_130 26 [some (.ref (ad 4)), some (.ref (ad (100 + 5 * t))), some (.int mf), some (.int (nI k)), some (.int (nI (s + 1))), some (.int 0)] [] h Q) : WR (d) cd_130 26 [some (.ref (ad 4)), some (.ref (ad (100 + 5 * t))), some (.int mf), some (.int (nI k)), some (.int (nI s)), o5] [] h Q := by
  have fx0 := fx
  refine r_iload rfl rfl ?_
  refine r_ic (x := 3) rfl rfl ?_
  refine r_icmp_ge (tg := 102) rfl rfl (fun q => False.elim (by have : (nI s).toInt = ((s : Nat) : Int) := nI_toInt (by omega); have : (3 : Int32).toInt = 3 := rfl; have := i_le q; omega)) (fun _ => ?_)
  refine r_aload rfl rfl ?_
  refine r_getA (b := ad (101 + 5 * t)) rfl ⟨rfl, rfl, rfl⟩ tu2 r5 ?_
  refine r_iload rfl rfl ?_
  refine r_aaload0 rfl (isQ_of k1 (by decide)) (vp_ct l1 (vp_in_nI (by omega) (by omega))) (Eq.trans (congrArg (hR h (ad (101 + 5 * t))) ((nI_clamp (by omega)) : _ = s)) rs) ?_
  refine r_ifnullN (tg := 59) rfl rfl ?_
  refine r_ic (x := 0) rfl rfl ?_
  refine r_istore (lv' := [some (.ref (ad 4)), some (.ref (ad (100 + 5 * t))), some (.int mf), some (.int (nI k)), some (.int (nI s)), some (.int 0)]) rfl (Nat.le_of_ble_eq_true rfl) rfl ?_
  refine r_iload rfl rfl ?_
  refine r_if_eq (tg := 96) rfl rfl (fun _ => ?_) (fun q => absurd q (by decide))
  refine r_iinc (y := nI (s + 1)) (lv' := [some (.ref (ad 4)), some (.ref (ad (100 + 5 * t))), some (.int mf), some (.int (nI k)), some (.int (nI (s + 1))), some (.int 0)]) rfl rfl (nI_1 _) rfl ?_
  refine r_goto (tg := 26) rfl rfl ?_
  exact (K1)

set_option maxHeartbeats 2000000 in
theorem w_vos0 {d : Nat} {Q : mQ} {n : Nat} {ad sa : Nat → Nat} {z0 : Nat} {h : mH} (fx : FX n ad sa z0 h) {t : Nat} (ha : t < n) (n6 : n ≤ 6) (tu2 : hT h (ad (100 + 5 * t)) = 8) (r5 : hR h (ad (100 + 5 * t)) 5 = some (ad (101 + 5 * t))) (r6 : hR h (ad (100 + 5 * t)) 6 = some (ad (102 + 5 * t))) (r7 : hR h (ad (100 + 5 * t)) 7 = some (ad (103 + 5 * t))) (r8 : hR h (ad (100 + 5 * t)) 8 = some (ad (104 + 5 * t))) (k1 : hT h (ad (101 + 5 * t)) = 26) (l1 : hN h (ad (101 + 5 * t)) = 5) (k2 : hT h (ad (102 + 5 * t)) = 21) (l2 : hN h (ad (102 + 5 * t)) = 3) (k3 : hT h (ad (103 + 5 * t)) = 21) (l3 : hN h (ad (103 + 5 * t)) = 3) (k4 : hT h (ad (104 + 5 * t)) = 21) (l4 : hN h (ad (104 + 5 * t)) = 3) {k s : Nat} (s3 : s < 3) (ks : k ≤ s) {o5 : Option Value} {x : Nat} {v b c : Int64} (rs : hR h (ad (101 + 5 * t)) s = some x) (ev : hL h (ad (102 + 5 * t)) s = v) (eb : hL h (ad (103 + 5 * t)) s = b) (ec : hL h (ad (104 + 5 * t)) s = c) 
    (K1 : 9218868437227405312 < (v &&& 9223372036854775807) → WR (d + 2) cd_130 26 [some (.ref (ad 4)), some (.ref (ad (100 + 5 * t))), some (.int 0), some (.int (nI k)), some (.int (nI (s + 1))), some (.int 0)] [] h Q)
    (K2 : ¬ 9218868437227405312 < (v &&& 9223372036854775807) → WR (d + 2) cd_130 26 [some (.ref (ad 4)), some (.ref (ad (100 + 5 * t))), some (.int 0), some (.int (nI (k + 1))), some (.int (nI (s + 1))), some (.int 1)] [] (sL h (ad 6) k v) Q) : WR (d + 2) cd_130 26 [some (.ref (ad 4)), some (.ref (ad (100 + 5 * t))), some (.int 0), some (.int (nI k)), some (.int (nI s)), o5] [] h Q := by
  have fx0 := fx
  refine r_iload rfl rfl ?_
  refine r_ic (x := 3) rfl rfl ?_
  refine r_icmp_ge (tg := 102) rfl rfl (fun q => False.elim (by have : (nI s).toInt = ((s : Nat) : Int) := nI_toInt (by omega); have : (3 : Int32).toInt = 3 := rfl; have := i_le q; omega)) (fun _ => ?_)
  refine r_aload rfl rfl ?_
  refine r_getA (b := ad (101 + 5 * t)) rfl ⟨rfl, rfl, rfl⟩ tu2 r5 ?_
  refine r_iload rfl rfl ?_
  refine r_aaloadA (b := x) rfl (isQ_of k1 (by decide)) (vp_ct l1 (vp_in_nI (by omega) (by omega))) (Eq.trans (congrArg (hR h (ad (101 + 5 * t))) ((nI_clamp (by omega)) : _ = s)) rs) ?_
  refine r_ifnullA (tg := 59) rfl rfl ?_
  refine r_aload rfl rfl ?_
  refine r_getA (b := ad (102 + 5 * t)) rfl ⟨rfl, rfl, rfl⟩ tu2 r6 ?_
  refine r_iload rfl rfl ?_
  refine r_laload rfl k2 (vp_ct l2 (vp_in_nI (by omega) (by omega))) ?_
  refine WR_tL (congrArg (hL h (ad (102 + 5 * t))) ((nI_clamp (by omega)) : _ = s)) ?_
  refine WR_tL (y := v) ev ?_
  refine r_cs (y := 38) (ra := [.long v]) (rest := []) rfl ⟨⟨rfl, rfl⟩, by decide⟩ rfl rfl (Nat.le_of_ble_eq_true rfl) ?_
  refine in_38 (Nat.le_of_ble_eq_true rfl) ?_
  show WR _ cd_38 0 [some (.long v), none] [] h _
  refine r_lload rfl rfl ?_
  refine r_cs (y := 39) (ra := [.long v]) (rest := []) rfl ⟨⟨rfl, rfl⟩, by decide⟩ rfl rfl (Nat.le_of_ble_eq_true rfl) ?_
  refine in_39 (Nat.le_of_ble_eq_true rfl) ?_
  show WR _ cd_39 0 [some (.long v), none] [] h _
  refine r_lload rfl rfl ?_
  refine r_ldc (x := .long 9223372036854775807) rfl rfl ?_
  refine r_land rfl ?_
  refine r_lret rfl ?_
  show WR _ cd_38 4 [some (.long v), none] [.long (v &&& 9223372036854775807)] h _
  refine r_ldc (x := .long 9218868437227405312) rfl rfl ?_
  refine r_lif_gt (tg := 15) rfl rfl rfl (fun c1 => ?_) (fun c1 => ?_)
  · refine r_ic (x := 0) rfl rfl ?_
    refine r_zret rfl (.inl rfl) ?_
    show WR _ cd_130 52 [some (.ref (ad 4)), some (.ref (ad (100 + 5 * t))), some (.int 0), some (.int (nI k)), some (.int (nI s)), o5] [.int 0] h _
    refine r_if_eq (tg := 59) rfl rfl (fun _ => ?_) (fun q => absurd q (by decide))
    refine r_ic (x := 0) rfl rfl ?_
    refine r_istore (lv' := [some (.ref (ad 4)), some (.ref (ad (100 + 5 * t))), some (.int 0), some (.int (nI k)), some (.int (nI s)), some (.int 0)]) rfl (Nat.le_of_ble_eq_true rfl) rfl ?_
    refine r_iload rfl rfl ?_
    refine r_if_eq (tg := 96) rfl rfl (fun _ => ?_) (fun q => absurd q (by decide))
    refine r_iinc (y := nI (s + 1)) (lv' := [some (.ref (ad 4)), some (.ref (ad (100 + 5 * t))), some (.int 0), some (.int (nI k)), some (.int (nI (s + 1))), some (.int 0)]) rfl rfl (nI_1 _) rfl ?_
    refine r_goto (tg := 26) rfl rfl ?_
    exact (K1 c1)
  · refine r_ic (x := 1) rfl rfl ?_
    refine r_goto (tg := 16) rfl rfl ?_
    refine r_zret rfl (.inr rfl) ?_
    show WR _ cd_130 52 [some (.ref (ad 4)), some (.ref (ad (100 + 5 * t))), some (.int 0), some (.int (nI k)), some (.int (nI s)), o5] [.int 1] h _
    refine r_if_eq (tg := 59) rfl rfl (fun q => absurd q (by decide)) (fun _ => ?_)
    refine r_ic (x := 1) rfl rfl ?_
    refine r_goto (tg := 60) rfl rfl ?_
    refine r_istore (lv' := [some (.ref (ad 4)), some (.ref (ad (100 + 5 * t))), some (.int 0), some (.int (nI k)), some (.int (nI s)), some (.int 1)]) rfl (Nat.le_of_ble_eq_true rfl) rfl ?_
    refine r_iload rfl rfl ?_
    refine r_if_eq (tg := 96) rfl rfl (fun q => absurd q (by decide)) (fun _ => ?_)
    refine r_iload rfl rfl ?_
    refine r_if_eq (tg := 80) rfl rfl (fun _ => ?_) (fun q => absurd q (by decide))
    refine r_aload rfl rfl ?_
    refine r_getA (b := ad 6) rfl ⟨rfl, rfl, rfl⟩ (fx_t4 fx) (fx_r4_7 fx) ?_
    refine r_iload rfl rfl ?_
    refine r_aload rfl rfl ?_
    refine r_getA (b := ad (102 + 5 * t)) rfl ⟨rfl, rfl, rfl⟩ tu2 r6 ?_
    refine r_iload rfl rfl ?_
    refine r_laload rfl k2 (vp_ct l2 (vp_in_nI (by omega) (by omega))) ?_
    refine WR_tL (congrArg (hL h (ad (102 + 5 * t))) ((nI_clamp (by omega)) : _ = s)) ?_
    refine WR_tL (y := v) ev ?_
    refine r_lastore rfl (fx_t6 fx) (vp_ct (fx_n6 fx) (vp_in_nI (by omega) (by omega))) ?_
    refine WR_h (h2 := sL h (ad 6) k v) (congrArg (fun z => sL h (ad 6) z v) ((nI_clamp (by omega)) : _ = k)) ?_
    have fx : FX n ad sa z0 (sL h (ad 6) k v) := (FX.sL fx)
    refine r_iinc (y := nI (k + 1)) (lv' := [some (.ref (ad 4)), some (.ref (ad (100 + 5 * t))), some (.int 0), some (.int (nI (k + 1))), some (.int (nI s)), some (.int 1)]) rfl rfl (nI_1 _) rfl ?_
    refine r_iinc (y := nI (s + 1)) (lv' := [some (.ref (ad 4)), some (.ref (ad (100 + 5 * t))), some (.int 0), some (.int (nI (k + 1))), some (.int (nI (s + 1))), some (.int 1)]) rfl rfl (nI_1 _) rfl ?_
    refine r_goto (tg := 26) rfl rfl ?_
    exact (K2 c1)

set_option maxHeartbeats 2000000 in
theorem w_vos1 {d : Nat} {Q : mQ} {n : Nat} {ad sa : Nat → Nat} {z0 : Nat} {h : mH} (fx : FX n ad sa z0 h) {t : Nat} (ha : t < n) (n6 : n ≤ 6) (tu2 : hT h (ad (100 + 5 * t)) = 8) (r5 : hR h (ad (100 + 5 * t)) 5 = some (ad (101 + 5 * t))) (r6 : hR h (ad (100 + 5 * t)) 6 = some (ad (102 + 5 * t))) (r7 : hR h (ad (100 + 5 * t)) 7 = some (ad (103 + 5 * t))) (r8 : hR h (ad (100 + 5 * t)) 8 = some (ad (104 + 5 * t))) (k1 : hT h (ad (101 + 5 * t)) = 26) (l1 : hN h (ad (101 + 5 * t)) = 5) (k2 : hT h (ad (102 + 5 * t)) = 21) (l2 : hN h (ad (102 + 5 * t)) = 3) (k3 : hT h (ad (103 + 5 * t)) = 21) (l3 : hN h (ad (103 + 5 * t)) = 3) (k4 : hT h (ad (104 + 5 * t)) = 21) (l4 : hN h (ad (104 + 5 * t)) = 3) {k s : Nat} (s3 : s < 3) (ks : k ≤ s) {o5 : Option Value} {x : Nat} {v b c : Int64} (rs : hR h (ad (101 + 5 * t)) s = some x) (ev : hL h (ad (102 + 5 * t)) s = v) (eb : hL h (ad (103 + 5 * t)) s = b) (ec : hL h (ad (104 + 5 * t)) s = c) 
    (K1 : 9218868437227405312 < (v &&& 9223372036854775807) → WR (d + 2) cd_130 26 [some (.ref (ad 4)), some (.ref (ad (100 + 5 * t))), some (.int 1), some (.int (nI k)), some (.int (nI (s + 1))), some (.int 0)] [] h Q)
    (K2 : ¬ 9218868437227405312 < (v &&& 9223372036854775807) → ¬ v = b → WR (d + 2) cd_130 26 [some (.ref (ad 4)), some (.ref (ad (100 + 5 * t))), some (.int 1), some (.int (nI (k + 1))), some (.int (nI (s + 1))), some (.int 1)] [] (sL h (ad 6) k v) Q)
    (K3 : ¬ 9218868437227405312 < (v &&& 9223372036854775807) → v = b → ¬ v = c → WR (d + 2) cd_130 26 [some (.ref (ad 4)), some (.ref (ad (100 + 5 * t))), some (.int 1), some (.int (nI (k + 1))), some (.int (nI (s + 1))), some (.int 1)] [] (sL h (ad 6) k v) Q)
    (K4 : ¬ 9218868437227405312 < (v &&& 9223372036854775807) → v = b → v = c → WR (d + 2) cd_130 26 [some (.ref (ad 4)), some (.ref (ad (100 + 5 * t))), some (.int 1), some (.int (nI k)), some (.int (nI (s + 1))), some (.int 1)] [] h Q) : WR (d + 2) cd_130 26 [some (.ref (ad 4)), some (.ref (ad (100 + 5 * t))), some (.int 1), some (.int (nI k)), some (.int (nI s)), o5] [] h Q := by
  have fx0 := fx
  refine r_iload rfl rfl ?_
  refine r_ic (x := 3) rfl rfl ?_
  refine r_icmp_ge (tg := 102) rfl rfl (fun q => False.elim (by have : (nI s).toInt = ((s : Nat) : Int) := nI_toInt (by omega); have : (3 : Int32).toInt = 3 := rfl; have := i_le q; omega)) (fun _ => ?_)
  refine r_aload rfl rfl ?_
  refine r_getA (b := ad (101 + 5 * t)) rfl ⟨rfl, rfl, rfl⟩ tu2 r5 ?_
  refine r_iload rfl rfl ?_
  refine r_aaloadA (b := x) rfl (isQ_of k1 (by decide)) (vp_ct l1 (vp_in_nI (by omega) (by omega))) (Eq.trans (congrArg (hR h (ad (101 + 5 * t))) ((nI_clamp (by omega)) : _ = s)) rs) ?_
  refine r_ifnullA (tg := 59) rfl rfl ?_
  refine r_aload rfl rfl ?_
  refine r_getA (b := ad (102 + 5 * t)) rfl ⟨rfl, rfl, rfl⟩ tu2 r6 ?_
  refine r_iload rfl rfl ?_
  refine r_laload rfl k2 (vp_ct l2 (vp_in_nI (by omega) (by omega))) ?_
  refine WR_tL (congrArg (hL h (ad (102 + 5 * t))) ((nI_clamp (by omega)) : _ = s)) ?_
  refine WR_tL (y := v) ev ?_
  refine r_cs (y := 38) (ra := [.long v]) (rest := []) rfl ⟨⟨rfl, rfl⟩, by decide⟩ rfl rfl (Nat.le_of_ble_eq_true rfl) ?_
  refine in_38 (Nat.le_of_ble_eq_true rfl) ?_
  show WR _ cd_38 0 [some (.long v), none] [] h _
  refine r_lload rfl rfl ?_
  refine r_cs (y := 39) (ra := [.long v]) (rest := []) rfl ⟨⟨rfl, rfl⟩, by decide⟩ rfl rfl (Nat.le_of_ble_eq_true rfl) ?_
  refine in_39 (Nat.le_of_ble_eq_true rfl) ?_
  show WR _ cd_39 0 [some (.long v), none] [] h _
  refine r_lload rfl rfl ?_
  refine r_ldc (x := .long 9223372036854775807) rfl rfl ?_
  refine r_land rfl ?_
  refine r_lret rfl ?_
  show WR _ cd_38 4 [some (.long v), none] [.long (v &&& 9223372036854775807)] h _
  refine r_ldc (x := .long 9218868437227405312) rfl rfl ?_
  refine r_lif_gt (tg := 15) rfl rfl rfl (fun c1 => ?_) (fun c1 => ?_)
  · refine r_ic (x := 0) rfl rfl ?_
    refine r_zret rfl (.inl rfl) ?_
    show WR _ cd_130 52 [some (.ref (ad 4)), some (.ref (ad (100 + 5 * t))), some (.int 1), some (.int (nI k)), some (.int (nI s)), o5] [.int 0] h _
    refine r_if_eq (tg := 59) rfl rfl (fun _ => ?_) (fun q => absurd q (by decide))
    refine r_ic (x := 0) rfl rfl ?_
    refine r_istore (lv' := [some (.ref (ad 4)), some (.ref (ad (100 + 5 * t))), some (.int 1), some (.int (nI k)), some (.int (nI s)), some (.int 0)]) rfl (Nat.le_of_ble_eq_true rfl) rfl ?_
    refine r_iload rfl rfl ?_
    refine r_if_eq (tg := 96) rfl rfl (fun _ => ?_) (fun q => absurd q (by decide))
    refine r_iinc (y := nI (s + 1)) (lv' := [some (.ref (ad 4)), some (.ref (ad (100 + 5 * t))), some (.int 1), some (.int (nI k)), some (.int (nI (s + 1))), some (.int 0)]) rfl rfl (nI_1 _) rfl ?_
    refine r_goto (tg := 26) rfl rfl ?_
    exact (K1 c1)
  · refine r_ic (x := 1) rfl rfl ?_
    refine r_goto (tg := 16) rfl rfl ?_
    refine r_zret rfl (.inr rfl) ?_
    show WR _ cd_130 52 [some (.ref (ad 4)), some (.ref (ad (100 + 5 * t))), some (.int 1), some (.int (nI k)), some (.int (nI s)), o5] [.int 1] h _
    refine r_if_eq (tg := 59) rfl rfl (fun q => absurd q (by decide)) (fun _ => ?_)
    refine r_ic (x := 1) rfl rfl ?_
    refine r_goto (tg := 60) rfl rfl ?_
    refine r_istore (lv' := [some (.ref (ad 4)), some (.ref (ad (100 + 5 * t))), some (.int 1), some (.int (nI k)), some (.int (nI s)), some (.int 1)]) rfl (Nat.le_of_ble_eq_true rfl) rfl ?_
    refine r_iload rfl rfl ?_
    refine r_if_eq (tg := 96) rfl rfl (fun q => absurd q (by decide)) (fun _ => ?_)
    refine r_iload rfl rfl ?_
    refine r_if_eq (tg := 80) rfl rfl (fun q => absurd q (by decide)) (fun _ => ?_)
    refine r_aload rfl rfl ?_
    refine r_iload rfl rfl ?_
    refine r_cv (y := 131) (ra := [.int (nI s)]) (rest := []) rfl ⟨⟨rfl, rfl⟩, rfl, by decide⟩ tu2 rfl rfl (Nat.le_of_ble_eq_true rfl) ?_
    refine in_131 (Nat.le_of_ble_eq_true rfl) ?_
    show WR _ cd_131 0 [some (.ref (ad (100 + 5 * t))), some (.int (nI s)), none, none] [] h _
    refine r_aload rfl rfl ?_
    refine r_getA (b := ad (102 + 5 * t)) rfl ⟨rfl, rfl, rfl⟩ tu2 r6 ?_
    refine r_iload rfl rfl ?_
    refine r_laload rfl k2 (vp_ct l2 (vp_in_nI (by omega) (by omega))) ?_
    refine WR_tL (congrArg (hL h (ad (102 + 5 * t))) ((nI_clamp (by omega)) : _ = s)) ?_
    refine WR_tL (y := v) ev ?_
    refine r_lstore (lv' := [some (.ref (ad (100 + 5 * t))), some (.int (nI s)), some (.long v), none]) rfl (Nat.le_of_ble_eq_true rfl) rfl ?_
    refine r_lload rfl rfl ?_
    refine r_aload rfl rfl ?_
    refine r_getA (b := ad (103 + 5 * t)) rfl ⟨rfl, rfl, rfl⟩ tu2 r7 ?_
    refine r_iload rfl rfl ?_
    refine r_laload rfl k3 (vp_ct l3 (vp_in_nI (by omega) (by omega))) ?_
    refine WR_tL (congrArg (hL h (ad (103 + 5 * t))) ((nI_clamp (by omega)) : _ = s)) ?_
    refine WR_tL (y := b) eb ?_
    refine r_lif_ne (tg := 33) rfl rfl rfl (fun c2 => ?_) (fun c2 => ?_)
    · refine r_ic (x := 0) rfl rfl ?_
      refine r_zret rfl (.inl rfl) ?_
      show WR _ cd_130 77 [some (.ref (ad 4)), some (.ref (ad (100 + 5 * t))), some (.int 1), some (.int (nI k)), some (.int (nI s)), some (.int 1)] [.int 0] h _
      refine r_if_ne (tg := 96) rfl rfl (fun q => absurd q (by decide)) (fun _ => ?_)
      refine r_aload rfl rfl ?_
      refine r_getA (b := ad 6) rfl ⟨rfl, rfl, rfl⟩ (fx_t4 fx) (fx_r4_7 fx) ?_
      refine r_iload rfl rfl ?_
      refine r_aload rfl rfl ?_
      refine r_getA (b := ad (102 + 5 * t)) rfl ⟨rfl, rfl, rfl⟩ tu2 r6 ?_
      refine r_iload rfl rfl ?_
      refine r_laload rfl k2 (vp_ct l2 (vp_in_nI (by omega) (by omega))) ?_
      refine WR_tL (congrArg (hL h (ad (102 + 5 * t))) ((nI_clamp (by omega)) : _ = s)) ?_
      refine WR_tL (y := v) ev ?_
      refine r_lastore rfl (fx_t6 fx) (vp_ct (fx_n6 fx) (vp_in_nI (by omega) (by omega))) ?_
      refine WR_h (h2 := sL h (ad 6) k v) (congrArg (fun z => sL h (ad 6) z v) ((nI_clamp (by omega)) : _ = k)) ?_
      have fx : FX n ad sa z0 (sL h (ad 6) k v) := (FX.sL fx)
      refine r_iinc (y := nI (k + 1)) (lv' := [some (.ref (ad 4)), some (.ref (ad (100 + 5 * t))), some (.int 1), some (.int (nI (k + 1))), some (.int (nI s)), some (.int 1)]) rfl rfl (nI_1 _) rfl ?_
      refine r_iinc (y := nI (s + 1)) (lv' := [some (.ref (ad 4)), some (.ref (ad (100 + 5 * t))), some (.int 1), some (.int (nI (k + 1))), some (.int (nI (s + 1))), some (.int 1)]) rfl rfl (nI_1 _) rfl ?_
      refine r_goto (tg := 26) rfl rfl ?_
      exact (K2 c1 c2)
    · refine r_lload rfl rfl ?_
      refine r_aload rfl rfl ?_
      refine r_getA (b := ad (104 + 5 * t)) rfl ⟨rfl, rfl, rfl⟩ tu2 r8 ?_
      refine r_iload rfl rfl ?_
      refine r_laload rfl k4 (vp_ct l4 (vp_in_nI (by omega) (by omega))) ?_
      refine WR_tL (congrArg (hL h (ad (104 + 5 * t))) ((nI_clamp (by omega)) : _ = s)) ?_
      refine WR_tL (y := c) ec ?_
      refine r_lif_ne (tg := 33) rfl rfl rfl (fun c3 => ?_) (fun c3 => ?_)
      · refine r_ic (x := 0) rfl rfl ?_
        refine r_zret rfl (.inl rfl) ?_
        show WR _ cd_130 77 [some (.ref (ad 4)), some (.ref (ad (100 + 5 * t))), some (.int 1), some (.int (nI k)), some (.int (nI s)), some (.int 1)] [.int 0] h _
        refine r_if_ne (tg := 96) rfl rfl (fun q => absurd q (by decide)) (fun _ => ?_)
        refine r_aload rfl rfl ?_
        refine r_getA (b := ad 6) rfl ⟨rfl, rfl, rfl⟩ (fx_t4 fx) (fx_r4_7 fx) ?_
        refine r_iload rfl rfl ?_
        refine r_aload rfl rfl ?_
        refine r_getA (b := ad (102 + 5 * t)) rfl ⟨rfl, rfl, rfl⟩ tu2 r6 ?_
        refine r_iload rfl rfl ?_
        refine r_laload rfl k2 (vp_ct l2 (vp_in_nI (by omega) (by omega))) ?_
        refine WR_tL (congrArg (hL h (ad (102 + 5 * t))) ((nI_clamp (by omega)) : _ = s)) ?_
        refine WR_tL (y := v) ev ?_
        refine r_lastore rfl (fx_t6 fx) (vp_ct (fx_n6 fx) (vp_in_nI (by omega) (by omega))) ?_
        refine WR_h (h2 := sL h (ad 6) k v) (congrArg (fun z => sL h (ad 6) z v) ((nI_clamp (by omega)) : _ = k)) ?_
        have fx : FX n ad sa z0 (sL h (ad 6) k v) := (FX.sL fx)
        refine r_iinc (y := nI (k + 1)) (lv' := [some (.ref (ad 4)), some (.ref (ad (100 + 5 * t))), some (.int 1), some (.int (nI (k + 1))), some (.int (nI s)), some (.int 1)]) rfl rfl (nI_1 _) rfl ?_
        refine r_iinc (y := nI (s + 1)) (lv' := [some (.ref (ad 4)), some (.ref (ad (100 + 5 * t))), some (.int 1), some (.int (nI (k + 1))), some (.int (nI (s + 1))), some (.int 1)]) rfl rfl (nI_1 _) rfl ?_
        refine r_goto (tg := 26) rfl rfl ?_
        exact (K3 c1 c2 c3)
      · refine r_ic (x := 1) rfl rfl ?_
        refine r_goto (tg := 34) rfl rfl ?_
        refine r_zret rfl (.inr rfl) ?_
        show WR _ cd_130 77 [some (.ref (ad 4)), some (.ref (ad (100 + 5 * t))), some (.int 1), some (.int (nI k)), some (.int (nI s)), some (.int 1)] [.int 1] h _
        refine r_if_ne (tg := 96) rfl rfl (fun _ => ?_) (fun q => absurd q (by decide))
        refine r_iinc (y := nI (s + 1)) (lv' := [some (.ref (ad 4)), some (.ref (ad (100 + 5 * t))), some (.int 1), some (.int (nI k)), some (.int (nI (s + 1))), some (.int 1)]) rfl rfl (nI_1 _) rfl ?_
        refine r_goto (tg := 26) rfl rfl ?_
        exact (K4 c1 c2 c3)

set_option maxHeartbeats 2000000 in
theorem w_voz {d : Nat} {Q : mQ} {n : Nat} {ad sa : Nat → Nat} {z0 : Nat} {h : mH} (fx : FX n ad sa z0 h) {t : Nat} {mf : Int32} {o5 : Option Value} 
    (L1 : Q (some (.long 9221120237041090560)) h) : WR (d) cd_130 26 [some (.ref (ad 4)), some (.ref (ad (100 + 5 * t))), some (.int mf), some (.int 0), some (.int 3), o5] [] h Q := by
  have fx0 := fx
  refine r_iload rfl rfl ?_
  refine r_ic (x := 3) rfl rfl ?_
  refine r_icmp_ge (tg := 102) rfl rfl (fun _ => ?_) (fun q => absurd q (by decide))
  refine r_iload rfl rfl ?_
  refine r_if_ne (tg := 110) rfl rfl (fun q => absurd q (by decide)) (fun _ => ?_)
  refine r_ldc (x := .long 9221120237041090560) rfl rfl ?_
  refine r_lret rfl ?_
  exact (L1)

set_option maxHeartbeats 2000000 in
theorem w_vok {d : Nat} {Q : mQ} {n : Nat} {ad sa : Nat → Nat} {z0 : Nat} {h : mH} (fx : FX n ad sa z0 h) {t k : Nat} (k1 : 1 ≤ k) (k3 : k ≤ 3) {mf : Int32} {o5 : Option Value} 
    (C1 : EV (d) 81 [.ref (ad 6), .int (nI k)] h (fun v_ h_ => WR (d) cd_130 118 [some (.ref (ad 4)), some (.ref (ad (100 + 5 * t))), some (.int mf), some (.int (nI k)), some (.int 3), o5] (v_.toList ++ []) h_ Q)) : WR (d) cd_130 26 [some (.ref (ad 4)), some (.ref (ad (100 + 5 * t))), some (.int mf), some (.int (nI k)), some (.int 3), o5] [] h Q := by
  have fx0 := fx
  refine r_iload rfl rfl ?_
  refine r_ic (x := 3) rfl rfl ?_
  refine r_icmp_ge (tg := 102) rfl rfl (fun _ => ?_) (fun q => absurd q (by decide))
  refine r_iload rfl rfl ?_
  refine r_if_ne (tg := 110) rfl rfl (fun _ => ?_) (fun q => False.elim (by have : (nI k).toInt = ((k : Nat) : Int) := nI_toInt (by omega); have : (0 : Int32).toInt = 0 := rfl; have := i_eq q; omega))
  refine r_aload rfl rfl ?_
  refine r_getA (b := ad 6) rfl ⟨rfl, rfl, rfl⟩ (fx_t4 fx) (fx_r4_7 fx) ?_
  refine r_iload rfl rfl ?_
  refine r_cs (y := 81) (ra := [.int (nI k), .ref (ad 6)]) (rest := []) rfl ⟨⟨rfl, rfl⟩, by decide⟩ rfl rfl (Nat.le_of_ble_eq_true rfl) ?_
  exact (C1)

set_option maxHeartbeats 2000000 in
theorem w_vor {d : Nat} {Q : mQ} {n : Nat} {ad sa : Nat → Nat} {z0 : Nat} {h : mH} (fx : FX n ad sa z0 h) {t k : Nat} (k1 : 1 ≤ k) (k3 : k ≤ 3) {mf : Int32} {o4 o5 : Option Value} 
    (L1 : Q (some (.long (hL h (ad 6) ((k - 1) / 2)))) h) : WR (d) cd_130 118 [some (.ref (ad 4)), some (.ref (ad (100 + 5 * t))), some (.int mf), some (.int (nI k)), o4, o5] [] h Q := by
  have fx0 := fx
  refine r_aload rfl rfl ?_
  refine r_getA (b := ad 6) rfl ⟨rfl, rfl, rfl⟩ (fx_t4 fx) (fx_r4_7 fx) ?_
  refine r_iload rfl rfl ?_
  refine r_ic (x := 1) rfl rfl ?_
  refine r_isub rfl ?_
  refine WR_tI (y := nI (k - 1)) (Eq.trans (pk_sub (a := k) (b := 1) (by omega)) (congrArg nI (by omega))) ?_
  refine r_ic (x := 2) rfl rfl ?_
  refine r_idiv rfl (by decide) ?_
  refine WR_tI (y := nI ((k - 1) / 2)) (pk_div (by omega) (by decide) (by decide)) ?_
  refine r_laload rfl (fx_t6 fx) (vp_ct (fx_n6 fx) (vp_in_nI (by omega) (by omega))) ?_
  refine WR_tL (congrArg (hL h (ad 6)) ((nI_clamp (by omega)) : _ = ((k - 1) / 2))) ?_
  refine r_lret rfl ?_
  exact (L1)

set_option maxHeartbeats 2000000 in
theorem w_mv0 {d : Nat} {Q : mQ} {n : Nat} {ad sa : Nat → Nat} {z0 : Nat} {h : mH} (fx : FX n ad sa z0 h) {t : Nat} 
    (K1 : WR (d) cd_236 7 [some (.ref (ad 30)), some (.int (nI t)), some (.int 0), none, none, none, none, none, none] [] (sI h (ad 30) 17 0) Q) : EV (d + 1) 236 [.ref (ad 30), .int (nI t)] h Q := by
  have fx0 := fx
  refine in_236 (Nat.le_of_ble_eq_true rfl) ?_
  show WR _ cd_236 0 [some (.ref (ad 30)), some (.int (nI t)), none, none, none, none, none, none, none] [] h _
  refine r_aload rfl rfl ?_
  refine r_ic (x := 0) rfl rfl ?_
  refine r_putI rfl ⟨rfl, rfl, rfl⟩ (fx_t30 fx) ?_
  have fx : FX n ad sa z0 (sI h (ad 30) 17 0) := (FX.sI fx)
  refine r_ic (x := 0) rfl rfl ?_
  refine r_istore (lv' := [some (.ref (ad 30)), some (.int (nI t)), some (.int 0), none, none, none, none, none, none]) rfl (Nat.le_of_ble_eq_true rfl) rfl ?_
  exact (K1)

set_option maxHeartbeats 2000000 in
theorem w_mvs {d : Nat} {Q : mQ} {n : Nat} {ad sa : Nat → Nat} {z0 : Nat} {h : mH} (fx : FX n ad sa z0 h) {t : Nat} (t6 : t < 6) {s : Nat} (s3 : s < 3) {v : UInt64} (ev : hD h (ad 63) (3 * t + s) = v) {o3 o4 o5 o6 o7 o8 : Option Value} 
    (C1 : EV (d) 198 [.double v] h (fun v_ h_ => WR (d) cd_236 27 [some (.ref (ad 30)), some (.int (nI t)), some (.int (nI s)), some (.double v), none, o5, o6, o7, o8] (v_.toList ++ []) h_ Q)) : WR (d) cd_236 7 [some (.ref (ad 30)), some (.int (nI t)), some (.int (nI s)), o3, o4, o5, o6, o7, o8] [] h Q := by
  have fx0 := fx
  refine r_iload rfl rfl ?_
  refine r_ic (x := 3) rfl rfl ?_
  refine r_icmp_ge (tg := 180) rfl rfl (fun q => False.elim (by have : (nI s).toInt = ((s : Nat) : Int) := nI_toInt (by omega); have : (3 : Int32).toInt = 3 := rfl; have := i_le q; omega)) (fun _ => ?_)
  refine r_aload rfl rfl ?_
  refine r_getA (b := ad 63) rfl ⟨rfl, rfl, rfl⟩ (fx_t30 fx) (fx_r30_50 fx) ?_
  refine r_ic (x := 3) rfl rfl ?_
  refine r_iload rfl rfl ?_
  refine r_imul rfl ?_
  refine WR_tI (y := nI (3 * t)) (Eq.trans (pk_mul 3 t) (congrArg nI (by omega))) ?_
  refine r_iload rfl rfl ?_
  refine r_iadd rfl ?_
  refine WR_tI (y := nI (3 * t + s)) (Eq.trans (nI_add (3 * t) s) (congrArg nI (by omega))) ?_
  refine r_daload rfl (fx_t63 fx) (vp_ct (fx_n63 fx) (vp_in_nI (by omega) (by omega))) ?_
  refine WR_tD (congrArg (hD h (ad 63)) ((nI_clamp (by omega)) : _ = 3 * t + s)) ?_
  refine WR_tD (y := v) ev ?_
  refine r_dstore (lv' := [some (.ref (ad 30)), some (.int (nI t)), some (.int (nI s)), some (.double v), none, o5, o6, o7, o8]) rfl (Nat.le_of_ble_eq_true rfl) rfl ?_
  refine r_dload rfl rfl ?_
  refine r_cs (y := 198) (ra := [.double v]) (rest := []) rfl ⟨⟨rfl, rfl⟩, by decide⟩ rfl rfl (Nat.le_of_ble_eq_true rfl) ?_
  exact (C1)

set_option maxHeartbeats 2000000 in
theorem w_mv10 {d : Nat} {Q : mQ} {n : Nat} {ad sa : Nat → Nat} {z0 : Nat} {h : mH} (fx : FX n ad sa z0 h) {t : Nat} (t6 : t < 6) {s k st : Nat} (s3 : s < 3) (ks : k ≤ 3) (s2 : st ≤ 30000) {v : UInt64} {b b1 b2 : Int64} {sl : Int32} (e62 : hI h (ad 30) 62 = 0) (e63 : hI h (ad 30) 63 = nI st) (e17 : hI h (ad 30) 17 = nI k) (w1 : hL h (ad 64) (3 * t + s) = b1) (w2 : hL h (ad 65) (3 * t + s) = b2) (es : hI h (ad 57) (5 * t + s) = sl) {o5 o6 o7 o8 : Option Value} 
    (K1 : sl < 0 → WR (d) cd_236 174 [some (.ref (ad 30)), some (.int (nI t)), some (.int (nI s)), some (.double v), none, some (.long b), none, some (.int 1), o8] [] h Q)
    (K2 : ¬ sl < 0 → ¬ deq v v → WR (d) cd_236 174 [some (.ref (ad 30)), some (.int (nI t)), some (.int (nI s)), some (.double v), none, some (.long b), none, some (.int 1), o8] [] h Q)
    (K3 : ¬ sl < 0 → deq v v → WR (d) cd_236 113 [some (.ref (ad 30)), some (.int (nI t)), some (.int (nI s)), some (.double v), none, some (.long b), none, some (.int 1), some (.int (nI k))] [] h Q) : WR (d) cd_236 27 [some (.ref (ad 30)), some (.int (nI t)), some (.int (nI s)), some (.double v), none, o5, o6, o7, o8] [.long b] h Q := by
  have fx0 := fx
  refine r_lstore (lv' := [some (.ref (ad 30)), some (.int (nI t)), some (.int (nI s)), some (.double v), none, some (.long b), none, o7, o8]) rfl (Nat.le_of_ble_eq_true rfl) rfl ?_
  refine r_aload rfl rfl ?_
  refine r_getZ rfl ⟨rfl, rfl, rfl⟩ (fx_t30 fx) ?_
  refine WR_tI (y := 0) e62 ?_
  refine r_if_eq (tg := 76) rfl rfl (fun _ => ?_) (fun q => absurd q (by decide))
  refine r_ic (x := 1) rfl rfl ?_
  refine r_goto (tg := 81) rfl rfl ?_
  refine r_istore (lv' := [some (.ref (ad 30)), some (.int (nI t)), some (.int (nI s)), some (.double v), none, some (.long b), none, some (.int 1), o8]) rfl (Nat.le_of_ble_eq_true rfl) rfl ?_
  refine r_aload rfl rfl ?_
  refine r_getA (b := ad 57) rfl ⟨rfl, rfl, rfl⟩ (fx_t30 fx) (fx_r30_41 fx) ?_
  refine r_ic (x := 5) rfl rfl ?_
  refine r_iload rfl rfl ?_
  refine r_imul rfl ?_
  refine WR_tI (y := nI (5 * t)) (Eq.trans (pk_mul 5 t) (congrArg nI (by omega))) ?_
  refine r_iload rfl rfl ?_
  refine r_iadd rfl ?_
  refine WR_tI (y := nI (5 * t + s)) (Eq.trans (nI_add (5 * t) s) (congrArg nI (by omega))) ?_
  refine r_iaload rfl (.inl (fx_t57 fx)) (vp_ct (fx_n57 fx) (vp_in_nI (by omega) (by omega))) ?_
  refine WR_tI (congrArg (hI h (ad 57)) ((nI_clamp (by omega)) : _ = 5 * t + s)) ?_
  refine WR_tI (y := sl) es ?_
  refine r_if_lt (tg := 174) rfl rfl (fun c1 => ?_) (fun c1 => ?_)
  · exact (K1 c1)
  · refine r_dload rfl rfl ?_
    refine r_dload rfl rfl ?_
    refine r_dlif_ne (tg := 174) rfl rfl rfl (fun c2 => ?_) (fun c2 => ?_)
    · exact (K2 c1 c2)
    · refine r_iload rfl rfl ?_
      refine r_if_eq (tg := 174) rfl rfl (fun q => absurd q (by decide)) (fun _ => ?_)
      refine r_aload rfl rfl ?_
      refine r_getI rfl ⟨rfl, rfl, rfl⟩ (fx_t30 fx) ?_
      refine WR_tI (y := nI k) e17 ?_
      refine r_istore (lv' := [some (.ref (ad 30)), some (.int (nI t)), some (.int (nI s)), some (.double v), none, some (.long b), none, some (.int 1), some (.int (nI k))]) rfl (Nat.le_of_ble_eq_true rfl) rfl ?_
      exact (K3 c1 c2)

set_option maxHeartbeats 2000000 in
theorem w_mv11 {d : Nat} {Q : mQ} {n : Nat} {ad sa : Nat → Nat} {z0 : Nat} {h : mH} (fx : FX n ad sa z0 h) {t : Nat} (t6 : t < 6) {s k st : Nat} (s3 : s < 3) (ks : k ≤ 3) (s2 : st ≤ 30000) {v : UInt64} {b b1 b2 : Int64} {sl : Int32} (e62 : hI h (ad 30) 62 = 1) (e63 : hI h (ad 30) 63 = nI st) (e17 : hI h (ad 30) 17 = nI k) (w1 : hL h (ad 64) (3 * t + s) = b1) (w2 : hL h (ad 65) (3 * t + s) = b2) (es : hI h (ad 57) (5 * t + s) = sl) {o5 o6 o7 o8 : Option Value} 
    (K1 : (nI st) < 2 → sl < 0 → WR (d) cd_236 174 [some (.ref (ad 30)), some (.int (nI t)), some (.int (nI s)), some (.double v), none, some (.long b), none, some (.int 1), o8] [] h Q)
    (K2 : (nI st) < 2 → ¬ sl < 0 → ¬ deq v v → WR (d) cd_236 174 [some (.ref (ad 30)), some (.int (nI t)), some (.int (nI s)), some (.double v), none, some (.long b), none, some (.int 1), o8] [] h Q)
    (K3 : (nI st) < 2 → ¬ sl < 0 → deq v v → WR (d) cd_236 113 [some (.ref (ad 30)), some (.int (nI t)), some (.int (nI s)), some (.double v), none, some (.long b), none, some (.int 1), some (.int (nI k))] [] h Q)
    (K4 : ¬ (nI st) < 2 → ¬ b = b1 → sl < 0 → WR (d) cd_236 174 [some (.ref (ad 30)), some (.int (nI t)), some (.int (nI s)), some (.double v), none, some (.long b), none, some (.int 1), o8] [] h Q)
    (K5 : ¬ (nI st) < 2 → ¬ b = b1 → ¬ sl < 0 → ¬ deq v v → WR (d) cd_236 174 [some (.ref (ad 30)), some (.int (nI t)), some (.int (nI s)), some (.double v), none, some (.long b), none, some (.int 1), o8] [] h Q)
    (K6 : ¬ (nI st) < 2 → ¬ b = b1 → ¬ sl < 0 → deq v v → WR (d) cd_236 113 [some (.ref (ad 30)), some (.int (nI t)), some (.int (nI s)), some (.double v), none, some (.long b), none, some (.int 1), some (.int (nI k))] [] h Q)
    (K7 : ¬ (nI st) < 2 → b = b1 → b = b2 → sl < 0 → WR (d) cd_236 174 [some (.ref (ad 30)), some (.int (nI t)), some (.int (nI s)), some (.double v), none, some (.long b), none, some (.int 0), o8] [] h Q)
    (K8 : ¬ (nI st) < 2 → b = b1 → b = b2 → ¬ sl < 0 → ¬ deq v v → WR (d) cd_236 174 [some (.ref (ad 30)), some (.int (nI t)), some (.int (nI s)), some (.double v), none, some (.long b), none, some (.int 0), o8] [] h Q)
    (K9 : ¬ (nI st) < 2 → b = b1 → b = b2 → ¬ sl < 0 → deq v v → WR (d) cd_236 174 [some (.ref (ad 30)), some (.int (nI t)), some (.int (nI s)), some (.double v), none, some (.long b), none, some (.int 0), o8] [] h Q)
    (K10 : ¬ (nI st) < 2 → b = b1 → ¬ b = b2 → sl < 0 → WR (d) cd_236 174 [some (.ref (ad 30)), some (.int (nI t)), some (.int (nI s)), some (.double v), none, some (.long b), none, some (.int 1), o8] [] h Q)
    (K11 : ¬ (nI st) < 2 → b = b1 → ¬ b = b2 → ¬ sl < 0 → ¬ deq v v → WR (d) cd_236 174 [some (.ref (ad 30)), some (.int (nI t)), some (.int (nI s)), some (.double v), none, some (.long b), none, some (.int 1), o8] [] h Q)
    (K12 : ¬ (nI st) < 2 → b = b1 → ¬ b = b2 → ¬ sl < 0 → deq v v → WR (d) cd_236 113 [some (.ref (ad 30)), some (.int (nI t)), some (.int (nI s)), some (.double v), none, some (.long b), none, some (.int 1), some (.int (nI k))] [] h Q) : WR (d) cd_236 27 [some (.ref (ad 30)), some (.int (nI t)), some (.int (nI s)), some (.double v), none, o5, o6, o7, o8] [.long b] h Q := by
  have fx0 := fx
  refine r_lstore (lv' := [some (.ref (ad 30)), some (.int (nI t)), some (.int (nI s)), some (.double v), none, some (.long b), none, o7, o8]) rfl (Nat.le_of_ble_eq_true rfl) rfl ?_
  refine r_aload rfl rfl ?_
  refine r_getZ rfl ⟨rfl, rfl, rfl⟩ (fx_t30 fx) ?_
  refine WR_tI (y := 1) e62 ?_
  refine r_if_eq (tg := 76) rfl rfl (fun q => absurd q (by decide)) (fun _ => ?_)
  refine r_aload rfl rfl ?_
  refine r_getI rfl ⟨rfl, rfl, rfl⟩ (fx_t30 fx) ?_
  refine WR_tI (y := nI st) e63 ?_
  refine r_ic (x := 2) rfl rfl ?_
  refine r_icmp_lt (tg := 76) rfl rfl (fun c1 => ?_) (fun c1 => ?_)
  · refine r_ic (x := 1) rfl rfl ?_
    refine r_goto (tg := 81) rfl rfl ?_
    refine r_istore (lv' := [some (.ref (ad 30)), some (.int (nI t)), some (.int (nI s)), some (.double v), none, some (.long b), none, some (.int 1), o8]) rfl (Nat.le_of_ble_eq_true rfl) rfl ?_
    refine r_aload rfl rfl ?_
    refine r_getA (b := ad 57) rfl ⟨rfl, rfl, rfl⟩ (fx_t30 fx) (fx_r30_41 fx) ?_
    refine r_ic (x := 5) rfl rfl ?_
    refine r_iload rfl rfl ?_
    refine r_imul rfl ?_
    refine WR_tI (y := nI (5 * t)) (Eq.trans (pk_mul 5 t) (congrArg nI (by omega))) ?_
    refine r_iload rfl rfl ?_
    refine r_iadd rfl ?_
    refine WR_tI (y := nI (5 * t + s)) (Eq.trans (nI_add (5 * t) s) (congrArg nI (by omega))) ?_
    refine r_iaload rfl (.inl (fx_t57 fx)) (vp_ct (fx_n57 fx) (vp_in_nI (by omega) (by omega))) ?_
    refine WR_tI (congrArg (hI h (ad 57)) ((nI_clamp (by omega)) : _ = 5 * t + s)) ?_
    refine WR_tI (y := sl) es ?_
    refine r_if_lt (tg := 174) rfl rfl (fun c2 => ?_) (fun c2 => ?_)
    · exact (K1 c1 c2)
    · refine r_dload rfl rfl ?_
      refine r_dload rfl rfl ?_
      refine r_dlif_ne (tg := 174) rfl rfl rfl (fun c3 => ?_) (fun c3 => ?_)
      · exact (K2 c1 c2 c3)
      · refine r_iload rfl rfl ?_
        refine r_if_eq (tg := 174) rfl rfl (fun q => absurd q (by decide)) (fun _ => ?_)
        refine r_aload rfl rfl ?_
        refine r_getI rfl ⟨rfl, rfl, rfl⟩ (fx_t30 fx) ?_
        refine WR_tI (y := nI k) e17 ?_
        refine r_istore (lv' := [some (.ref (ad 30)), some (.int (nI t)), some (.int (nI s)), some (.double v), none, some (.long b), none, some (.int 1), some (.int (nI k))]) rfl (Nat.le_of_ble_eq_true rfl) rfl ?_
        exact (K3 c1 c2 c3)
  · refine r_lload rfl rfl ?_
    refine r_aload rfl rfl ?_
    refine r_getA (b := ad 64) rfl ⟨rfl, rfl, rfl⟩ (fx_t30 fx) (fx_r30_51 fx) ?_
    refine r_ic (x := 3) rfl rfl ?_
    refine r_iload rfl rfl ?_
    refine r_imul rfl ?_
    refine WR_tI (y := nI (3 * t)) (Eq.trans (pk_mul 3 t) (congrArg nI (by omega))) ?_
    refine r_iload rfl rfl ?_
    refine r_iadd rfl ?_
    refine WR_tI (y := nI (3 * t + s)) (Eq.trans (nI_add (3 * t) s) (congrArg nI (by omega))) ?_
    refine r_laload rfl (fx_t64 fx) (vp_ct (fx_n64 fx) (vp_in_nI (by omega) (by omega))) ?_
    refine WR_tL (congrArg (hL h (ad 64)) ((nI_clamp (by omega)) : _ = 3 * t + s)) ?_
    refine WR_tL (y := b1) w1 ?_
    refine r_lif_ne (tg := 76) rfl rfl rfl (fun c4 => ?_) (fun c4 => ?_)
    · refine r_ic (x := 1) rfl rfl ?_
      refine r_goto (tg := 81) rfl rfl ?_
      refine r_istore (lv' := [some (.ref (ad 30)), some (.int (nI t)), some (.int (nI s)), some (.double v), none, some (.long b), none, some (.int 1), o8]) rfl (Nat.le_of_ble_eq_true rfl) rfl ?_
      refine r_aload rfl rfl ?_
      refine r_getA (b := ad 57) rfl ⟨rfl, rfl, rfl⟩ (fx_t30 fx) (fx_r30_41 fx) ?_
      refine r_ic (x := 5) rfl rfl ?_
      refine r_iload rfl rfl ?_
      refine r_imul rfl ?_
      refine WR_tI (y := nI (5 * t)) (Eq.trans (pk_mul 5 t) (congrArg nI (by omega))) ?_
      refine r_iload rfl rfl ?_
      refine r_iadd rfl ?_
      refine WR_tI (y := nI (5 * t + s)) (Eq.trans (nI_add (5 * t) s) (congrArg nI (by omega))) ?_
      refine r_iaload rfl (.inl (fx_t57 fx)) (vp_ct (fx_n57 fx) (vp_in_nI (by omega) (by omega))) ?_
      refine WR_tI (congrArg (hI h (ad 57)) ((nI_clamp (by omega)) : _ = 5 * t + s)) ?_
      refine WR_tI (y := sl) es ?_
      refine r_if_lt (tg := 174) rfl rfl (fun c5 => ?_) (fun c5 => ?_)
      · exact (K4 c1 c4 c5)
      · refine r_dload rfl rfl ?_
        refine r_dload rfl rfl ?_
        refine r_dlif_ne (tg := 174) rfl rfl rfl (fun c6 => ?_) (fun c6 => ?_)
        · exact (K5 c1 c4 c5 c6)
        · refine r_iload rfl rfl ?_
          refine r_if_eq (tg := 174) rfl rfl (fun q => absurd q (by decide)) (fun _ => ?_)
          refine r_aload rfl rfl ?_
          refine r_getI rfl ⟨rfl, rfl, rfl⟩ (fx_t30 fx) ?_
          refine WR_tI (y := nI k) e17 ?_
          refine r_istore (lv' := [some (.ref (ad 30)), some (.int (nI t)), some (.int (nI s)), some (.double v), none, some (.long b), none, some (.int 1), some (.int (nI k))]) rfl (Nat.le_of_ble_eq_true rfl) rfl ?_
          exact (K6 c1 c4 c5 c6)
    · refine r_lload rfl rfl ?_
      refine r_aload rfl rfl ?_
      refine r_getA (b := ad 65) rfl ⟨rfl, rfl, rfl⟩ (fx_t30 fx) (fx_r30_52 fx) ?_
      refine r_ic (x := 3) rfl rfl ?_
      refine r_iload rfl rfl ?_
      refine r_imul rfl ?_
      refine WR_tI (y := nI (3 * t)) (Eq.trans (pk_mul 3 t) (congrArg nI (by omega))) ?_
      refine r_iload rfl rfl ?_
      refine r_iadd rfl ?_
      refine WR_tI (y := nI (3 * t + s)) (Eq.trans (nI_add (3 * t) s) (congrArg nI (by omega))) ?_
      refine r_laload rfl (fx_t65 fx) (vp_ct (fx_n65 fx) (vp_in_nI (by omega) (by omega))) ?_
      refine WR_tL (congrArg (hL h (ad 65)) ((nI_clamp (by omega)) : _ = 3 * t + s)) ?_
      refine WR_tL (y := b2) w2 ?_
      refine r_lif_eq (tg := 80) rfl rfl rfl (fun c7 => ?_) (fun c7 => ?_)
      · refine r_ic (x := 0) rfl rfl ?_
        refine r_istore (lv' := [some (.ref (ad 30)), some (.int (nI t)), some (.int (nI s)), some (.double v), none, some (.long b), none, some (.int 0), o8]) rfl (Nat.le_of_ble_eq_true rfl) rfl ?_
        refine r_aload rfl rfl ?_
        refine r_getA (b := ad 57) rfl ⟨rfl, rfl, rfl⟩ (fx_t30 fx) (fx_r30_41 fx) ?_
        refine r_ic (x := 5) rfl rfl ?_
        refine r_iload rfl rfl ?_
        refine r_imul rfl ?_
        refine WR_tI (y := nI (5 * t)) (Eq.trans (pk_mul 5 t) (congrArg nI (by omega))) ?_
        refine r_iload rfl rfl ?_
        refine r_iadd rfl ?_
        refine WR_tI (y := nI (5 * t + s)) (Eq.trans (nI_add (5 * t) s) (congrArg nI (by omega))) ?_
        refine r_iaload rfl (.inl (fx_t57 fx)) (vp_ct (fx_n57 fx) (vp_in_nI (by omega) (by omega))) ?_
        refine WR_tI (congrArg (hI h (ad 57)) ((nI_clamp (by omega)) : _ = 5 * t + s)) ?_
        refine WR_tI (y := sl) es ?_
        refine r_if_lt (tg := 174) rfl rfl (fun c8 => ?_) (fun c8 => ?_)
        · exact (K7 c1 c4 c7 c8)
        · refine r_dload rfl rfl ?_
          refine r_dload rfl rfl ?_
          refine r_dlif_ne (tg := 174) rfl rfl rfl (fun c9 => ?_) (fun c9 => ?_)
          · exact (K8 c1 c4 c7 c8 c9)
          · refine r_iload rfl rfl ?_
            refine r_if_eq (tg := 174) rfl rfl (fun _ => ?_) (fun q => absurd q (by decide))
            exact (K9 c1 c4 c7 c8 c9)
      · refine r_ic (x := 1) rfl rfl ?_
        refine r_goto (tg := 81) rfl rfl ?_
        refine r_istore (lv' := [some (.ref (ad 30)), some (.int (nI t)), some (.int (nI s)), some (.double v), none, some (.long b), none, some (.int 1), o8]) rfl (Nat.le_of_ble_eq_true rfl) rfl ?_
        refine r_aload rfl rfl ?_
        refine r_getA (b := ad 57) rfl ⟨rfl, rfl, rfl⟩ (fx_t30 fx) (fx_r30_41 fx) ?_
        refine r_ic (x := 5) rfl rfl ?_
        refine r_iload rfl rfl ?_
        refine r_imul rfl ?_
        refine WR_tI (y := nI (5 * t)) (Eq.trans (pk_mul 5 t) (congrArg nI (by omega))) ?_
        refine r_iload rfl rfl ?_
        refine r_iadd rfl ?_
        refine WR_tI (y := nI (5 * t + s)) (Eq.trans (nI_add (5 * t) s) (congrArg nI (by omega))) ?_
        refine r_iaload rfl (.inl (fx_t57 fx)) (vp_ct (fx_n57 fx) (vp_in_nI (by omega) (by omega))) ?_
        refine WR_tI (congrArg (hI h (ad 57)) ((nI_clamp (by omega)) : _ = 5 * t + s)) ?_
        refine WR_tI (y := sl) es ?_
        refine r_if_lt (tg := 174) rfl rfl (fun c10 => ?_) (fun c10 => ?_)
        · exact (K10 c1 c4 c7 c10)
        · refine r_dload rfl rfl ?_
          refine r_dload rfl rfl ?_
          refine r_dlif_ne (tg := 174) rfl rfl rfl (fun c11 => ?_) (fun c11 => ?_)
          · exact (K11 c1 c4 c7 c10 c11)
          · refine r_iload rfl rfl ?_
            refine r_if_eq (tg := 174) rfl rfl (fun q => absurd q (by decide)) (fun _ => ?_)
            refine r_aload rfl rfl ?_
            refine r_getI rfl ⟨rfl, rfl, rfl⟩ (fx_t30 fx) ?_
            refine WR_tI (y := nI k) e17 ?_
            refine r_istore (lv' := [some (.ref (ad 30)), some (.int (nI t)), some (.int (nI s)), some (.double v), none, some (.long b), none, some (.int 1), some (.int (nI k))]) rfl (Nat.le_of_ble_eq_true rfl) rfl ?_
            exact (K12 c1 c4 c7 c10 c11)

set_option maxHeartbeats 2000000 in
theorem w_mv2z {d : Nat} {Q : mQ} {n : Nat} {ad sa : Nat → Nat} {z0 : Nat} {h : mH} (fx : FX n ad sa z0 h) {t s : Nat} {v : UInt64} {b : Int64} {mv : Int32} {k : Nat} (k3 : k ≤ 3) (e17 : hI h (ad 30) 17 = nI k) 
    (K1 : WR (d) cd_236 174 [some (.ref (ad 30)), some (.int (nI t)), some (.int (nI s)), some (.double v), none, some (.long b), none, some (.int mv), some (.int 0)] [] (sI (sD h (ad 42) 0 v) (ad 30) 17 (nI (k + 1))) Q) : WR (d) cd_236 113 [some (.ref (ad 30)), some (.int (nI t)), some (.int (nI s)), some (.double v), none, some (.long b), none, some (.int mv), some (.int 0)] [] h Q := by
  have fx0 := fx
  refine r_iload rfl rfl ?_
  refine r_if_le (tg := 156) rfl rfl (fun _ => ?_) (fun q => absurd q (by decide))
  refine r_aload rfl rfl ?_
  refine r_getA (b := ad 42) rfl ⟨rfl, rfl, rfl⟩ (fx_t30 fx) (fx_r30_16 fx) ?_
  refine r_iload rfl rfl ?_
  refine r_dload rfl rfl ?_
  refine r_dastore rfl (fx_t42 fx) (vp_ct (fx_n42 fx) (vp_in_nI (n := 0) (by omega) (by omega))) ?_
  refine WR_h (h2 := sD h (ad 42) 0 v) (congrArg (fun z => sD h (ad 42) z v) (rfl : _ = 0)) ?_
  have fx : FX n ad sa z0 (sD h (ad 42) 0 v) := (FX.sD fx)
  refine r_aload rfl rfl ?_
  refine r_dup rfl rfl ?_
  refine r_getI rfl ⟨rfl, rfl, rfl⟩ (fx_t30 fx) ?_
  refine WR_tI (y := nI k) (Eq.trans I_oD e17) ?_
  refine r_ic (x := 1) rfl rfl ?_
  refine r_iadd rfl ?_
  refine WR_tI (y := nI (k + 1)) (Eq.trans (nI_add k 1) (congrArg nI (by omega))) ?_
  refine r_putI rfl ⟨rfl, rfl, rfl⟩ (fx_t30 fx) ?_
  exact (K1)

set_option maxHeartbeats 2000000 in
theorem w_mv2 {d : Nat} {Q : mQ} {n : Nat} {ad sa : Nat → Nat} {z0 : Nat} {h : mH} (fx : FX n ad sa z0 h) {t s : Nat} {v : UInt64} {b : Int64} {mv : Int32} {r : Nat} (r1 : 1 ≤ r) (r3 : r < 3) 
    (C1 : EV (d) 196 [.double v, .double (hD h (ad 42) (r - 1))] h (fun v_ h_ => WR (d) cd_236 131 [some (.ref (ad 30)), some (.int (nI t)), some (.int (nI s)), some (.double v), none, some (.long b), none, some (.int mv), some (.int (nI r))] (v_.toList ++ []) h_ Q)) : WR (d) cd_236 113 [some (.ref (ad 30)), some (.int (nI t)), some (.int (nI s)), some (.double v), none, some (.long b), none, some (.int mv), some (.int (nI r))] [] h Q := by
  have fx0 := fx
  refine r_iload rfl rfl ?_
  refine r_if_le (tg := 156) rfl rfl (fun q => False.elim (by have : (nI r).toInt = ((r : Nat) : Int) := nI_toInt (by omega); have : (0 : Int32).toInt = 0 := rfl; have := i_le q; omega)) (fun _ => ?_)
  refine r_dload rfl rfl ?_
  refine r_aload rfl rfl ?_
  refine r_getA (b := ad 42) rfl ⟨rfl, rfl, rfl⟩ (fx_t30 fx) (fx_r30_16 fx) ?_
  refine r_iload rfl rfl ?_
  refine r_ic (x := 1) rfl rfl ?_
  refine r_isub rfl ?_
  refine WR_tI (y := nI (r - 1)) (Eq.trans (pk_sub (a := r) (b := 1) (by omega)) (congrArg nI (by omega))) ?_
  refine r_daload rfl (fx_t42 fx) (vp_ct (fx_n42 fx) (vp_in_nI (by omega) (by omega))) ?_
  refine WR_tD (congrArg (hD h (ad 42)) ((nI_clamp (by omega)) : _ = r - 1)) ?_
  refine r_cs (y := 196) (ra := [.double (hD h (ad 42) (r - 1)), .double v]) (rest := []) rfl ⟨⟨rfl, rfl⟩, by decide⟩ rfl rfl (Nat.le_of_ble_eq_true rfl) ?_
  exact (C1)

set_option maxHeartbeats 2000000 in
theorem w_mv3y {d : Nat} {Q : mQ} {n : Nat} {ad sa : Nat → Nat} {z0 : Nat} {h : mH} (fx : FX n ad sa z0 h) {t s : Nat} {v : UInt64} {b : Int64} {mv : Int32} {r : Nat} (r1 : 1 ≤ r) (r3 : r < 3) 
    (K1 : WR (d) cd_236 113 [some (.ref (ad 30)), some (.int (nI t)), some (.int (nI s)), some (.double v), none, some (.long b), none, some (.int mv), some (.int (nI (r - 1)))] [] (sD h (ad 42) r (hD h (ad 42) (r - 1))) Q) : WR (d) cd_236 131 [some (.ref (ad 30)), some (.int (nI t)), some (.int (nI s)), some (.double v), none, some (.long b), none, some (.int mv), some (.int (nI r))] [.int 1] h Q := by
  have fx0 := fx
  refine r_if_eq (tg := 156) rfl rfl (fun q => absurd q (by decide)) (fun _ => ?_)
  refine r_aload rfl rfl ?_
  refine r_getA (b := ad 42) rfl ⟨rfl, rfl, rfl⟩ (fx_t30 fx) (fx_r30_16 fx) ?_
  refine r_iload rfl rfl ?_
  refine r_aload rfl rfl ?_
  refine r_getA (b := ad 42) rfl ⟨rfl, rfl, rfl⟩ (fx_t30 fx) (fx_r30_16 fx) ?_
  refine r_iload rfl rfl ?_
  refine r_ic (x := 1) rfl rfl ?_
  refine r_isub rfl ?_
  refine WR_tI (y := nI (r - 1)) (Eq.trans (pk_sub (a := r) (b := 1) (by omega)) (congrArg nI (by omega))) ?_
  refine r_daload rfl (fx_t42 fx) (vp_ct (fx_n42 fx) (vp_in_nI (by omega) (by omega))) ?_
  refine WR_tD (congrArg (hD h (ad 42)) ((nI_clamp (by omega)) : _ = r - 1)) ?_
  refine r_dastore rfl (fx_t42 fx) (vp_ct (fx_n42 fx) (vp_in_nI (by omega) (by omega))) ?_
  refine WR_h (h2 := sD h (ad 42) r (hD h (ad 42) (r - 1))) (congrArg (fun z => sD h (ad 42) z (hD h (ad 42) (r - 1))) ((nI_clamp (by omega)) : _ = r)) ?_
  have fx : FX n ad sa z0 (sD h (ad 42) r (hD h (ad 42) (r - 1))) := (FX.sD fx)
  refine r_iinc (y := nI (r - 1)) (lv' := [some (.ref (ad 30)), some (.int (nI t)), some (.int (nI s)), some (.double v), none, some (.long b), none, some (.int mv), some (.int (nI (r - 1)))]) rfl rfl (nI_dec (by omega)) rfl ?_
  refine r_goto (tg := 113) rfl rfl ?_
  exact (K1)

set_option maxHeartbeats 2000000 in
theorem w_mv3n {d : Nat} {Q : mQ} {n : Nat} {ad sa : Nat → Nat} {z0 : Nat} {h : mH} (fx : FX n ad sa z0 h) {t s : Nat} {v : UInt64} {b : Int64} {mv : Int32} {r k : Nat} (r3 : r < 3) (k3 : k ≤ 3) (e17 : hI h (ad 30) 17 = nI k) 
    (K1 : WR (d) cd_236 174 [some (.ref (ad 30)), some (.int (nI t)), some (.int (nI s)), some (.double v), none, some (.long b), none, some (.int mv), some (.int (nI r))] [] (sI (sD h (ad 42) r v) (ad 30) 17 (nI (k + 1))) Q) : WR (d) cd_236 131 [some (.ref (ad 30)), some (.int (nI t)), some (.int (nI s)), some (.double v), none, some (.long b), none, some (.int mv), some (.int (nI r))] [.int 0] h Q := by
  have fx0 := fx
  refine r_if_eq (tg := 156) rfl rfl (fun _ => ?_) (fun q => absurd q (by decide))
  refine r_aload rfl rfl ?_
  refine r_getA (b := ad 42) rfl ⟨rfl, rfl, rfl⟩ (fx_t30 fx) (fx_r30_16 fx) ?_
  refine r_iload rfl rfl ?_
  refine r_dload rfl rfl ?_
  refine r_dastore rfl (fx_t42 fx) (vp_ct (fx_n42 fx) (vp_in_nI (by omega) (by omega))) ?_
  refine WR_h (h2 := sD h (ad 42) r v) (congrArg (fun z => sD h (ad 42) z v) ((nI_clamp (by omega)) : _ = r)) ?_
  have fx : FX n ad sa z0 (sD h (ad 42) r v) := (FX.sD fx)
  refine r_aload rfl rfl ?_
  refine r_dup rfl rfl ?_
  refine r_getI rfl ⟨rfl, rfl, rfl⟩ (fx_t30 fx) ?_
  refine WR_tI (y := nI k) (Eq.trans I_oD e17) ?_
  refine r_ic (x := 1) rfl rfl ?_
  refine r_iadd rfl ?_
  refine WR_tI (y := nI (k + 1)) (Eq.trans (nI_add k 1) (congrArg nI (by omega))) ?_
  refine r_putI rfl ⟨rfl, rfl, rfl⟩ (fx_t30 fx) ?_
  exact (K1)

set_option maxHeartbeats 2000000 in
theorem w_mv4 {d : Nat} {Q : mQ} {n : Nat} {ad sa : Nat → Nat} {z0 : Nat} {h : mH} (fx : FX n ad sa z0 h) {t s : Nat} (s3 : s < 3) {o3 o4 o5 o6 o7 o8 : Option Value} 
    (K1 : WR (d) cd_236 7 [some (.ref (ad 30)), some (.int (nI t)), some (.int (nI (s + 1))), o3, o4, o5, o6, o7, o8] [] h Q) : WR (d) cd_236 174 [some (.ref (ad 30)), some (.int (nI t)), some (.int (nI s)), o3, o4, o5, o6, o7, o8] [] h Q := by
  have fx0 := fx
  refine r_iinc (y := nI (s + 1)) (lv' := [some (.ref (ad 30)), some (.int (nI t)), some (.int (nI (s + 1))), o3, o4, o5, o6, o7, o8]) rfl rfl (nI_1 _) rfl ?_
  refine r_goto (tg := 7) rfl rfl ?_
  exact (K1)

set_option maxHeartbeats 2000000 in
theorem w_mvz {d : Nat} {Q : mQ} {n : Nat} {ad sa : Nat → Nat} {z0 : Nat} {h : mH} (fx : FX n ad sa z0 h) {t : Nat} (e17 : hI h (ad 30) 17 = 0) {o3 o4 o5 o6 o7 o8 : Option Value} 
    (L1 : Q (some (.double ((9221120237041090560 : Int64).toUInt64))) h) : WR (d) cd_236 7 [some (.ref (ad 30)), some (.int (nI t)), some (.int 3), o3, o4, o5, o6, o7, o8] [] h Q := by
  have fx0 := fx
  refine r_iload rfl rfl ?_
  refine r_ic (x := 3) rfl rfl ?_
  refine r_icmp_ge (tg := 180) rfl rfl (fun _ => ?_) (fun q => absurd q (by decide))
  refine r_aload rfl rfl ?_
  refine r_getI rfl ⟨rfl, rfl, rfl⟩ (fx_t30 fx) ?_
  refine WR_tI (y := 0) e17 ?_
  refine r_if_ne (tg := 196) rfl rfl (fun q => absurd q (by decide)) (fun _ => ?_)
  refine r_ldc (x := .long 9221120237041090560) rfl rfl ?_
  refine r_l2dn rfl (by decide) (Nat.le_of_ble_eq_true rfl) ?_
  refine r_goto (tg := 209) rfl rfl ?_
  refine r_dret rfl ?_
  exact (L1)

set_option maxHeartbeats 2000000 in
theorem w_mvk {d : Nat} {Q : mQ} {n : Nat} {ad sa : Nat → Nat} {z0 : Nat} {h : mH} (fx : FX n ad sa z0 h) {t k : Nat} (k1 : 1 ≤ k) (k3 : k ≤ 3) (e17 : hI h (ad 30) 17 = nI k) {o3 o4 o5 o6 o7 o8 : Option Value} 
    (L1 : Q (some (.double (hD h (ad 42) ((k - 1) / 2)))) h) : WR (d) cd_236 7 [some (.ref (ad 30)), some (.int (nI t)), some (.int 3), o3, o4, o5, o6, o7, o8] [] h Q := by
  have fx0 := fx
  refine r_iload rfl rfl ?_
  refine r_ic (x := 3) rfl rfl ?_
  refine r_icmp_ge (tg := 180) rfl rfl (fun _ => ?_) (fun q => absurd q (by decide))
  refine r_aload rfl rfl ?_
  refine r_getI rfl ⟨rfl, rfl, rfl⟩ (fx_t30 fx) ?_
  refine WR_tI (y := nI k) e17 ?_
  refine r_if_ne (tg := 196) rfl rfl (fun _ => ?_) (fun q => False.elim (by have : (nI k).toInt = ((k : Nat) : Int) := nI_toInt (by omega); have : (0 : Int32).toInt = 0 := rfl; have := i_eq q; omega))
  refine r_aload rfl rfl ?_
  refine r_getA (b := ad 42) rfl ⟨rfl, rfl, rfl⟩ (fx_t30 fx) (fx_r30_16 fx) ?_
  refine r_aload rfl rfl ?_
  refine r_getI rfl ⟨rfl, rfl, rfl⟩ (fx_t30 fx) ?_
  refine WR_tI (y := nI k) e17 ?_
  refine r_ic (x := 1) rfl rfl ?_
  refine r_isub rfl ?_
  refine WR_tI (y := nI (k - 1)) (Eq.trans (pk_sub (a := k) (b := 1) (by omega)) (congrArg nI (by omega))) ?_
  refine r_ic (x := 2) rfl rfl ?_
  refine r_idiv rfl (by decide) ?_
  refine WR_tI (y := nI ((k - 1) / 2)) (pk_div (by omega) (by decide) (by decide)) ?_
  refine r_daload rfl (fx_t42 fx) (vp_ct (fx_n42 fx) (vp_in_nI (by omega) (by omega))) ?_
  refine WR_tD (congrArg (hD h (ad 42)) ((nI_clamp (by omega)) : _ = ((k - 1) / 2))) ?_
  refine r_dret rfl ?_
  exact (L1)

/-! ===== walks of the class's steps of an act; printed ===== -/
set_option maxHeartbeats 2000000 in
theorem w_c0n {d : Nat} {Q : mQ} {n : Nat} {ad sa : Nat → Nat} {z0 : Nat} {h : mH} (fx : FX n ad sa z0 h) {A dp : Nat} (hA : A + 3 < 640) (f5 : hR h (ad 9) 5 = some (ad 1)) (f6 : hR h (ad 9) 6 = some (ad 7)) {a : Nat} (ha : a < 24) {b c : Int32} (r1 : hR h (ad 1) a = none) (s0 : hI h (ad 10) A = 0) (s1 : hI h (ad 10) (A + 1) = nI a) (s2 : hI h (ad 10) (A + 2) = b) (s3 : hI h (ad 10) (A + 3) = c) 
    (L1 : Q (some (.int (-11))) h) : EV (d + 2) 102 [.ref (ad 9), .int (nI A), .int (nI dp)] h Q := by
  have fx0 := fx
  refine in_102 (Nat.le_of_ble_eq_true rfl) ?_
  show WR _ cd_102 0 [some (.ref (ad 9)), some (.int (nI A)), some (.int (nI dp)), none, none, none] [] h _
  refine r_aload rfl rfl ?_
  refine r_getA (b := ad 10) rfl ⟨rfl, rfl, rfl⟩ (fx_t9 fx) (fx_r9_0 fx) ?_
  refine r_iload rfl rfl ?_
  refine r_ic (x := 1) rfl rfl ?_
  refine r_iadd rfl ?_
  refine WR_tI (y := nI (A + 1)) (Eq.trans (nI_add A 1) (congrArg nI (by omega))) ?_
  refine r_iaload rfl (.inl (fx_t10 fx)) (vp_ct (fx_n10 fx) (vp_in_nI (by omega) (by omega))) ?_
  refine WR_tI (congrArg (hI h (ad 10)) ((nI_clamp (by omega)) : _ = A + 1)) ?_
  refine WR_tI (y := nI a) s1 ?_
  refine r_istore (lv' := [some (.ref (ad 9)), some (.int (nI A)), some (.int (nI dp)), some (.int (nI a)), none, none]) rfl (Nat.le_of_ble_eq_true rfl) rfl ?_
  refine r_aload rfl rfl ?_
  refine r_getA (b := ad 10) rfl ⟨rfl, rfl, rfl⟩ (fx_t9 fx) (fx_r9_0 fx) ?_
  refine r_iload rfl rfl ?_
  refine r_ic (x := 2) rfl rfl ?_
  refine r_iadd rfl ?_
  refine WR_tI (y := nI (A + 2)) (Eq.trans (nI_add A 2) (congrArg nI (by omega))) ?_
  refine r_iaload rfl (.inl (fx_t10 fx)) (vp_ct (fx_n10 fx) (vp_in_nI (by omega) (by omega))) ?_
  refine WR_tI (congrArg (hI h (ad 10)) ((nI_clamp (by omega)) : _ = A + 2)) ?_
  refine WR_tI (y := b) s2 ?_
  refine r_istore (lv' := [some (.ref (ad 9)), some (.int (nI A)), some (.int (nI dp)), some (.int (nI a)), some (.int b), none]) rfl (Nat.le_of_ble_eq_true rfl) rfl ?_
  refine r_aload rfl rfl ?_
  refine r_getA (b := ad 10) rfl ⟨rfl, rfl, rfl⟩ (fx_t9 fx) (fx_r9_0 fx) ?_
  refine r_iload rfl rfl ?_
  refine r_ic (x := 3) rfl rfl ?_
  refine r_iadd rfl ?_
  refine WR_tI (y := nI (A + 3)) (Eq.trans (nI_add A 3) (congrArg nI (by omega))) ?_
  refine r_iaload rfl (.inl (fx_t10 fx)) (vp_ct (fx_n10 fx) (vp_in_nI (by omega) (by omega))) ?_
  refine WR_tI (congrArg (hI h (ad 10)) ((nI_clamp (by omega)) : _ = A + 3)) ?_
  refine WR_tI (y := c) s3 ?_
  refine r_istore (lv' := [some (.ref (ad 9)), some (.int (nI A)), some (.int (nI dp)), some (.int (nI a)), some (.int b), some (.int c)]) rfl (Nat.le_of_ble_eq_true rfl) rfl ?_
  refine r_aload rfl rfl ?_
  refine r_getA (b := ad 10) rfl ⟨rfl, rfl, rfl⟩ (fx_t9 fx) (fx_r9_0 fx) ?_
  refine r_iload rfl rfl ?_
  refine r_iaload rfl (.inl (fx_t10 fx)) (vp_ct (fx_n10 fx) (vp_in_nI (by omega) (by omega))) ?_
  refine WR_tI (congrArg (hI h (ad 10)) ((nI_clamp (by omega)) : _ = A)) ?_
  refine WR_tI (y := 0) s0 ?_
  refine r_tswL (tg := 100) rfl (by decide) ?_
  refine r_aload rfl rfl ?_
  refine r_iload rfl rfl ?_
  refine r_cv (y := 103) (ra := [.int (nI a)]) (rest := []) rfl ⟨⟨rfl, rfl⟩, rfl, by decide⟩ (fx_t9 fx) rfl rfl (Nat.le_of_ble_eq_true rfl) ?_
  refine in_103 (Nat.le_of_ble_eq_true rfl) ?_
  show WR _ cd_103 0 [some (.ref (ad 9)), some (.int (nI a))] [] h _
  refine r_aload rfl rfl ?_
  refine r_getA (b := ad 1) rfl ⟨rfl, rfl, rfl⟩ (fx_t9 fx) f5 ?_
  refine r_iload rfl rfl ?_
  refine r_aaload0 rfl (isQ_of (fx_t1 fx) (by decide)) (vp_ct (fx_n1 fx) (vp_in_nI (by omega) (by omega))) (Eq.trans (congrArg (hR h (ad 1)) ((nI_clamp (by omega)) : _ = a)) r1) ?_
  refine r_ifnonnullN (tg := 12) rfl rfl ?_
  refine r_ic (x := (-11)) rfl rfl ?_
  refine r_iret rfl ?_
  show WR _ cd_102 105 [some (.ref (ad 9)), some (.int (nI A)), some (.int (nI dp)), some (.int (nI a)), some (.int b), some (.int c)] [.int (-11)] h _
  refine r_iret rfl ?_
  exact (L1)

set_option maxHeartbeats 2000000 in
theorem w_c0s {d : Nat} {Q : mQ} {n : Nat} {ad sa : Nat → Nat} {z0 : Nat} {h : mH} (fx : FX n ad sa z0 h) {A dp : Nat} (hA : A + 3 < 640) (f5 : hR h (ad 9) 5 = some (ad 1)) (f6 : hR h (ad 9) 6 = some (ad 7)) {a H x : Nat} (ha : a < 24) {b c : Int32} (hH : H < 100) (ox : okE 24 (hT h x)) (r1 : hR h (ad 1) a = some x) (eh : hI h (ad 13) 2 = nI H) (s0 : hI h (ad 10) A = 0) (s1 : hI h (ad 10) (A + 1) = nI a) (s2 : hI h (ad 10) (A + 2) = b) (s3 : hI h (ad 10) (A + 3) = c) 
    (L1 : Q (some (.int 0)) (sR (sI (sI (sR h (ad 14) H (some x)) (ad 15) H (nI a)) (ad 13) 2 (nI (H + 1))) (ad 1) a none)) : EV (d + 3) 102 [.ref (ad 9), .int (nI A), .int (nI dp)] h Q := by
  have fx0 := fx
  refine in_102 (Nat.le_of_ble_eq_true rfl) ?_
  show WR _ cd_102 0 [some (.ref (ad 9)), some (.int (nI A)), some (.int (nI dp)), none, none, none] [] h _
  refine r_aload rfl rfl ?_
  refine r_getA (b := ad 10) rfl ⟨rfl, rfl, rfl⟩ (fx_t9 fx) (fx_r9_0 fx) ?_
  refine r_iload rfl rfl ?_
  refine r_ic (x := 1) rfl rfl ?_
  refine r_iadd rfl ?_
  refine WR_tI (y := nI (A + 1)) (Eq.trans (nI_add A 1) (congrArg nI (by omega))) ?_
  refine r_iaload rfl (.inl (fx_t10 fx)) (vp_ct (fx_n10 fx) (vp_in_nI (by omega) (by omega))) ?_
  refine WR_tI (congrArg (hI h (ad 10)) ((nI_clamp (by omega)) : _ = A + 1)) ?_
  refine WR_tI (y := nI a) s1 ?_
  refine r_istore (lv' := [some (.ref (ad 9)), some (.int (nI A)), some (.int (nI dp)), some (.int (nI a)), none, none]) rfl (Nat.le_of_ble_eq_true rfl) rfl ?_
  refine r_aload rfl rfl ?_
  refine r_getA (b := ad 10) rfl ⟨rfl, rfl, rfl⟩ (fx_t9 fx) (fx_r9_0 fx) ?_
  refine r_iload rfl rfl ?_
  refine r_ic (x := 2) rfl rfl ?_
  refine r_iadd rfl ?_
  refine WR_tI (y := nI (A + 2)) (Eq.trans (nI_add A 2) (congrArg nI (by omega))) ?_
  refine r_iaload rfl (.inl (fx_t10 fx)) (vp_ct (fx_n10 fx) (vp_in_nI (by omega) (by omega))) ?_
  refine WR_tI (congrArg (hI h (ad 10)) ((nI_clamp (by omega)) : _ = A + 2)) ?_
  refine WR_tI (y := b) s2 ?_
  refine r_istore (lv' := [some (.ref (ad 9)), some (.int (nI A)), some (.int (nI dp)), some (.int (nI a)), some (.int b), none]) rfl (Nat.le_of_ble_eq_true rfl) rfl ?_
  refine r_aload rfl rfl ?_
  refine r_getA (b := ad 10) rfl ⟨rfl, rfl, rfl⟩ (fx_t9 fx) (fx_r9_0 fx) ?_
  refine r_iload rfl rfl ?_
  refine r_ic (x := 3) rfl rfl ?_
  refine r_iadd rfl ?_
  refine WR_tI (y := nI (A + 3)) (Eq.trans (nI_add A 3) (congrArg nI (by omega))) ?_
  refine r_iaload rfl (.inl (fx_t10 fx)) (vp_ct (fx_n10 fx) (vp_in_nI (by omega) (by omega))) ?_
  refine WR_tI (congrArg (hI h (ad 10)) ((nI_clamp (by omega)) : _ = A + 3)) ?_
  refine WR_tI (y := c) s3 ?_
  refine r_istore (lv' := [some (.ref (ad 9)), some (.int (nI A)), some (.int (nI dp)), some (.int (nI a)), some (.int b), some (.int c)]) rfl (Nat.le_of_ble_eq_true rfl) rfl ?_
  refine r_aload rfl rfl ?_
  refine r_getA (b := ad 10) rfl ⟨rfl, rfl, rfl⟩ (fx_t9 fx) (fx_r9_0 fx) ?_
  refine r_iload rfl rfl ?_
  refine r_iaload rfl (.inl (fx_t10 fx)) (vp_ct (fx_n10 fx) (vp_in_nI (by omega) (by omega))) ?_
  refine WR_tI (congrArg (hI h (ad 10)) ((nI_clamp (by omega)) : _ = A)) ?_
  refine WR_tI (y := 0) s0 ?_
  refine r_tswL (tg := 100) rfl (by decide) ?_
  refine r_aload rfl rfl ?_
  refine r_iload rfl rfl ?_
  refine r_cv (y := 103) (ra := [.int (nI a)]) (rest := []) rfl ⟨⟨rfl, rfl⟩, rfl, by decide⟩ (fx_t9 fx) rfl rfl (Nat.le_of_ble_eq_true rfl) ?_
  refine in_103 (Nat.le_of_ble_eq_true rfl) ?_
  show WR _ cd_103 0 [some (.ref (ad 9)), some (.int (nI a))] [] h _
  refine r_aload rfl rfl ?_
  refine r_getA (b := ad 1) rfl ⟨rfl, rfl, rfl⟩ (fx_t9 fx) f5 ?_
  refine r_iload rfl rfl ?_
  refine r_aaloadA (b := x) rfl (isQ_of (fx_t1 fx) (by decide)) (vp_ct (fx_n1 fx) (vp_in_nI (by omega) (by omega))) (Eq.trans (congrArg (hR h (ad 1)) ((nI_clamp (by omega)) : _ = a)) r1) ?_
  refine r_ifnonnullA (tg := 12) rfl rfl ?_
  refine r_aload rfl rfl ?_
  refine r_getA (b := ad 13) rfl ⟨rfl, rfl, rfl⟩ (fx_t9 fx) (fx_r9_3 fx) ?_
  refine r_aload rfl rfl ?_
  refine r_getA (b := ad 1) rfl ⟨rfl, rfl, rfl⟩ (fx_t9 fx) f5 ?_
  refine r_iload rfl rfl ?_
  refine r_aaloadA (b := x) rfl (isQ_of (fx_t1 fx) (by decide)) (vp_ct (fx_n1 fx) (vp_in_nI (by omega) (by omega))) (Eq.trans (congrArg (hR h (ad 1)) ((nI_clamp (by omega)) : _ = a)) r1) ?_
  refine r_iload rfl rfl ?_
  refine r_cv (y := 104) (ra := [.int (nI a), .ref x]) (rest := []) rfl ⟨⟨rfl, rfl⟩, rfl, by decide⟩ (fx_t13 fx) rfl rfl (Nat.le_of_ble_eq_true rfl) ?_
  refine in_104 (Nat.le_of_ble_eq_true rfl) ?_
  show WR _ cd_104 0 [some (.ref (ad 13)), some (.ref x), some (.int (nI a))] [] h _
  refine r_aload rfl rfl ?_
  refine r_getI rfl ⟨rfl, rfl, rfl⟩ (fx_t13 fx) ?_
  refine WR_tI (y := nI H) eh ?_
  refine r_aload rfl rfl ?_
  refine r_getA (b := ad 14) rfl ⟨rfl, rfl, rfl⟩ (fx_t13 fx) (fx_r13_0 fx) ?_
  refine r_alen rfl (isA_of (fx_t14 fx) (by decide)) ?_
  refine WR_tI (y := 100) (congrArg nI (fx_n14 fx)) ?_
  refine r_icmp_ge (tg := 42) rfl rfl (fun q => False.elim (by have : (nI H).toInt = ((H : Nat) : Int) := nI_toInt (by omega); have : (100 : Int32).toInt = 100 := rfl; have := i_le q; omega)) (fun _ => ?_)
  refine r_aload rfl rfl ?_
  refine r_getA (b := ad 14) rfl ⟨rfl, rfl, rfl⟩ (fx_t13 fx) (fx_r13_0 fx) ?_
  refine r_aload rfl rfl ?_
  refine r_getI rfl ⟨rfl, rfl, rfl⟩ (fx_t13 fx) ?_
  refine WR_tI (y := nI H) eh ?_
  refine r_aload rfl rfl ?_
  refine r_aastoreA rfl (isQ_of (fx_t14 fx) (by decide)) (vp_ct (fx_n14 fx) (vp_in_nI (by omega) (by omega))) (okR_or (fx_t14 fx) ox) ?_
  refine WR_h (h2 := sR h (ad 14) H (some x)) (congrArg (fun z => sR h (ad 14) z (some x)) ((nI_clamp (by omega)) : _ = H)) ?_
  have fx : FX n ad sa z0 (sR h (ad 14) H (some x)) := FX.sRA (i := 14) fx (.inl (by decide)) (by decide)
  refine r_aload rfl rfl ?_
  refine r_getA (b := ad 15) rfl ⟨rfl, rfl, rfl⟩ (fx_t13 fx) (fx_r13_1 fx) ?_
  refine r_aload rfl rfl ?_
  refine r_getI rfl ⟨rfl, rfl, rfl⟩ (fx_t13 fx) ?_
  refine WR_tI (y := nI H) (Eq.trans I_oR eh) ?_
  refine r_iload rfl rfl ?_
  refine r_iastore rfl (fx_t15 fx) (vp_ct (fx_n15 fx) (vp_in_nI (by omega) (by omega))) ?_
  refine WR_h (h2 := sI (sR h (ad 14) H (some x)) (ad 15) H (nI a)) (congrArg (fun z => sI (sR h (ad 14) H (some x)) (ad 15) z (nI a)) ((nI_clamp (by omega)) : _ = H)) ?_
  have fx : FX n ad sa z0 (sI (sR h (ad 14) H (some x)) (ad 15) H (nI a)) := (FX.sI fx)
  refine r_aload rfl rfl ?_
  refine r_dup rfl rfl ?_
  refine r_getI rfl ⟨rfl, rfl, rfl⟩ (fx_t13 fx) ?_
  refine WR_tI (y := nI H) (Eq.trans (I_ne (fx_ne fx (by decide))) (Eq.trans I_oR eh)) ?_
  refine r_ic (x := 1) rfl rfl ?_
  refine r_iadd rfl ?_
  refine WR_tI (y := nI (H + 1)) (Eq.trans (nI_add H 1) (congrArg nI (by omega))) ?_
  refine r_putI rfl ⟨rfl, rfl, rfl⟩ (fx_t13 fx) ?_
  have fx : FX n ad sa z0 (sI (sI (sR h (ad 14) H (some x)) (ad 15) H (nI a)) (ad 13) 2 (nI (H + 1))) := (FX.sI fx)
  refine r_vret rfl ?_
  show WR _ cd_103 26 [some (.ref (ad 9)), some (.int (nI a))] [] (sI (sI (sR h (ad 14) H (some x)) (ad 15) H (nI a)) (ad 13) 2 (nI (H + 1))) _
  refine r_aload rfl rfl ?_
  refine r_getA (b := ad 1) rfl ⟨rfl, rfl, rfl⟩ (fx_t9 fx) (Eq.trans R_oI (Eq.trans R_oI (Eq.trans (R_ne (fx_ne fx (by decide))) f5))) ?_
  refine r_iload rfl rfl ?_
  refine r_null rfl ?_
  refine r_aastore0 rfl (isQ_of (fx_t1 fx) (by decide)) (vp_ct (fx_n1 fx) (vp_in_nI (by omega) (by omega))) (fun _ q => by cases q) ?_
  refine WR_h (h2 := sR (sI (sI (sR h (ad 14) H (some x)) (ad 15) H (nI a)) (ad 13) 2 (nI (H + 1))) (ad 1) a none) (congrArg (fun z => sR (sI (sI (sR h (ad 14) H (some x)) (ad 15) H (nI a)) (ad 13) 2 (nI (H + 1))) (ad 1) z none) ((nI_clamp (by omega)) : _ = a)) ?_
  have fx : FX n ad sa z0 (sR (sI (sI (sR h (ad 14) H (some x)) (ad 15) H (nI a)) (ad 13) 2 (nI (H + 1))) (ad 1) a none) := FX.sRA (i := 1) fx (.inl (by decide)) (by decide)
  refine r_ic (x := 0) rfl rfl ?_
  refine r_iret rfl ?_
  show WR _ cd_102 105 [some (.ref (ad 9)), some (.int (nI A)), some (.int (nI dp)), some (.int (nI a)), some (.int b), some (.int c)] [.int 0] (sR (sI (sI (sR h (ad 14) H (some x)) (ad 15) H (nI a)) (ad 13) 2 (nI (H + 1))) (ad 1) a none) _
  refine r_iret rfl ?_
  exact (L1)

set_option maxHeartbeats 2000000 in
theorem w_c1z {d : Nat} {Q : mQ} {n : Nat} {ad sa : Nat → Nat} {z0 : Nat} {h : mH} (fx : FX n ad sa z0 h) {A dp : Nat} (hA : A + 3 < 640) (f5 : hR h (ad 9) 5 = some (ad 1)) (f6 : hR h (ad 9) 6 = some (ad 7)) {a : Nat} (ha : a < 24) {b c : Int32} (eh : hI h (ad 13) 2 = 0) (s0 : hI h (ad 10) A = 1) (s1 : hI h (ad 10) (A + 1) = nI a) (s2 : hI h (ad 10) (A + 2) = b) (s3 : hI h (ad 10) (A + 3) = c) 
    (L1 : Q (some (.int (-11))) h) : EV (d + 3) 102 [.ref (ad 9), .int (nI A), .int (nI dp)] h Q := by
  have fx0 := fx
  refine in_102 (Nat.le_of_ble_eq_true rfl) ?_
  show WR _ cd_102 0 [some (.ref (ad 9)), some (.int (nI A)), some (.int (nI dp)), none, none, none] [] h _
  refine r_aload rfl rfl ?_
  refine r_getA (b := ad 10) rfl ⟨rfl, rfl, rfl⟩ (fx_t9 fx) (fx_r9_0 fx) ?_
  refine r_iload rfl rfl ?_
  refine r_ic (x := 1) rfl rfl ?_
  refine r_iadd rfl ?_
  refine WR_tI (y := nI (A + 1)) (Eq.trans (nI_add A 1) (congrArg nI (by omega))) ?_
  refine r_iaload rfl (.inl (fx_t10 fx)) (vp_ct (fx_n10 fx) (vp_in_nI (by omega) (by omega))) ?_
  refine WR_tI (congrArg (hI h (ad 10)) ((nI_clamp (by omega)) : _ = A + 1)) ?_
  refine WR_tI (y := nI a) s1 ?_
  refine r_istore (lv' := [some (.ref (ad 9)), some (.int (nI A)), some (.int (nI dp)), some (.int (nI a)), none, none]) rfl (Nat.le_of_ble_eq_true rfl) rfl ?_
  refine r_aload rfl rfl ?_
  refine r_getA (b := ad 10) rfl ⟨rfl, rfl, rfl⟩ (fx_t9 fx) (fx_r9_0 fx) ?_
  refine r_iload rfl rfl ?_
  refine r_ic (x := 2) rfl rfl ?_
  refine r_iadd rfl ?_
  refine WR_tI (y := nI (A + 2)) (Eq.trans (nI_add A 2) (congrArg nI (by omega))) ?_
  refine r_iaload rfl (.inl (fx_t10 fx)) (vp_ct (fx_n10 fx) (vp_in_nI (by omega) (by omega))) ?_
  refine WR_tI (congrArg (hI h (ad 10)) ((nI_clamp (by omega)) : _ = A + 2)) ?_
  refine WR_tI (y := b) s2 ?_
  refine r_istore (lv' := [some (.ref (ad 9)), some (.int (nI A)), some (.int (nI dp)), some (.int (nI a)), some (.int b), none]) rfl (Nat.le_of_ble_eq_true rfl) rfl ?_
  refine r_aload rfl rfl ?_
  refine r_getA (b := ad 10) rfl ⟨rfl, rfl, rfl⟩ (fx_t9 fx) (fx_r9_0 fx) ?_
  refine r_iload rfl rfl ?_
  refine r_ic (x := 3) rfl rfl ?_
  refine r_iadd rfl ?_
  refine WR_tI (y := nI (A + 3)) (Eq.trans (nI_add A 3) (congrArg nI (by omega))) ?_
  refine r_iaload rfl (.inl (fx_t10 fx)) (vp_ct (fx_n10 fx) (vp_in_nI (by omega) (by omega))) ?_
  refine WR_tI (congrArg (hI h (ad 10)) ((nI_clamp (by omega)) : _ = A + 3)) ?_
  refine WR_tI (y := c) s3 ?_
  refine r_istore (lv' := [some (.ref (ad 9)), some (.int (nI A)), some (.int (nI dp)), some (.int (nI a)), some (.int b), some (.int c)]) rfl (Nat.le_of_ble_eq_true rfl) rfl ?_
  refine r_aload rfl rfl ?_
  refine r_getA (b := ad 10) rfl ⟨rfl, rfl, rfl⟩ (fx_t9 fx) (fx_r9_0 fx) ?_
  refine r_iload rfl rfl ?_
  refine r_iaload rfl (.inl (fx_t10 fx)) (vp_ct (fx_n10 fx) (vp_in_nI (by omega) (by omega))) ?_
  refine WR_tI (congrArg (hI h (ad 10)) ((nI_clamp (by omega)) : _ = A)) ?_
  refine WR_tI (y := 1) s0 ?_
  refine r_tswL (tg := 106) rfl (by decide) ?_
  refine r_aload rfl rfl ?_
  refine r_iload rfl rfl ?_
  refine r_cv (y := 105) (ra := [.int (nI a)]) (rest := []) rfl ⟨⟨rfl, rfl⟩, rfl, by decide⟩ (fx_t9 fx) rfl rfl (Nat.le_of_ble_eq_true rfl) ?_
  refine in_105 (Nat.le_of_ble_eq_true rfl) ?_
  show WR _ cd_105 0 [some (.ref (ad 9)), some (.int (nI a)), none] [] h _
  refine r_aload rfl rfl ?_
  refine r_getA (b := ad 13) rfl ⟨rfl, rfl, rfl⟩ (fx_t9 fx) (fx_r9_3 fx) ?_
  refine r_cv (y := 106) (ra := []) (rest := []) rfl ⟨⟨rfl, rfl⟩, rfl, by decide⟩ (fx_t13 fx) rfl rfl (Nat.le_of_ble_eq_true rfl) ?_
  refine in_106 (Nat.le_of_ble_eq_true rfl) ?_
  show WR _ cd_106 0 [some (.ref (ad 13))] [] h _
  refine r_aload rfl rfl ?_
  refine r_getI rfl ⟨rfl, rfl, rfl⟩ (fx_t13 fx) ?_
  refine WR_tI (y := 0) eh ?_
  refine r_if_le (tg := 21) rfl rfl (fun _ => ?_) (fun q => absurd q (by decide))
  refine r_null rfl ?_
  refine r_aret0 rfl ?_
  show WR _ cd_105 7 [some (.ref (ad 9)), some (.int (nI a)), none] [.null] h _
  refine r_astore0 (lv' := [some (.ref (ad 9)), some (.int (nI a)), some (.null)]) rfl (Nat.le_of_ble_eq_true rfl) rfl ?_
  refine r_aload0 rfl rfl ?_
  refine r_ifnonnullN (tg := 15) rfl rfl ?_
  refine r_ic (x := (-11)) rfl rfl ?_
  refine r_iret rfl ?_
  show WR _ cd_102 111 [some (.ref (ad 9)), some (.int (nI A)), some (.int (nI dp)), some (.int (nI a)), some (.int b), some (.int c)] [.int (-11)] h _
  refine r_iret rfl ?_
  exact (L1)

set_option maxHeartbeats 2000000 in
theorem w_c1s {d : Nat} {Q : mQ} {n : Nat} {ad sa : Nat → Nat} {z0 : Nat} {h : mH} (fx : FX n ad sa z0 h) {A dp : Nat} (hA : A + 3 < 640) (f5 : hR h (ad 9) 5 = some (ad 1)) (f6 : hR h (ad 9) 6 = some (ad 7)) {a H x y : Nat} (ha : a < 24) {b c : Int32} (eh : hI h (ad 13) 2 = nI H) (hH1 : 1 ≤ H) (hH : H ≤ 100) (r2 : hR h (ad 14) (H - 1) = some x) (r1 : hR h (ad 1) a = some y) (s0 : hI h (ad 10) A = 1) (s1 : hI h (ad 10) (A + 1) = nI a) (s2 : hI h (ad 10) (A + 2) = b) (s3 : hI h (ad 10) (A + 3) = c) 
    (L1 : Q (some (.int (-15))) h) : EV (d + 3) 102 [.ref (ad 9), .int (nI A), .int (nI dp)] h Q := by
  have fx0 := fx
  refine in_102 (Nat.le_of_ble_eq_true rfl) ?_
  show WR _ cd_102 0 [some (.ref (ad 9)), some (.int (nI A)), some (.int (nI dp)), none, none, none] [] h _
  refine r_aload rfl rfl ?_
  refine r_getA (b := ad 10) rfl ⟨rfl, rfl, rfl⟩ (fx_t9 fx) (fx_r9_0 fx) ?_
  refine r_iload rfl rfl ?_
  refine r_ic (x := 1) rfl rfl ?_
  refine r_iadd rfl ?_
  refine WR_tI (y := nI (A + 1)) (Eq.trans (nI_add A 1) (congrArg nI (by omega))) ?_
  refine r_iaload rfl (.inl (fx_t10 fx)) (vp_ct (fx_n10 fx) (vp_in_nI (by omega) (by omega))) ?_
  refine WR_tI (congrArg (hI h (ad 10)) ((nI_clamp (by omega)) : _ = A + 1)) ?_
  refine WR_tI (y := nI a) s1 ?_
  refine r_istore (lv' := [some (.ref (ad 9)), some (.int (nI A)), some (.int (nI dp)), some (.int (nI a)), none, none]) rfl (Nat.le_of_ble_eq_true rfl) rfl ?_
  refine r_aload rfl rfl ?_
  refine r_getA (b := ad 10) rfl ⟨rfl, rfl, rfl⟩ (fx_t9 fx) (fx_r9_0 fx) ?_
  refine r_iload rfl rfl ?_
  refine r_ic (x := 2) rfl rfl ?_
  refine r_iadd rfl ?_
  refine WR_tI (y := nI (A + 2)) (Eq.trans (nI_add A 2) (congrArg nI (by omega))) ?_
  refine r_iaload rfl (.inl (fx_t10 fx)) (vp_ct (fx_n10 fx) (vp_in_nI (by omega) (by omega))) ?_
  refine WR_tI (congrArg (hI h (ad 10)) ((nI_clamp (by omega)) : _ = A + 2)) ?_
  refine WR_tI (y := b) s2 ?_
  refine r_istore (lv' := [some (.ref (ad 9)), some (.int (nI A)), some (.int (nI dp)), some (.int (nI a)), some (.int b), none]) rfl (Nat.le_of_ble_eq_true rfl) rfl ?_
  refine r_aload rfl rfl ?_
  refine r_getA (b := ad 10) rfl ⟨rfl, rfl, rfl⟩ (fx_t9 fx) (fx_r9_0 fx) ?_
  refine r_iload rfl rfl ?_
  refine r_ic (x := 3) rfl rfl ?_
  refine r_iadd rfl ?_
  refine WR_tI (y := nI (A + 3)) (Eq.trans (nI_add A 3) (congrArg nI (by omega))) ?_
  refine r_iaload rfl (.inl (fx_t10 fx)) (vp_ct (fx_n10 fx) (vp_in_nI (by omega) (by omega))) ?_
  refine WR_tI (congrArg (hI h (ad 10)) ((nI_clamp (by omega)) : _ = A + 3)) ?_
  refine WR_tI (y := c) s3 ?_
  refine r_istore (lv' := [some (.ref (ad 9)), some (.int (nI A)), some (.int (nI dp)), some (.int (nI a)), some (.int b), some (.int c)]) rfl (Nat.le_of_ble_eq_true rfl) rfl ?_
  refine r_aload rfl rfl ?_
  refine r_getA (b := ad 10) rfl ⟨rfl, rfl, rfl⟩ (fx_t9 fx) (fx_r9_0 fx) ?_
  refine r_iload rfl rfl ?_
  refine r_iaload rfl (.inl (fx_t10 fx)) (vp_ct (fx_n10 fx) (vp_in_nI (by omega) (by omega))) ?_
  refine WR_tI (congrArg (hI h (ad 10)) ((nI_clamp (by omega)) : _ = A)) ?_
  refine WR_tI (y := 1) s0 ?_
  refine r_tswL (tg := 106) rfl (by decide) ?_
  refine r_aload rfl rfl ?_
  refine r_iload rfl rfl ?_
  refine r_cv (y := 105) (ra := [.int (nI a)]) (rest := []) rfl ⟨⟨rfl, rfl⟩, rfl, by decide⟩ (fx_t9 fx) rfl rfl (Nat.le_of_ble_eq_true rfl) ?_
  refine in_105 (Nat.le_of_ble_eq_true rfl) ?_
  show WR _ cd_105 0 [some (.ref (ad 9)), some (.int (nI a)), none] [] h _
  refine r_aload rfl rfl ?_
  refine r_getA (b := ad 13) rfl ⟨rfl, rfl, rfl⟩ (fx_t9 fx) (fx_r9_3 fx) ?_
  refine r_cv (y := 106) (ra := []) (rest := []) rfl ⟨⟨rfl, rfl⟩, rfl, by decide⟩ (fx_t13 fx) rfl rfl (Nat.le_of_ble_eq_true rfl) ?_
  refine in_106 (Nat.le_of_ble_eq_true rfl) ?_
  show WR _ cd_106 0 [some (.ref (ad 13))] [] h _
  refine r_aload rfl rfl ?_
  refine r_getI rfl ⟨rfl, rfl, rfl⟩ (fx_t13 fx) ?_
  refine WR_tI (y := nI H) eh ?_
  refine r_if_le (tg := 21) rfl rfl (fun q => False.elim (by have : (nI H).toInt = ((H : Nat) : Int) := nI_toInt (by omega); have : (0 : Int32).toInt = 0 := rfl; have := i_le q; omega)) (fun _ => ?_)
  refine r_aload rfl rfl ?_
  refine r_getA (b := ad 14) rfl ⟨rfl, rfl, rfl⟩ (fx_t13 fx) (fx_r13_0 fx) ?_
  refine r_aload rfl rfl ?_
  refine r_getI rfl ⟨rfl, rfl, rfl⟩ (fx_t13 fx) ?_
  refine WR_tI (y := nI H) eh ?_
  refine r_ic (x := 1) rfl rfl ?_
  refine r_isub rfl ?_
  refine WR_tI (y := nI (H - 1)) (Eq.trans (pk_sub (a := H) (b := 1) (by omega)) (congrArg nI (by omega))) ?_
  refine r_aaloadA (b := x) rfl (isQ_of (fx_t14 fx) (by decide)) (vp_ct (fx_n14 fx) (vp_in_nI (by omega) (by omega))) (Eq.trans (congrArg (hR h (ad 14)) ((nI_clamp (by omega)) : _ = H - 1)) r2) ?_
  refine r_goto (tg := 22) rfl rfl ?_
  refine r_aret rfl ?_
  show WR _ cd_105 7 [some (.ref (ad 9)), some (.int (nI a)), none] [.ref x] h _
  refine r_astore (lv' := [some (.ref (ad 9)), some (.int (nI a)), some (.ref x)]) rfl (Nat.le_of_ble_eq_true rfl) rfl ?_
  refine r_aload rfl rfl ?_
  refine r_ifnonnullA (tg := 15) rfl rfl ?_
  refine r_aload rfl rfl ?_
  refine r_getA (b := ad 1) rfl ⟨rfl, rfl, rfl⟩ (fx_t9 fx) f5 ?_
  refine r_iload rfl rfl ?_
  refine r_aaloadA (b := y) rfl (isQ_of (fx_t1 fx) (by decide)) (vp_ct (fx_n1 fx) (vp_in_nI (by omega) (by omega))) (Eq.trans (congrArg (hR h (ad 1)) ((nI_clamp (by omega)) : _ = a)) r1) ?_
  refine r_ifnullA (tg := 27) rfl rfl ?_
  refine r_ic (x := (-15)) rfl rfl ?_
  refine r_iret rfl ?_
  show WR _ cd_102 111 [some (.ref (ad 9)), some (.int (nI A)), some (.int (nI dp)), some (.int (nI a)), some (.int b), some (.int c)] [.int (-15)] h _
  refine r_iret rfl ?_
  exact (L1)

set_option maxHeartbeats 2000000 in
theorem w_c1n {d : Nat} {Q : mQ} {n : Nat} {ad sa : Nat → Nat} {z0 : Nat} {h : mH} (fx : FX n ad sa z0 h) {A dp : Nat} (hA : A + 3 < 640) (f5 : hR h (ad 9) 5 = some (ad 1)) (f6 : hR h (ad 9) 6 = some (ad 7)) {a H x : Nat} (ha : a < 24) {b c : Int32} (eh : hI h (ad 13) 2 = nI H) (hH1 : 1 ≤ H) (hH : H ≤ 100) (r2 : hR h (ad 14) (H - 1) = some x) (ox : okE 24 (hT h x)) (r1 : hR h (ad 1) a = none) (s0 : hI h (ad 10) A = 1) (s1 : hI h (ad 10) (A + 1) = nI a) (s2 : hI h (ad 10) (A + 2) = b) (s3 : hI h (ad 10) (A + 3) = c) 
    (L1 : Q (some (.int 0)) (sI (sR h (ad 1) a (some x)) (ad 13) 2 (nI (H - 1)))) : EV (d + 3) 102 [.ref (ad 9), .int (nI A), .int (nI dp)] h Q := by
  have fx0 := fx
  refine in_102 (Nat.le_of_ble_eq_true rfl) ?_
  show WR _ cd_102 0 [some (.ref (ad 9)), some (.int (nI A)), some (.int (nI dp)), none, none, none] [] h _
  refine r_aload rfl rfl ?_
  refine r_getA (b := ad 10) rfl ⟨rfl, rfl, rfl⟩ (fx_t9 fx) (fx_r9_0 fx) ?_
  refine r_iload rfl rfl ?_
  refine r_ic (x := 1) rfl rfl ?_
  refine r_iadd rfl ?_
  refine WR_tI (y := nI (A + 1)) (Eq.trans (nI_add A 1) (congrArg nI (by omega))) ?_
  refine r_iaload rfl (.inl (fx_t10 fx)) (vp_ct (fx_n10 fx) (vp_in_nI (by omega) (by omega))) ?_
  refine WR_tI (congrArg (hI h (ad 10)) ((nI_clamp (by omega)) : _ = A + 1)) ?_
  refine WR_tI (y := nI a) s1 ?_
  refine r_istore (lv' := [some (.ref (ad 9)), some (.int (nI A)), some (.int (nI dp)), some (.int (nI a)), none, none]) rfl (Nat.le_of_ble_eq_true rfl) rfl ?_
  refine r_aload rfl rfl ?_
  refine r_getA (b := ad 10) rfl ⟨rfl, rfl, rfl⟩ (fx_t9 fx) (fx_r9_0 fx) ?_
  refine r_iload rfl rfl ?_
  refine r_ic (x := 2) rfl rfl ?_
  refine r_iadd rfl ?_
  refine WR_tI (y := nI (A + 2)) (Eq.trans (nI_add A 2) (congrArg nI (by omega))) ?_
  refine r_iaload rfl (.inl (fx_t10 fx)) (vp_ct (fx_n10 fx) (vp_in_nI (by omega) (by omega))) ?_
  refine WR_tI (congrArg (hI h (ad 10)) ((nI_clamp (by omega)) : _ = A + 2)) ?_
  refine WR_tI (y := b) s2 ?_
  refine r_istore (lv' := [some (.ref (ad 9)), some (.int (nI A)), some (.int (nI dp)), some (.int (nI a)), some (.int b), none]) rfl (Nat.le_of_ble_eq_true rfl) rfl ?_
  refine r_aload rfl rfl ?_
  refine r_getA (b := ad 10) rfl ⟨rfl, rfl, rfl⟩ (fx_t9 fx) (fx_r9_0 fx) ?_
  refine r_iload rfl rfl ?_
  refine r_ic (x := 3) rfl rfl ?_
  refine r_iadd rfl ?_
  refine WR_tI (y := nI (A + 3)) (Eq.trans (nI_add A 3) (congrArg nI (by omega))) ?_
  refine r_iaload rfl (.inl (fx_t10 fx)) (vp_ct (fx_n10 fx) (vp_in_nI (by omega) (by omega))) ?_
  refine WR_tI (congrArg (hI h (ad 10)) ((nI_clamp (by omega)) : _ = A + 3)) ?_
  refine WR_tI (y := c) s3 ?_
  refine r_istore (lv' := [some (.ref (ad 9)), some (.int (nI A)), some (.int (nI dp)), some (.int (nI a)), some (.int b), some (.int c)]) rfl (Nat.le_of_ble_eq_true rfl) rfl ?_
  refine r_aload rfl rfl ?_
  refine r_getA (b := ad 10) rfl ⟨rfl, rfl, rfl⟩ (fx_t9 fx) (fx_r9_0 fx) ?_
  refine r_iload rfl rfl ?_
  refine r_iaload rfl (.inl (fx_t10 fx)) (vp_ct (fx_n10 fx) (vp_in_nI (by omega) (by omega))) ?_
  refine WR_tI (congrArg (hI h (ad 10)) ((nI_clamp (by omega)) : _ = A)) ?_
  refine WR_tI (y := 1) s0 ?_
  refine r_tswL (tg := 106) rfl (by decide) ?_
  refine r_aload rfl rfl ?_
  refine r_iload rfl rfl ?_
  refine r_cv (y := 105) (ra := [.int (nI a)]) (rest := []) rfl ⟨⟨rfl, rfl⟩, rfl, by decide⟩ (fx_t9 fx) rfl rfl (Nat.le_of_ble_eq_true rfl) ?_
  refine in_105 (Nat.le_of_ble_eq_true rfl) ?_
  show WR _ cd_105 0 [some (.ref (ad 9)), some (.int (nI a)), none] [] h _
  refine r_aload rfl rfl ?_
  refine r_getA (b := ad 13) rfl ⟨rfl, rfl, rfl⟩ (fx_t9 fx) (fx_r9_3 fx) ?_
  refine r_cv (y := 106) (ra := []) (rest := []) rfl ⟨⟨rfl, rfl⟩, rfl, by decide⟩ (fx_t13 fx) rfl rfl (Nat.le_of_ble_eq_true rfl) ?_
  refine in_106 (Nat.le_of_ble_eq_true rfl) ?_
  show WR _ cd_106 0 [some (.ref (ad 13))] [] h _
  refine r_aload rfl rfl ?_
  refine r_getI rfl ⟨rfl, rfl, rfl⟩ (fx_t13 fx) ?_
  refine WR_tI (y := nI H) eh ?_
  refine r_if_le (tg := 21) rfl rfl (fun q => False.elim (by have : (nI H).toInt = ((H : Nat) : Int) := nI_toInt (by omega); have : (0 : Int32).toInt = 0 := rfl; have := i_le q; omega)) (fun _ => ?_)
  refine r_aload rfl rfl ?_
  refine r_getA (b := ad 14) rfl ⟨rfl, rfl, rfl⟩ (fx_t13 fx) (fx_r13_0 fx) ?_
  refine r_aload rfl rfl ?_
  refine r_getI rfl ⟨rfl, rfl, rfl⟩ (fx_t13 fx) ?_
  refine WR_tI (y := nI H) eh ?_
  refine r_ic (x := 1) rfl rfl ?_
  refine r_isub rfl ?_
  refine WR_tI (y := nI (H - 1)) (Eq.trans (pk_sub (a := H) (b := 1) (by omega)) (congrArg nI (by omega))) ?_
  refine r_aaloadA (b := x) rfl (isQ_of (fx_t14 fx) (by decide)) (vp_ct (fx_n14 fx) (vp_in_nI (by omega) (by omega))) (Eq.trans (congrArg (hR h (ad 14)) ((nI_clamp (by omega)) : _ = H - 1)) r2) ?_
  refine r_goto (tg := 22) rfl rfl ?_
  refine r_aret rfl ?_
  show WR _ cd_105 7 [some (.ref (ad 9)), some (.int (nI a)), none] [.ref x] h _
  refine r_astore (lv' := [some (.ref (ad 9)), some (.int (nI a)), some (.ref x)]) rfl (Nat.le_of_ble_eq_true rfl) rfl ?_
  refine r_aload rfl rfl ?_
  refine r_ifnonnullA (tg := 15) rfl rfl ?_
  refine r_aload rfl rfl ?_
  refine r_getA (b := ad 1) rfl ⟨rfl, rfl, rfl⟩ (fx_t9 fx) f5 ?_
  refine r_iload rfl rfl ?_
  refine r_aaload0 rfl (isQ_of (fx_t1 fx) (by decide)) (vp_ct (fx_n1 fx) (vp_in_nI (by omega) (by omega))) (Eq.trans (congrArg (hR h (ad 1)) ((nI_clamp (by omega)) : _ = a)) r1) ?_
  refine r_ifnullN (tg := 27) rfl rfl ?_
  refine r_aload rfl rfl ?_
  refine r_getA (b := ad 1) rfl ⟨rfl, rfl, rfl⟩ (fx_t9 fx) f5 ?_
  refine r_iload rfl rfl ?_
  refine r_aload rfl rfl ?_
  refine r_aastoreA rfl (isQ_of (fx_t1 fx) (by decide)) (vp_ct (fx_n1 fx) (vp_in_nI (by omega) (by omega))) (okR_or (fx_t1 fx) ox) ?_
  refine WR_h (h2 := sR h (ad 1) a (some x)) (congrArg (fun z => sR h (ad 1) z (some x)) ((nI_clamp (by omega)) : _ = a)) ?_
  have fx : FX n ad sa z0 (sR h (ad 1) a (some x)) := FX.sRA (i := 1) fx (.inl (by decide)) (by decide)
  refine r_aload rfl rfl ?_
  refine r_getA (b := ad 13) rfl ⟨rfl, rfl, rfl⟩ (fx_t9 fx) (fx_r9_3 fx) ?_
  refine r_dup rfl rfl ?_
  refine r_getI rfl ⟨rfl, rfl, rfl⟩ (fx_t13 fx) ?_
  refine WR_tI (y := nI H) (Eq.trans I_oR eh) ?_
  refine r_ic (x := 1) rfl rfl ?_
  refine r_isub rfl ?_
  refine WR_tI (y := nI (H - 1)) (Eq.trans (pk_sub (a := H) (b := 1) (by omega)) (congrArg nI (by omega))) ?_
  refine r_putI rfl ⟨rfl, rfl, rfl⟩ (fx_t13 fx) ?_
  have fx : FX n ad sa z0 (sI (sR h (ad 1) a (some x)) (ad 13) 2 (nI (H - 1))) := (FX.sI fx)
  refine r_ic (x := 0) rfl rfl ?_
  refine r_iret rfl ?_
  show WR _ cd_102 111 [some (.ref (ad 9)), some (.int (nI A)), some (.int (nI dp)), some (.int (nI a)), some (.int b), some (.int c)] [.int 0] (sI (sR h (ad 1) a (some x)) (ad 13) 2 (nI (H - 1))) _
  refine r_iret rfl ?_
  exact (L1)

set_option maxHeartbeats 2000000 in
theorem w_c2n {d : Nat} {Q : mQ} {n : Nat} {ad sa : Nat → Nat} {z0 : Nat} {h : mH} (fx : FX n ad sa z0 h) {A dp : Nat} (hA : A + 3 < 640) (f5 : hR h (ad 9) 5 = some (ad 1)) (f6 : hR h (ad 9) 6 = some (ad 7)) {a : Nat} (ha : a < 24) {b c : Int32} (r1 : hR h (ad 1) a = none) (s0 : hI h (ad 10) A = 2) (s1 : hI h (ad 10) (A + 1) = nI a) (s2 : hI h (ad 10) (A + 2) = b) (s3 : hI h (ad 10) (A + 3) = c) 
    (L1 : Q (some (.int (-11))) h) : EV (d + 2) 102 [.ref (ad 9), .int (nI A), .int (nI dp)] h Q := by
  have fx0 := fx
  refine in_102 (Nat.le_of_ble_eq_true rfl) ?_
  show WR _ cd_102 0 [some (.ref (ad 9)), some (.int (nI A)), some (.int (nI dp)), none, none, none] [] h _
  refine r_aload rfl rfl ?_
  refine r_getA (b := ad 10) rfl ⟨rfl, rfl, rfl⟩ (fx_t9 fx) (fx_r9_0 fx) ?_
  refine r_iload rfl rfl ?_
  refine r_ic (x := 1) rfl rfl ?_
  refine r_iadd rfl ?_
  refine WR_tI (y := nI (A + 1)) (Eq.trans (nI_add A 1) (congrArg nI (by omega))) ?_
  refine r_iaload rfl (.inl (fx_t10 fx)) (vp_ct (fx_n10 fx) (vp_in_nI (by omega) (by omega))) ?_
  refine WR_tI (congrArg (hI h (ad 10)) ((nI_clamp (by omega)) : _ = A + 1)) ?_
  refine WR_tI (y := nI a) s1 ?_
  refine r_istore (lv' := [some (.ref (ad 9)), some (.int (nI A)), some (.int (nI dp)), some (.int (nI a)), none, none]) rfl (Nat.le_of_ble_eq_true rfl) rfl ?_
  refine r_aload rfl rfl ?_
  refine r_getA (b := ad 10) rfl ⟨rfl, rfl, rfl⟩ (fx_t9 fx) (fx_r9_0 fx) ?_
  refine r_iload rfl rfl ?_
  refine r_ic (x := 2) rfl rfl ?_
  refine r_iadd rfl ?_
  refine WR_tI (y := nI (A + 2)) (Eq.trans (nI_add A 2) (congrArg nI (by omega))) ?_
  refine r_iaload rfl (.inl (fx_t10 fx)) (vp_ct (fx_n10 fx) (vp_in_nI (by omega) (by omega))) ?_
  refine WR_tI (congrArg (hI h (ad 10)) ((nI_clamp (by omega)) : _ = A + 2)) ?_
  refine WR_tI (y := b) s2 ?_
  refine r_istore (lv' := [some (.ref (ad 9)), some (.int (nI A)), some (.int (nI dp)), some (.int (nI a)), some (.int b), none]) rfl (Nat.le_of_ble_eq_true rfl) rfl ?_
  refine r_aload rfl rfl ?_
  refine r_getA (b := ad 10) rfl ⟨rfl, rfl, rfl⟩ (fx_t9 fx) (fx_r9_0 fx) ?_
  refine r_iload rfl rfl ?_
  refine r_ic (x := 3) rfl rfl ?_
  refine r_iadd rfl ?_
  refine WR_tI (y := nI (A + 3)) (Eq.trans (nI_add A 3) (congrArg nI (by omega))) ?_
  refine r_iaload rfl (.inl (fx_t10 fx)) (vp_ct (fx_n10 fx) (vp_in_nI (by omega) (by omega))) ?_
  refine WR_tI (congrArg (hI h (ad 10)) ((nI_clamp (by omega)) : _ = A + 3)) ?_
  refine WR_tI (y := c) s3 ?_
  refine r_istore (lv' := [some (.ref (ad 9)), some (.int (nI A)), some (.int (nI dp)), some (.int (nI a)), some (.int b), some (.int c)]) rfl (Nat.le_of_ble_eq_true rfl) rfl ?_
  refine r_aload rfl rfl ?_
  refine r_getA (b := ad 10) rfl ⟨rfl, rfl, rfl⟩ (fx_t9 fx) (fx_r9_0 fx) ?_
  refine r_iload rfl rfl ?_
  refine r_iaload rfl (.inl (fx_t10 fx)) (vp_ct (fx_n10 fx) (vp_in_nI (by omega) (by omega))) ?_
  refine WR_tI (congrArg (hI h (ad 10)) ((nI_clamp (by omega)) : _ = A)) ?_
  refine WR_tI (y := 2) s0 ?_
  refine r_tswL (tg := 112) rfl (by decide) ?_
  refine r_aload rfl rfl ?_
  refine r_iload rfl rfl ?_
  refine r_iload rfl rfl ?_
  refine r_iload rfl rfl ?_
  refine r_cv (y := 107) (ra := [.int c, .int b, .int (nI a)]) (rest := []) rfl ⟨⟨rfl, rfl⟩, rfl, by decide⟩ (fx_t9 fx) rfl rfl (Nat.le_of_ble_eq_true rfl) ?_
  refine in_107 (Nat.le_of_ble_eq_true rfl) ?_
  show WR _ cd_107 0 [some (.ref (ad 9)), some (.int (nI a)), some (.int b), some (.int c), none, none] [] h _
  refine r_aload rfl rfl ?_
  refine r_getA (b := ad 1) rfl ⟨rfl, rfl, rfl⟩ (fx_t9 fx) f5 ?_
  refine r_iload rfl rfl ?_
  refine r_aaload0 rfl (isQ_of (fx_t1 fx) (by decide)) (vp_ct (fx_n1 fx) (vp_in_nI (by omega) (by omega))) (Eq.trans (congrArg (hR h (ad 1)) ((nI_clamp (by omega)) : _ = a)) r1) ?_
  refine r_astore0 (lv' := [some (.ref (ad 9)), some (.int (nI a)), some (.int b), some (.int c), some (.null), none]) rfl (Nat.le_of_ble_eq_true rfl) rfl ?_
  refine r_aload0 rfl rfl ?_
  refine r_ifnonnullN (tg := 16) rfl rfl ?_
  refine r_ic (x := (-11)) rfl rfl ?_
  refine r_iret rfl ?_
  show WR _ cd_102 121 [some (.ref (ad 9)), some (.int (nI A)), some (.int (nI dp)), some (.int (nI a)), some (.int b), some (.int c)] [.int (-11)] h _
  refine r_iret rfl ?_
  exact (L1)

set_option maxHeartbeats 2000000 in
theorem w_c2t4 {d : Nat} {Q : mQ} {n : Nat} {ad sa : Nat → Nat} {z0 : Nat} {h : mH} (fx : FX n ad sa z0 h) {A dp : Nat} (hA : A + 3 < 640) (f5 : hR h (ad 9) 5 = some (ad 1)) (f6 : hR h (ad 9) 6 = some (ad 7)) {a x : Nat} (ha : a < 24) {b c : Int32} (tx : hT h x = 4) (r1 : hR h (ad 1) a = some x) (s0 : hI h (ad 10) A = 2) (s1 : hI h (ad 10) (A + 1) = nI a) (s2 : hI h (ad 10) (A + 2) = b) (s3 : hI h (ad 10) (A + 3) = c) 
    (L1 : Q (some (.int (-14))) h) : EV (d + 2) 102 [.ref (ad 9), .int (nI A), .int (nI dp)] h Q := by
  have fx0 := fx
  refine in_102 (Nat.le_of_ble_eq_true rfl) ?_
  show WR _ cd_102 0 [some (.ref (ad 9)), some (.int (nI A)), some (.int (nI dp)), none, none, none] [] h _
  refine r_aload rfl rfl ?_
  refine r_getA (b := ad 10) rfl ⟨rfl, rfl, rfl⟩ (fx_t9 fx) (fx_r9_0 fx) ?_
  refine r_iload rfl rfl ?_
  refine r_ic (x := 1) rfl rfl ?_
  refine r_iadd rfl ?_
  refine WR_tI (y := nI (A + 1)) (Eq.trans (nI_add A 1) (congrArg nI (by omega))) ?_
  refine r_iaload rfl (.inl (fx_t10 fx)) (vp_ct (fx_n10 fx) (vp_in_nI (by omega) (by omega))) ?_
  refine WR_tI (congrArg (hI h (ad 10)) ((nI_clamp (by omega)) : _ = A + 1)) ?_
  refine WR_tI (y := nI a) s1 ?_
  refine r_istore (lv' := [some (.ref (ad 9)), some (.int (nI A)), some (.int (nI dp)), some (.int (nI a)), none, none]) rfl (Nat.le_of_ble_eq_true rfl) rfl ?_
  refine r_aload rfl rfl ?_
  refine r_getA (b := ad 10) rfl ⟨rfl, rfl, rfl⟩ (fx_t9 fx) (fx_r9_0 fx) ?_
  refine r_iload rfl rfl ?_
  refine r_ic (x := 2) rfl rfl ?_
  refine r_iadd rfl ?_
  refine WR_tI (y := nI (A + 2)) (Eq.trans (nI_add A 2) (congrArg nI (by omega))) ?_
  refine r_iaload rfl (.inl (fx_t10 fx)) (vp_ct (fx_n10 fx) (vp_in_nI (by omega) (by omega))) ?_
  refine WR_tI (congrArg (hI h (ad 10)) ((nI_clamp (by omega)) : _ = A + 2)) ?_
  refine WR_tI (y := b) s2 ?_
  refine r_istore (lv' := [some (.ref (ad 9)), some (.int (nI A)), some (.int (nI dp)), some (.int (nI a)), some (.int b), none]) rfl (Nat.le_of_ble_eq_true rfl) rfl ?_
  refine r_aload rfl rfl ?_
  refine r_getA (b := ad 10) rfl ⟨rfl, rfl, rfl⟩ (fx_t9 fx) (fx_r9_0 fx) ?_
  refine r_iload rfl rfl ?_
  refine r_ic (x := 3) rfl rfl ?_
  refine r_iadd rfl ?_
  refine WR_tI (y := nI (A + 3)) (Eq.trans (nI_add A 3) (congrArg nI (by omega))) ?_
  refine r_iaload rfl (.inl (fx_t10 fx)) (vp_ct (fx_n10 fx) (vp_in_nI (by omega) (by omega))) ?_
  refine WR_tI (congrArg (hI h (ad 10)) ((nI_clamp (by omega)) : _ = A + 3)) ?_
  refine WR_tI (y := c) s3 ?_
  refine r_istore (lv' := [some (.ref (ad 9)), some (.int (nI A)), some (.int (nI dp)), some (.int (nI a)), some (.int b), some (.int c)]) rfl (Nat.le_of_ble_eq_true rfl) rfl ?_
  refine r_aload rfl rfl ?_
  refine r_getA (b := ad 10) rfl ⟨rfl, rfl, rfl⟩ (fx_t9 fx) (fx_r9_0 fx) ?_
  refine r_iload rfl rfl ?_
  refine r_iaload rfl (.inl (fx_t10 fx)) (vp_ct (fx_n10 fx) (vp_in_nI (by omega) (by omega))) ?_
  refine WR_tI (congrArg (hI h (ad 10)) ((nI_clamp (by omega)) : _ = A)) ?_
  refine WR_tI (y := 2) s0 ?_
  refine r_tswL (tg := 112) rfl (by decide) ?_
  refine r_aload rfl rfl ?_
  refine r_iload rfl rfl ?_
  refine r_iload rfl rfl ?_
  refine r_iload rfl rfl ?_
  refine r_cv (y := 107) (ra := [.int c, .int b, .int (nI a)]) (rest := []) rfl ⟨⟨rfl, rfl⟩, rfl, by decide⟩ (fx_t9 fx) rfl rfl (Nat.le_of_ble_eq_true rfl) ?_
  refine in_107 (Nat.le_of_ble_eq_true rfl) ?_
  show WR _ cd_107 0 [some (.ref (ad 9)), some (.int (nI a)), some (.int b), some (.int c), none, none] [] h _
  refine r_aload rfl rfl ?_
  refine r_getA (b := ad 1) rfl ⟨rfl, rfl, rfl⟩ (fx_t9 fx) f5 ?_
  refine r_iload rfl rfl ?_
  refine r_aaloadA (b := x) rfl (isQ_of (fx_t1 fx) (by decide)) (vp_ct (fx_n1 fx) (vp_in_nI (by omega) (by omega))) (Eq.trans (congrArg (hR h (ad 1)) ((nI_clamp (by omega)) : _ = a)) r1) ?_
  refine r_astore (lv' := [some (.ref (ad 9)), some (.int (nI a)), some (.int b), some (.int c), some (.ref x), none]) rfl (Nat.le_of_ble_eq_true rfl) rfl ?_
  refine r_aload rfl rfl ?_
  refine r_ifnonnullA (tg := 16) rfl rfl ?_
  refine r_aload rfl rfl ?_
  refine r_instW rfl (by decide) tx (by decide) ?_
  refine r_if_eq (tg := 40) rfl rfl (fun _ => ?_) (fun q => absurd q (by decide))
  refine r_ic (x := (-14)) rfl rfl ?_
  refine r_iret rfl ?_
  show WR _ cd_102 121 [some (.ref (ad 9)), some (.int (nI A)), some (.int (nI dp)), some (.int (nI a)), some (.int b), some (.int c)] [.int (-14)] h _
  refine r_iret rfl ?_
  exact (L1)

set_option maxHeartbeats 2000000 in
theorem w_c2t6 {d : Nat} {Q : mQ} {n : Nat} {ad sa : Nat → Nat} {z0 : Nat} {h : mH} (fx : FX n ad sa z0 h) {A dp : Nat} (hA : A + 3 < 640) (f5 : hR h (ad 9) 5 = some (ad 1)) (f6 : hR h (ad 9) 6 = some (ad 7)) {a x : Nat} (ha : a < 24) {b c : Int32} (tx : hT h x = 6) (r1 : hR h (ad 1) a = some x) (s0 : hI h (ad 10) A = 2) (s1 : hI h (ad 10) (A + 1) = nI a) (s2 : hI h (ad 10) (A + 2) = b) (s3 : hI h (ad 10) (A + 3) = c) 
    (L1 : Q (some (.int (-14))) h) : EV (d + 2) 102 [.ref (ad 9), .int (nI A), .int (nI dp)] h Q := by
  have fx0 := fx
  refine in_102 (Nat.le_of_ble_eq_true rfl) ?_
  show WR _ cd_102 0 [some (.ref (ad 9)), some (.int (nI A)), some (.int (nI dp)), none, none, none] [] h _
  refine r_aload rfl rfl ?_
  refine r_getA (b := ad 10) rfl ⟨rfl, rfl, rfl⟩ (fx_t9 fx) (fx_r9_0 fx) ?_
  refine r_iload rfl rfl ?_
  refine r_ic (x := 1) rfl rfl ?_
  refine r_iadd rfl ?_
  refine WR_tI (y := nI (A + 1)) (Eq.trans (nI_add A 1) (congrArg nI (by omega))) ?_
  refine r_iaload rfl (.inl (fx_t10 fx)) (vp_ct (fx_n10 fx) (vp_in_nI (by omega) (by omega))) ?_
  refine WR_tI (congrArg (hI h (ad 10)) ((nI_clamp (by omega)) : _ = A + 1)) ?_
  refine WR_tI (y := nI a) s1 ?_
  refine r_istore (lv' := [some (.ref (ad 9)), some (.int (nI A)), some (.int (nI dp)), some (.int (nI a)), none, none]) rfl (Nat.le_of_ble_eq_true rfl) rfl ?_
  refine r_aload rfl rfl ?_
  refine r_getA (b := ad 10) rfl ⟨rfl, rfl, rfl⟩ (fx_t9 fx) (fx_r9_0 fx) ?_
  refine r_iload rfl rfl ?_
  refine r_ic (x := 2) rfl rfl ?_
  refine r_iadd rfl ?_
  refine WR_tI (y := nI (A + 2)) (Eq.trans (nI_add A 2) (congrArg nI (by omega))) ?_
  refine r_iaload rfl (.inl (fx_t10 fx)) (vp_ct (fx_n10 fx) (vp_in_nI (by omega) (by omega))) ?_
  refine WR_tI (congrArg (hI h (ad 10)) ((nI_clamp (by omega)) : _ = A + 2)) ?_
  refine WR_tI (y := b) s2 ?_
  refine r_istore (lv' := [some (.ref (ad 9)), some (.int (nI A)), some (.int (nI dp)), some (.int (nI a)), some (.int b), none]) rfl (Nat.le_of_ble_eq_true rfl) rfl ?_
  refine r_aload rfl rfl ?_
  refine r_getA (b := ad 10) rfl ⟨rfl, rfl, rfl⟩ (fx_t9 fx) (fx_r9_0 fx) ?_
  refine r_iload rfl rfl ?_
  refine r_ic (x := 3) rfl rfl ?_
  refine r_iadd rfl ?_
  refine WR_tI (y := nI (A + 3)) (Eq.trans (nI_add A 3) (congrArg nI (by omega))) ?_
  refine r_iaload rfl (.inl (fx_t10 fx)) (vp_ct (fx_n10 fx) (vp_in_nI (by omega) (by omega))) ?_
  refine WR_tI (congrArg (hI h (ad 10)) ((nI_clamp (by omega)) : _ = A + 3)) ?_
  refine WR_tI (y := c) s3 ?_
  refine r_istore (lv' := [some (.ref (ad 9)), some (.int (nI A)), some (.int (nI dp)), some (.int (nI a)), some (.int b), some (.int c)]) rfl (Nat.le_of_ble_eq_true rfl) rfl ?_
  refine r_aload rfl rfl ?_
  refine r_getA (b := ad 10) rfl ⟨rfl, rfl, rfl⟩ (fx_t9 fx) (fx_r9_0 fx) ?_
  refine r_iload rfl rfl ?_
  refine r_iaload rfl (.inl (fx_t10 fx)) (vp_ct (fx_n10 fx) (vp_in_nI (by omega) (by omega))) ?_
  refine WR_tI (congrArg (hI h (ad 10)) ((nI_clamp (by omega)) : _ = A)) ?_
  refine WR_tI (y := 2) s0 ?_
  refine r_tswL (tg := 112) rfl (by decide) ?_
  refine r_aload rfl rfl ?_
  refine r_iload rfl rfl ?_
  refine r_iload rfl rfl ?_
  refine r_iload rfl rfl ?_
  refine r_cv (y := 107) (ra := [.int c, .int b, .int (nI a)]) (rest := []) rfl ⟨⟨rfl, rfl⟩, rfl, by decide⟩ (fx_t9 fx) rfl rfl (Nat.le_of_ble_eq_true rfl) ?_
  refine in_107 (Nat.le_of_ble_eq_true rfl) ?_
  show WR _ cd_107 0 [some (.ref (ad 9)), some (.int (nI a)), some (.int b), some (.int c), none, none] [] h _
  refine r_aload rfl rfl ?_
  refine r_getA (b := ad 1) rfl ⟨rfl, rfl, rfl⟩ (fx_t9 fx) f5 ?_
  refine r_iload rfl rfl ?_
  refine r_aaloadA (b := x) rfl (isQ_of (fx_t1 fx) (by decide)) (vp_ct (fx_n1 fx) (vp_in_nI (by omega) (by omega))) (Eq.trans (congrArg (hR h (ad 1)) ((nI_clamp (by omega)) : _ = a)) r1) ?_
  refine r_astore (lv' := [some (.ref (ad 9)), some (.int (nI a)), some (.int b), some (.int c), some (.ref x), none]) rfl (Nat.le_of_ble_eq_true rfl) rfl ?_
  refine r_aload rfl rfl ?_
  refine r_ifnonnullA (tg := 16) rfl rfl ?_
  refine r_aload rfl rfl ?_
  refine r_instW rfl (by decide) tx (by decide) ?_
  refine r_if_eq (tg := 40) rfl rfl (fun _ => ?_) (fun q => absurd q (by decide))
  refine r_ic (x := (-14)) rfl rfl ?_
  refine r_iret rfl ?_
  show WR _ cd_102 121 [some (.ref (ad 9)), some (.int (nI A)), some (.int (nI dp)), some (.int (nI a)), some (.int b), some (.int c)] [.int (-14)] h _
  refine r_iret rfl ?_
  exact (L1)

set_option maxHeartbeats 2000000 in
theorem w_c2l {d : Nat} {Q : mQ} {n : Nat} {ad sa : Nat → Nat} {z0 : Nat} {h : mH} (fx : FX n ad sa z0 h) {A dp : Nat} (hA : A + 3 < 640) (f5 : hR h (ad 9) 5 = some (ad 1)) (f6 : hR h (ad 9) 6 = some (ad 7)) {a x sz ln : Nat} (ha : a < 24) {b c : Int32} (zx : z0 ≤ x) (tx : hT h x = 5) (rx : hR h x 1 = some (x + 1)) (tX : hT h (x + 1) = 21) (nX : hN h (x + 1) = sz) (s3 : sz ≤ 30) (r1 : hR h (ad 1) a = some x) (l8 : ln < 8) (l3 : ln ≠ 3) (lx : hI h x 0 = nI ln) (s0 : hI h (ad 10) A = 2) (s1 : hI h (ad 10) (A + 1) = nI a) (s2 : hI h (ad 10) (A + 2) = b) (s3 : hI h (ad 10) (A + 3) = c) 
    (L1 : Q (some (.int (-14))) h) : EV (d + 2) 102 [.ref (ad 9), .int (nI A), .int (nI dp)] h Q := by
  have fx0 := fx
  refine in_102 (Nat.le_of_ble_eq_true rfl) ?_
  show WR _ cd_102 0 [some (.ref (ad 9)), some (.int (nI A)), some (.int (nI dp)), none, none, none] [] h _
  refine r_aload rfl rfl ?_
  refine r_getA (b := ad 10) rfl ⟨rfl, rfl, rfl⟩ (fx_t9 fx) (fx_r9_0 fx) ?_
  refine r_iload rfl rfl ?_
  refine r_ic (x := 1) rfl rfl ?_
  refine r_iadd rfl ?_
  refine WR_tI (y := nI (A + 1)) (Eq.trans (nI_add A 1) (congrArg nI (by omega))) ?_
  refine r_iaload rfl (.inl (fx_t10 fx)) (vp_ct (fx_n10 fx) (vp_in_nI (by omega) (by omega))) ?_
  refine WR_tI (congrArg (hI h (ad 10)) ((nI_clamp (by omega)) : _ = A + 1)) ?_
  refine WR_tI (y := nI a) s1 ?_
  refine r_istore (lv' := [some (.ref (ad 9)), some (.int (nI A)), some (.int (nI dp)), some (.int (nI a)), none, none]) rfl (Nat.le_of_ble_eq_true rfl) rfl ?_
  refine r_aload rfl rfl ?_
  refine r_getA (b := ad 10) rfl ⟨rfl, rfl, rfl⟩ (fx_t9 fx) (fx_r9_0 fx) ?_
  refine r_iload rfl rfl ?_
  refine r_ic (x := 2) rfl rfl ?_
  refine r_iadd rfl ?_
  refine WR_tI (y := nI (A + 2)) (Eq.trans (nI_add A 2) (congrArg nI (by omega))) ?_
  refine r_iaload rfl (.inl (fx_t10 fx)) (vp_ct (fx_n10 fx) (vp_in_nI (by omega) (by omega))) ?_
  refine WR_tI (congrArg (hI h (ad 10)) ((nI_clamp (by omega)) : _ = A + 2)) ?_
  refine WR_tI (y := b) s2 ?_
  refine r_istore (lv' := [some (.ref (ad 9)), some (.int (nI A)), some (.int (nI dp)), some (.int (nI a)), some (.int b), none]) rfl (Nat.le_of_ble_eq_true rfl) rfl ?_
  refine r_aload rfl rfl ?_
  refine r_getA (b := ad 10) rfl ⟨rfl, rfl, rfl⟩ (fx_t9 fx) (fx_r9_0 fx) ?_
  refine r_iload rfl rfl ?_
  refine r_ic (x := 3) rfl rfl ?_
  refine r_iadd rfl ?_
  refine WR_tI (y := nI (A + 3)) (Eq.trans (nI_add A 3) (congrArg nI (by omega))) ?_
  refine r_iaload rfl (.inl (fx_t10 fx)) (vp_ct (fx_n10 fx) (vp_in_nI (by omega) (by omega))) ?_
  refine WR_tI (congrArg (hI h (ad 10)) ((nI_clamp (by omega)) : _ = A + 3)) ?_
  refine WR_tI (y := c) s3 ?_
  refine r_istore (lv' := [some (.ref (ad 9)), some (.int (nI A)), some (.int (nI dp)), some (.int (nI a)), some (.int b), some (.int c)]) rfl (Nat.le_of_ble_eq_true rfl) rfl ?_
  refine r_aload rfl rfl ?_
  refine r_getA (b := ad 10) rfl ⟨rfl, rfl, rfl⟩ (fx_t9 fx) (fx_r9_0 fx) ?_
  refine r_iload rfl rfl ?_
  refine r_iaload rfl (.inl (fx_t10 fx)) (vp_ct (fx_n10 fx) (vp_in_nI (by omega) (by omega))) ?_
  refine WR_tI (congrArg (hI h (ad 10)) ((nI_clamp (by omega)) : _ = A)) ?_
  refine WR_tI (y := 2) s0 ?_
  refine r_tswL (tg := 112) rfl (by decide) ?_
  refine r_aload rfl rfl ?_
  refine r_iload rfl rfl ?_
  refine r_iload rfl rfl ?_
  refine r_iload rfl rfl ?_
  refine r_cv (y := 107) (ra := [.int c, .int b, .int (nI a)]) (rest := []) rfl ⟨⟨rfl, rfl⟩, rfl, by decide⟩ (fx_t9 fx) rfl rfl (Nat.le_of_ble_eq_true rfl) ?_
  refine in_107 (Nat.le_of_ble_eq_true rfl) ?_
  show WR _ cd_107 0 [some (.ref (ad 9)), some (.int (nI a)), some (.int b), some (.int c), none, none] [] h _
  refine r_aload rfl rfl ?_
  refine r_getA (b := ad 1) rfl ⟨rfl, rfl, rfl⟩ (fx_t9 fx) f5 ?_
  refine r_iload rfl rfl ?_
  refine r_aaloadA (b := x) rfl (isQ_of (fx_t1 fx) (by decide)) (vp_ct (fx_n1 fx) (vp_in_nI (by omega) (by omega))) (Eq.trans (congrArg (hR h (ad 1)) ((nI_clamp (by omega)) : _ = a)) r1) ?_
  refine r_astore (lv' := [some (.ref (ad 9)), some (.int (nI a)), some (.int b), some (.int c), some (.ref x), none]) rfl (Nat.le_of_ble_eq_true rfl) rfl ?_
  refine r_aload rfl rfl ?_
  refine r_ifnonnullA (tg := 16) rfl rfl ?_
  refine r_aload rfl rfl ?_
  refine r_instY rfl (by decide) tx ?_
  refine r_if_eq (tg := 40) rfl rfl (fun q => absurd q (by decide)) (fun _ => ?_)
  refine r_aload rfl rfl ?_
  refine r_cast rfl tx ?_
  refine r_astore (lv' := [some (.ref (ad 9)), some (.int (nI a)), some (.int b), some (.int c), some (.ref x), some (.ref x)]) rfl (Nat.le_of_ble_eq_true rfl) rfl ?_
  refine r_aload rfl rfl ?_
  refine r_getI rfl ⟨rfl, rfl, rfl⟩ tx ?_
  refine WR_tI (y := nI ln) lx ?_
  refine r_ic (x := 3) rfl rfl ?_
  refine r_icmp_eq (tg := 43) rfl rfl (fun q => False.elim (by have : (nI ln).toInt = ((ln : Nat) : Int) := nI_toInt (by omega); have : (3 : Int32).toInt = 3 := rfl; have := i_eq q; omega)) (fun _ => ?_)
  refine r_ic (x := (-14)) rfl rfl ?_
  refine r_iret rfl ?_
  show WR _ cd_102 121 [some (.ref (ad 9)), some (.int (nI A)), some (.int (nI dp)), some (.int (nI a)), some (.int b), some (.int c)] [.int (-14)] h _
  refine r_iret rfl ?_
  exact (L1)

set_option maxHeartbeats 2000000 in
theorem w_c2o {d : Nat} {Q : mQ} {n : Nat} {ad sa : Nat → Nat} {z0 : Nat} {h : mH} (fx : FX n ad sa z0 h) {A dp : Nat} (hA : A + 3 < 640) (f5 : hR h (ad 9) 5 = some (ad 1)) (f6 : hR h (ad 9) 6 = some (ad 7)) {a x sz : Nat} (ha : a < 24) {b c : Int32} (zx : z0 ≤ x) (tx : hT h x = 5) (rx : hR h x 1 = some (x + 1)) (tX : hT h (x + 1) = 21) (nX : hN h (x + 1) = sz) (s3 : sz ≤ 30) (r1 : hR h (ad 1) a = some x) (lx : hI h x 0 = 3) (hb : b.toInt < 0) (s0 : hI h (ad 10) A = 2) (s1 : hI h (ad 10) (A + 1) = nI a) (s2 : hI h (ad 10) (A + 2) = b) (s3 : hI h (ad 10) (A + 3) = c) 
    (L1 : Q (some (.int (-12))) h) : EV (d + 3) 102 [.ref (ad 9), .int (nI A), .int (nI dp)] h Q := by
  have fx0 := fx
  refine in_102 (Nat.le_of_ble_eq_true rfl) ?_
  show WR _ cd_102 0 [some (.ref (ad 9)), some (.int (nI A)), some (.int (nI dp)), none, none, none] [] h _
  refine r_aload rfl rfl ?_
  refine r_getA (b := ad 10) rfl ⟨rfl, rfl, rfl⟩ (fx_t9 fx) (fx_r9_0 fx) ?_
  refine r_iload rfl rfl ?_
  refine r_ic (x := 1) rfl rfl ?_
  refine r_iadd rfl ?_
  refine WR_tI (y := nI (A + 1)) (Eq.trans (nI_add A 1) (congrArg nI (by omega))) ?_
  refine r_iaload rfl (.inl (fx_t10 fx)) (vp_ct (fx_n10 fx) (vp_in_nI (by omega) (by omega))) ?_
  refine WR_tI (congrArg (hI h (ad 10)) ((nI_clamp (by omega)) : _ = A + 1)) ?_
  refine WR_tI (y := nI a) s1 ?_
  refine r_istore (lv' := [some (.ref (ad 9)), some (.int (nI A)), some (.int (nI dp)), some (.int (nI a)), none, none]) rfl (Nat.le_of_ble_eq_true rfl) rfl ?_
  refine r_aload rfl rfl ?_
  refine r_getA (b := ad 10) rfl ⟨rfl, rfl, rfl⟩ (fx_t9 fx) (fx_r9_0 fx) ?_
  refine r_iload rfl rfl ?_
  refine r_ic (x := 2) rfl rfl ?_
  refine r_iadd rfl ?_
  refine WR_tI (y := nI (A + 2)) (Eq.trans (nI_add A 2) (congrArg nI (by omega))) ?_
  refine r_iaload rfl (.inl (fx_t10 fx)) (vp_ct (fx_n10 fx) (vp_in_nI (by omega) (by omega))) ?_
  refine WR_tI (congrArg (hI h (ad 10)) ((nI_clamp (by omega)) : _ = A + 2)) ?_
  refine WR_tI (y := b) s2 ?_
  refine r_istore (lv' := [some (.ref (ad 9)), some (.int (nI A)), some (.int (nI dp)), some (.int (nI a)), some (.int b), none]) rfl (Nat.le_of_ble_eq_true rfl) rfl ?_
  refine r_aload rfl rfl ?_
  refine r_getA (b := ad 10) rfl ⟨rfl, rfl, rfl⟩ (fx_t9 fx) (fx_r9_0 fx) ?_
  refine r_iload rfl rfl ?_
  refine r_ic (x := 3) rfl rfl ?_
  refine r_iadd rfl ?_
  refine WR_tI (y := nI (A + 3)) (Eq.trans (nI_add A 3) (congrArg nI (by omega))) ?_
  refine r_iaload rfl (.inl (fx_t10 fx)) (vp_ct (fx_n10 fx) (vp_in_nI (by omega) (by omega))) ?_
  refine WR_tI (congrArg (hI h (ad 10)) ((nI_clamp (by omega)) : _ = A + 3)) ?_
  refine WR_tI (y := c) s3 ?_
  refine r_istore (lv' := [some (.ref (ad 9)), some (.int (nI A)), some (.int (nI dp)), some (.int (nI a)), some (.int b), some (.int c)]) rfl (Nat.le_of_ble_eq_true rfl) rfl ?_
  refine r_aload rfl rfl ?_
  refine r_getA (b := ad 10) rfl ⟨rfl, rfl, rfl⟩ (fx_t9 fx) (fx_r9_0 fx) ?_
  refine r_iload rfl rfl ?_
  refine r_iaload rfl (.inl (fx_t10 fx)) (vp_ct (fx_n10 fx) (vp_in_nI (by omega) (by omega))) ?_
  refine WR_tI (congrArg (hI h (ad 10)) ((nI_clamp (by omega)) : _ = A)) ?_
  refine WR_tI (y := 2) s0 ?_
  refine r_tswL (tg := 112) rfl (by decide) ?_
  refine r_aload rfl rfl ?_
  refine r_iload rfl rfl ?_
  refine r_iload rfl rfl ?_
  refine r_iload rfl rfl ?_
  refine r_cv (y := 107) (ra := [.int c, .int b, .int (nI a)]) (rest := []) rfl ⟨⟨rfl, rfl⟩, rfl, by decide⟩ (fx_t9 fx) rfl rfl (Nat.le_of_ble_eq_true rfl) ?_
  refine in_107 (Nat.le_of_ble_eq_true rfl) ?_
  show WR _ cd_107 0 [some (.ref (ad 9)), some (.int (nI a)), some (.int b), some (.int c), none, none] [] h _
  refine r_aload rfl rfl ?_
  refine r_getA (b := ad 1) rfl ⟨rfl, rfl, rfl⟩ (fx_t9 fx) f5 ?_
  refine r_iload rfl rfl ?_
  refine r_aaloadA (b := x) rfl (isQ_of (fx_t1 fx) (by decide)) (vp_ct (fx_n1 fx) (vp_in_nI (by omega) (by omega))) (Eq.trans (congrArg (hR h (ad 1)) ((nI_clamp (by omega)) : _ = a)) r1) ?_
  refine r_astore (lv' := [some (.ref (ad 9)), some (.int (nI a)), some (.int b), some (.int c), some (.ref x), none]) rfl (Nat.le_of_ble_eq_true rfl) rfl ?_
  refine r_aload rfl rfl ?_
  refine r_ifnonnullA (tg := 16) rfl rfl ?_
  refine r_aload rfl rfl ?_
  refine r_instY rfl (by decide) tx ?_
  refine r_if_eq (tg := 40) rfl rfl (fun q => absurd q (by decide)) (fun _ => ?_)
  refine r_aload rfl rfl ?_
  refine r_cast rfl tx ?_
  refine r_astore (lv' := [some (.ref (ad 9)), some (.int (nI a)), some (.int b), some (.int c), some (.ref x), some (.ref x)]) rfl (Nat.le_of_ble_eq_true rfl) rfl ?_
  refine r_aload rfl rfl ?_
  refine r_getI rfl ⟨rfl, rfl, rfl⟩ tx ?_
  refine WR_tI (y := 3) lx ?_
  refine r_ic (x := 3) rfl rfl ?_
  refine r_icmp_eq (tg := 43) rfl rfl (fun _ => ?_) (fun q => absurd q (by decide))
  refine r_aload rfl rfl ?_
  refine r_iload rfl rfl ?_
  refine r_ic (x := 1) rfl rfl ?_
  refine r_cv (y := 32) (ra := [.int 1, .int b]) (rest := []) rfl ⟨⟨rfl, rfl⟩, rfl, by decide⟩ tx rfl rfl (Nat.le_of_ble_eq_true rfl) ?_
  refine in_32 (Nat.le_of_ble_eq_true rfl) ?_
  show WR _ cd_32 0 [some (.ref x), some (.int b), some (.int 1)] [] h _
  refine r_iload rfl rfl ?_
  refine r_if_lt (tg := 22) rfl rfl (fun _ => ?_) (fun q => False.elim (by have := hb; have := i_rg b; have : (0 : Int32).toInt = 0 := rfl; have := i_nlt q; omega))
  refine r_ic (x := 0) rfl rfl ?_
  refine r_zret rfl (.inl rfl) ?_
  show WR _ cd_107 50 [some (.ref (ad 9)), some (.int (nI a)), some (.int b), some (.int c), some (.ref x), some (.ref x)] [.int 0] h _
  refine r_if_ne (tg := 56) rfl rfl (fun q => absurd q (by decide)) (fun _ => ?_)
  refine r_ic (x := (-12)) rfl rfl ?_
  refine r_iret rfl ?_
  show WR _ cd_102 121 [some (.ref (ad 9)), some (.int (nI A)), some (.int (nI dp)), some (.int (nI a)), some (.int b), some (.int c)] [.int (-12)] h _
  refine r_iret rfl ?_
  exact (L1)

set_option maxHeartbeats 2000000 in
theorem w_c2p {d : Nat} {Q : mQ} {n : Nat} {ad sa : Nat → Nat} {z0 : Nat} {h : mH} (fx : FX n ad sa z0 h) {A dp : Nat} (hA : A + 3 < 640) (f5 : hR h (ad 9) 5 = some (ad 1)) (f6 : hR h (ad 9) 6 = some (ad 7)) {a x sz b : Nat} (ha : a < 24) {c : Int32} (zx : z0 ≤ x) (tx : hT h x = 5) (rx : hR h x 1 = some (x + 1)) (tX : hT h (x + 1) = 21) (nX : hN h (x + 1) = sz) (s3 : sz ≤ 30) (r1 : hR h (ad 1) a = some x) (lx : hI h x 0 = 3) (hb : sz ≤ b) (hb2 : b < 2 ^ 31) (s0 : hI h (ad 10) A = 2) (s1 : hI h (ad 10) (A + 1) = nI a) (s2 : hI h (ad 10) (A + 2) = nI b) (s3 : hI h (ad 10) (A + 3) = c) 
    (L1 : Q (some (.int (-12))) h) : EV (d + 4) 102 [.ref (ad 9), .int (nI A), .int (nI dp)] h Q := by
  have fx0 := fx
  refine in_102 (Nat.le_of_ble_eq_true rfl) ?_
  show WR _ cd_102 0 [some (.ref (ad 9)), some (.int (nI A)), some (.int (nI dp)), none, none, none] [] h _
  refine r_aload rfl rfl ?_
  refine r_getA (b := ad 10) rfl ⟨rfl, rfl, rfl⟩ (fx_t9 fx) (fx_r9_0 fx) ?_
  refine r_iload rfl rfl ?_
  refine r_ic (x := 1) rfl rfl ?_
  refine r_iadd rfl ?_
  refine WR_tI (y := nI (A + 1)) (Eq.trans (nI_add A 1) (congrArg nI (by omega))) ?_
  refine r_iaload rfl (.inl (fx_t10 fx)) (vp_ct (fx_n10 fx) (vp_in_nI (by omega) (by omega))) ?_
  refine WR_tI (congrArg (hI h (ad 10)) ((nI_clamp (by omega)) : _ = A + 1)) ?_
  refine WR_tI (y := nI a) s1 ?_
  refine r_istore (lv' := [some (.ref (ad 9)), some (.int (nI A)), some (.int (nI dp)), some (.int (nI a)), none, none]) rfl (Nat.le_of_ble_eq_true rfl) rfl ?_
  refine r_aload rfl rfl ?_
  refine r_getA (b := ad 10) rfl ⟨rfl, rfl, rfl⟩ (fx_t9 fx) (fx_r9_0 fx) ?_
  refine r_iload rfl rfl ?_
  refine r_ic (x := 2) rfl rfl ?_
  refine r_iadd rfl ?_
  refine WR_tI (y := nI (A + 2)) (Eq.trans (nI_add A 2) (congrArg nI (by omega))) ?_
  refine r_iaload rfl (.inl (fx_t10 fx)) (vp_ct (fx_n10 fx) (vp_in_nI (by omega) (by omega))) ?_
  refine WR_tI (congrArg (hI h (ad 10)) ((nI_clamp (by omega)) : _ = A + 2)) ?_
  refine WR_tI (y := nI b) s2 ?_
  refine r_istore (lv' := [some (.ref (ad 9)), some (.int (nI A)), some (.int (nI dp)), some (.int (nI a)), some (.int (nI b)), none]) rfl (Nat.le_of_ble_eq_true rfl) rfl ?_
  refine r_aload rfl rfl ?_
  refine r_getA (b := ad 10) rfl ⟨rfl, rfl, rfl⟩ (fx_t9 fx) (fx_r9_0 fx) ?_
  refine r_iload rfl rfl ?_
  refine r_ic (x := 3) rfl rfl ?_
  refine r_iadd rfl ?_
  refine WR_tI (y := nI (A + 3)) (Eq.trans (nI_add A 3) (congrArg nI (by omega))) ?_
  refine r_iaload rfl (.inl (fx_t10 fx)) (vp_ct (fx_n10 fx) (vp_in_nI (by omega) (by omega))) ?_
  refine WR_tI (congrArg (hI h (ad 10)) ((nI_clamp (by omega)) : _ = A + 3)) ?_
  refine WR_tI (y := c) s3 ?_
  refine r_istore (lv' := [some (.ref (ad 9)), some (.int (nI A)), some (.int (nI dp)), some (.int (nI a)), some (.int (nI b)), some (.int c)]) rfl (Nat.le_of_ble_eq_true rfl) rfl ?_
  refine r_aload rfl rfl ?_
  refine r_getA (b := ad 10) rfl ⟨rfl, rfl, rfl⟩ (fx_t9 fx) (fx_r9_0 fx) ?_
  refine r_iload rfl rfl ?_
  refine r_iaload rfl (.inl (fx_t10 fx)) (vp_ct (fx_n10 fx) (vp_in_nI (by omega) (by omega))) ?_
  refine WR_tI (congrArg (hI h (ad 10)) ((nI_clamp (by omega)) : _ = A)) ?_
  refine WR_tI (y := 2) s0 ?_
  refine r_tswL (tg := 112) rfl (by decide) ?_
  refine r_aload rfl rfl ?_
  refine r_iload rfl rfl ?_
  refine r_iload rfl rfl ?_
  refine r_iload rfl rfl ?_
  refine r_cv (y := 107) (ra := [.int c, .int (nI b), .int (nI a)]) (rest := []) rfl ⟨⟨rfl, rfl⟩, rfl, by decide⟩ (fx_t9 fx) rfl rfl (Nat.le_of_ble_eq_true rfl) ?_
  refine in_107 (Nat.le_of_ble_eq_true rfl) ?_
  show WR _ cd_107 0 [some (.ref (ad 9)), some (.int (nI a)), some (.int (nI b)), some (.int c), none, none] [] h _
  refine r_aload rfl rfl ?_
  refine r_getA (b := ad 1) rfl ⟨rfl, rfl, rfl⟩ (fx_t9 fx) f5 ?_
  refine r_iload rfl rfl ?_
  refine r_aaloadA (b := x) rfl (isQ_of (fx_t1 fx) (by decide)) (vp_ct (fx_n1 fx) (vp_in_nI (by omega) (by omega))) (Eq.trans (congrArg (hR h (ad 1)) ((nI_clamp (by omega)) : _ = a)) r1) ?_
  refine r_astore (lv' := [some (.ref (ad 9)), some (.int (nI a)), some (.int (nI b)), some (.int c), some (.ref x), none]) rfl (Nat.le_of_ble_eq_true rfl) rfl ?_
  refine r_aload rfl rfl ?_
  refine r_ifnonnullA (tg := 16) rfl rfl ?_
  refine r_aload rfl rfl ?_
  refine r_instY rfl (by decide) tx ?_
  refine r_if_eq (tg := 40) rfl rfl (fun q => absurd q (by decide)) (fun _ => ?_)
  refine r_aload rfl rfl ?_
  refine r_cast rfl tx ?_
  refine r_astore (lv' := [some (.ref (ad 9)), some (.int (nI a)), some (.int (nI b)), some (.int c), some (.ref x), some (.ref x)]) rfl (Nat.le_of_ble_eq_true rfl) rfl ?_
  refine r_aload rfl rfl ?_
  refine r_getI rfl ⟨rfl, rfl, rfl⟩ tx ?_
  refine WR_tI (y := 3) lx ?_
  refine r_ic (x := 3) rfl rfl ?_
  refine r_icmp_eq (tg := 43) rfl rfl (fun _ => ?_) (fun q => absurd q (by decide))
  refine r_aload rfl rfl ?_
  refine r_iload rfl rfl ?_
  refine r_ic (x := 1) rfl rfl ?_
  refine r_cv (y := 32) (ra := [.int 1, .int (nI b)]) (rest := []) rfl ⟨⟨rfl, rfl⟩, rfl, by decide⟩ tx rfl rfl (Nat.le_of_ble_eq_true rfl) ?_
  refine in_32 (Nat.le_of_ble_eq_true rfl) ?_
  show WR _ cd_32 0 [some (.ref x), some (.int (nI b)), some (.int 1)] [] h _
  refine r_iload rfl rfl ?_
  refine r_if_lt (tg := 22) rfl rfl (fun q => False.elim (by have : (nI b).toInt = ((b : Nat) : Int) := nI_toInt (by omega); have : (0 : Int32).toInt = 0 := rfl; have := i_lt q; omega)) (fun _ => ?_)
  refine r_iload rfl rfl ?_
  refine r_if_lt (tg := 22) rfl rfl (fun q => absurd q (by decide)) (fun _ => ?_)
  refine r_iload rfl rfl ?_
  refine r_aload rfl rfl ?_
  refine r_cw (y := 34) (ra := []) (rest := [.int 1]) rfl ⟨rfl, rfl⟩ (by rw [show hT h x = 5 from tx]; rfl) rfl rfl (Nat.le_of_ble_eq_true rfl) ?_
  refine in_34 (Nat.le_of_ble_eq_true rfl) ?_
  show WR _ cd_34 0 [some (.ref x)] [] h _
  refine r_aload rfl rfl ?_
  refine r_getA (b := x + 1) rfl ⟨rfl, rfl, rfl⟩ tx rx ?_
  refine r_alen rfl (isA_of tX (by decide)) ?_
  refine WR_tI (y := nI sz) (congrArg nI nX) ?_
  refine r_iret rfl ?_
  show WR _ cd_32 13 [some (.ref x), some (.int (nI b)), some (.int 1)] [.int (nI sz), .int 1] h _
  refine r_iload rfl rfl ?_
  refine r_isub rfl ?_
  refine r_icmp_gt (tg := 22) rfl rfl (fun _ => ?_) (fun q => False.elim (by have : (1 : Int32).toInt = 1 := rfl; have : (nI sz).toInt = ((sz : Nat) : Int) := nI_toInt (by omega); have : (nI b).toInt = ((b : Nat) : Int) := nI_toInt (by omega); have := sub_t (x := nI sz) (y := nI b) (by have : (nI sz).toInt = ((sz : Nat) : Int) := nI_toInt (by omega); have : (nI b).toInt = ((b : Nat) : Int) := nI_toInt (by omega); omega) (by have : (nI sz).toInt = ((sz : Nat) : Int) := nI_toInt (by omega); have : (nI b).toInt = ((b : Nat) : Int) := nI_toInt (by omega); omega); have := i_nlt q; omega))
  refine r_ic (x := 0) rfl rfl ?_
  refine r_zret rfl (.inl rfl) ?_
  show WR _ cd_107 50 [some (.ref (ad 9)), some (.int (nI a)), some (.int (nI b)), some (.int c), some (.ref x), some (.ref x)] [.int 0] h _
  refine r_if_ne (tg := 56) rfl rfl (fun q => absurd q (by decide)) (fun _ => ?_)
  refine r_ic (x := (-12)) rfl rfl ?_
  refine r_iret rfl ?_
  show WR _ cd_102 121 [some (.ref (ad 9)), some (.int (nI A)), some (.int (nI dp)), some (.int (nI a)), some (.int (nI b)), some (.int c)] [.int (-12)] h _
  refine r_iret rfl ?_
  exact (L1)

set_option maxHeartbeats 2000000 in
theorem w_c2w {d : Nat} {Q : mQ} {n : Nat} {ad sa : Nat → Nat} {z0 : Nat} {h : mH} (fx : FX n ad sa z0 h) {A dp : Nat} (hA : A + 3 < 640) (f5 : hR h (ad 9) 5 = some (ad 1)) (f6 : hR h (ad 9) 6 = some (ad 7)) {a x sz b W : Nat} (ha : a < 24) {c : Int32} (zx : z0 ≤ x) (tx : hT h x = 5) (rx : hR h x 1 = some (x + 1)) (tX : hT h (x + 1) = 21) (nX : hN h (x + 1) = sz) (s3 : sz ≤ 30) (r1 : hR h (ad 1) a = some x) (lx : hI h x 0 = 3) (hb : b < sz) (hW : W < 100) (ew : hI h (ad 16) 5 = nI W) (s0 : hI h (ad 10) A = 2) (s1 : hI h (ad 10) (A + 1) = nI a) (s2 : hI h (ad 10) (A + 2) = nI b) (s3 : hI h (ad 10) (A + 3) = c) 
    (L1 : Q (some (.int 0)) (sL (sI (sL (sI (sR h (ad 19) W (some x)) (ad 20) W (nI b)) (ad 21) W (hL h (x + 1) b)) (ad 16) 5 (nI (W + 1))) (x + 1) b c.toInt64)) : EV (d + 4) 102 [.ref (ad 9), .int (nI A), .int (nI dp)] h Q := by
  have fx0 := fx
  refine in_102 (Nat.le_of_ble_eq_true rfl) ?_
  show WR _ cd_102 0 [some (.ref (ad 9)), some (.int (nI A)), some (.int (nI dp)), none, none, none] [] h _
  refine r_aload rfl rfl ?_
  refine r_getA (b := ad 10) rfl ⟨rfl, rfl, rfl⟩ (fx_t9 fx) (fx_r9_0 fx) ?_
  refine r_iload rfl rfl ?_
  refine r_ic (x := 1) rfl rfl ?_
  refine r_iadd rfl ?_
  refine WR_tI (y := nI (A + 1)) (Eq.trans (nI_add A 1) (congrArg nI (by omega))) ?_
  refine r_iaload rfl (.inl (fx_t10 fx)) (vp_ct (fx_n10 fx) (vp_in_nI (by omega) (by omega))) ?_
  refine WR_tI (congrArg (hI h (ad 10)) ((nI_clamp (by omega)) : _ = A + 1)) ?_
  refine WR_tI (y := nI a) s1 ?_
  refine r_istore (lv' := [some (.ref (ad 9)), some (.int (nI A)), some (.int (nI dp)), some (.int (nI a)), none, none]) rfl (Nat.le_of_ble_eq_true rfl) rfl ?_
  refine r_aload rfl rfl ?_
  refine r_getA (b := ad 10) rfl ⟨rfl, rfl, rfl⟩ (fx_t9 fx) (fx_r9_0 fx) ?_
  refine r_iload rfl rfl ?_
  refine r_ic (x := 2) rfl rfl ?_
  refine r_iadd rfl ?_
  refine WR_tI (y := nI (A + 2)) (Eq.trans (nI_add A 2) (congrArg nI (by omega))) ?_
  refine r_iaload rfl (.inl (fx_t10 fx)) (vp_ct (fx_n10 fx) (vp_in_nI (by omega) (by omega))) ?_
  refine WR_tI (congrArg (hI h (ad 10)) ((nI_clamp (by omega)) : _ = A + 2)) ?_
  refine WR_tI (y := nI b) s2 ?_
  refine r_istore (lv' := [some (.ref (ad 9)), some (.int (nI A)), some (.int (nI dp)), some (.int (nI a)), some (.int (nI b)), none]) rfl (Nat.le_of_ble_eq_true rfl) rfl ?_
  refine r_aload rfl rfl ?_
  refine r_getA (b := ad 10) rfl ⟨rfl, rfl, rfl⟩ (fx_t9 fx) (fx_r9_0 fx) ?_
  refine r_iload rfl rfl ?_
  refine r_ic (x := 3) rfl rfl ?_
  refine r_iadd rfl ?_
  refine WR_tI (y := nI (A + 3)) (Eq.trans (nI_add A 3) (congrArg nI (by omega))) ?_
  refine r_iaload rfl (.inl (fx_t10 fx)) (vp_ct (fx_n10 fx) (vp_in_nI (by omega) (by omega))) ?_
  refine WR_tI (congrArg (hI h (ad 10)) ((nI_clamp (by omega)) : _ = A + 3)) ?_
  refine WR_tI (y := c) s3 ?_
  refine r_istore (lv' := [some (.ref (ad 9)), some (.int (nI A)), some (.int (nI dp)), some (.int (nI a)), some (.int (nI b)), some (.int c)]) rfl (Nat.le_of_ble_eq_true rfl) rfl ?_
  refine r_aload rfl rfl ?_
  refine r_getA (b := ad 10) rfl ⟨rfl, rfl, rfl⟩ (fx_t9 fx) (fx_r9_0 fx) ?_
  refine r_iload rfl rfl ?_
  refine r_iaload rfl (.inl (fx_t10 fx)) (vp_ct (fx_n10 fx) (vp_in_nI (by omega) (by omega))) ?_
  refine WR_tI (congrArg (hI h (ad 10)) ((nI_clamp (by omega)) : _ = A)) ?_
  refine WR_tI (y := 2) s0 ?_
  refine r_tswL (tg := 112) rfl (by decide) ?_
  refine r_aload rfl rfl ?_
  refine r_iload rfl rfl ?_
  refine r_iload rfl rfl ?_
  refine r_iload rfl rfl ?_
  refine r_cv (y := 107) (ra := [.int c, .int (nI b), .int (nI a)]) (rest := []) rfl ⟨⟨rfl, rfl⟩, rfl, by decide⟩ (fx_t9 fx) rfl rfl (Nat.le_of_ble_eq_true rfl) ?_
  refine in_107 (Nat.le_of_ble_eq_true rfl) ?_
  show WR _ cd_107 0 [some (.ref (ad 9)), some (.int (nI a)), some (.int (nI b)), some (.int c), none, none] [] h _
  refine r_aload rfl rfl ?_
  refine r_getA (b := ad 1) rfl ⟨rfl, rfl, rfl⟩ (fx_t9 fx) f5 ?_
  refine r_iload rfl rfl ?_
  refine r_aaloadA (b := x) rfl (isQ_of (fx_t1 fx) (by decide)) (vp_ct (fx_n1 fx) (vp_in_nI (by omega) (by omega))) (Eq.trans (congrArg (hR h (ad 1)) ((nI_clamp (by omega)) : _ = a)) r1) ?_
  refine r_astore (lv' := [some (.ref (ad 9)), some (.int (nI a)), some (.int (nI b)), some (.int c), some (.ref x), none]) rfl (Nat.le_of_ble_eq_true rfl) rfl ?_
  refine r_aload rfl rfl ?_
  refine r_ifnonnullA (tg := 16) rfl rfl ?_
  refine r_aload rfl rfl ?_
  refine r_instY rfl (by decide) tx ?_
  refine r_if_eq (tg := 40) rfl rfl (fun q => absurd q (by decide)) (fun _ => ?_)
  refine r_aload rfl rfl ?_
  refine r_cast rfl tx ?_
  refine r_astore (lv' := [some (.ref (ad 9)), some (.int (nI a)), some (.int (nI b)), some (.int c), some (.ref x), some (.ref x)]) rfl (Nat.le_of_ble_eq_true rfl) rfl ?_
  refine r_aload rfl rfl ?_
  refine r_getI rfl ⟨rfl, rfl, rfl⟩ tx ?_
  refine WR_tI (y := 3) lx ?_
  refine r_ic (x := 3) rfl rfl ?_
  refine r_icmp_eq (tg := 43) rfl rfl (fun _ => ?_) (fun q => absurd q (by decide))
  refine r_aload rfl rfl ?_
  refine r_iload rfl rfl ?_
  refine r_ic (x := 1) rfl rfl ?_
  refine r_cv (y := 32) (ra := [.int 1, .int (nI b)]) (rest := []) rfl ⟨⟨rfl, rfl⟩, rfl, by decide⟩ tx rfl rfl (Nat.le_of_ble_eq_true rfl) ?_
  refine in_32 (Nat.le_of_ble_eq_true rfl) ?_
  show WR _ cd_32 0 [some (.ref x), some (.int (nI b)), some (.int 1)] [] h _
  refine r_iload rfl rfl ?_
  refine r_if_lt (tg := 22) rfl rfl (fun q => False.elim (by have : (nI b).toInt = ((b : Nat) : Int) := nI_toInt (by omega); have : (0 : Int32).toInt = 0 := rfl; have := i_lt q; omega)) (fun _ => ?_)
  refine r_iload rfl rfl ?_
  refine r_if_lt (tg := 22) rfl rfl (fun q => absurd q (by decide)) (fun _ => ?_)
  refine r_iload rfl rfl ?_
  refine r_aload rfl rfl ?_
  refine r_cw (y := 34) (ra := []) (rest := [.int 1]) rfl ⟨rfl, rfl⟩ (by rw [show hT h x = 5 from tx]; rfl) rfl rfl (Nat.le_of_ble_eq_true rfl) ?_
  refine in_34 (Nat.le_of_ble_eq_true rfl) ?_
  show WR _ cd_34 0 [some (.ref x)] [] h _
  refine r_aload rfl rfl ?_
  refine r_getA (b := x + 1) rfl ⟨rfl, rfl, rfl⟩ tx rx ?_
  refine r_alen rfl (isA_of tX (by decide)) ?_
  refine WR_tI (y := nI sz) (congrArg nI nX) ?_
  refine r_iret rfl ?_
  show WR _ cd_32 13 [some (.ref x), some (.int (nI b)), some (.int 1)] [.int (nI sz), .int 1] h _
  refine r_iload rfl rfl ?_
  refine r_isub rfl ?_
  refine WR_tI (y := nI (sz - b)) (Eq.trans (pk_sub (a := sz) (b := b) (by omega)) (congrArg nI (by omega))) ?_
  refine r_icmp_gt (tg := 22) rfl rfl (fun q => False.elim (by have : (1 : Int32).toInt = 1 := rfl; have : (nI (sz - b)).toInt = ((sz - b : Nat) : Int) := nI_toInt (by omega); have := i_lt q; omega)) (fun _ => ?_)
  refine r_ic (x := 1) rfl rfl ?_
  refine r_goto (tg := 23) rfl rfl ?_
  refine r_zret rfl (.inr rfl) ?_
  show WR _ cd_107 50 [some (.ref (ad 9)), some (.int (nI a)), some (.int (nI b)), some (.int c), some (.ref x), some (.ref x)] [.int 1] h _
  refine r_if_ne (tg := 56) rfl rfl (fun _ => ?_) (fun q => absurd q (by decide))
  refine r_aload rfl rfl ?_
  refine r_getA (b := ad 16) rfl ⟨rfl, rfl, rfl⟩ (fx_t9 fx) (fx_r9_4 fx) ?_
  refine r_aload rfl rfl ?_
  refine r_iload rfl rfl ?_
  refine r_cv (y := 108) (ra := [.int (nI b), .ref x]) (rest := []) rfl ⟨⟨rfl, rfl⟩, rfl, by decide⟩ (fx_t16 fx) rfl rfl (Nat.le_of_ble_eq_true rfl) ?_
  refine in_108 (Nat.le_of_ble_eq_true rfl) ?_
  show WR _ cd_108 0 [some (.ref (ad 16)), some (.ref x), some (.int (nI b))] [] h _
  refine r_aload rfl rfl ?_
  refine r_getI rfl ⟨rfl, rfl, rfl⟩ (fx_t16 fx) ?_
  refine WR_tI (y := nI W) ew ?_
  refine r_aload rfl rfl ?_
  refine r_getA (b := ad 19) rfl ⟨rfl, rfl, rfl⟩ (fx_t16 fx) (fx_r16_2 fx) ?_
  refine r_alen rfl (isA_of (fx_t19 fx) (by decide)) ?_
  refine WR_tI (y := 100) (congrArg nI (fx_n19 fx)) ?_
  refine r_icmp_ge (tg := 57) rfl rfl (fun q => False.elim (by have : (nI W).toInt = ((W : Nat) : Int) := nI_toInt (by omega); have : (100 : Int32).toInt = 100 := rfl; have := i_le q; omega)) (fun _ => ?_)
  refine r_aload rfl rfl ?_
  refine r_getA (b := ad 19) rfl ⟨rfl, rfl, rfl⟩ (fx_t16 fx) (fx_r16_2 fx) ?_
  refine r_aload rfl rfl ?_
  refine r_getI rfl ⟨rfl, rfl, rfl⟩ (fx_t16 fx) ?_
  refine WR_tI (y := nI W) ew ?_
  refine r_aload rfl rfl ?_
  refine r_aastoreA rfl (isQ_of (fx_t19 fx) (by decide)) (vp_ct (fx_n19 fx) (vp_in_nI (by omega) (by omega))) (okR_of (fx_t19 fx) tx (by decide)) ?_
  refine WR_h (h2 := sR h (ad 19) W (some x)) (congrArg (fun z => sR h (ad 19) z (some x)) ((nI_clamp (by omega)) : _ = W)) ?_
  have fx : FX n ad sa z0 (sR h (ad 19) W (some x)) := FX.sRA (i := 19) fx (.inl (by decide)) (by decide)
  refine r_aload rfl rfl ?_
  refine r_getA (b := ad 20) rfl ⟨rfl, rfl, rfl⟩ (fx_t16 fx) (fx_r16_3 fx) ?_
  refine r_aload rfl rfl ?_
  refine r_getI rfl ⟨rfl, rfl, rfl⟩ (fx_t16 fx) ?_
  refine WR_tI (y := nI W) (Eq.trans I_oR ew) ?_
  refine r_iload rfl rfl ?_
  refine r_iastore rfl (fx_t20 fx) (vp_ct (fx_n20 fx) (vp_in_nI (by omega) (by omega))) ?_
  refine WR_h (h2 := sI (sR h (ad 19) W (some x)) (ad 20) W (nI b)) (congrArg (fun z => sI (sR h (ad 19) W (some x)) (ad 20) z (nI b)) ((nI_clamp (by omega)) : _ = W)) ?_
  have fx : FX n ad sa z0 (sI (sR h (ad 19) W (some x)) (ad 20) W (nI b)) := (FX.sI fx)
  refine r_aload rfl rfl ?_
  refine r_getA (b := ad 21) rfl ⟨rfl, rfl, rfl⟩ (fx_t16 fx) (fx_r16_4 fx) ?_
  refine r_aload rfl rfl ?_
  refine r_getI rfl ⟨rfl, rfl, rfl⟩ (fx_t16 fx) ?_
  refine WR_tI (y := nI W) (Eq.trans (I_ne (fx_ne fx (by decide))) (Eq.trans I_oR ew)) ?_
  refine r_aload rfl rfl ?_
  refine r_getA (b := x + 1) rfl ⟨rfl, rfl, rfl⟩ tx (Eq.trans R_oI (Eq.trans (R_ne (dy_ad fx (.inl (by decide)) zx)) rx)) ?_
  refine r_iload rfl rfl ?_
  refine r_laload rfl tX (vp_ct nX (vp_in_nI (by omega) (by omega))) ?_
  refine WR_tL (congrArg (hL (sI (sR h (ad 19) W (some x)) (ad 20) W (nI b)) (x + 1)) ((nI_clamp (by omega)) : _ = b)) ?_
  refine WR_tL (y := hL h (x + 1) b) (Eq.trans L_oI L_oR) ?_
  refine r_lastore rfl (fx_t21 fx) (vp_ct (fx_n21 fx) (vp_in_nI (by omega) (by omega))) ?_
  refine WR_h (h2 := sL (sI (sR h (ad 19) W (some x)) (ad 20) W (nI b)) (ad 21) W (hL h (x + 1) b)) (congrArg (fun z => sL (sI (sR h (ad 19) W (some x)) (ad 20) W (nI b)) (ad 21) z (hL h (x + 1) b)) ((nI_clamp (by omega)) : _ = W)) ?_
  have fx : FX n ad sa z0 (sL (sI (sR h (ad 19) W (some x)) (ad 20) W (nI b)) (ad 21) W (hL h (x + 1) b)) := (FX.sL fx)
  refine r_aload rfl rfl ?_
  refine r_dup rfl rfl ?_
  refine r_getI rfl ⟨rfl, rfl, rfl⟩ (fx_t16 fx) ?_
  refine WR_tI (y := nI W) (Eq.trans I_oL (Eq.trans (I_ne (fx_ne fx (by decide))) (Eq.trans I_oR ew))) ?_
  refine r_ic (x := 1) rfl rfl ?_
  refine r_iadd rfl ?_
  refine WR_tI (y := nI (W + 1)) (Eq.trans (nI_add W 1) (congrArg nI (by omega))) ?_
  refine r_putI rfl ⟨rfl, rfl, rfl⟩ (fx_t16 fx) ?_
  have fx : FX n ad sa z0 (sI (sL (sI (sR h (ad 19) W (some x)) (ad 20) W (nI b)) (ad 21) W (hL h (x + 1) b)) (ad 16) 5 (nI (W + 1))) := (FX.sI fx)
  refine r_vret rfl ?_
  show WR _ cd_107 66 [some (.ref (ad 9)), some (.int (nI a)), some (.int (nI b)), some (.int c), some (.ref x), some (.ref x)] [] (sI (sL (sI (sR h (ad 19) W (some x)) (ad 20) W (nI b)) (ad 21) W (hL h (x + 1) b)) (ad 16) 5 (nI (W + 1))) _
  refine r_aload rfl rfl ?_
  refine r_getA (b := x + 1) rfl ⟨rfl, rfl, rfl⟩ tx (Eq.trans R_oI (Eq.trans R_oL (Eq.trans R_oI (Eq.trans (R_ne (dy_ad fx (.inl (by decide)) zx)) rx)))) ?_
  refine r_iload rfl rfl ?_
  refine r_iload rfl rfl ?_
  refine r_i2l rfl ?_
  refine r_lastore rfl tX (vp_ct nX (vp_in_nI (by omega) (by omega))) ?_
  refine WR_h (h2 := sL (sI (sL (sI (sR h (ad 19) W (some x)) (ad 20) W (nI b)) (ad 21) W (hL h (x + 1) b)) (ad 16) 5 (nI (W + 1))) (x + 1) b c.toInt64) (congrArg (fun z => sL (sI (sL (sI (sR h (ad 19) W (some x)) (ad 20) W (nI b)) (ad 21) W (hL h (x + 1) b)) (ad 16) 5 (nI (W + 1))) (x + 1) z c.toInt64) ((nI_clamp (by omega)) : _ = b)) ?_
  have fx : FX n ad sa z0 (sL (sI (sL (sI (sR h (ad 19) W (some x)) (ad 20) W (nI b)) (ad 21) W (hL h (x + 1) b)) (ad 16) 5 (nI (W + 1))) (x + 1) b c.toInt64) := (FX.sL fx)
  refine r_ic (x := 0) rfl rfl ?_
  refine r_iret rfl ?_
  show WR _ cd_102 121 [some (.ref (ad 9)), some (.int (nI A)), some (.int (nI dp)), some (.int (nI a)), some (.int (nI b)), some (.int c)] [.int 0] (sL (sI (sL (sI (sR h (ad 19) W (some x)) (ad 20) W (nI b)) (ad 21) W (hL h (x + 1) b)) (ad 16) 5 (nI (W + 1))) (x + 1) b c.toInt64) _
  refine r_iret rfl ?_
  exact (L1)

set_option maxHeartbeats 2000000 in
theorem w_c3l {d : Nat} {Q : mQ} {n : Nat} {ad sa : Nat → Nat} {z0 : Nat} {h : mH} (fx : FX n ad sa z0 h) {A dp : Nat} (hA : A + 3 < 640) (f5 : hR h (ad 9) 5 = some (ad 1)) (f6 : hR h (ad 9) 6 = some (ad 7)) {S : Nat} {a b c : Int32} (es : hI h (ad 9) 11 = nI S) (hS : S < 60) (s0 : hI h (ad 10) A = 3) (s1 : hI h (ad 10) (A + 1) = a) (s2 : hI h (ad 10) (A + 2) = b) (s3 : hI h (ad 10) (A + 3) = c) 
    (L1 : Q (some (.int 0)) (sI (sI h (ad 12) S a) (ad 9) 11 (nI (S + 1)))) : EV (d + 2) 102 [.ref (ad 9), .int (nI A), .int (nI dp)] h Q := by
  have fx0 := fx
  refine in_102 (Nat.le_of_ble_eq_true rfl) ?_
  show WR _ cd_102 0 [some (.ref (ad 9)), some (.int (nI A)), some (.int (nI dp)), none, none, none] [] h _
  refine r_aload rfl rfl ?_
  refine r_getA (b := ad 10) rfl ⟨rfl, rfl, rfl⟩ (fx_t9 fx) (fx_r9_0 fx) ?_
  refine r_iload rfl rfl ?_
  refine r_ic (x := 1) rfl rfl ?_
  refine r_iadd rfl ?_
  refine WR_tI (y := nI (A + 1)) (Eq.trans (nI_add A 1) (congrArg nI (by omega))) ?_
  refine r_iaload rfl (.inl (fx_t10 fx)) (vp_ct (fx_n10 fx) (vp_in_nI (by omega) (by omega))) ?_
  refine WR_tI (congrArg (hI h (ad 10)) ((nI_clamp (by omega)) : _ = A + 1)) ?_
  refine WR_tI (y := a) s1 ?_
  refine r_istore (lv' := [some (.ref (ad 9)), some (.int (nI A)), some (.int (nI dp)), some (.int a), none, none]) rfl (Nat.le_of_ble_eq_true rfl) rfl ?_
  refine r_aload rfl rfl ?_
  refine r_getA (b := ad 10) rfl ⟨rfl, rfl, rfl⟩ (fx_t9 fx) (fx_r9_0 fx) ?_
  refine r_iload rfl rfl ?_
  refine r_ic (x := 2) rfl rfl ?_
  refine r_iadd rfl ?_
  refine WR_tI (y := nI (A + 2)) (Eq.trans (nI_add A 2) (congrArg nI (by omega))) ?_
  refine r_iaload rfl (.inl (fx_t10 fx)) (vp_ct (fx_n10 fx) (vp_in_nI (by omega) (by omega))) ?_
  refine WR_tI (congrArg (hI h (ad 10)) ((nI_clamp (by omega)) : _ = A + 2)) ?_
  refine WR_tI (y := b) s2 ?_
  refine r_istore (lv' := [some (.ref (ad 9)), some (.int (nI A)), some (.int (nI dp)), some (.int a), some (.int b), none]) rfl (Nat.le_of_ble_eq_true rfl) rfl ?_
  refine r_aload rfl rfl ?_
  refine r_getA (b := ad 10) rfl ⟨rfl, rfl, rfl⟩ (fx_t9 fx) (fx_r9_0 fx) ?_
  refine r_iload rfl rfl ?_
  refine r_ic (x := 3) rfl rfl ?_
  refine r_iadd rfl ?_
  refine WR_tI (y := nI (A + 3)) (Eq.trans (nI_add A 3) (congrArg nI (by omega))) ?_
  refine r_iaload rfl (.inl (fx_t10 fx)) (vp_ct (fx_n10 fx) (vp_in_nI (by omega) (by omega))) ?_
  refine WR_tI (congrArg (hI h (ad 10)) ((nI_clamp (by omega)) : _ = A + 3)) ?_
  refine WR_tI (y := c) s3 ?_
  refine r_istore (lv' := [some (.ref (ad 9)), some (.int (nI A)), some (.int (nI dp)), some (.int a), some (.int b), some (.int c)]) rfl (Nat.le_of_ble_eq_true rfl) rfl ?_
  refine r_aload rfl rfl ?_
  refine r_getA (b := ad 10) rfl ⟨rfl, rfl, rfl⟩ (fx_t9 fx) (fx_r9_0 fx) ?_
  refine r_iload rfl rfl ?_
  refine r_iaload rfl (.inl (fx_t10 fx)) (vp_ct (fx_n10 fx) (vp_in_nI (by omega) (by omega))) ?_
  refine WR_tI (congrArg (hI h (ad 10)) ((nI_clamp (by omega)) : _ = A)) ?_
  refine WR_tI (y := 3) s0 ?_
  refine r_tswL (tg := 122) rfl (by decide) ?_
  refine r_aload rfl rfl ?_
  refine r_iload rfl rfl ?_
  refine r_cv (y := 109) (ra := [.int a]) (rest := []) rfl ⟨⟨rfl, rfl⟩, rfl, by decide⟩ (fx_t9 fx) rfl rfl (Nat.le_of_ble_eq_true rfl) ?_
  refine in_109 (Nat.le_of_ble_eq_true rfl) ?_
  show WR _ cd_109 0 [some (.ref (ad 9)), some (.int a)] [] h _
  refine r_aload rfl rfl ?_
  refine r_getI rfl ⟨rfl, rfl, rfl⟩ (fx_t9 fx) ?_
  refine WR_tI (y := nI S) es ?_
  refine r_ic (x := 60) rfl rfl ?_
  refine r_icmp_ge (tg := 19) rfl rfl (fun q => False.elim (by have : (nI S).toInt = ((S : Nat) : Int) := nI_toInt (by omega); have : (60 : Int32).toInt = 60 := rfl; have := i_le q; omega)) (fun _ => ?_)
  refine r_aload rfl rfl ?_
  refine r_getA (b := ad 12) rfl ⟨rfl, rfl, rfl⟩ (fx_t9 fx) (fx_r9_2 fx) ?_
  refine r_aload rfl rfl ?_
  refine r_getI rfl ⟨rfl, rfl, rfl⟩ (fx_t9 fx) ?_
  refine WR_tI (y := nI S) es ?_
  refine r_iload rfl rfl ?_
  refine r_iastore rfl (fx_t12 fx) (vp_ct (fx_n12 fx) (vp_in_nI (by omega) (by omega))) ?_
  refine WR_h (h2 := sI h (ad 12) S a) (congrArg (fun z => sI h (ad 12) z a) ((nI_clamp (by omega)) : _ = S)) ?_
  have fx : FX n ad sa z0 (sI h (ad 12) S a) := (FX.sI fx)
  refine r_aload rfl rfl ?_
  refine r_dup rfl rfl ?_
  refine r_getI rfl ⟨rfl, rfl, rfl⟩ (fx_t9 fx) ?_
  refine WR_tI (y := nI S) (Eq.trans (I_ne (fx_ne fx (by decide))) es) ?_
  refine r_ic (x := 1) rfl rfl ?_
  refine r_iadd rfl ?_
  refine WR_tI (y := nI (S + 1)) (Eq.trans (nI_add S 1) (congrArg nI (by omega))) ?_
  refine r_putI rfl ⟨rfl, rfl, rfl⟩ (fx_t9 fx) ?_
  have fx : FX n ad sa z0 (sI (sI h (ad 12) S a) (ad 9) 11 (nI (S + 1))) := (FX.sI fx)
  refine r_ic (x := 0) rfl rfl ?_
  refine r_iret rfl ?_
  show WR _ cd_102 127 [some (.ref (ad 9)), some (.int (nI A)), some (.int (nI dp)), some (.int a), some (.int b), some (.int c)] [.int 0] (sI (sI h (ad 12) S a) (ad 9) 11 (nI (S + 1))) _
  refine r_iret rfl ?_
  exact (L1)

set_option maxHeartbeats 2000000 in
theorem w_c3g {d : Nat} {Q : mQ} {n : Nat} {ad sa : Nat → Nat} {z0 : Nat} {h : mH} (fx : FX n ad sa z0 h) {A dp : Nat} (hA : A + 3 < 640) (f5 : hR h (ad 9) 5 = some (ad 1)) (f6 : hR h (ad 9) 6 = some (ad 7)) {S : Nat} {a b c : Int32} (es : hI h (ad 9) 11 = nI S) (hS : 60 ≤ S) (hS2 : S < 1000) (s0 : hI h (ad 10) A = 3) (s1 : hI h (ad 10) (A + 1) = a) (s2 : hI h (ad 10) (A + 2) = b) (s3 : hI h (ad 10) (A + 3) = c) 
    (L1 : Q (some (.int 0)) (sI h (ad 9) 11 (nI (S + 1)))) : EV (d + 2) 102 [.ref (ad 9), .int (nI A), .int (nI dp)] h Q := by
  have fx0 := fx
  refine in_102 (Nat.le_of_ble_eq_true rfl) ?_
  show WR _ cd_102 0 [some (.ref (ad 9)), some (.int (nI A)), some (.int (nI dp)), none, none, none] [] h _
  refine r_aload rfl rfl ?_
  refine r_getA (b := ad 10) rfl ⟨rfl, rfl, rfl⟩ (fx_t9 fx) (fx_r9_0 fx) ?_
  refine r_iload rfl rfl ?_
  refine r_ic (x := 1) rfl rfl ?_
  refine r_iadd rfl ?_
  refine WR_tI (y := nI (A + 1)) (Eq.trans (nI_add A 1) (congrArg nI (by omega))) ?_
  refine r_iaload rfl (.inl (fx_t10 fx)) (vp_ct (fx_n10 fx) (vp_in_nI (by omega) (by omega))) ?_
  refine WR_tI (congrArg (hI h (ad 10)) ((nI_clamp (by omega)) : _ = A + 1)) ?_
  refine WR_tI (y := a) s1 ?_
  refine r_istore (lv' := [some (.ref (ad 9)), some (.int (nI A)), some (.int (nI dp)), some (.int a), none, none]) rfl (Nat.le_of_ble_eq_true rfl) rfl ?_
  refine r_aload rfl rfl ?_
  refine r_getA (b := ad 10) rfl ⟨rfl, rfl, rfl⟩ (fx_t9 fx) (fx_r9_0 fx) ?_
  refine r_iload rfl rfl ?_
  refine r_ic (x := 2) rfl rfl ?_
  refine r_iadd rfl ?_
  refine WR_tI (y := nI (A + 2)) (Eq.trans (nI_add A 2) (congrArg nI (by omega))) ?_
  refine r_iaload rfl (.inl (fx_t10 fx)) (vp_ct (fx_n10 fx) (vp_in_nI (by omega) (by omega))) ?_
  refine WR_tI (congrArg (hI h (ad 10)) ((nI_clamp (by omega)) : _ = A + 2)) ?_
  refine WR_tI (y := b) s2 ?_
  refine r_istore (lv' := [some (.ref (ad 9)), some (.int (nI A)), some (.int (nI dp)), some (.int a), some (.int b), none]) rfl (Nat.le_of_ble_eq_true rfl) rfl ?_
  refine r_aload rfl rfl ?_
  refine r_getA (b := ad 10) rfl ⟨rfl, rfl, rfl⟩ (fx_t9 fx) (fx_r9_0 fx) ?_
  refine r_iload rfl rfl ?_
  refine r_ic (x := 3) rfl rfl ?_
  refine r_iadd rfl ?_
  refine WR_tI (y := nI (A + 3)) (Eq.trans (nI_add A 3) (congrArg nI (by omega))) ?_
  refine r_iaload rfl (.inl (fx_t10 fx)) (vp_ct (fx_n10 fx) (vp_in_nI (by omega) (by omega))) ?_
  refine WR_tI (congrArg (hI h (ad 10)) ((nI_clamp (by omega)) : _ = A + 3)) ?_
  refine WR_tI (y := c) s3 ?_
  refine r_istore (lv' := [some (.ref (ad 9)), some (.int (nI A)), some (.int (nI dp)), some (.int a), some (.int b), some (.int c)]) rfl (Nat.le_of_ble_eq_true rfl) rfl ?_
  refine r_aload rfl rfl ?_
  refine r_getA (b := ad 10) rfl ⟨rfl, rfl, rfl⟩ (fx_t9 fx) (fx_r9_0 fx) ?_
  refine r_iload rfl rfl ?_
  refine r_iaload rfl (.inl (fx_t10 fx)) (vp_ct (fx_n10 fx) (vp_in_nI (by omega) (by omega))) ?_
  refine WR_tI (congrArg (hI h (ad 10)) ((nI_clamp (by omega)) : _ = A)) ?_
  refine WR_tI (y := 3) s0 ?_
  refine r_tswL (tg := 122) rfl (by decide) ?_
  refine r_aload rfl rfl ?_
  refine r_iload rfl rfl ?_
  refine r_cv (y := 109) (ra := [.int a]) (rest := []) rfl ⟨⟨rfl, rfl⟩, rfl, by decide⟩ (fx_t9 fx) rfl rfl (Nat.le_of_ble_eq_true rfl) ?_
  refine in_109 (Nat.le_of_ble_eq_true rfl) ?_
  show WR _ cd_109 0 [some (.ref (ad 9)), some (.int a)] [] h _
  refine r_aload rfl rfl ?_
  refine r_getI rfl ⟨rfl, rfl, rfl⟩ (fx_t9 fx) ?_
  refine WR_tI (y := nI S) es ?_
  refine r_ic (x := 60) rfl rfl ?_
  refine r_icmp_ge (tg := 19) rfl rfl (fun _ => ?_) (fun q => False.elim (by have : (nI S).toInt = ((S : Nat) : Int) := nI_toInt (by omega); have : (60 : Int32).toInt = 60 := rfl; have := i_nle q; omega))
  refine r_aload rfl rfl ?_
  refine r_dup rfl rfl ?_
  refine r_getI rfl ⟨rfl, rfl, rfl⟩ (fx_t9 fx) ?_
  refine WR_tI (y := nI S) es ?_
  refine r_ic (x := 1) rfl rfl ?_
  refine r_iadd rfl ?_
  refine WR_tI (y := nI (S + 1)) (Eq.trans (nI_add S 1) (congrArg nI (by omega))) ?_
  refine r_putI rfl ⟨rfl, rfl, rfl⟩ (fx_t9 fx) ?_
  have fx : FX n ad sa z0 (sI h (ad 9) 11 (nI (S + 1))) := (FX.sI fx)
  refine r_ic (x := 0) rfl rfl ?_
  refine r_iret rfl ?_
  show WR _ cd_102 127 [some (.ref (ad 9)), some (.int (nI A)), some (.int (nI dp)), some (.int a), some (.int b), some (.int c)] [.int 0] (sI h (ad 9) 11 (nI (S + 1))) _
  refine r_iret rfl ?_
  exact (L1)

set_option maxHeartbeats 2000000 in
theorem w_c5l {d : Nat} {Q : mQ} {n : Nat} {ad sa : Nat → Nat} {z0 : Nat} {h : mH} (fx : FX n ad sa z0 h) {A dp : Nat} (hA : A + 3 < 640) (f5 : hR h (ad 9) 5 = some (ad 1)) (f6 : hR h (ad 9) 6 = some (ad 7)) {S : Nat} {a b c : Int32} (es : hI h (ad 9) 11 = nI S) (hS : S < 60) (s0 : hI h (ad 10) A = 5) (s1 : hI h (ad 10) (A + 1) = a) (s2 : hI h (ad 10) (A + 2) = b) (s3 : hI h (ad 10) (A + 3) = c) 
    (L1 : Q (some (.int 0)) (sI (sI h (ad 12) S (hI h (ad 9) 7)) (ad 9) 11 (nI (S + 1)))) : EV (d + 2) 102 [.ref (ad 9), .int (nI A), .int (nI dp)] h Q := by
  have fx0 := fx
  refine in_102 (Nat.le_of_ble_eq_true rfl) ?_
  show WR _ cd_102 0 [some (.ref (ad 9)), some (.int (nI A)), some (.int (nI dp)), none, none, none] [] h _
  refine r_aload rfl rfl ?_
  refine r_getA (b := ad 10) rfl ⟨rfl, rfl, rfl⟩ (fx_t9 fx) (fx_r9_0 fx) ?_
  refine r_iload rfl rfl ?_
  refine r_ic (x := 1) rfl rfl ?_
  refine r_iadd rfl ?_
  refine WR_tI (y := nI (A + 1)) (Eq.trans (nI_add A 1) (congrArg nI (by omega))) ?_
  refine r_iaload rfl (.inl (fx_t10 fx)) (vp_ct (fx_n10 fx) (vp_in_nI (by omega) (by omega))) ?_
  refine WR_tI (congrArg (hI h (ad 10)) ((nI_clamp (by omega)) : _ = A + 1)) ?_
  refine WR_tI (y := a) s1 ?_
  refine r_istore (lv' := [some (.ref (ad 9)), some (.int (nI A)), some (.int (nI dp)), some (.int a), none, none]) rfl (Nat.le_of_ble_eq_true rfl) rfl ?_
  refine r_aload rfl rfl ?_
  refine r_getA (b := ad 10) rfl ⟨rfl, rfl, rfl⟩ (fx_t9 fx) (fx_r9_0 fx) ?_
  refine r_iload rfl rfl ?_
  refine r_ic (x := 2) rfl rfl ?_
  refine r_iadd rfl ?_
  refine WR_tI (y := nI (A + 2)) (Eq.trans (nI_add A 2) (congrArg nI (by omega))) ?_
  refine r_iaload rfl (.inl (fx_t10 fx)) (vp_ct (fx_n10 fx) (vp_in_nI (by omega) (by omega))) ?_
  refine WR_tI (congrArg (hI h (ad 10)) ((nI_clamp (by omega)) : _ = A + 2)) ?_
  refine WR_tI (y := b) s2 ?_
  refine r_istore (lv' := [some (.ref (ad 9)), some (.int (nI A)), some (.int (nI dp)), some (.int a), some (.int b), none]) rfl (Nat.le_of_ble_eq_true rfl) rfl ?_
  refine r_aload rfl rfl ?_
  refine r_getA (b := ad 10) rfl ⟨rfl, rfl, rfl⟩ (fx_t9 fx) (fx_r9_0 fx) ?_
  refine r_iload rfl rfl ?_
  refine r_ic (x := 3) rfl rfl ?_
  refine r_iadd rfl ?_
  refine WR_tI (y := nI (A + 3)) (Eq.trans (nI_add A 3) (congrArg nI (by omega))) ?_
  refine r_iaload rfl (.inl (fx_t10 fx)) (vp_ct (fx_n10 fx) (vp_in_nI (by omega) (by omega))) ?_
  refine WR_tI (congrArg (hI h (ad 10)) ((nI_clamp (by omega)) : _ = A + 3)) ?_
  refine WR_tI (y := c) s3 ?_
  refine r_istore (lv' := [some (.ref (ad 9)), some (.int (nI A)), some (.int (nI dp)), some (.int a), some (.int b), some (.int c)]) rfl (Nat.le_of_ble_eq_true rfl) rfl ?_
  refine r_aload rfl rfl ?_
  refine r_getA (b := ad 10) rfl ⟨rfl, rfl, rfl⟩ (fx_t9 fx) (fx_r9_0 fx) ?_
  refine r_iload rfl rfl ?_
  refine r_iaload rfl (.inl (fx_t10 fx)) (vp_ct (fx_n10 fx) (vp_in_nI (by omega) (by omega))) ?_
  refine WR_tI (congrArg (hI h (ad 10)) ((nI_clamp (by omega)) : _ = A)) ?_
  refine WR_tI (y := 5) s0 ?_
  refine r_tswL (tg := 135) rfl (by decide) ?_
  refine r_aload rfl rfl ?_
  refine r_aload rfl rfl ?_
  refine r_getI rfl ⟨rfl, rfl, rfl⟩ (fx_t9 fx) ?_
  refine r_cv (y := 109) (ra := [.int (hI h (ad 9) 7)]) (rest := []) rfl ⟨⟨rfl, rfl⟩, rfl, by decide⟩ (fx_t9 fx) rfl rfl (Nat.le_of_ble_eq_true rfl) ?_
  refine in_109 (Nat.le_of_ble_eq_true rfl) ?_
  show WR _ cd_109 0 [some (.ref (ad 9)), some (.int (hI h (ad 9) 7))] [] h _
  refine r_aload rfl rfl ?_
  refine r_getI rfl ⟨rfl, rfl, rfl⟩ (fx_t9 fx) ?_
  refine WR_tI (y := nI S) es ?_
  refine r_ic (x := 60) rfl rfl ?_
  refine r_icmp_ge (tg := 19) rfl rfl (fun q => False.elim (by have : (nI S).toInt = ((S : Nat) : Int) := nI_toInt (by omega); have : (60 : Int32).toInt = 60 := rfl; have := i_le q; omega)) (fun _ => ?_)
  refine r_aload rfl rfl ?_
  refine r_getA (b := ad 12) rfl ⟨rfl, rfl, rfl⟩ (fx_t9 fx) (fx_r9_2 fx) ?_
  refine r_aload rfl rfl ?_
  refine r_getI rfl ⟨rfl, rfl, rfl⟩ (fx_t9 fx) ?_
  refine WR_tI (y := nI S) es ?_
  refine r_iload rfl rfl ?_
  refine r_iastore rfl (fx_t12 fx) (vp_ct (fx_n12 fx) (vp_in_nI (by omega) (by omega))) ?_
  refine WR_h (h2 := sI h (ad 12) S (hI h (ad 9) 7)) (congrArg (fun z => sI h (ad 12) z (hI h (ad 9) 7)) ((nI_clamp (by omega)) : _ = S)) ?_
  have fx : FX n ad sa z0 (sI h (ad 12) S (hI h (ad 9) 7)) := (FX.sI fx)
  refine r_aload rfl rfl ?_
  refine r_dup rfl rfl ?_
  refine r_getI rfl ⟨rfl, rfl, rfl⟩ (fx_t9 fx) ?_
  refine WR_tI (y := nI S) (Eq.trans (I_ne (fx_ne fx (by decide))) es) ?_
  refine r_ic (x := 1) rfl rfl ?_
  refine r_iadd rfl ?_
  refine WR_tI (y := nI (S + 1)) (Eq.trans (nI_add S 1) (congrArg nI (by omega))) ?_
  refine r_putI rfl ⟨rfl, rfl, rfl⟩ (fx_t9 fx) ?_
  have fx : FX n ad sa z0 (sI (sI h (ad 12) S (hI h (ad 9) 7)) (ad 9) 11 (nI (S + 1))) := (FX.sI fx)
  refine r_ic (x := 0) rfl rfl ?_
  refine r_iret rfl ?_
  show WR _ cd_102 143 [some (.ref (ad 9)), some (.int (nI A)), some (.int (nI dp)), some (.int a), some (.int b), some (.int c)] [.int 0] (sI (sI h (ad 12) S (hI h (ad 9) 7)) (ad 9) 11 (nI (S + 1))) _
  refine r_iret rfl ?_
  exact (L1)

set_option maxHeartbeats 2000000 in
theorem w_c5g {d : Nat} {Q : mQ} {n : Nat} {ad sa : Nat → Nat} {z0 : Nat} {h : mH} (fx : FX n ad sa z0 h) {A dp : Nat} (hA : A + 3 < 640) (f5 : hR h (ad 9) 5 = some (ad 1)) (f6 : hR h (ad 9) 6 = some (ad 7)) {S : Nat} {a b c : Int32} (es : hI h (ad 9) 11 = nI S) (hS : 60 ≤ S) (hS2 : S < 1000) (s0 : hI h (ad 10) A = 5) (s1 : hI h (ad 10) (A + 1) = a) (s2 : hI h (ad 10) (A + 2) = b) (s3 : hI h (ad 10) (A + 3) = c) 
    (L1 : Q (some (.int 0)) (sI h (ad 9) 11 (nI (S + 1)))) : EV (d + 2) 102 [.ref (ad 9), .int (nI A), .int (nI dp)] h Q := by
  have fx0 := fx
  refine in_102 (Nat.le_of_ble_eq_true rfl) ?_
  show WR _ cd_102 0 [some (.ref (ad 9)), some (.int (nI A)), some (.int (nI dp)), none, none, none] [] h _
  refine r_aload rfl rfl ?_
  refine r_getA (b := ad 10) rfl ⟨rfl, rfl, rfl⟩ (fx_t9 fx) (fx_r9_0 fx) ?_
  refine r_iload rfl rfl ?_
  refine r_ic (x := 1) rfl rfl ?_
  refine r_iadd rfl ?_
  refine WR_tI (y := nI (A + 1)) (Eq.trans (nI_add A 1) (congrArg nI (by omega))) ?_
  refine r_iaload rfl (.inl (fx_t10 fx)) (vp_ct (fx_n10 fx) (vp_in_nI (by omega) (by omega))) ?_
  refine WR_tI (congrArg (hI h (ad 10)) ((nI_clamp (by omega)) : _ = A + 1)) ?_
  refine WR_tI (y := a) s1 ?_
  refine r_istore (lv' := [some (.ref (ad 9)), some (.int (nI A)), some (.int (nI dp)), some (.int a), none, none]) rfl (Nat.le_of_ble_eq_true rfl) rfl ?_
  refine r_aload rfl rfl ?_
  refine r_getA (b := ad 10) rfl ⟨rfl, rfl, rfl⟩ (fx_t9 fx) (fx_r9_0 fx) ?_
  refine r_iload rfl rfl ?_
  refine r_ic (x := 2) rfl rfl ?_
  refine r_iadd rfl ?_
  refine WR_tI (y := nI (A + 2)) (Eq.trans (nI_add A 2) (congrArg nI (by omega))) ?_
  refine r_iaload rfl (.inl (fx_t10 fx)) (vp_ct (fx_n10 fx) (vp_in_nI (by omega) (by omega))) ?_
  refine WR_tI (congrArg (hI h (ad 10)) ((nI_clamp (by omega)) : _ = A + 2)) ?_
  refine WR_tI (y := b) s2 ?_
  refine r_istore (lv' := [some (.ref (ad 9)), some (.int (nI A)), some (.int (nI dp)), some (.int a), some (.int b), none]) rfl (Nat.le_of_ble_eq_true rfl) rfl ?_
  refine r_aload rfl rfl ?_
  refine r_getA (b := ad 10) rfl ⟨rfl, rfl, rfl⟩ (fx_t9 fx) (fx_r9_0 fx) ?_
  refine r_iload rfl rfl ?_
  refine r_ic (x := 3) rfl rfl ?_
  refine r_iadd rfl ?_
  refine WR_tI (y := nI (A + 3)) (Eq.trans (nI_add A 3) (congrArg nI (by omega))) ?_
  refine r_iaload rfl (.inl (fx_t10 fx)) (vp_ct (fx_n10 fx) (vp_in_nI (by omega) (by omega))) ?_
  refine WR_tI (congrArg (hI h (ad 10)) ((nI_clamp (by omega)) : _ = A + 3)) ?_
  refine WR_tI (y := c) s3 ?_
  refine r_istore (lv' := [some (.ref (ad 9)), some (.int (nI A)), some (.int (nI dp)), some (.int a), some (.int b), some (.int c)]) rfl (Nat.le_of_ble_eq_true rfl) rfl ?_
  refine r_aload rfl rfl ?_
  refine r_getA (b := ad 10) rfl ⟨rfl, rfl, rfl⟩ (fx_t9 fx) (fx_r9_0 fx) ?_
  refine r_iload rfl rfl ?_
  refine r_iaload rfl (.inl (fx_t10 fx)) (vp_ct (fx_n10 fx) (vp_in_nI (by omega) (by omega))) ?_
  refine WR_tI (congrArg (hI h (ad 10)) ((nI_clamp (by omega)) : _ = A)) ?_
  refine WR_tI (y := 5) s0 ?_
  refine r_tswL (tg := 135) rfl (by decide) ?_
  refine r_aload rfl rfl ?_
  refine r_aload rfl rfl ?_
  refine r_getI rfl ⟨rfl, rfl, rfl⟩ (fx_t9 fx) ?_
  refine r_cv (y := 109) (ra := [.int (hI h (ad 9) 7)]) (rest := []) rfl ⟨⟨rfl, rfl⟩, rfl, by decide⟩ (fx_t9 fx) rfl rfl (Nat.le_of_ble_eq_true rfl) ?_
  refine in_109 (Nat.le_of_ble_eq_true rfl) ?_
  show WR _ cd_109 0 [some (.ref (ad 9)), some (.int (hI h (ad 9) 7))] [] h _
  refine r_aload rfl rfl ?_
  refine r_getI rfl ⟨rfl, rfl, rfl⟩ (fx_t9 fx) ?_
  refine WR_tI (y := nI S) es ?_
  refine r_ic (x := 60) rfl rfl ?_
  refine r_icmp_ge (tg := 19) rfl rfl (fun _ => ?_) (fun q => False.elim (by have : (nI S).toInt = ((S : Nat) : Int) := nI_toInt (by omega); have : (60 : Int32).toInt = 60 := rfl; have := i_nle q; omega))
  refine r_aload rfl rfl ?_
  refine r_dup rfl rfl ?_
  refine r_getI rfl ⟨rfl, rfl, rfl⟩ (fx_t9 fx) ?_
  refine WR_tI (y := nI S) es ?_
  refine r_ic (x := 1) rfl rfl ?_
  refine r_iadd rfl ?_
  refine WR_tI (y := nI (S + 1)) (Eq.trans (nI_add S 1) (congrArg nI (by omega))) ?_
  refine r_putI rfl ⟨rfl, rfl, rfl⟩ (fx_t9 fx) ?_
  have fx : FX n ad sa z0 (sI h (ad 9) 11 (nI (S + 1))) := (FX.sI fx)
  refine r_ic (x := 0) rfl rfl ?_
  refine r_iret rfl ?_
  show WR _ cd_102 143 [some (.ref (ad 9)), some (.int (nI A)), some (.int (nI dp)), some (.int a), some (.int b), some (.int c)] [.int 0] (sI h (ad 9) 11 (nI (S + 1))) _
  refine r_iret rfl ?_
  exact (L1)

set_option maxHeartbeats 2000000 in
theorem w_c4 {d : Nat} {Q : mQ} {n : Nat} {ad sa : Nat → Nat} {z0 : Nat} {h : mH} (fx : FX n ad sa z0 h) {A dp : Nat} (hA : A + 3 < 640) (f5 : hR h (ad 9) 5 = some (ad 1)) (f6 : hR h (ad 9) 6 = some (ad 7)) {a b c : Int32} (s0 : hI h (ad 10) A = 4) (s1 : hI h (ad 10) (A + 1) = a) (s2 : hI h (ad 10) (A + 2) = b) (s3 : hI h (ad 10) (A + 3) = c) 
    (L1 : Q (some (.int 1)) (sI h (ad 9) 8 a)) : EV (d + 1) 102 [.ref (ad 9), .int (nI A), .int (nI dp)] h Q := by
  have fx0 := fx
  refine in_102 (Nat.le_of_ble_eq_true rfl) ?_
  show WR _ cd_102 0 [some (.ref (ad 9)), some (.int (nI A)), some (.int (nI dp)), none, none, none] [] h _
  refine r_aload rfl rfl ?_
  refine r_getA (b := ad 10) rfl ⟨rfl, rfl, rfl⟩ (fx_t9 fx) (fx_r9_0 fx) ?_
  refine r_iload rfl rfl ?_
  refine r_ic (x := 1) rfl rfl ?_
  refine r_iadd rfl ?_
  refine WR_tI (y := nI (A + 1)) (Eq.trans (nI_add A 1) (congrArg nI (by omega))) ?_
  refine r_iaload rfl (.inl (fx_t10 fx)) (vp_ct (fx_n10 fx) (vp_in_nI (by omega) (by omega))) ?_
  refine WR_tI (congrArg (hI h (ad 10)) ((nI_clamp (by omega)) : _ = A + 1)) ?_
  refine WR_tI (y := a) s1 ?_
  refine r_istore (lv' := [some (.ref (ad 9)), some (.int (nI A)), some (.int (nI dp)), some (.int a), none, none]) rfl (Nat.le_of_ble_eq_true rfl) rfl ?_
  refine r_aload rfl rfl ?_
  refine r_getA (b := ad 10) rfl ⟨rfl, rfl, rfl⟩ (fx_t9 fx) (fx_r9_0 fx) ?_
  refine r_iload rfl rfl ?_
  refine r_ic (x := 2) rfl rfl ?_
  refine r_iadd rfl ?_
  refine WR_tI (y := nI (A + 2)) (Eq.trans (nI_add A 2) (congrArg nI (by omega))) ?_
  refine r_iaload rfl (.inl (fx_t10 fx)) (vp_ct (fx_n10 fx) (vp_in_nI (by omega) (by omega))) ?_
  refine WR_tI (congrArg (hI h (ad 10)) ((nI_clamp (by omega)) : _ = A + 2)) ?_
  refine WR_tI (y := b) s2 ?_
  refine r_istore (lv' := [some (.ref (ad 9)), some (.int (nI A)), some (.int (nI dp)), some (.int a), some (.int b), none]) rfl (Nat.le_of_ble_eq_true rfl) rfl ?_
  refine r_aload rfl rfl ?_
  refine r_getA (b := ad 10) rfl ⟨rfl, rfl, rfl⟩ (fx_t9 fx) (fx_r9_0 fx) ?_
  refine r_iload rfl rfl ?_
  refine r_ic (x := 3) rfl rfl ?_
  refine r_iadd rfl ?_
  refine WR_tI (y := nI (A + 3)) (Eq.trans (nI_add A 3) (congrArg nI (by omega))) ?_
  refine r_iaload rfl (.inl (fx_t10 fx)) (vp_ct (fx_n10 fx) (vp_in_nI (by omega) (by omega))) ?_
  refine WR_tI (congrArg (hI h (ad 10)) ((nI_clamp (by omega)) : _ = A + 3)) ?_
  refine WR_tI (y := c) s3 ?_
  refine r_istore (lv' := [some (.ref (ad 9)), some (.int (nI A)), some (.int (nI dp)), some (.int a), some (.int b), some (.int c)]) rfl (Nat.le_of_ble_eq_true rfl) rfl ?_
  refine r_aload rfl rfl ?_
  refine r_getA (b := ad 10) rfl ⟨rfl, rfl, rfl⟩ (fx_t9 fx) (fx_r9_0 fx) ?_
  refine r_iload rfl rfl ?_
  refine r_iaload rfl (.inl (fx_t10 fx)) (vp_ct (fx_n10 fx) (vp_in_nI (by omega) (by omega))) ?_
  refine WR_tI (congrArg (hI h (ad 10)) ((nI_clamp (by omega)) : _ = A)) ?_
  refine WR_tI (y := 4) s0 ?_
  refine r_tswL (tg := 128) rfl (by decide) ?_
  refine r_aload rfl rfl ?_
  refine r_iload rfl rfl ?_
  refine r_putI rfl ⟨rfl, rfl, rfl⟩ (fx_t9 fx) ?_
  have fx : FX n ad sa z0 (sI h (ad 9) 8 a) := (FX.sI fx)
  refine r_ic (x := 1) rfl rfl ?_
  refine r_iret rfl ?_
  exact (L1)

set_option maxHeartbeats 2000000 in
theorem w_c6 {d : Nat} {Q : mQ} {n : Nat} {ad sa : Nat → Nat} {z0 : Nat} {h : mH} (fx : FX n ad sa z0 h) {A dp : Nat} (hA : A + 3 < 640) (f5 : hR h (ad 9) 5 = some (ad 1)) (f6 : hR h (ad 9) 6 = some (ad 7)) {a b c : Int32} (s0 : hI h (ad 10) A = 6) (s1 : hI h (ad 10) (A + 1) = a) (s2 : hI h (ad 10) (A + 2) = b) (s3 : hI h (ad 10) (A + 3) = c) 
    (L1 : Q (some (.int ((-10) - a))) h) : EV (d + 1) 102 [.ref (ad 9), .int (nI A), .int (nI dp)] h Q := by
  have fx0 := fx
  refine in_102 (Nat.le_of_ble_eq_true rfl) ?_
  show WR _ cd_102 0 [some (.ref (ad 9)), some (.int (nI A)), some (.int (nI dp)), none, none, none] [] h _
  refine r_aload rfl rfl ?_
  refine r_getA (b := ad 10) rfl ⟨rfl, rfl, rfl⟩ (fx_t9 fx) (fx_r9_0 fx) ?_
  refine r_iload rfl rfl ?_
  refine r_ic (x := 1) rfl rfl ?_
  refine r_iadd rfl ?_
  refine WR_tI (y := nI (A + 1)) (Eq.trans (nI_add A 1) (congrArg nI (by omega))) ?_
  refine r_iaload rfl (.inl (fx_t10 fx)) (vp_ct (fx_n10 fx) (vp_in_nI (by omega) (by omega))) ?_
  refine WR_tI (congrArg (hI h (ad 10)) ((nI_clamp (by omega)) : _ = A + 1)) ?_
  refine WR_tI (y := a) s1 ?_
  refine r_istore (lv' := [some (.ref (ad 9)), some (.int (nI A)), some (.int (nI dp)), some (.int a), none, none]) rfl (Nat.le_of_ble_eq_true rfl) rfl ?_
  refine r_aload rfl rfl ?_
  refine r_getA (b := ad 10) rfl ⟨rfl, rfl, rfl⟩ (fx_t9 fx) (fx_r9_0 fx) ?_
  refine r_iload rfl rfl ?_
  refine r_ic (x := 2) rfl rfl ?_
  refine r_iadd rfl ?_
  refine WR_tI (y := nI (A + 2)) (Eq.trans (nI_add A 2) (congrArg nI (by omega))) ?_
  refine r_iaload rfl (.inl (fx_t10 fx)) (vp_ct (fx_n10 fx) (vp_in_nI (by omega) (by omega))) ?_
  refine WR_tI (congrArg (hI h (ad 10)) ((nI_clamp (by omega)) : _ = A + 2)) ?_
  refine WR_tI (y := b) s2 ?_
  refine r_istore (lv' := [some (.ref (ad 9)), some (.int (nI A)), some (.int (nI dp)), some (.int a), some (.int b), none]) rfl (Nat.le_of_ble_eq_true rfl) rfl ?_
  refine r_aload rfl rfl ?_
  refine r_getA (b := ad 10) rfl ⟨rfl, rfl, rfl⟩ (fx_t9 fx) (fx_r9_0 fx) ?_
  refine r_iload rfl rfl ?_
  refine r_ic (x := 3) rfl rfl ?_
  refine r_iadd rfl ?_
  refine WR_tI (y := nI (A + 3)) (Eq.trans (nI_add A 3) (congrArg nI (by omega))) ?_
  refine r_iaload rfl (.inl (fx_t10 fx)) (vp_ct (fx_n10 fx) (vp_in_nI (by omega) (by omega))) ?_
  refine WR_tI (congrArg (hI h (ad 10)) ((nI_clamp (by omega)) : _ = A + 3)) ?_
  refine WR_tI (y := c) s3 ?_
  refine r_istore (lv' := [some (.ref (ad 9)), some (.int (nI A)), some (.int (nI dp)), some (.int a), some (.int b), some (.int c)]) rfl (Nat.le_of_ble_eq_true rfl) rfl ?_
  refine r_aload rfl rfl ?_
  refine r_getA (b := ad 10) rfl ⟨rfl, rfl, rfl⟩ (fx_t9 fx) (fx_r9_0 fx) ?_
  refine r_iload rfl rfl ?_
  refine r_iaload rfl (.inl (fx_t10 fx)) (vp_ct (fx_n10 fx) (vp_in_nI (by omega) (by omega))) ?_
  refine WR_tI (congrArg (hI h (ad 10)) ((nI_clamp (by omega)) : _ = A)) ?_
  refine WR_tI (y := 6) s0 ?_
  refine r_tswL (tg := 144) rfl (by decide) ?_
  refine r_ic (x := (-10)) rfl rfl ?_
  refine r_iload rfl rfl ?_
  refine r_isub rfl ?_
  refine r_iret rfl ?_
  exact (L1)

set_option maxHeartbeats 2000000 in
theorem w_c11z {d : Nat} {Q : mQ} {n : Nat} {ad sa : Nat → Nat} {z0 : Nat} {h : mH} (fx : FX n ad sa z0 h) {A dp : Nat} (hA : A + 3 < 640) (f5 : hR h (ad 9) 5 = some (ad 1)) (f6 : hR h (ad 9) 6 = some (ad 7)) {a : Nat} {b c : Int32} (ha : a < n) (n6 : n ≤ 6) (tu1 : hR h (ad 7) a = some (ad (100 + 5 * a))) (tu2 : hT h (ad (100 + 5 * a)) = 8) (tu3 : hR h (ad (100 + 5 * a)) 5 = some (ad (101 + 5 * a))) (tu4 : hT h (ad (101 + 5 * a)) = 26) (tu5 : hN h (ad (101 + 5 * a)) = 5) (e9 : hI h (ad (100 + 5 * a)) 9 = 0) (s0 : hI h (ad 10) A = 11) (s1 : hI h (ad 10) (A + 1) = nI a) (s2 : hI h (ad 10) (A + 2) = b) (s3 : hI h (ad 10) (A + 3) = c) 
    (L1 : Q (some (.int (-17))) h) : EV (d + 1) 102 [.ref (ad 9), .int (nI A), .int (nI dp)] h Q := by
  have fx0 := fx
  refine in_102 (Nat.le_of_ble_eq_true rfl) ?_
  show WR _ cd_102 0 [some (.ref (ad 9)), some (.int (nI A)), some (.int (nI dp)), none, none, none] [] h _
  refine r_aload rfl rfl ?_
  refine r_getA (b := ad 10) rfl ⟨rfl, rfl, rfl⟩ (fx_t9 fx) (fx_r9_0 fx) ?_
  refine r_iload rfl rfl ?_
  refine r_ic (x := 1) rfl rfl ?_
  refine r_iadd rfl ?_
  refine WR_tI (y := nI (A + 1)) (Eq.trans (nI_add A 1) (congrArg nI (by omega))) ?_
  refine r_iaload rfl (.inl (fx_t10 fx)) (vp_ct (fx_n10 fx) (vp_in_nI (by omega) (by omega))) ?_
  refine WR_tI (congrArg (hI h (ad 10)) ((nI_clamp (by omega)) : _ = A + 1)) ?_
  refine WR_tI (y := nI a) s1 ?_
  refine r_istore (lv' := [some (.ref (ad 9)), some (.int (nI A)), some (.int (nI dp)), some (.int (nI a)), none, none]) rfl (Nat.le_of_ble_eq_true rfl) rfl ?_
  refine r_aload rfl rfl ?_
  refine r_getA (b := ad 10) rfl ⟨rfl, rfl, rfl⟩ (fx_t9 fx) (fx_r9_0 fx) ?_
  refine r_iload rfl rfl ?_
  refine r_ic (x := 2) rfl rfl ?_
  refine r_iadd rfl ?_
  refine WR_tI (y := nI (A + 2)) (Eq.trans (nI_add A 2) (congrArg nI (by omega))) ?_
  refine r_iaload rfl (.inl (fx_t10 fx)) (vp_ct (fx_n10 fx) (vp_in_nI (by omega) (by omega))) ?_
  refine WR_tI (congrArg (hI h (ad 10)) ((nI_clamp (by omega)) : _ = A + 2)) ?_
  refine WR_tI (y := b) s2 ?_
  refine r_istore (lv' := [some (.ref (ad 9)), some (.int (nI A)), some (.int (nI dp)), some (.int (nI a)), some (.int b), none]) rfl (Nat.le_of_ble_eq_true rfl) rfl ?_
  refine r_aload rfl rfl ?_
  refine r_getA (b := ad 10) rfl ⟨rfl, rfl, rfl⟩ (fx_t9 fx) (fx_r9_0 fx) ?_
  refine r_iload rfl rfl ?_
  refine r_ic (x := 3) rfl rfl ?_
  refine r_iadd rfl ?_
  refine WR_tI (y := nI (A + 3)) (Eq.trans (nI_add A 3) (congrArg nI (by omega))) ?_
  refine r_iaload rfl (.inl (fx_t10 fx)) (vp_ct (fx_n10 fx) (vp_in_nI (by omega) (by omega))) ?_
  refine WR_tI (congrArg (hI h (ad 10)) ((nI_clamp (by omega)) : _ = A + 3)) ?_
  refine WR_tI (y := c) s3 ?_
  refine r_istore (lv' := [some (.ref (ad 9)), some (.int (nI A)), some (.int (nI dp)), some (.int (nI a)), some (.int b), some (.int c)]) rfl (Nat.le_of_ble_eq_true rfl) rfl ?_
  refine r_aload rfl rfl ?_
  refine r_getA (b := ad 10) rfl ⟨rfl, rfl, rfl⟩ (fx_t9 fx) (fx_r9_0 fx) ?_
  refine r_iload rfl rfl ?_
  refine r_iaload rfl (.inl (fx_t10 fx)) (vp_ct (fx_n10 fx) (vp_in_nI (by omega) (by omega))) ?_
  refine WR_tI (congrArg (hI h (ad 10)) ((nI_clamp (by omega)) : _ = A)) ?_
  refine WR_tI (y := 11) s0 ?_
  refine r_tswL (tg := 185) rfl (by decide) ?_
  refine r_aload rfl rfl ?_
  refine r_getA (b := ad 7) rfl ⟨rfl, rfl, rfl⟩ (fx_t9 fx) f6 ?_
  refine r_iload rfl rfl ?_
  refine r_aaloadA (b := ad (100 + 5 * a)) rfl (isQ_of (fx_t7 fx) (by decide)) (vp_ct (fx_n7 fx) (vp_in_nI (by omega) (by omega))) (Eq.trans (congrArg (hR h (ad 7)) ((nI_clamp (by omega)) : _ = a)) tu1) ?_
  refine r_getI rfl ⟨rfl, rfl, rfl⟩ tu2 ?_
  refine WR_tI (y := 0) e9 ?_
  refine r_if_ne (tg := 202) rfl rfl (fun q => absurd q (by decide)) (fun _ => ?_)
  refine r_ic (x := (-17)) rfl rfl ?_
  refine r_goto (tg := 215) rfl rfl ?_
  refine r_iret rfl ?_
  exact (L1)

set_option maxHeartbeats 2000000 in
theorem w_c11l {d : Nat} {Q : mQ} {n : Nat} {ad sa : Nat → Nat} {z0 : Nat} {h : mH} (fx : FX n ad sa z0 h) {A dp : Nat} (hA : A + 3 < 640) (f5 : hR h (ad 9) 5 = some (ad 1)) (f6 : hR h (ad 9) 6 = some (ad 7)) {a S : Nat} {b c v : Int32} (ha : a < n) (n6 : n ≤ 6) (tu1 : hR h (ad 7) a = some (ad (100 + 5 * a))) (tu2 : hT h (ad (100 + 5 * a)) = 8) (tu3 : hR h (ad (100 + 5 * a)) 5 = some (ad (101 + 5 * a))) (tu4 : hT h (ad (101 + 5 * a)) = 26) (tu5 : hN h (ad (101 + 5 * a)) = 5) (e9 : hI h (ad (100 + 5 * a)) 9 = v) (nv : ¬ v = 0) (es : hI h (ad 9) 11 = nI S) (hS : S < 60) (s0 : hI h (ad 10) A = 11) (s1 : hI h (ad 10) (A + 1) = nI a) (s2 : hI h (ad 10) (A + 2) = b) (s3 : hI h (ad 10) (A + 3) = c) 
    (L1 : ¬ v = 0 → Q (some (.int 0)) (sI (sI h (ad 12) S v) (ad 9) 11 (nI (S + 1))))
    (L2 : v = 0 → Q (some (.int (-17))) h) : EV (d + 2) 102 [.ref (ad 9), .int (nI A), .int (nI dp)] h Q := by
  have fx0 := fx
  refine in_102 (Nat.le_of_ble_eq_true rfl) ?_
  show WR _ cd_102 0 [some (.ref (ad 9)), some (.int (nI A)), some (.int (nI dp)), none, none, none] [] h _
  refine r_aload rfl rfl ?_
  refine r_getA (b := ad 10) rfl ⟨rfl, rfl, rfl⟩ (fx_t9 fx) (fx_r9_0 fx) ?_
  refine r_iload rfl rfl ?_
  refine r_ic (x := 1) rfl rfl ?_
  refine r_iadd rfl ?_
  refine WR_tI (y := nI (A + 1)) (Eq.trans (nI_add A 1) (congrArg nI (by omega))) ?_
  refine r_iaload rfl (.inl (fx_t10 fx)) (vp_ct (fx_n10 fx) (vp_in_nI (by omega) (by omega))) ?_
  refine WR_tI (congrArg (hI h (ad 10)) ((nI_clamp (by omega)) : _ = A + 1)) ?_
  refine WR_tI (y := nI a) s1 ?_
  refine r_istore (lv' := [some (.ref (ad 9)), some (.int (nI A)), some (.int (nI dp)), some (.int (nI a)), none, none]) rfl (Nat.le_of_ble_eq_true rfl) rfl ?_
  refine r_aload rfl rfl ?_
  refine r_getA (b := ad 10) rfl ⟨rfl, rfl, rfl⟩ (fx_t9 fx) (fx_r9_0 fx) ?_
  refine r_iload rfl rfl ?_
  refine r_ic (x := 2) rfl rfl ?_
  refine r_iadd rfl ?_
  refine WR_tI (y := nI (A + 2)) (Eq.trans (nI_add A 2) (congrArg nI (by omega))) ?_
  refine r_iaload rfl (.inl (fx_t10 fx)) (vp_ct (fx_n10 fx) (vp_in_nI (by omega) (by omega))) ?_
  refine WR_tI (congrArg (hI h (ad 10)) ((nI_clamp (by omega)) : _ = A + 2)) ?_
  refine WR_tI (y := b) s2 ?_
  refine r_istore (lv' := [some (.ref (ad 9)), some (.int (nI A)), some (.int (nI dp)), some (.int (nI a)), some (.int b), none]) rfl (Nat.le_of_ble_eq_true rfl) rfl ?_
  refine r_aload rfl rfl ?_
  refine r_getA (b := ad 10) rfl ⟨rfl, rfl, rfl⟩ (fx_t9 fx) (fx_r9_0 fx) ?_
  refine r_iload rfl rfl ?_
  refine r_ic (x := 3) rfl rfl ?_
  refine r_iadd rfl ?_
  refine WR_tI (y := nI (A + 3)) (Eq.trans (nI_add A 3) (congrArg nI (by omega))) ?_
  refine r_iaload rfl (.inl (fx_t10 fx)) (vp_ct (fx_n10 fx) (vp_in_nI (by omega) (by omega))) ?_
  refine WR_tI (congrArg (hI h (ad 10)) ((nI_clamp (by omega)) : _ = A + 3)) ?_
  refine WR_tI (y := c) s3 ?_
  refine r_istore (lv' := [some (.ref (ad 9)), some (.int (nI A)), some (.int (nI dp)), some (.int (nI a)), some (.int b), some (.int c)]) rfl (Nat.le_of_ble_eq_true rfl) rfl ?_
  refine r_aload rfl rfl ?_
  refine r_getA (b := ad 10) rfl ⟨rfl, rfl, rfl⟩ (fx_t9 fx) (fx_r9_0 fx) ?_
  refine r_iload rfl rfl ?_
  refine r_iaload rfl (.inl (fx_t10 fx)) (vp_ct (fx_n10 fx) (vp_in_nI (by omega) (by omega))) ?_
  refine WR_tI (congrArg (hI h (ad 10)) ((nI_clamp (by omega)) : _ = A)) ?_
  refine WR_tI (y := 11) s0 ?_
  refine r_tswL (tg := 185) rfl (by decide) ?_
  refine r_aload rfl rfl ?_
  refine r_getA (b := ad 7) rfl ⟨rfl, rfl, rfl⟩ (fx_t9 fx) f6 ?_
  refine r_iload rfl rfl ?_
  refine r_aaloadA (b := ad (100 + 5 * a)) rfl (isQ_of (fx_t7 fx) (by decide)) (vp_ct (fx_n7 fx) (vp_in_nI (by omega) (by omega))) (Eq.trans (congrArg (hR h (ad 7)) ((nI_clamp (by omega)) : _ = a)) tu1) ?_
  refine r_getI rfl ⟨rfl, rfl, rfl⟩ tu2 ?_
  refine WR_tI (y := v) e9 ?_
  refine r_if_ne (tg := 202) rfl rfl (fun c1 => ?_) (fun c1 => ?_)
  · refine r_aload rfl rfl ?_
    refine r_aload rfl rfl ?_
    refine r_getA (b := ad 7) rfl ⟨rfl, rfl, rfl⟩ (fx_t9 fx) f6 ?_
    refine r_iload rfl rfl ?_
    refine r_aaloadA (b := ad (100 + 5 * a)) rfl (isQ_of (fx_t7 fx) (by decide)) (vp_ct (fx_n7 fx) (vp_in_nI (by omega) (by omega))) (Eq.trans (congrArg (hR h (ad 7)) ((nI_clamp (by omega)) : _ = a)) tu1) ?_
    refine r_getI rfl ⟨rfl, rfl, rfl⟩ tu2 ?_
    refine WR_tI (y := v) e9 ?_
    refine r_cv (y := 109) (ra := [.int v]) (rest := []) rfl ⟨⟨rfl, rfl⟩, rfl, by decide⟩ (fx_t9 fx) rfl rfl (Nat.le_of_ble_eq_true rfl) ?_
    refine in_109 (Nat.le_of_ble_eq_true rfl) ?_
    show WR _ cd_109 0 [some (.ref (ad 9)), some (.int v)] [] h _
    refine r_aload rfl rfl ?_
    refine r_getI rfl ⟨rfl, rfl, rfl⟩ (fx_t9 fx) ?_
    refine WR_tI (y := nI S) es ?_
    refine r_ic (x := 60) rfl rfl ?_
    refine r_icmp_ge (tg := 19) rfl rfl (fun q => False.elim (by have : (nI S).toInt = ((S : Nat) : Int) := nI_toInt (by omega); have : (60 : Int32).toInt = 60 := rfl; have := i_le q; omega)) (fun _ => ?_)
    refine r_aload rfl rfl ?_
    refine r_getA (b := ad 12) rfl ⟨rfl, rfl, rfl⟩ (fx_t9 fx) (fx_r9_2 fx) ?_
    refine r_aload rfl rfl ?_
    refine r_getI rfl ⟨rfl, rfl, rfl⟩ (fx_t9 fx) ?_
    refine WR_tI (y := nI S) es ?_
    refine r_iload rfl rfl ?_
    refine r_iastore rfl (fx_t12 fx) (vp_ct (fx_n12 fx) (vp_in_nI (by omega) (by omega))) ?_
    refine WR_h (h2 := sI h (ad 12) S v) (congrArg (fun z => sI h (ad 12) z v) ((nI_clamp (by omega)) : _ = S)) ?_
    have fx : FX n ad sa z0 (sI h (ad 12) S v) := (FX.sI fx)
    refine r_aload rfl rfl ?_
    refine r_dup rfl rfl ?_
    refine r_getI rfl ⟨rfl, rfl, rfl⟩ (fx_t9 fx) ?_
    refine WR_tI (y := nI S) (Eq.trans (I_ne (fx_ne fx (by decide))) es) ?_
    refine r_ic (x := 1) rfl rfl ?_
    refine r_iadd rfl ?_
    refine WR_tI (y := nI (S + 1)) (Eq.trans (nI_add S 1) (congrArg nI (by omega))) ?_
    refine r_putI rfl ⟨rfl, rfl, rfl⟩ (fx_t9 fx) ?_
    have fx : FX n ad sa z0 (sI (sI h (ad 12) S v) (ad 9) 11 (nI (S + 1))) := (FX.sI fx)
    refine r_ic (x := 0) rfl rfl ?_
    refine r_iret rfl ?_
    show WR _ cd_102 215 [some (.ref (ad 9)), some (.int (nI A)), some (.int (nI dp)), some (.int (nI a)), some (.int b), some (.int c)] [.int 0] (sI (sI h (ad 12) S v) (ad 9) 11 (nI (S + 1))) _
    refine r_iret rfl ?_
    exact (L1 c1)
  · refine r_ic (x := (-17)) rfl rfl ?_
    refine r_goto (tg := 215) rfl rfl ?_
    refine r_iret rfl ?_
    exact (L2 c1)

set_option maxHeartbeats 2000000 in
theorem w_c11g {d : Nat} {Q : mQ} {n : Nat} {ad sa : Nat → Nat} {z0 : Nat} {h : mH} (fx : FX n ad sa z0 h) {A dp : Nat} (hA : A + 3 < 640) (f5 : hR h (ad 9) 5 = some (ad 1)) (f6 : hR h (ad 9) 6 = some (ad 7)) {a S : Nat} {b c v : Int32} (ha : a < n) (n6 : n ≤ 6) (tu1 : hR h (ad 7) a = some (ad (100 + 5 * a))) (tu2 : hT h (ad (100 + 5 * a)) = 8) (tu3 : hR h (ad (100 + 5 * a)) 5 = some (ad (101 + 5 * a))) (tu4 : hT h (ad (101 + 5 * a)) = 26) (tu5 : hN h (ad (101 + 5 * a)) = 5) (e9 : hI h (ad (100 + 5 * a)) 9 = v) (nv : ¬ v = 0) (es : hI h (ad 9) 11 = nI S) (hS : 60 ≤ S) (hS2 : S < 1000) (s0 : hI h (ad 10) A = 11) (s1 : hI h (ad 10) (A + 1) = nI a) (s2 : hI h (ad 10) (A + 2) = b) (s3 : hI h (ad 10) (A + 3) = c) 
    (L1 : ¬ v = 0 → Q (some (.int 0)) (sI h (ad 9) 11 (nI (S + 1))))
    (L2 : v = 0 → Q (some (.int (-17))) h) : EV (d + 2) 102 [.ref (ad 9), .int (nI A), .int (nI dp)] h Q := by
  have fx0 := fx
  refine in_102 (Nat.le_of_ble_eq_true rfl) ?_
  show WR _ cd_102 0 [some (.ref (ad 9)), some (.int (nI A)), some (.int (nI dp)), none, none, none] [] h _
  refine r_aload rfl rfl ?_
  refine r_getA (b := ad 10) rfl ⟨rfl, rfl, rfl⟩ (fx_t9 fx) (fx_r9_0 fx) ?_
  refine r_iload rfl rfl ?_
  refine r_ic (x := 1) rfl rfl ?_
  refine r_iadd rfl ?_
  refine WR_tI (y := nI (A + 1)) (Eq.trans (nI_add A 1) (congrArg nI (by omega))) ?_
  refine r_iaload rfl (.inl (fx_t10 fx)) (vp_ct (fx_n10 fx) (vp_in_nI (by omega) (by omega))) ?_
  refine WR_tI (congrArg (hI h (ad 10)) ((nI_clamp (by omega)) : _ = A + 1)) ?_
  refine WR_tI (y := nI a) s1 ?_
  refine r_istore (lv' := [some (.ref (ad 9)), some (.int (nI A)), some (.int (nI dp)), some (.int (nI a)), none, none]) rfl (Nat.le_of_ble_eq_true rfl) rfl ?_
  refine r_aload rfl rfl ?_
  refine r_getA (b := ad 10) rfl ⟨rfl, rfl, rfl⟩ (fx_t9 fx) (fx_r9_0 fx) ?_
  refine r_iload rfl rfl ?_
  refine r_ic (x := 2) rfl rfl ?_
  refine r_iadd rfl ?_
  refine WR_tI (y := nI (A + 2)) (Eq.trans (nI_add A 2) (congrArg nI (by omega))) ?_
  refine r_iaload rfl (.inl (fx_t10 fx)) (vp_ct (fx_n10 fx) (vp_in_nI (by omega) (by omega))) ?_
  refine WR_tI (congrArg (hI h (ad 10)) ((nI_clamp (by omega)) : _ = A + 2)) ?_
  refine WR_tI (y := b) s2 ?_
  refine r_istore (lv' := [some (.ref (ad 9)), some (.int (nI A)), some (.int (nI dp)), some (.int (nI a)), some (.int b), none]) rfl (Nat.le_of_ble_eq_true rfl) rfl ?_
  refine r_aload rfl rfl ?_
  refine r_getA (b := ad 10) rfl ⟨rfl, rfl, rfl⟩ (fx_t9 fx) (fx_r9_0 fx) ?_
  refine r_iload rfl rfl ?_
  refine r_ic (x := 3) rfl rfl ?_
  refine r_iadd rfl ?_
  refine WR_tI (y := nI (A + 3)) (Eq.trans (nI_add A 3) (congrArg nI (by omega))) ?_
  refine r_iaload rfl (.inl (fx_t10 fx)) (vp_ct (fx_n10 fx) (vp_in_nI (by omega) (by omega))) ?_
  refine WR_tI (congrArg (hI h (ad 10)) ((nI_clamp (by omega)) : _ = A + 3)) ?_
  refine WR_tI (y := c) s3 ?_
  refine r_istore (lv' := [some (.ref (ad 9)), some (.int (nI A)), some (.int (nI dp)), some (.int (nI a)), some (.int b), some (.int c)]) rfl (Nat.le_of_ble_eq_true rfl) rfl ?_
  refine r_aload rfl rfl ?_
  refine r_getA (b := ad 10) rfl ⟨rfl, rfl, rfl⟩ (fx_t9 fx) (fx_r9_0 fx) ?_
  refine r_iload rfl rfl ?_
  refine r_iaload rfl (.inl (fx_t10 fx)) (vp_ct (fx_n10 fx) (vp_in_nI (by omega) (by omega))) ?_
  refine WR_tI (congrArg (hI h (ad 10)) ((nI_clamp (by omega)) : _ = A)) ?_
  refine WR_tI (y := 11) s0 ?_
  refine r_tswL (tg := 185) rfl (by decide) ?_
  refine r_aload rfl rfl ?_
  refine r_getA (b := ad 7) rfl ⟨rfl, rfl, rfl⟩ (fx_t9 fx) f6 ?_
  refine r_iload rfl rfl ?_
  refine r_aaloadA (b := ad (100 + 5 * a)) rfl (isQ_of (fx_t7 fx) (by decide)) (vp_ct (fx_n7 fx) (vp_in_nI (by omega) (by omega))) (Eq.trans (congrArg (hR h (ad 7)) ((nI_clamp (by omega)) : _ = a)) tu1) ?_
  refine r_getI rfl ⟨rfl, rfl, rfl⟩ tu2 ?_
  refine WR_tI (y := v) e9 ?_
  refine r_if_ne (tg := 202) rfl rfl (fun c1 => ?_) (fun c1 => ?_)
  · refine r_aload rfl rfl ?_
    refine r_aload rfl rfl ?_
    refine r_getA (b := ad 7) rfl ⟨rfl, rfl, rfl⟩ (fx_t9 fx) f6 ?_
    refine r_iload rfl rfl ?_
    refine r_aaloadA (b := ad (100 + 5 * a)) rfl (isQ_of (fx_t7 fx) (by decide)) (vp_ct (fx_n7 fx) (vp_in_nI (by omega) (by omega))) (Eq.trans (congrArg (hR h (ad 7)) ((nI_clamp (by omega)) : _ = a)) tu1) ?_
    refine r_getI rfl ⟨rfl, rfl, rfl⟩ tu2 ?_
    refine WR_tI (y := v) e9 ?_
    refine r_cv (y := 109) (ra := [.int v]) (rest := []) rfl ⟨⟨rfl, rfl⟩, rfl, by decide⟩ (fx_t9 fx) rfl rfl (Nat.le_of_ble_eq_true rfl) ?_
    refine in_109 (Nat.le_of_ble_eq_true rfl) ?_
    show WR _ cd_109 0 [some (.ref (ad 9)), some (.int v)] [] h _
    refine r_aload rfl rfl ?_
    refine r_getI rfl ⟨rfl, rfl, rfl⟩ (fx_t9 fx) ?_
    refine WR_tI (y := nI S) es ?_
    refine r_ic (x := 60) rfl rfl ?_
    refine r_icmp_ge (tg := 19) rfl rfl (fun _ => ?_) (fun q => False.elim (by have : (nI S).toInt = ((S : Nat) : Int) := nI_toInt (by omega); have : (60 : Int32).toInt = 60 := rfl; have := i_nle q; omega))
    refine r_aload rfl rfl ?_
    refine r_dup rfl rfl ?_
    refine r_getI rfl ⟨rfl, rfl, rfl⟩ (fx_t9 fx) ?_
    refine WR_tI (y := nI S) es ?_
    refine r_ic (x := 1) rfl rfl ?_
    refine r_iadd rfl ?_
    refine WR_tI (y := nI (S + 1)) (Eq.trans (nI_add S 1) (congrArg nI (by omega))) ?_
    refine r_putI rfl ⟨rfl, rfl, rfl⟩ (fx_t9 fx) ?_
    have fx : FX n ad sa z0 (sI h (ad 9) 11 (nI (S + 1))) := (FX.sI fx)
    refine r_ic (x := 0) rfl rfl ?_
    refine r_iret rfl ?_
    show WR _ cd_102 215 [some (.ref (ad 9)), some (.int (nI A)), some (.int (nI dp)), some (.int (nI a)), some (.int b), some (.int c)] [.int 0] (sI h (ad 9) 11 (nI (S + 1))) _
    refine r_iret rfl ?_
    exact (L1 c1)
  · refine r_ic (x := (-17)) rfl rfl ?_
    refine r_goto (tg := 215) rfl rfl ?_
    refine r_iret rfl ?_
    exact (L2 c1)

set_option maxHeartbeats 2000000 in
theorem w_c12zs {d : Nat} {Q : mQ} {n : Nat} {ad sa : Nat → Nat} {z0 : Nat} {h : mH} (fx : FX n ad sa z0 h) {A dp : Nat} (hA : A + 3 < 640) (f5 : hR h (ad 9) 5 = some (ad 1)) (f6 : hR h (ad 9) 6 = some (ad 7)) {a : Nat} {c : Int32} {b : Nat} (hb : b ≤ 2) (ha : a < n) (n6 : n ≤ 6) (tu1 : hR h (ad 7) a = some (ad (100 + 5 * a))) (tu2 : hT h (ad (100 + 5 * a)) = 8) (tu3 : hR h (ad (100 + 5 * a)) 5 = some (ad (101 + 5 * a))) (tu4 : hT h (ad (101 + 5 * a)) = 26) (tu5 : hN h (ad (101 + 5 * a)) = 5) (eh : hI h (ad 13) 2 = 0) (s0 : hI h (ad 10) A = 12) (s1 : hI h (ad 10) (A + 1) = nI a) (s2 : hI h (ad 10) (A + 2) = nI b) (s3 : hI h (ad 10) (A + 3) = c) 
    (L1 : Q (some (.int (-11))) h) : EV (d + 3) 102 [.ref (ad 9), .int (nI A), .int (nI dp)] h Q := by
  have fx0 := fx
  refine in_102 (Nat.le_of_ble_eq_true rfl) ?_
  show WR _ cd_102 0 [some (.ref (ad 9)), some (.int (nI A)), some (.int (nI dp)), none, none, none] [] h _
  refine r_aload rfl rfl ?_
  refine r_getA (b := ad 10) rfl ⟨rfl, rfl, rfl⟩ (fx_t9 fx) (fx_r9_0 fx) ?_
  refine r_iload rfl rfl ?_
  refine r_ic (x := 1) rfl rfl ?_
  refine r_iadd rfl ?_
  refine WR_tI (y := nI (A + 1)) (Eq.trans (nI_add A 1) (congrArg nI (by omega))) ?_
  refine r_iaload rfl (.inl (fx_t10 fx)) (vp_ct (fx_n10 fx) (vp_in_nI (by omega) (by omega))) ?_
  refine WR_tI (congrArg (hI h (ad 10)) ((nI_clamp (by omega)) : _ = A + 1)) ?_
  refine WR_tI (y := nI a) s1 ?_
  refine r_istore (lv' := [some (.ref (ad 9)), some (.int (nI A)), some (.int (nI dp)), some (.int (nI a)), none, none]) rfl (Nat.le_of_ble_eq_true rfl) rfl ?_
  refine r_aload rfl rfl ?_
  refine r_getA (b := ad 10) rfl ⟨rfl, rfl, rfl⟩ (fx_t9 fx) (fx_r9_0 fx) ?_
  refine r_iload rfl rfl ?_
  refine r_ic (x := 2) rfl rfl ?_
  refine r_iadd rfl ?_
  refine WR_tI (y := nI (A + 2)) (Eq.trans (nI_add A 2) (congrArg nI (by omega))) ?_
  refine r_iaload rfl (.inl (fx_t10 fx)) (vp_ct (fx_n10 fx) (vp_in_nI (by omega) (by omega))) ?_
  refine WR_tI (congrArg (hI h (ad 10)) ((nI_clamp (by omega)) : _ = A + 2)) ?_
  refine WR_tI (y := nI b) s2 ?_
  refine r_istore (lv' := [some (.ref (ad 9)), some (.int (nI A)), some (.int (nI dp)), some (.int (nI a)), some (.int (nI b)), none]) rfl (Nat.le_of_ble_eq_true rfl) rfl ?_
  refine r_aload rfl rfl ?_
  refine r_getA (b := ad 10) rfl ⟨rfl, rfl, rfl⟩ (fx_t9 fx) (fx_r9_0 fx) ?_
  refine r_iload rfl rfl ?_
  refine r_ic (x := 3) rfl rfl ?_
  refine r_iadd rfl ?_
  refine WR_tI (y := nI (A + 3)) (Eq.trans (nI_add A 3) (congrArg nI (by omega))) ?_
  refine r_iaload rfl (.inl (fx_t10 fx)) (vp_ct (fx_n10 fx) (vp_in_nI (by omega) (by omega))) ?_
  refine WR_tI (congrArg (hI h (ad 10)) ((nI_clamp (by omega)) : _ = A + 3)) ?_
  refine WR_tI (y := c) s3 ?_
  refine r_istore (lv' := [some (.ref (ad 9)), some (.int (nI A)), some (.int (nI dp)), some (.int (nI a)), some (.int (nI b)), some (.int c)]) rfl (Nat.le_of_ble_eq_true rfl) rfl ?_
  refine r_aload rfl rfl ?_
  refine r_getA (b := ad 10) rfl ⟨rfl, rfl, rfl⟩ (fx_t9 fx) (fx_r9_0 fx) ?_
  refine r_iload rfl rfl ?_
  refine r_iaload rfl (.inl (fx_t10 fx)) (vp_ct (fx_n10 fx) (vp_in_nI (by omega) (by omega))) ?_
  refine WR_tI (congrArg (hI h (ad 10)) ((nI_clamp (by omega)) : _ = A)) ?_
  refine WR_tI (y := 12) s0 ?_
  refine r_tswL (tg := 216) rfl (by decide) ?_
  refine r_aload rfl rfl ?_
  refine r_aload rfl rfl ?_
  refine r_getA (b := ad 7) rfl ⟨rfl, rfl, rfl⟩ (fx_t9 fx) f6 ?_
  refine r_iload rfl rfl ?_
  refine r_aaloadA (b := ad (100 + 5 * a)) rfl (isQ_of (fx_t7 fx) (by decide)) (vp_ct (fx_n7 fx) (vp_in_nI (by omega) (by omega))) (Eq.trans (congrArg (hR h (ad 7)) ((nI_clamp (by omega)) : _ = a)) tu1) ?_
  refine r_iload rfl rfl ?_
  refine r_cv (y := 114) (ra := [.int (nI b), .ref (ad (100 + 5 * a))]) (rest := []) rfl ⟨⟨rfl, rfl⟩, rfl, by decide⟩ (fx_t9 fx) rfl rfl (Nat.le_of_ble_eq_true rfl) ?_
  refine in_114 (Nat.le_of_ble_eq_true rfl) ?_
  show WR _ cd_114 0 [some (.ref (ad 9)), some (.ref (ad (100 + 5 * a))), some (.int (nI b)), none, none, none] [] h _
  refine r_iload rfl rfl ?_
  refine r_ic (x := 2) rfl rfl ?_
  refine r_icmp_le (tg := 15) rfl rfl (fun _ => ?_) (fun q => False.elim (by have : (nI b).toInt = ((b : Nat) : Int) := nI_toInt (by omega); have : (2 : Int32).toInt = 2 := rfl; have := i_nle q; omega))
  refine r_aload rfl rfl ?_
  refine r_getA (b := ad 13) rfl ⟨rfl, rfl, rfl⟩ (fx_t9 fx) (fx_r9_3 fx) ?_
  refine r_cv (y := 106) (ra := []) (rest := []) rfl ⟨⟨rfl, rfl⟩, rfl, by decide⟩ (fx_t13 fx) rfl rfl (Nat.le_of_ble_eq_true rfl) ?_
  refine in_106 (Nat.le_of_ble_eq_true rfl) ?_
  show WR _ cd_106 0 [some (.ref (ad 13))] [] h _
  refine r_aload rfl rfl ?_
  refine r_getI rfl ⟨rfl, rfl, rfl⟩ (fx_t13 fx) ?_
  refine WR_tI (y := 0) eh ?_
  refine r_if_le (tg := 21) rfl rfl (fun _ => ?_) (fun q => absurd q (by decide))
  refine r_null rfl ?_
  refine r_aret0 rfl ?_
  show WR _ cd_114 22 [some (.ref (ad 9)), some (.ref (ad (100 + 5 * a))), some (.int (nI b)), none, none, none] [.null] h _
  refine r_astore0 (lv' := [some (.ref (ad 9)), some (.ref (ad (100 + 5 * a))), some (.int (nI b)), some (.null), none, none]) rfl (Nat.le_of_ble_eq_true rfl) rfl ?_
  refine r_aload0 rfl rfl ?_
  refine r_ifnonnullN (tg := 30) rfl rfl ?_
  refine r_ic (x := (-11)) rfl rfl ?_
  refine r_iret rfl ?_
  show WR _ cd_102 228 [some (.ref (ad 9)), some (.int (nI A)), some (.int (nI dp)), some (.int (nI a)), some (.int (nI b)), some (.int c)] [.int (-11)] h _
  refine r_iret rfl ?_
  exact (L1)

set_option maxHeartbeats 2000000 in
theorem w_c12t5s {d : Nat} {Q : mQ} {n : Nat} {ad sa : Nat → Nat} {z0 : Nat} {h : mH} (fx : FX n ad sa z0 h) {A dp : Nat} (hA : A + 3 < 640) (f5 : hR h (ad 9) 5 = some (ad 1)) (f6 : hR h (ad 9) 6 = some (ad 7)) {a H x : Nat} {c : Int32} {b : Nat} (hb : b ≤ 2) (ha : a < n) (n6 : n ≤ 6) (tu1 : hR h (ad 7) a = some (ad (100 + 5 * a))) (tu2 : hT h (ad (100 + 5 * a)) = 8) (tu3 : hR h (ad (100 + 5 * a)) 5 = some (ad (101 + 5 * a))) (tu4 : hT h (ad (101 + 5 * a)) = 26) (tu5 : hN h (ad (101 + 5 * a)) = 5) (eh : hI h (ad 13) 2 = nI H) (hH1 : 1 ≤ H) (hH : H ≤ 100) (r2 : hR h (ad 14) (H - 1) = some x) (tx : hT h x = 5) (s0 : hI h (ad 10) A = 12) (s1 : hI h (ad 10) (A + 1) = nI a) (s2 : hI h (ad 10) (A + 2) = nI b) (s3 : hI h (ad 10) (A + 3) = c) 
    (L1 : Q (some (.int (-14))) h) : EV (d + 3) 102 [.ref (ad 9), .int (nI A), .int (nI dp)] h Q := by
  have fx0 := fx
  refine in_102 (Nat.le_of_ble_eq_true rfl) ?_
  show WR _ cd_102 0 [some (.ref (ad 9)), some (.int (nI A)), some (.int (nI dp)), none, none, none] [] h _
  refine r_aload rfl rfl ?_
  refine r_getA (b := ad 10) rfl ⟨rfl, rfl, rfl⟩ (fx_t9 fx) (fx_r9_0 fx) ?_
  refine r_iload rfl rfl ?_
  refine r_ic (x := 1) rfl rfl ?_
  refine r_iadd rfl ?_
  refine WR_tI (y := nI (A + 1)) (Eq.trans (nI_add A 1) (congrArg nI (by omega))) ?_
  refine r_iaload rfl (.inl (fx_t10 fx)) (vp_ct (fx_n10 fx) (vp_in_nI (by omega) (by omega))) ?_
  refine WR_tI (congrArg (hI h (ad 10)) ((nI_clamp (by omega)) : _ = A + 1)) ?_
  refine WR_tI (y := nI a) s1 ?_
  refine r_istore (lv' := [some (.ref (ad 9)), some (.int (nI A)), some (.int (nI dp)), some (.int (nI a)), none, none]) rfl (Nat.le_of_ble_eq_true rfl) rfl ?_
  refine r_aload rfl rfl ?_
  refine r_getA (b := ad 10) rfl ⟨rfl, rfl, rfl⟩ (fx_t9 fx) (fx_r9_0 fx) ?_
  refine r_iload rfl rfl ?_
  refine r_ic (x := 2) rfl rfl ?_
  refine r_iadd rfl ?_
  refine WR_tI (y := nI (A + 2)) (Eq.trans (nI_add A 2) (congrArg nI (by omega))) ?_
  refine r_iaload rfl (.inl (fx_t10 fx)) (vp_ct (fx_n10 fx) (vp_in_nI (by omega) (by omega))) ?_
  refine WR_tI (congrArg (hI h (ad 10)) ((nI_clamp (by omega)) : _ = A + 2)) ?_
  refine WR_tI (y := nI b) s2 ?_
  refine r_istore (lv' := [some (.ref (ad 9)), some (.int (nI A)), some (.int (nI dp)), some (.int (nI a)), some (.int (nI b)), none]) rfl (Nat.le_of_ble_eq_true rfl) rfl ?_
  refine r_aload rfl rfl ?_
  refine r_getA (b := ad 10) rfl ⟨rfl, rfl, rfl⟩ (fx_t9 fx) (fx_r9_0 fx) ?_
  refine r_iload rfl rfl ?_
  refine r_ic (x := 3) rfl rfl ?_
  refine r_iadd rfl ?_
  refine WR_tI (y := nI (A + 3)) (Eq.trans (nI_add A 3) (congrArg nI (by omega))) ?_
  refine r_iaload rfl (.inl (fx_t10 fx)) (vp_ct (fx_n10 fx) (vp_in_nI (by omega) (by omega))) ?_
  refine WR_tI (congrArg (hI h (ad 10)) ((nI_clamp (by omega)) : _ = A + 3)) ?_
  refine WR_tI (y := c) s3 ?_
  refine r_istore (lv' := [some (.ref (ad 9)), some (.int (nI A)), some (.int (nI dp)), some (.int (nI a)), some (.int (nI b)), some (.int c)]) rfl (Nat.le_of_ble_eq_true rfl) rfl ?_
  refine r_aload rfl rfl ?_
  refine r_getA (b := ad 10) rfl ⟨rfl, rfl, rfl⟩ (fx_t9 fx) (fx_r9_0 fx) ?_
  refine r_iload rfl rfl ?_
  refine r_iaload rfl (.inl (fx_t10 fx)) (vp_ct (fx_n10 fx) (vp_in_nI (by omega) (by omega))) ?_
  refine WR_tI (congrArg (hI h (ad 10)) ((nI_clamp (by omega)) : _ = A)) ?_
  refine WR_tI (y := 12) s0 ?_
  refine r_tswL (tg := 216) rfl (by decide) ?_
  refine r_aload rfl rfl ?_
  refine r_aload rfl rfl ?_
  refine r_getA (b := ad 7) rfl ⟨rfl, rfl, rfl⟩ (fx_t9 fx) f6 ?_
  refine r_iload rfl rfl ?_
  refine r_aaloadA (b := ad (100 + 5 * a)) rfl (isQ_of (fx_t7 fx) (by decide)) (vp_ct (fx_n7 fx) (vp_in_nI (by omega) (by omega))) (Eq.trans (congrArg (hR h (ad 7)) ((nI_clamp (by omega)) : _ = a)) tu1) ?_
  refine r_iload rfl rfl ?_
  refine r_cv (y := 114) (ra := [.int (nI b), .ref (ad (100 + 5 * a))]) (rest := []) rfl ⟨⟨rfl, rfl⟩, rfl, by decide⟩ (fx_t9 fx) rfl rfl (Nat.le_of_ble_eq_true rfl) ?_
  refine in_114 (Nat.le_of_ble_eq_true rfl) ?_
  show WR _ cd_114 0 [some (.ref (ad 9)), some (.ref (ad (100 + 5 * a))), some (.int (nI b)), none, none, none] [] h _
  refine r_iload rfl rfl ?_
  refine r_ic (x := 2) rfl rfl ?_
  refine r_icmp_le (tg := 15) rfl rfl (fun _ => ?_) (fun q => False.elim (by have : (nI b).toInt = ((b : Nat) : Int) := nI_toInt (by omega); have : (2 : Int32).toInt = 2 := rfl; have := i_nle q; omega))
  refine r_aload rfl rfl ?_
  refine r_getA (b := ad 13) rfl ⟨rfl, rfl, rfl⟩ (fx_t9 fx) (fx_r9_3 fx) ?_
  refine r_cv (y := 106) (ra := []) (rest := []) rfl ⟨⟨rfl, rfl⟩, rfl, by decide⟩ (fx_t13 fx) rfl rfl (Nat.le_of_ble_eq_true rfl) ?_
  refine in_106 (Nat.le_of_ble_eq_true rfl) ?_
  show WR _ cd_106 0 [some (.ref (ad 13))] [] h _
  refine r_aload rfl rfl ?_
  refine r_getI rfl ⟨rfl, rfl, rfl⟩ (fx_t13 fx) ?_
  refine WR_tI (y := nI H) eh ?_
  refine r_if_le (tg := 21) rfl rfl (fun q => False.elim (by have : (nI H).toInt = ((H : Nat) : Int) := nI_toInt (by omega); have : (0 : Int32).toInt = 0 := rfl; have := i_le q; omega)) (fun _ => ?_)
  refine r_aload rfl rfl ?_
  refine r_getA (b := ad 14) rfl ⟨rfl, rfl, rfl⟩ (fx_t13 fx) (fx_r13_0 fx) ?_
  refine r_aload rfl rfl ?_
  refine r_getI rfl ⟨rfl, rfl, rfl⟩ (fx_t13 fx) ?_
  refine WR_tI (y := nI H) eh ?_
  refine r_ic (x := 1) rfl rfl ?_
  refine r_isub rfl ?_
  refine WR_tI (y := nI (H - 1)) (Eq.trans (pk_sub (a := H) (b := 1) (by omega)) (congrArg nI (by omega))) ?_
  refine r_aaloadA (b := x) rfl (isQ_of (fx_t14 fx) (by decide)) (vp_ct (fx_n14 fx) (vp_in_nI (by omega) (by omega))) (Eq.trans (congrArg (hR h (ad 14)) ((nI_clamp (by omega)) : _ = H - 1)) r2) ?_
  refine r_goto (tg := 22) rfl rfl ?_
  refine r_aret rfl ?_
  show WR _ cd_114 22 [some (.ref (ad 9)), some (.ref (ad (100 + 5 * a))), some (.int (nI b)), none, none, none] [.ref x] h _
  refine r_astore (lv' := [some (.ref (ad 9)), some (.ref (ad (100 + 5 * a))), some (.int (nI b)), some (.ref x), none, none]) rfl (Nat.le_of_ble_eq_true rfl) rfl ?_
  refine r_aload rfl rfl ?_
  refine r_ifnonnullA (tg := 30) rfl rfl ?_
  refine r_iload rfl rfl ?_
  refine r_ic (x := 3) rfl rfl ?_
  refine r_icmp_ne (tg := 39) rfl rfl (fun _ => ?_) (fun q => False.elim (by have : (nI b).toInt = ((b : Nat) : Int) := nI_toInt (by omega); have : (3 : Int32).toInt = 3 := rfl; have := i_eq q; omega))
  refine r_iload rfl rfl ?_
  refine r_ic (x := 4) rfl rfl ?_
  refine r_icmp_ne (tg := 48) rfl rfl (fun _ => ?_) (fun q => False.elim (by have : (nI b).toInt = ((b : Nat) : Int) := nI_toInt (by omega); have : (4 : Int32).toInt = 4 := rfl; have := i_eq q; omega))
  refine r_ic (x := 7) rfl rfl ?_
  refine r_istore (lv' := [some (.ref (ad 9)), some (.ref (ad (100 + 5 * a))), some (.int (nI b)), some (.ref x), some (.int 7), none]) rfl (Nat.le_of_ble_eq_true rfl) rfl ?_
  refine r_aload rfl rfl ?_
  refine r_instW rfl (by decide) tx (by decide) ?_
  refine r_if_eq (tg := 75) rfl rfl (fun _ => ?_) (fun q => absurd q (by decide))
  refine r_ic (x := (-14)) rfl rfl ?_
  refine r_iret rfl ?_
  show WR _ cd_102 228 [some (.ref (ad 9)), some (.int (nI A)), some (.int (nI dp)), some (.int (nI a)), some (.int (nI b)), some (.int c)] [.int (-14)] h _
  refine r_iret rfl ?_
  exact (L1)

set_option maxHeartbeats 2000000 in
theorem w_c12t6s {d : Nat} {Q : mQ} {n : Nat} {ad sa : Nat → Nat} {z0 : Nat} {h : mH} (fx : FX n ad sa z0 h) {A dp : Nat} (hA : A + 3 < 640) (f5 : hR h (ad 9) 5 = some (ad 1)) (f6 : hR h (ad 9) 6 = some (ad 7)) {a H x : Nat} {c : Int32} {b : Nat} (hb : b ≤ 2) (ha : a < n) (n6 : n ≤ 6) (tu1 : hR h (ad 7) a = some (ad (100 + 5 * a))) (tu2 : hT h (ad (100 + 5 * a)) = 8) (tu3 : hR h (ad (100 + 5 * a)) 5 = some (ad (101 + 5 * a))) (tu4 : hT h (ad (101 + 5 * a)) = 26) (tu5 : hN h (ad (101 + 5 * a)) = 5) (eh : hI h (ad 13) 2 = nI H) (hH1 : 1 ≤ H) (hH : H ≤ 100) (r2 : hR h (ad 14) (H - 1) = some x) (tx : hT h x = 6) (s0 : hI h (ad 10) A = 12) (s1 : hI h (ad 10) (A + 1) = nI a) (s2 : hI h (ad 10) (A + 2) = nI b) (s3 : hI h (ad 10) (A + 3) = c) 
    (L1 : Q (some (.int (-14))) h) : EV (d + 3) 102 [.ref (ad 9), .int (nI A), .int (nI dp)] h Q := by
  have fx0 := fx
  refine in_102 (Nat.le_of_ble_eq_true rfl) ?_
  show WR _ cd_102 0 [some (.ref (ad 9)), some (.int (nI A)), some (.int (nI dp)), none, none, none] [] h _
  refine r_aload rfl rfl ?_
  refine r_getA (b := ad 10) rfl ⟨rfl, rfl, rfl⟩ (fx_t9 fx) (fx_r9_0 fx) ?_
  refine r_iload rfl rfl ?_
  refine r_ic (x := 1) rfl rfl ?_
  refine r_iadd rfl ?_
  refine WR_tI (y := nI (A + 1)) (Eq.trans (nI_add A 1) (congrArg nI (by omega))) ?_
  refine r_iaload rfl (.inl (fx_t10 fx)) (vp_ct (fx_n10 fx) (vp_in_nI (by omega) (by omega))) ?_
  refine WR_tI (congrArg (hI h (ad 10)) ((nI_clamp (by omega)) : _ = A + 1)) ?_
  refine WR_tI (y := nI a) s1 ?_
  refine r_istore (lv' := [some (.ref (ad 9)), some (.int (nI A)), some (.int (nI dp)), some (.int (nI a)), none, none]) rfl (Nat.le_of_ble_eq_true rfl) rfl ?_
  refine r_aload rfl rfl ?_
  refine r_getA (b := ad 10) rfl ⟨rfl, rfl, rfl⟩ (fx_t9 fx) (fx_r9_0 fx) ?_
  refine r_iload rfl rfl ?_
  refine r_ic (x := 2) rfl rfl ?_
  refine r_iadd rfl ?_
  refine WR_tI (y := nI (A + 2)) (Eq.trans (nI_add A 2) (congrArg nI (by omega))) ?_
  refine r_iaload rfl (.inl (fx_t10 fx)) (vp_ct (fx_n10 fx) (vp_in_nI (by omega) (by omega))) ?_
  refine WR_tI (congrArg (hI h (ad 10)) ((nI_clamp (by omega)) : _ = A + 2)) ?_
  refine WR_tI (y := nI b) s2 ?_
  refine r_istore (lv' := [some (.ref (ad 9)), some (.int (nI A)), some (.int (nI dp)), some (.int (nI a)), some (.int (nI b)), none]) rfl (Nat.le_of_ble_eq_true rfl) rfl ?_
  refine r_aload rfl rfl ?_
  refine r_getA (b := ad 10) rfl ⟨rfl, rfl, rfl⟩ (fx_t9 fx) (fx_r9_0 fx) ?_
  refine r_iload rfl rfl ?_
  refine r_ic (x := 3) rfl rfl ?_
  refine r_iadd rfl ?_
  refine WR_tI (y := nI (A + 3)) (Eq.trans (nI_add A 3) (congrArg nI (by omega))) ?_
  refine r_iaload rfl (.inl (fx_t10 fx)) (vp_ct (fx_n10 fx) (vp_in_nI (by omega) (by omega))) ?_
  refine WR_tI (congrArg (hI h (ad 10)) ((nI_clamp (by omega)) : _ = A + 3)) ?_
  refine WR_tI (y := c) s3 ?_
  refine r_istore (lv' := [some (.ref (ad 9)), some (.int (nI A)), some (.int (nI dp)), some (.int (nI a)), some (.int (nI b)), some (.int c)]) rfl (Nat.le_of_ble_eq_true rfl) rfl ?_
  refine r_aload rfl rfl ?_
  refine r_getA (b := ad 10) rfl ⟨rfl, rfl, rfl⟩ (fx_t9 fx) (fx_r9_0 fx) ?_
  refine r_iload rfl rfl ?_
  refine r_iaload rfl (.inl (fx_t10 fx)) (vp_ct (fx_n10 fx) (vp_in_nI (by omega) (by omega))) ?_
  refine WR_tI (congrArg (hI h (ad 10)) ((nI_clamp (by omega)) : _ = A)) ?_
  refine WR_tI (y := 12) s0 ?_
  refine r_tswL (tg := 216) rfl (by decide) ?_
  refine r_aload rfl rfl ?_
  refine r_aload rfl rfl ?_
  refine r_getA (b := ad 7) rfl ⟨rfl, rfl, rfl⟩ (fx_t9 fx) f6 ?_
  refine r_iload rfl rfl ?_
  refine r_aaloadA (b := ad (100 + 5 * a)) rfl (isQ_of (fx_t7 fx) (by decide)) (vp_ct (fx_n7 fx) (vp_in_nI (by omega) (by omega))) (Eq.trans (congrArg (hR h (ad 7)) ((nI_clamp (by omega)) : _ = a)) tu1) ?_
  refine r_iload rfl rfl ?_
  refine r_cv (y := 114) (ra := [.int (nI b), .ref (ad (100 + 5 * a))]) (rest := []) rfl ⟨⟨rfl, rfl⟩, rfl, by decide⟩ (fx_t9 fx) rfl rfl (Nat.le_of_ble_eq_true rfl) ?_
  refine in_114 (Nat.le_of_ble_eq_true rfl) ?_
  show WR _ cd_114 0 [some (.ref (ad 9)), some (.ref (ad (100 + 5 * a))), some (.int (nI b)), none, none, none] [] h _
  refine r_iload rfl rfl ?_
  refine r_ic (x := 2) rfl rfl ?_
  refine r_icmp_le (tg := 15) rfl rfl (fun _ => ?_) (fun q => False.elim (by have : (nI b).toInt = ((b : Nat) : Int) := nI_toInt (by omega); have : (2 : Int32).toInt = 2 := rfl; have := i_nle q; omega))
  refine r_aload rfl rfl ?_
  refine r_getA (b := ad 13) rfl ⟨rfl, rfl, rfl⟩ (fx_t9 fx) (fx_r9_3 fx) ?_
  refine r_cv (y := 106) (ra := []) (rest := []) rfl ⟨⟨rfl, rfl⟩, rfl, by decide⟩ (fx_t13 fx) rfl rfl (Nat.le_of_ble_eq_true rfl) ?_
  refine in_106 (Nat.le_of_ble_eq_true rfl) ?_
  show WR _ cd_106 0 [some (.ref (ad 13))] [] h _
  refine r_aload rfl rfl ?_
  refine r_getI rfl ⟨rfl, rfl, rfl⟩ (fx_t13 fx) ?_
  refine WR_tI (y := nI H) eh ?_
  refine r_if_le (tg := 21) rfl rfl (fun q => False.elim (by have : (nI H).toInt = ((H : Nat) : Int) := nI_toInt (by omega); have : (0 : Int32).toInt = 0 := rfl; have := i_le q; omega)) (fun _ => ?_)
  refine r_aload rfl rfl ?_
  refine r_getA (b := ad 14) rfl ⟨rfl, rfl, rfl⟩ (fx_t13 fx) (fx_r13_0 fx) ?_
  refine r_aload rfl rfl ?_
  refine r_getI rfl ⟨rfl, rfl, rfl⟩ (fx_t13 fx) ?_
  refine WR_tI (y := nI H) eh ?_
  refine r_ic (x := 1) rfl rfl ?_
  refine r_isub rfl ?_
  refine WR_tI (y := nI (H - 1)) (Eq.trans (pk_sub (a := H) (b := 1) (by omega)) (congrArg nI (by omega))) ?_
  refine r_aaloadA (b := x) rfl (isQ_of (fx_t14 fx) (by decide)) (vp_ct (fx_n14 fx) (vp_in_nI (by omega) (by omega))) (Eq.trans (congrArg (hR h (ad 14)) ((nI_clamp (by omega)) : _ = H - 1)) r2) ?_
  refine r_goto (tg := 22) rfl rfl ?_
  refine r_aret rfl ?_
  show WR _ cd_114 22 [some (.ref (ad 9)), some (.ref (ad (100 + 5 * a))), some (.int (nI b)), none, none, none] [.ref x] h _
  refine r_astore (lv' := [some (.ref (ad 9)), some (.ref (ad (100 + 5 * a))), some (.int (nI b)), some (.ref x), none, none]) rfl (Nat.le_of_ble_eq_true rfl) rfl ?_
  refine r_aload rfl rfl ?_
  refine r_ifnonnullA (tg := 30) rfl rfl ?_
  refine r_iload rfl rfl ?_
  refine r_ic (x := 3) rfl rfl ?_
  refine r_icmp_ne (tg := 39) rfl rfl (fun _ => ?_) (fun q => False.elim (by have : (nI b).toInt = ((b : Nat) : Int) := nI_toInt (by omega); have : (3 : Int32).toInt = 3 := rfl; have := i_eq q; omega))
  refine r_iload rfl rfl ?_
  refine r_ic (x := 4) rfl rfl ?_
  refine r_icmp_ne (tg := 48) rfl rfl (fun _ => ?_) (fun q => False.elim (by have : (nI b).toInt = ((b : Nat) : Int) := nI_toInt (by omega); have : (4 : Int32).toInt = 4 := rfl; have := i_eq q; omega))
  refine r_ic (x := 7) rfl rfl ?_
  refine r_istore (lv' := [some (.ref (ad 9)), some (.ref (ad (100 + 5 * a))), some (.int (nI b)), some (.ref x), some (.int 7), none]) rfl (Nat.le_of_ble_eq_true rfl) rfl ?_
  refine r_aload rfl rfl ?_
  refine r_instW rfl (by decide) tx (by decide) ?_
  refine r_if_eq (tg := 75) rfl rfl (fun _ => ?_) (fun q => absurd q (by decide))
  refine r_ic (x := (-14)) rfl rfl ?_
  refine r_iret rfl ?_
  show WR _ cd_102 228 [some (.ref (ad 9)), some (.int (nI A)), some (.int (nI dp)), some (.int (nI a)), some (.int (nI b)), some (.int c)] [.int (-14)] h _
  refine r_iret rfl ?_
  exact (L1)

set_option maxHeartbeats 2000000 in
theorem w_c12ns {d : Nat} {Q : mQ} {n : Nat} {ad sa : Nat → Nat} {z0 : Nat} {h : mH} (fx : FX n ad sa z0 h) {A dp : Nat} (hA : A + 3 < 640) (f5 : hR h (ad 9) 5 = some (ad 1)) (f6 : hR h (ad 9) 6 = some (ad 7)) {a H x : Nat} {c : Int32} {b : Nat} (hb : b ≤ 2) (ha : a < n) (n6 : n ≤ 6) (tu1 : hR h (ad 7) a = some (ad (100 + 5 * a))) (tu2 : hT h (ad (100 + 5 * a)) = 8) (tu3 : hR h (ad (100 + 5 * a)) 5 = some (ad (101 + 5 * a))) (tu4 : hT h (ad (101 + 5 * a)) = 26) (tu5 : hN h (ad (101 + 5 * a)) = 5) (eh : hI h (ad 13) 2 = nI H) (hH1 : 1 ≤ H) (hH : H ≤ 100) (r2 : hR h (ad 14) (H - 1) = some x) (tx : hT h x = 4) {kd : Nat} (kx : hI h x 0 = nI kd) (k7 : kd < 7) (rst : Rst sa h) (of_ : ¬ ofK kd 7 = true) (s0 : hI h (ad 10) A = 12) (s1 : hI h (ad 10) (A + 1) = nI a) (s2 : hI h (ad 10) (A + 2) = nI b) (s3 : hI h (ad 10) (A + 3) = c) 
    (L1 : Q (some (.int (-14))) h) : EV (d + 3) 102 [.ref (ad 9), .int (nI A), .int (nI dp)] h Q := by
  have fx0 := fx
  refine in_102 (Nat.le_of_ble_eq_true rfl) ?_
  show WR _ cd_102 0 [some (.ref (ad 9)), some (.int (nI A)), some (.int (nI dp)), none, none, none] [] h _
  refine r_aload rfl rfl ?_
  refine r_getA (b := ad 10) rfl ⟨rfl, rfl, rfl⟩ (fx_t9 fx) (fx_r9_0 fx) ?_
  refine r_iload rfl rfl ?_
  refine r_ic (x := 1) rfl rfl ?_
  refine r_iadd rfl ?_
  refine WR_tI (y := nI (A + 1)) (Eq.trans (nI_add A 1) (congrArg nI (by omega))) ?_
  refine r_iaload rfl (.inl (fx_t10 fx)) (vp_ct (fx_n10 fx) (vp_in_nI (by omega) (by omega))) ?_
  refine WR_tI (congrArg (hI h (ad 10)) ((nI_clamp (by omega)) : _ = A + 1)) ?_
  refine WR_tI (y := nI a) s1 ?_
  refine r_istore (lv' := [some (.ref (ad 9)), some (.int (nI A)), some (.int (nI dp)), some (.int (nI a)), none, none]) rfl (Nat.le_of_ble_eq_true rfl) rfl ?_
  refine r_aload rfl rfl ?_
  refine r_getA (b := ad 10) rfl ⟨rfl, rfl, rfl⟩ (fx_t9 fx) (fx_r9_0 fx) ?_
  refine r_iload rfl rfl ?_
  refine r_ic (x := 2) rfl rfl ?_
  refine r_iadd rfl ?_
  refine WR_tI (y := nI (A + 2)) (Eq.trans (nI_add A 2) (congrArg nI (by omega))) ?_
  refine r_iaload rfl (.inl (fx_t10 fx)) (vp_ct (fx_n10 fx) (vp_in_nI (by omega) (by omega))) ?_
  refine WR_tI (congrArg (hI h (ad 10)) ((nI_clamp (by omega)) : _ = A + 2)) ?_
  refine WR_tI (y := nI b) s2 ?_
  refine r_istore (lv' := [some (.ref (ad 9)), some (.int (nI A)), some (.int (nI dp)), some (.int (nI a)), some (.int (nI b)), none]) rfl (Nat.le_of_ble_eq_true rfl) rfl ?_
  refine r_aload rfl rfl ?_
  refine r_getA (b := ad 10) rfl ⟨rfl, rfl, rfl⟩ (fx_t9 fx) (fx_r9_0 fx) ?_
  refine r_iload rfl rfl ?_
  refine r_ic (x := 3) rfl rfl ?_
  refine r_iadd rfl ?_
  refine WR_tI (y := nI (A + 3)) (Eq.trans (nI_add A 3) (congrArg nI (by omega))) ?_
  refine r_iaload rfl (.inl (fx_t10 fx)) (vp_ct (fx_n10 fx) (vp_in_nI (by omega) (by omega))) ?_
  refine WR_tI (congrArg (hI h (ad 10)) ((nI_clamp (by omega)) : _ = A + 3)) ?_
  refine WR_tI (y := c) s3 ?_
  refine r_istore (lv' := [some (.ref (ad 9)), some (.int (nI A)), some (.int (nI dp)), some (.int (nI a)), some (.int (nI b)), some (.int c)]) rfl (Nat.le_of_ble_eq_true rfl) rfl ?_
  refine r_aload rfl rfl ?_
  refine r_getA (b := ad 10) rfl ⟨rfl, rfl, rfl⟩ (fx_t9 fx) (fx_r9_0 fx) ?_
  refine r_iload rfl rfl ?_
  refine r_iaload rfl (.inl (fx_t10 fx)) (vp_ct (fx_n10 fx) (vp_in_nI (by omega) (by omega))) ?_
  refine WR_tI (congrArg (hI h (ad 10)) ((nI_clamp (by omega)) : _ = A)) ?_
  refine WR_tI (y := 12) s0 ?_
  refine r_tswL (tg := 216) rfl (by decide) ?_
  refine r_aload rfl rfl ?_
  refine r_aload rfl rfl ?_
  refine r_getA (b := ad 7) rfl ⟨rfl, rfl, rfl⟩ (fx_t9 fx) f6 ?_
  refine r_iload rfl rfl ?_
  refine r_aaloadA (b := ad (100 + 5 * a)) rfl (isQ_of (fx_t7 fx) (by decide)) (vp_ct (fx_n7 fx) (vp_in_nI (by omega) (by omega))) (Eq.trans (congrArg (hR h (ad 7)) ((nI_clamp (by omega)) : _ = a)) tu1) ?_
  refine r_iload rfl rfl ?_
  refine r_cv (y := 114) (ra := [.int (nI b), .ref (ad (100 + 5 * a))]) (rest := []) rfl ⟨⟨rfl, rfl⟩, rfl, by decide⟩ (fx_t9 fx) rfl rfl (Nat.le_of_ble_eq_true rfl) ?_
  refine in_114 (Nat.le_of_ble_eq_true rfl) ?_
  show WR _ cd_114 0 [some (.ref (ad 9)), some (.ref (ad (100 + 5 * a))), some (.int (nI b)), none, none, none] [] h _
  refine r_iload rfl rfl ?_
  refine r_ic (x := 2) rfl rfl ?_
  refine r_icmp_le (tg := 15) rfl rfl (fun _ => ?_) (fun q => False.elim (by have : (nI b).toInt = ((b : Nat) : Int) := nI_toInt (by omega); have : (2 : Int32).toInt = 2 := rfl; have := i_nle q; omega))
  refine r_aload rfl rfl ?_
  refine r_getA (b := ad 13) rfl ⟨rfl, rfl, rfl⟩ (fx_t9 fx) (fx_r9_3 fx) ?_
  refine r_cv (y := 106) (ra := []) (rest := []) rfl ⟨⟨rfl, rfl⟩, rfl, by decide⟩ (fx_t13 fx) rfl rfl (Nat.le_of_ble_eq_true rfl) ?_
  refine in_106 (Nat.le_of_ble_eq_true rfl) ?_
  show WR _ cd_106 0 [some (.ref (ad 13))] [] h _
  refine r_aload rfl rfl ?_
  refine r_getI rfl ⟨rfl, rfl, rfl⟩ (fx_t13 fx) ?_
  refine WR_tI (y := nI H) eh ?_
  refine r_if_le (tg := 21) rfl rfl (fun q => False.elim (by have : (nI H).toInt = ((H : Nat) : Int) := nI_toInt (by omega); have : (0 : Int32).toInt = 0 := rfl; have := i_le q; omega)) (fun _ => ?_)
  refine r_aload rfl rfl ?_
  refine r_getA (b := ad 14) rfl ⟨rfl, rfl, rfl⟩ (fx_t13 fx) (fx_r13_0 fx) ?_
  refine r_aload rfl rfl ?_
  refine r_getI rfl ⟨rfl, rfl, rfl⟩ (fx_t13 fx) ?_
  refine WR_tI (y := nI H) eh ?_
  refine r_ic (x := 1) rfl rfl ?_
  refine r_isub rfl ?_
  refine WR_tI (y := nI (H - 1)) (Eq.trans (pk_sub (a := H) (b := 1) (by omega)) (congrArg nI (by omega))) ?_
  refine r_aaloadA (b := x) rfl (isQ_of (fx_t14 fx) (by decide)) (vp_ct (fx_n14 fx) (vp_in_nI (by omega) (by omega))) (Eq.trans (congrArg (hR h (ad 14)) ((nI_clamp (by omega)) : _ = H - 1)) r2) ?_
  refine r_goto (tg := 22) rfl rfl ?_
  refine r_aret rfl ?_
  show WR _ cd_114 22 [some (.ref (ad 9)), some (.ref (ad (100 + 5 * a))), some (.int (nI b)), none, none, none] [.ref x] h _
  refine r_astore (lv' := [some (.ref (ad 9)), some (.ref (ad (100 + 5 * a))), some (.int (nI b)), some (.ref x), none, none]) rfl (Nat.le_of_ble_eq_true rfl) rfl ?_
  refine r_aload rfl rfl ?_
  refine r_ifnonnullA (tg := 30) rfl rfl ?_
  refine r_iload rfl rfl ?_
  refine r_ic (x := 3) rfl rfl ?_
  refine r_icmp_ne (tg := 39) rfl rfl (fun _ => ?_) (fun q => False.elim (by have : (nI b).toInt = ((b : Nat) : Int) := nI_toInt (by omega); have : (3 : Int32).toInt = 3 := rfl; have := i_eq q; omega))
  refine r_iload rfl rfl ?_
  refine r_ic (x := 4) rfl rfl ?_
  refine r_icmp_ne (tg := 48) rfl rfl (fun _ => ?_) (fun q => False.elim (by have : (nI b).toInt = ((b : Nat) : Int) := nI_toInt (by omega); have : (4 : Int32).toInt = 4 := rfl; have := i_eq q; omega))
  refine r_ic (x := 7) rfl rfl ?_
  refine r_istore (lv' := [some (.ref (ad 9)), some (.ref (ad (100 + 5 * a))), some (.int (nI b)), some (.ref x), some (.int 7), none]) rfl (Nat.le_of_ble_eq_true rfl) rfl ?_
  refine r_aload rfl rfl ?_
  refine r_instY rfl (by decide) tx ?_
  refine r_if_eq (tg := 75) rfl rfl (fun q => absurd q (by decide)) (fun _ => ?_)
  refine r_aload rfl rfl ?_
  refine r_cast rfl tx ?_
  refine r_astore (lv' := [some (.ref (ad 9)), some (.ref (ad (100 + 5 * a))), some (.int (nI b)), some (.ref x), some (.int 7), some (.ref x)]) rfl (Nat.le_of_ble_eq_true rfl) rfl ?_
  refine r_aload rfl rfl ?_
  refine r_iload rfl rfl ?_
  refine r_cv (y := 48) (ra := [.int 7]) (rest := []) rfl ⟨⟨rfl, rfl⟩, rfl, by decide⟩ tx rfl rfl (Nat.le_of_ble_eq_true rfl) ?_
  refine c_isOf (h := h) (kd := kd) (k := 7) fx rst tx kx k7 (by decide) ?_
  rw [if_neg of_]
  show WR _ cd_114 72 [some (.ref (ad 9)), some (.ref (ad (100 + 5 * a))), some (.int (nI b)), some (.ref x), some (.int 7), some (.ref x)] [.int 0] h _
  refine r_if_ne (tg := 78) rfl rfl (fun q => absurd q (by decide)) (fun _ => ?_)
  refine r_ic (x := (-14)) rfl rfl ?_
  refine r_iret rfl ?_
  show WR _ cd_102 228 [some (.ref (ad 9)), some (.int (nI A)), some (.int (nI dp)), some (.int (nI a)), some (.int (nI b)), some (.int c)] [.int (-14)] h _
  refine r_iret rfl ?_
  exact (L1)

set_option maxHeartbeats 2000000 in
theorem w_c12es {d : Nat} {Q : mQ} {n : Nat} {ad sa : Nat → Nat} {z0 : Nat} {h : mH} (fx : FX n ad sa z0 h) {A dp : Nat} (hA : A + 3 < 640) (f5 : hR h (ad 9) 5 = some (ad 1)) (f6 : hR h (ad 9) 6 = some (ad 7)) {a H x : Nat} {c : Int32} {b : Nat} (hb : b ≤ 2) (ha : a < n) (n6 : n ≤ 6) (tu1 : hR h (ad 7) a = some (ad (100 + 5 * a))) (tu2 : hT h (ad (100 + 5 * a)) = 8) (tu3 : hR h (ad (100 + 5 * a)) 5 = some (ad (101 + 5 * a))) (tu4 : hT h (ad (101 + 5 * a)) = 26) (tu5 : hN h (ad (101 + 5 * a)) = 5) (eh : hI h (ad 13) 2 = nI H) (hH1 : 1 ≤ H) (hH : H ≤ 100) (r2 : hR h (ad 14) (H - 1) = some x) (tx : hT h x = 4) {kd : Nat} (kx : hI h x 0 = nI kd) (k7 : kd < 7) (rst : Rst sa h) (of_ : ofK kd 7 = true) (r3 : hR h (ad (101 + 5 * a)) b = none) (s0 : hI h (ad 10) A = 12) (s1 : hI h (ad 10) (A + 1) = nI a) (s2 : hI h (ad 10) (A + 2) = nI b) (s3 : hI h (ad 10) (A + 3) = c) 
    (L1 : Q (some (.int 0)) (sR (sI h (ad 13) 2 (nI (H - 1))) (ad (101 + 5 * a)) b (some x))) : EV (d + 3) 102 [.ref (ad 9), .int (nI A), .int (nI dp)] h Q := by
  have fx0 := fx
  refine in_102 (Nat.le_of_ble_eq_true rfl) ?_
  show WR _ cd_102 0 [some (.ref (ad 9)), some (.int (nI A)), some (.int (nI dp)), none, none, none] [] h _
  refine r_aload rfl rfl ?_
  refine r_getA (b := ad 10) rfl ⟨rfl, rfl, rfl⟩ (fx_t9 fx) (fx_r9_0 fx) ?_
  refine r_iload rfl rfl ?_
  refine r_ic (x := 1) rfl rfl ?_
  refine r_iadd rfl ?_
  refine WR_tI (y := nI (A + 1)) (Eq.trans (nI_add A 1) (congrArg nI (by omega))) ?_
  refine r_iaload rfl (.inl (fx_t10 fx)) (vp_ct (fx_n10 fx) (vp_in_nI (by omega) (by omega))) ?_
  refine WR_tI (congrArg (hI h (ad 10)) ((nI_clamp (by omega)) : _ = A + 1)) ?_
  refine WR_tI (y := nI a) s1 ?_
  refine r_istore (lv' := [some (.ref (ad 9)), some (.int (nI A)), some (.int (nI dp)), some (.int (nI a)), none, none]) rfl (Nat.le_of_ble_eq_true rfl) rfl ?_
  refine r_aload rfl rfl ?_
  refine r_getA (b := ad 10) rfl ⟨rfl, rfl, rfl⟩ (fx_t9 fx) (fx_r9_0 fx) ?_
  refine r_iload rfl rfl ?_
  refine r_ic (x := 2) rfl rfl ?_
  refine r_iadd rfl ?_
  refine WR_tI (y := nI (A + 2)) (Eq.trans (nI_add A 2) (congrArg nI (by omega))) ?_
  refine r_iaload rfl (.inl (fx_t10 fx)) (vp_ct (fx_n10 fx) (vp_in_nI (by omega) (by omega))) ?_
  refine WR_tI (congrArg (hI h (ad 10)) ((nI_clamp (by omega)) : _ = A + 2)) ?_
  refine WR_tI (y := nI b) s2 ?_
  refine r_istore (lv' := [some (.ref (ad 9)), some (.int (nI A)), some (.int (nI dp)), some (.int (nI a)), some (.int (nI b)), none]) rfl (Nat.le_of_ble_eq_true rfl) rfl ?_
  refine r_aload rfl rfl ?_
  refine r_getA (b := ad 10) rfl ⟨rfl, rfl, rfl⟩ (fx_t9 fx) (fx_r9_0 fx) ?_
  refine r_iload rfl rfl ?_
  refine r_ic (x := 3) rfl rfl ?_
  refine r_iadd rfl ?_
  refine WR_tI (y := nI (A + 3)) (Eq.trans (nI_add A 3) (congrArg nI (by omega))) ?_
  refine r_iaload rfl (.inl (fx_t10 fx)) (vp_ct (fx_n10 fx) (vp_in_nI (by omega) (by omega))) ?_
  refine WR_tI (congrArg (hI h (ad 10)) ((nI_clamp (by omega)) : _ = A + 3)) ?_
  refine WR_tI (y := c) s3 ?_
  refine r_istore (lv' := [some (.ref (ad 9)), some (.int (nI A)), some (.int (nI dp)), some (.int (nI a)), some (.int (nI b)), some (.int c)]) rfl (Nat.le_of_ble_eq_true rfl) rfl ?_
  refine r_aload rfl rfl ?_
  refine r_getA (b := ad 10) rfl ⟨rfl, rfl, rfl⟩ (fx_t9 fx) (fx_r9_0 fx) ?_
  refine r_iload rfl rfl ?_
  refine r_iaload rfl (.inl (fx_t10 fx)) (vp_ct (fx_n10 fx) (vp_in_nI (by omega) (by omega))) ?_
  refine WR_tI (congrArg (hI h (ad 10)) ((nI_clamp (by omega)) : _ = A)) ?_
  refine WR_tI (y := 12) s0 ?_
  refine r_tswL (tg := 216) rfl (by decide) ?_
  refine r_aload rfl rfl ?_
  refine r_aload rfl rfl ?_
  refine r_getA (b := ad 7) rfl ⟨rfl, rfl, rfl⟩ (fx_t9 fx) f6 ?_
  refine r_iload rfl rfl ?_
  refine r_aaloadA (b := ad (100 + 5 * a)) rfl (isQ_of (fx_t7 fx) (by decide)) (vp_ct (fx_n7 fx) (vp_in_nI (by omega) (by omega))) (Eq.trans (congrArg (hR h (ad 7)) ((nI_clamp (by omega)) : _ = a)) tu1) ?_
  refine r_iload rfl rfl ?_
  refine r_cv (y := 114) (ra := [.int (nI b), .ref (ad (100 + 5 * a))]) (rest := []) rfl ⟨⟨rfl, rfl⟩, rfl, by decide⟩ (fx_t9 fx) rfl rfl (Nat.le_of_ble_eq_true rfl) ?_
  refine in_114 (Nat.le_of_ble_eq_true rfl) ?_
  show WR _ cd_114 0 [some (.ref (ad 9)), some (.ref (ad (100 + 5 * a))), some (.int (nI b)), none, none, none] [] h _
  refine r_iload rfl rfl ?_
  refine r_ic (x := 2) rfl rfl ?_
  refine r_icmp_le (tg := 15) rfl rfl (fun _ => ?_) (fun q => False.elim (by have : (nI b).toInt = ((b : Nat) : Int) := nI_toInt (by omega); have : (2 : Int32).toInt = 2 := rfl; have := i_nle q; omega))
  refine r_aload rfl rfl ?_
  refine r_getA (b := ad 13) rfl ⟨rfl, rfl, rfl⟩ (fx_t9 fx) (fx_r9_3 fx) ?_
  refine r_cv (y := 106) (ra := []) (rest := []) rfl ⟨⟨rfl, rfl⟩, rfl, by decide⟩ (fx_t13 fx) rfl rfl (Nat.le_of_ble_eq_true rfl) ?_
  refine in_106 (Nat.le_of_ble_eq_true rfl) ?_
  show WR _ cd_106 0 [some (.ref (ad 13))] [] h _
  refine r_aload rfl rfl ?_
  refine r_getI rfl ⟨rfl, rfl, rfl⟩ (fx_t13 fx) ?_
  refine WR_tI (y := nI H) eh ?_
  refine r_if_le (tg := 21) rfl rfl (fun q => False.elim (by have : (nI H).toInt = ((H : Nat) : Int) := nI_toInt (by omega); have : (0 : Int32).toInt = 0 := rfl; have := i_le q; omega)) (fun _ => ?_)
  refine r_aload rfl rfl ?_
  refine r_getA (b := ad 14) rfl ⟨rfl, rfl, rfl⟩ (fx_t13 fx) (fx_r13_0 fx) ?_
  refine r_aload rfl rfl ?_
  refine r_getI rfl ⟨rfl, rfl, rfl⟩ (fx_t13 fx) ?_
  refine WR_tI (y := nI H) eh ?_
  refine r_ic (x := 1) rfl rfl ?_
  refine r_isub rfl ?_
  refine WR_tI (y := nI (H - 1)) (Eq.trans (pk_sub (a := H) (b := 1) (by omega)) (congrArg nI (by omega))) ?_
  refine r_aaloadA (b := x) rfl (isQ_of (fx_t14 fx) (by decide)) (vp_ct (fx_n14 fx) (vp_in_nI (by omega) (by omega))) (Eq.trans (congrArg (hR h (ad 14)) ((nI_clamp (by omega)) : _ = H - 1)) r2) ?_
  refine r_goto (tg := 22) rfl rfl ?_
  refine r_aret rfl ?_
  show WR _ cd_114 22 [some (.ref (ad 9)), some (.ref (ad (100 + 5 * a))), some (.int (nI b)), none, none, none] [.ref x] h _
  refine r_astore (lv' := [some (.ref (ad 9)), some (.ref (ad (100 + 5 * a))), some (.int (nI b)), some (.ref x), none, none]) rfl (Nat.le_of_ble_eq_true rfl) rfl ?_
  refine r_aload rfl rfl ?_
  refine r_ifnonnullA (tg := 30) rfl rfl ?_
  refine r_iload rfl rfl ?_
  refine r_ic (x := 3) rfl rfl ?_
  refine r_icmp_ne (tg := 39) rfl rfl (fun _ => ?_) (fun q => False.elim (by have : (nI b).toInt = ((b : Nat) : Int) := nI_toInt (by omega); have : (3 : Int32).toInt = 3 := rfl; have := i_eq q; omega))
  refine r_iload rfl rfl ?_
  refine r_ic (x := 4) rfl rfl ?_
  refine r_icmp_ne (tg := 48) rfl rfl (fun _ => ?_) (fun q => False.elim (by have : (nI b).toInt = ((b : Nat) : Int) := nI_toInt (by omega); have : (4 : Int32).toInt = 4 := rfl; have := i_eq q; omega))
  refine r_ic (x := 7) rfl rfl ?_
  refine r_istore (lv' := [some (.ref (ad 9)), some (.ref (ad (100 + 5 * a))), some (.int (nI b)), some (.ref x), some (.int 7), none]) rfl (Nat.le_of_ble_eq_true rfl) rfl ?_
  refine r_aload rfl rfl ?_
  refine r_instY rfl (by decide) tx ?_
  refine r_if_eq (tg := 75) rfl rfl (fun q => absurd q (by decide)) (fun _ => ?_)
  refine r_aload rfl rfl ?_
  refine r_cast rfl tx ?_
  refine r_astore (lv' := [some (.ref (ad 9)), some (.ref (ad (100 + 5 * a))), some (.int (nI b)), some (.ref x), some (.int 7), some (.ref x)]) rfl (Nat.le_of_ble_eq_true rfl) rfl ?_
  refine r_aload rfl rfl ?_
  refine r_iload rfl rfl ?_
  refine r_cv (y := 48) (ra := [.int 7]) (rest := []) rfl ⟨⟨rfl, rfl⟩, rfl, by decide⟩ tx rfl rfl (Nat.le_of_ble_eq_true rfl) ?_
  refine c_isOf (h := h) (kd := kd) (k := 7) fx rst tx kx k7 (by decide) ?_
  rw [if_pos of_]
  show WR _ cd_114 72 [some (.ref (ad 9)), some (.ref (ad (100 + 5 * a))), some (.int (nI b)), some (.ref x), some (.int 7), some (.ref x)] [.int 1] h _
  refine r_if_ne (tg := 78) rfl rfl (fun _ => ?_) (fun q => absurd q (by decide))
  refine r_aload rfl rfl ?_
  refine r_getA (b := ad 13) rfl ⟨rfl, rfl, rfl⟩ (fx_t9 fx) (fx_r9_3 fx) ?_
  refine r_dup rfl rfl ?_
  refine r_getI rfl ⟨rfl, rfl, rfl⟩ (fx_t13 fx) ?_
  refine WR_tI (y := nI H) eh ?_
  refine r_ic (x := 1) rfl rfl ?_
  refine r_isub rfl ?_
  refine WR_tI (y := nI (H - 1)) (Eq.trans (pk_sub (a := H) (b := 1) (by omega)) (congrArg nI (by omega))) ?_
  refine r_putI rfl ⟨rfl, rfl, rfl⟩ (fx_t13 fx) ?_
  have fx : FX n ad sa z0 (sI h (ad 13) 2 (nI (H - 1))) := (FX.sI fx)
  refine r_aload rfl rfl ?_
  refine r_getA (b := ad (101 + 5 * a)) rfl ⟨rfl, rfl, rfl⟩ tu2 (Eq.trans R_oI tu3) ?_
  refine r_iload rfl rfl ?_
  refine r_aaload0 rfl (isQ_of tu4 (by decide)) (vp_ct tu5 (vp_in_nI (by omega) (by omega))) (Eq.trans (congrArg (hR (sI h (ad 13) 2 (nI (H - 1))) (ad (101 + 5 * a))) ((nI_clamp (by omega)) : _ = b)) (Eq.trans R_oI r3)) ?_
  refine r_ifnullN (tg := 115) rfl rfl ?_
  refine r_aload rfl rfl ?_
  refine r_getA (b := ad (101 + 5 * a)) rfl ⟨rfl, rfl, rfl⟩ tu2 (Eq.trans R_oI tu3) ?_
  refine r_iload rfl rfl ?_
  refine r_aload rfl rfl ?_
  refine r_aastoreA rfl (isQ_of tu4 (by decide)) (vp_ct tu5 (vp_in_nI (by omega) (by omega))) (okR_of tu4 tx (by decide)) ?_
  refine WR_h (h2 := sR (sI h (ad 13) 2 (nI (H - 1))) (ad (101 + 5 * a)) b (some x)) (congrArg (fun z => sR (sI h (ad 13) 2 (nI (H - 1))) (ad (101 + 5 * a)) z (some x)) ((nI_clamp (by omega)) : _ = b)) ?_
  have fx : FX n ad sa z0 (sR (sI h (ad 13) 2 (nI (H - 1))) (ad (101 + 5 * a)) b (some x)) := FX.sRT fx (t := a) ha
  refine r_ic (x := 0) rfl rfl ?_
  refine r_iret rfl ?_
  show WR _ cd_102 228 [some (.ref (ad 9)), some (.int (nI A)), some (.int (nI dp)), some (.int (nI a)), some (.int (nI b)), some (.int c)] [.int 0] (sR (sI h (ad 13) 2 (nI (H - 1))) (ad (101 + 5 * a)) b (some x)) _
  refine r_iret rfl ?_
  exact (L1)

set_option maxHeartbeats 2000000 in
theorem w_c12fs {d : Nat} {Q : mQ} {n : Nat} {ad sa : Nat → Nat} {z0 : Nat} {h : mH} (fx : FX n ad sa z0 h) {A dp : Nat} (hA : A + 3 < 640) (f5 : hR h (ad 9) 5 = some (ad 1)) (f6 : hR h (ad 9) 6 = some (ad 7)) {a H x y : Nat} {c : Int32} {b : Nat} (hb : b ≤ 2) (ha : a < n) (n6 : n ≤ 6) (tu1 : hR h (ad 7) a = some (ad (100 + 5 * a))) (tu2 : hT h (ad (100 + 5 * a)) = 8) (tu3 : hR h (ad (100 + 5 * a)) 5 = some (ad (101 + 5 * a))) (tu4 : hT h (ad (101 + 5 * a)) = 26) (tu5 : hN h (ad (101 + 5 * a)) = 5) (eh : hI h (ad 13) 2 = nI H) (hH1 : 1 ≤ H) (hH : H ≤ 100) (r2 : hR h (ad 14) (H - 1) = some x) (tx : hT h x = 4) {kd : Nat} (kx : hI h x 0 = nI kd) (k7 : kd < 7) (rst : Rst sa h) (of_ : ofK kd 7 = true) (ty : hT h y = 4) (r3 : hR h (ad (101 + 5 * a)) b = some y) (s0 : hI h (ad 10) A = 12) (s1 : hI h (ad 10) (A + 1) = nI a) (s2 : hI h (ad 10) (A + 2) = nI b) (s3 : hI h (ad 10) (A + 3) = c) 
    (L1 : Q (some (.int 0)) (sR (sI (sI (sR (sI h (ad 13) 2 (nI (H - 1))) (ad 14) (H - 1) (some y)) (ad 15) (H - 1) 23) (ad 13) 2 (nI H)) (ad (101 + 5 * a)) b (some x))) : EV (d + 3) 102 [.ref (ad 9), .int (nI A), .int (nI dp)] h Q := by
  have fx0 := fx
  refine in_102 (Nat.le_of_ble_eq_true rfl) ?_
  show WR _ cd_102 0 [some (.ref (ad 9)), some (.int (nI A)), some (.int (nI dp)), none, none, none] [] h _
  refine r_aload rfl rfl ?_
  refine r_getA (b := ad 10) rfl ⟨rfl, rfl, rfl⟩ (fx_t9 fx) (fx_r9_0 fx) ?_
  refine r_iload rfl rfl ?_
  refine r_ic (x := 1) rfl rfl ?_
  refine r_iadd rfl ?_
  refine WR_tI (y := nI (A + 1)) (Eq.trans (nI_add A 1) (congrArg nI (by omega))) ?_
  refine r_iaload rfl (.inl (fx_t10 fx)) (vp_ct (fx_n10 fx) (vp_in_nI (by omega) (by omega))) ?_
  refine WR_tI (congrArg (hI h (ad 10)) ((nI_clamp (by omega)) : _ = A + 1)) ?_
  refine WR_tI (y := nI a) s1 ?_
  refine r_istore (lv' := [some (.ref (ad 9)), some (.int (nI A)), some (.int (nI dp)), some (.int (nI a)), none, none]) rfl (Nat.le_of_ble_eq_true rfl) rfl ?_
  refine r_aload rfl rfl ?_
  refine r_getA (b := ad 10) rfl ⟨rfl, rfl, rfl⟩ (fx_t9 fx) (fx_r9_0 fx) ?_
  refine r_iload rfl rfl ?_
  refine r_ic (x := 2) rfl rfl ?_
  refine r_iadd rfl ?_
  refine WR_tI (y := nI (A + 2)) (Eq.trans (nI_add A 2) (congrArg nI (by omega))) ?_
  refine r_iaload rfl (.inl (fx_t10 fx)) (vp_ct (fx_n10 fx) (vp_in_nI (by omega) (by omega))) ?_
  refine WR_tI (congrArg (hI h (ad 10)) ((nI_clamp (by omega)) : _ = A + 2)) ?_
  refine WR_tI (y := nI b) s2 ?_
  refine r_istore (lv' := [some (.ref (ad 9)), some (.int (nI A)), some (.int (nI dp)), some (.int (nI a)), some (.int (nI b)), none]) rfl (Nat.le_of_ble_eq_true rfl) rfl ?_
  refine r_aload rfl rfl ?_
  refine r_getA (b := ad 10) rfl ⟨rfl, rfl, rfl⟩ (fx_t9 fx) (fx_r9_0 fx) ?_
  refine r_iload rfl rfl ?_
  refine r_ic (x := 3) rfl rfl ?_
  refine r_iadd rfl ?_
  refine WR_tI (y := nI (A + 3)) (Eq.trans (nI_add A 3) (congrArg nI (by omega))) ?_
  refine r_iaload rfl (.inl (fx_t10 fx)) (vp_ct (fx_n10 fx) (vp_in_nI (by omega) (by omega))) ?_
  refine WR_tI (congrArg (hI h (ad 10)) ((nI_clamp (by omega)) : _ = A + 3)) ?_
  refine WR_tI (y := c) s3 ?_
  refine r_istore (lv' := [some (.ref (ad 9)), some (.int (nI A)), some (.int (nI dp)), some (.int (nI a)), some (.int (nI b)), some (.int c)]) rfl (Nat.le_of_ble_eq_true rfl) rfl ?_
  refine r_aload rfl rfl ?_
  refine r_getA (b := ad 10) rfl ⟨rfl, rfl, rfl⟩ (fx_t9 fx) (fx_r9_0 fx) ?_
  refine r_iload rfl rfl ?_
  refine r_iaload rfl (.inl (fx_t10 fx)) (vp_ct (fx_n10 fx) (vp_in_nI (by omega) (by omega))) ?_
  refine WR_tI (congrArg (hI h (ad 10)) ((nI_clamp (by omega)) : _ = A)) ?_
  refine WR_tI (y := 12) s0 ?_
  refine r_tswL (tg := 216) rfl (by decide) ?_
  refine r_aload rfl rfl ?_
  refine r_aload rfl rfl ?_
  refine r_getA (b := ad 7) rfl ⟨rfl, rfl, rfl⟩ (fx_t9 fx) f6 ?_
  refine r_iload rfl rfl ?_
  refine r_aaloadA (b := ad (100 + 5 * a)) rfl (isQ_of (fx_t7 fx) (by decide)) (vp_ct (fx_n7 fx) (vp_in_nI (by omega) (by omega))) (Eq.trans (congrArg (hR h (ad 7)) ((nI_clamp (by omega)) : _ = a)) tu1) ?_
  refine r_iload rfl rfl ?_
  refine r_cv (y := 114) (ra := [.int (nI b), .ref (ad (100 + 5 * a))]) (rest := []) rfl ⟨⟨rfl, rfl⟩, rfl, by decide⟩ (fx_t9 fx) rfl rfl (Nat.le_of_ble_eq_true rfl) ?_
  refine in_114 (Nat.le_of_ble_eq_true rfl) ?_
  show WR _ cd_114 0 [some (.ref (ad 9)), some (.ref (ad (100 + 5 * a))), some (.int (nI b)), none, none, none] [] h _
  refine r_iload rfl rfl ?_
  refine r_ic (x := 2) rfl rfl ?_
  refine r_icmp_le (tg := 15) rfl rfl (fun _ => ?_) (fun q => False.elim (by have : (nI b).toInt = ((b : Nat) : Int) := nI_toInt (by omega); have : (2 : Int32).toInt = 2 := rfl; have := i_nle q; omega))
  refine r_aload rfl rfl ?_
  refine r_getA (b := ad 13) rfl ⟨rfl, rfl, rfl⟩ (fx_t9 fx) (fx_r9_3 fx) ?_
  refine r_cv (y := 106) (ra := []) (rest := []) rfl ⟨⟨rfl, rfl⟩, rfl, by decide⟩ (fx_t13 fx) rfl rfl (Nat.le_of_ble_eq_true rfl) ?_
  refine in_106 (Nat.le_of_ble_eq_true rfl) ?_
  show WR _ cd_106 0 [some (.ref (ad 13))] [] h _
  refine r_aload rfl rfl ?_
  refine r_getI rfl ⟨rfl, rfl, rfl⟩ (fx_t13 fx) ?_
  refine WR_tI (y := nI H) eh ?_
  refine r_if_le (tg := 21) rfl rfl (fun q => False.elim (by have : (nI H).toInt = ((H : Nat) : Int) := nI_toInt (by omega); have : (0 : Int32).toInt = 0 := rfl; have := i_le q; omega)) (fun _ => ?_)
  refine r_aload rfl rfl ?_
  refine r_getA (b := ad 14) rfl ⟨rfl, rfl, rfl⟩ (fx_t13 fx) (fx_r13_0 fx) ?_
  refine r_aload rfl rfl ?_
  refine r_getI rfl ⟨rfl, rfl, rfl⟩ (fx_t13 fx) ?_
  refine WR_tI (y := nI H) eh ?_
  refine r_ic (x := 1) rfl rfl ?_
  refine r_isub rfl ?_
  refine WR_tI (y := nI (H - 1)) (Eq.trans (pk_sub (a := H) (b := 1) (by omega)) (congrArg nI (by omega))) ?_
  refine r_aaloadA (b := x) rfl (isQ_of (fx_t14 fx) (by decide)) (vp_ct (fx_n14 fx) (vp_in_nI (by omega) (by omega))) (Eq.trans (congrArg (hR h (ad 14)) ((nI_clamp (by omega)) : _ = H - 1)) r2) ?_
  refine r_goto (tg := 22) rfl rfl ?_
  refine r_aret rfl ?_
  show WR _ cd_114 22 [some (.ref (ad 9)), some (.ref (ad (100 + 5 * a))), some (.int (nI b)), none, none, none] [.ref x] h _
  refine r_astore (lv' := [some (.ref (ad 9)), some (.ref (ad (100 + 5 * a))), some (.int (nI b)), some (.ref x), none, none]) rfl (Nat.le_of_ble_eq_true rfl) rfl ?_
  refine r_aload rfl rfl ?_
  refine r_ifnonnullA (tg := 30) rfl rfl ?_
  refine r_iload rfl rfl ?_
  refine r_ic (x := 3) rfl rfl ?_
  refine r_icmp_ne (tg := 39) rfl rfl (fun _ => ?_) (fun q => False.elim (by have : (nI b).toInt = ((b : Nat) : Int) := nI_toInt (by omega); have : (3 : Int32).toInt = 3 := rfl; have := i_eq q; omega))
  refine r_iload rfl rfl ?_
  refine r_ic (x := 4) rfl rfl ?_
  refine r_icmp_ne (tg := 48) rfl rfl (fun _ => ?_) (fun q => False.elim (by have : (nI b).toInt = ((b : Nat) : Int) := nI_toInt (by omega); have : (4 : Int32).toInt = 4 := rfl; have := i_eq q; omega))
  refine r_ic (x := 7) rfl rfl ?_
  refine r_istore (lv' := [some (.ref (ad 9)), some (.ref (ad (100 + 5 * a))), some (.int (nI b)), some (.ref x), some (.int 7), none]) rfl (Nat.le_of_ble_eq_true rfl) rfl ?_
  refine r_aload rfl rfl ?_
  refine r_instY rfl (by decide) tx ?_
  refine r_if_eq (tg := 75) rfl rfl (fun q => absurd q (by decide)) (fun _ => ?_)
  refine r_aload rfl rfl ?_
  refine r_cast rfl tx ?_
  refine r_astore (lv' := [some (.ref (ad 9)), some (.ref (ad (100 + 5 * a))), some (.int (nI b)), some (.ref x), some (.int 7), some (.ref x)]) rfl (Nat.le_of_ble_eq_true rfl) rfl ?_
  refine r_aload rfl rfl ?_
  refine r_iload rfl rfl ?_
  refine r_cv (y := 48) (ra := [.int 7]) (rest := []) rfl ⟨⟨rfl, rfl⟩, rfl, by decide⟩ tx rfl rfl (Nat.le_of_ble_eq_true rfl) ?_
  refine c_isOf (h := h) (kd := kd) (k := 7) fx rst tx kx k7 (by decide) ?_
  rw [if_pos of_]
  show WR _ cd_114 72 [some (.ref (ad 9)), some (.ref (ad (100 + 5 * a))), some (.int (nI b)), some (.ref x), some (.int 7), some (.ref x)] [.int 1] h _
  refine r_if_ne (tg := 78) rfl rfl (fun _ => ?_) (fun q => absurd q (by decide))
  refine r_aload rfl rfl ?_
  refine r_getA (b := ad 13) rfl ⟨rfl, rfl, rfl⟩ (fx_t9 fx) (fx_r9_3 fx) ?_
  refine r_dup rfl rfl ?_
  refine r_getI rfl ⟨rfl, rfl, rfl⟩ (fx_t13 fx) ?_
  refine WR_tI (y := nI H) eh ?_
  refine r_ic (x := 1) rfl rfl ?_
  refine r_isub rfl ?_
  refine WR_tI (y := nI (H - 1)) (Eq.trans (pk_sub (a := H) (b := 1) (by omega)) (congrArg nI (by omega))) ?_
  refine r_putI rfl ⟨rfl, rfl, rfl⟩ (fx_t13 fx) ?_
  have fx : FX n ad sa z0 (sI h (ad 13) 2 (nI (H - 1))) := (FX.sI fx)
  refine r_aload rfl rfl ?_
  refine r_getA (b := ad (101 + 5 * a)) rfl ⟨rfl, rfl, rfl⟩ tu2 (Eq.trans R_oI tu3) ?_
  refine r_iload rfl rfl ?_
  refine r_aaloadA (b := y) rfl (isQ_of tu4 (by decide)) (vp_ct tu5 (vp_in_nI (by omega) (by omega))) (Eq.trans (congrArg (hR (sI h (ad 13) 2 (nI (H - 1))) (ad (101 + 5 * a))) ((nI_clamp (by omega)) : _ = b)) (Eq.trans R_oI r3)) ?_
  refine r_ifnullA (tg := 115) rfl rfl ?_
  refine r_aload rfl rfl ?_
  refine r_getA (b := ad 13) rfl ⟨rfl, rfl, rfl⟩ (fx_t9 fx) (fx_r9_3 fx) ?_
  refine r_aload rfl rfl ?_
  refine r_getA (b := ad (101 + 5 * a)) rfl ⟨rfl, rfl, rfl⟩ tu2 (Eq.trans R_oI tu3) ?_
  refine r_iload rfl rfl ?_
  refine r_aaloadA (b := y) rfl (isQ_of tu4 (by decide)) (vp_ct tu5 (vp_in_nI (by omega) (by omega))) (Eq.trans (congrArg (hR (sI h (ad 13) 2 (nI (H - 1))) (ad (101 + 5 * a))) ((nI_clamp (by omega)) : _ = b)) (Eq.trans R_oI r3)) ?_
  refine r_ic (x := 23) rfl rfl ?_
  refine r_cv (y := 104) (ra := [.int 23, .ref y]) (rest := []) rfl ⟨⟨rfl, rfl⟩, rfl, by decide⟩ (fx_t13 fx) rfl rfl (Nat.le_of_ble_eq_true rfl) ?_
  refine in_104 (Nat.le_of_ble_eq_true rfl) ?_
  show WR _ cd_104 0 [some (.ref (ad 13)), some (.ref y), some (.int 23)] [] (sI h (ad 13) 2 (nI (H - 1))) _
  refine r_aload rfl rfl ?_
  refine r_getI rfl ⟨rfl, rfl, rfl⟩ (fx_t13 fx) ?_
  refine WR_tI (y := nI (H - 1)) I_eq ?_
  refine r_aload rfl rfl ?_
  refine r_getA (b := ad 14) rfl ⟨rfl, rfl, rfl⟩ (fx_t13 fx) (fx_r13_0 fx) ?_
  refine r_alen rfl (isA_of (fx_t14 fx) (by decide)) ?_
  refine WR_tI (y := 100) (congrArg nI (fx_n14 fx)) ?_
  refine r_icmp_ge (tg := 42) rfl rfl (fun q => False.elim (by have : (nI (H - 1)).toInt = ((H - 1 : Nat) : Int) := nI_toInt (by omega); have : (100 : Int32).toInt = 100 := rfl; have := i_le q; omega)) (fun _ => ?_)
  refine r_aload rfl rfl ?_
  refine r_getA (b := ad 14) rfl ⟨rfl, rfl, rfl⟩ (fx_t13 fx) (fx_r13_0 fx) ?_
  refine r_aload rfl rfl ?_
  refine r_getI rfl ⟨rfl, rfl, rfl⟩ (fx_t13 fx) ?_
  refine WR_tI (y := nI (H - 1)) I_eq ?_
  refine r_aload rfl rfl ?_
  refine r_aastoreA rfl (isQ_of (fx_t14 fx) (by decide)) (vp_ct (fx_n14 fx) (vp_in_nI (by omega) (by omega))) (okR_of (fx_t14 fx) ty (by decide)) ?_
  refine WR_h (h2 := sR (sI h (ad 13) 2 (nI (H - 1))) (ad 14) (H - 1) (some y)) (congrArg (fun z => sR (sI h (ad 13) 2 (nI (H - 1))) (ad 14) z (some y)) ((nI_clamp (by omega)) : _ = H - 1)) ?_
  have fx : FX n ad sa z0 (sR (sI h (ad 13) 2 (nI (H - 1))) (ad 14) (H - 1) (some y)) := FX.sRA (i := 14) fx (.inl (by decide)) (by decide)
  refine r_aload rfl rfl ?_
  refine r_getA (b := ad 15) rfl ⟨rfl, rfl, rfl⟩ (fx_t13 fx) (fx_r13_1 fx) ?_
  refine r_aload rfl rfl ?_
  refine r_getI rfl ⟨rfl, rfl, rfl⟩ (fx_t13 fx) ?_
  refine WR_tI (y := nI (H - 1)) (Eq.trans I_oR I_eq) ?_
  refine r_iload rfl rfl ?_
  refine r_iastore rfl (fx_t15 fx) (vp_ct (fx_n15 fx) (vp_in_nI (by omega) (by omega))) ?_
  refine WR_h (h2 := sI (sR (sI h (ad 13) 2 (nI (H - 1))) (ad 14) (H - 1) (some y)) (ad 15) (H - 1) 23) (congrArg (fun z => sI (sR (sI h (ad 13) 2 (nI (H - 1))) (ad 14) (H - 1) (some y)) (ad 15) z 23) ((nI_clamp (by omega)) : _ = H - 1)) ?_
  have fx : FX n ad sa z0 (sI (sR (sI h (ad 13) 2 (nI (H - 1))) (ad 14) (H - 1) (some y)) (ad 15) (H - 1) 23) := (FX.sI fx)
  refine r_aload rfl rfl ?_
  refine r_dup rfl rfl ?_
  refine r_getI rfl ⟨rfl, rfl, rfl⟩ (fx_t13 fx) ?_
  refine WR_tI (y := nI (H - 1)) (Eq.trans (I_ne (fx_ne fx (by decide))) (Eq.trans I_oR I_eq)) ?_
  refine r_ic (x := 1) rfl rfl ?_
  refine r_iadd rfl ?_
  refine WR_tI (y := nI H) (Eq.trans (nI_add (H - 1) 1) (congrArg nI (by omega))) ?_
  refine r_putI rfl ⟨rfl, rfl, rfl⟩ (fx_t13 fx) ?_
  have fx : FX n ad sa z0 (sI (sI (sR (sI h (ad 13) 2 (nI (H - 1))) (ad 14) (H - 1) (some y)) (ad 15) (H - 1) 23) (ad 13) 2 (nI H)) := (FX.sI fx)
  refine r_vret rfl ?_
  show WR _ cd_114 115 [some (.ref (ad 9)), some (.ref (ad (100 + 5 * a))), some (.int (nI b)), some (.ref x), some (.int 7), some (.ref x)] [] (sI (sI (sR (sI h (ad 13) 2 (nI (H - 1))) (ad 14) (H - 1) (some y)) (ad 15) (H - 1) 23) (ad 13) 2 (nI H)) _
  refine r_aload rfl rfl ?_
  refine r_getA (b := ad (101 + 5 * a)) rfl ⟨rfl, rfl, rfl⟩ tu2 (Eq.trans R_oI (Eq.trans R_oI (Eq.trans (R_ne (fx_ne fx (by omega))) (Eq.trans R_oI tu3)))) ?_
  refine r_iload rfl rfl ?_
  refine r_aload rfl rfl ?_
  refine r_aastoreA rfl (isQ_of tu4 (by decide)) (vp_ct tu5 (vp_in_nI (by omega) (by omega))) (okR_of tu4 tx (by decide)) ?_
  refine WR_h (h2 := sR (sI (sI (sR (sI h (ad 13) 2 (nI (H - 1))) (ad 14) (H - 1) (some y)) (ad 15) (H - 1) 23) (ad 13) 2 (nI H)) (ad (101 + 5 * a)) b (some x)) (congrArg (fun z => sR (sI (sI (sR (sI h (ad 13) 2 (nI (H - 1))) (ad 14) (H - 1) (some y)) (ad 15) (H - 1) 23) (ad 13) 2 (nI H)) (ad (101 + 5 * a)) z (some x)) ((nI_clamp (by omega)) : _ = b)) ?_
  have fx : FX n ad sa z0 (sR (sI (sI (sR (sI h (ad 13) 2 (nI (H - 1))) (ad 14) (H - 1) (some y)) (ad 15) (H - 1) 23) (ad 13) 2 (nI H)) (ad (101 + 5 * a)) b (some x)) := FX.sRT fx (t := a) ha
  refine r_ic (x := 0) rfl rfl ?_
  refine r_iret rfl ?_
  show WR _ cd_102 228 [some (.ref (ad 9)), some (.int (nI A)), some (.int (nI dp)), some (.int (nI a)), some (.int (nI b)), some (.int c)] [.int 0] (sR (sI (sI (sR (sI h (ad 13) 2 (nI (H - 1))) (ad 14) (H - 1) (some y)) (ad 15) (H - 1) 23) (ad 13) 2 (nI H)) (ad (101 + 5 * a)) b (some x)) _
  refine r_iret rfl ?_
  exact (L1)

set_option maxHeartbeats 2000000 in
theorem w_c13ns {d : Nat} {Q : mQ} {n : Nat} {ad sa : Nat → Nat} {z0 : Nat} {h : mH} (fx : FX n ad sa z0 h) {A dp : Nat} (hA : A + 3 < 640) (f5 : hR h (ad 9) 5 = some (ad 1)) (f6 : hR h (ad 9) 6 = some (ad 7)) {a : Nat} {c : Int32} {b : Nat} (hb : b ≤ 2) (ha : a < n) (n6 : n ≤ 6) (tu1 : hR h (ad 7) a = some (ad (100 + 5 * a))) (tu2 : hT h (ad (100 + 5 * a)) = 8) (tu3 : hR h (ad (100 + 5 * a)) 5 = some (ad (101 + 5 * a))) (tu4 : hT h (ad (101 + 5 * a)) = 26) (tu5 : hN h (ad (101 + 5 * a)) = 5) (r3 : hR h (ad (101 + 5 * a)) b = none) (s0 : hI h (ad 10) A = 13) (s1 : hI h (ad 10) (A + 1) = nI a) (s2 : hI h (ad 10) (A + 2) = nI b) (s3 : hI h (ad 10) (A + 3) = c) 
    (L1 : Q (some (.int (-11))) h) : EV (d + 2) 102 [.ref (ad 9), .int (nI A), .int (nI dp)] h Q := by
  have fx0 := fx
  refine in_102 (Nat.le_of_ble_eq_true rfl) ?_
  show WR _ cd_102 0 [some (.ref (ad 9)), some (.int (nI A)), some (.int (nI dp)), none, none, none] [] h _
  refine r_aload rfl rfl ?_
  refine r_getA (b := ad 10) rfl ⟨rfl, rfl, rfl⟩ (fx_t9 fx) (fx_r9_0 fx) ?_
  refine r_iload rfl rfl ?_
  refine r_ic (x := 1) rfl rfl ?_
  refine r_iadd rfl ?_
  refine WR_tI (y := nI (A + 1)) (Eq.trans (nI_add A 1) (congrArg nI (by omega))) ?_
  refine r_iaload rfl (.inl (fx_t10 fx)) (vp_ct (fx_n10 fx) (vp_in_nI (by omega) (by omega))) ?_
  refine WR_tI (congrArg (hI h (ad 10)) ((nI_clamp (by omega)) : _ = A + 1)) ?_
  refine WR_tI (y := nI a) s1 ?_
  refine r_istore (lv' := [some (.ref (ad 9)), some (.int (nI A)), some (.int (nI dp)), some (.int (nI a)), none, none]) rfl (Nat.le_of_ble_eq_true rfl) rfl ?_
  refine r_aload rfl rfl ?_
  refine r_getA (b := ad 10) rfl ⟨rfl, rfl, rfl⟩ (fx_t9 fx) (fx_r9_0 fx) ?_
  refine r_iload rfl rfl ?_
  refine r_ic (x := 2) rfl rfl ?_
  refine r_iadd rfl ?_
  refine WR_tI (y := nI (A + 2)) (Eq.trans (nI_add A 2) (congrArg nI (by omega))) ?_
  refine r_iaload rfl (.inl (fx_t10 fx)) (vp_ct (fx_n10 fx) (vp_in_nI (by omega) (by omega))) ?_
  refine WR_tI (congrArg (hI h (ad 10)) ((nI_clamp (by omega)) : _ = A + 2)) ?_
  refine WR_tI (y := nI b) s2 ?_
  refine r_istore (lv' := [some (.ref (ad 9)), some (.int (nI A)), some (.int (nI dp)), some (.int (nI a)), some (.int (nI b)), none]) rfl (Nat.le_of_ble_eq_true rfl) rfl ?_
  refine r_aload rfl rfl ?_
  refine r_getA (b := ad 10) rfl ⟨rfl, rfl, rfl⟩ (fx_t9 fx) (fx_r9_0 fx) ?_
  refine r_iload rfl rfl ?_
  refine r_ic (x := 3) rfl rfl ?_
  refine r_iadd rfl ?_
  refine WR_tI (y := nI (A + 3)) (Eq.trans (nI_add A 3) (congrArg nI (by omega))) ?_
  refine r_iaload rfl (.inl (fx_t10 fx)) (vp_ct (fx_n10 fx) (vp_in_nI (by omega) (by omega))) ?_
  refine WR_tI (congrArg (hI h (ad 10)) ((nI_clamp (by omega)) : _ = A + 3)) ?_
  refine WR_tI (y := c) s3 ?_
  refine r_istore (lv' := [some (.ref (ad 9)), some (.int (nI A)), some (.int (nI dp)), some (.int (nI a)), some (.int (nI b)), some (.int c)]) rfl (Nat.le_of_ble_eq_true rfl) rfl ?_
  refine r_aload rfl rfl ?_
  refine r_getA (b := ad 10) rfl ⟨rfl, rfl, rfl⟩ (fx_t9 fx) (fx_r9_0 fx) ?_
  refine r_iload rfl rfl ?_
  refine r_iaload rfl (.inl (fx_t10 fx)) (vp_ct (fx_n10 fx) (vp_in_nI (by omega) (by omega))) ?_
  refine WR_tI (congrArg (hI h (ad 10)) ((nI_clamp (by omega)) : _ = A)) ?_
  refine WR_tI (y := 13) s0 ?_
  refine r_tswL (tg := 229) rfl (by decide) ?_
  refine r_aload rfl rfl ?_
  refine r_aload rfl rfl ?_
  refine r_getA (b := ad 7) rfl ⟨rfl, rfl, rfl⟩ (fx_t9 fx) f6 ?_
  refine r_iload rfl rfl ?_
  refine r_aaloadA (b := ad (100 + 5 * a)) rfl (isQ_of (fx_t7 fx) (by decide)) (vp_ct (fx_n7 fx) (vp_in_nI (by omega) (by omega))) (Eq.trans (congrArg (hR h (ad 7)) ((nI_clamp (by omega)) : _ = a)) tu1) ?_
  refine r_iload rfl rfl ?_
  refine r_cv (y := 115) (ra := [.int (nI b), .ref (ad (100 + 5 * a))]) (rest := []) rfl ⟨⟨rfl, rfl⟩, rfl, by decide⟩ (fx_t9 fx) rfl rfl (Nat.le_of_ble_eq_true rfl) ?_
  refine in_115 (Nat.le_of_ble_eq_true rfl) ?_
  show WR _ cd_115 0 [some (.ref (ad 9)), some (.ref (ad (100 + 5 * a))), some (.int (nI b))] [] h _
  refine r_iload rfl rfl ?_
  refine r_ic (x := 2) rfl rfl ?_
  refine r_icmp_le (tg := 15) rfl rfl (fun _ => ?_) (fun q => False.elim (by have : (nI b).toInt = ((b : Nat) : Int) := nI_toInt (by omega); have : (2 : Int32).toInt = 2 := rfl; have := i_nle q; omega))
  refine r_aload rfl rfl ?_
  refine r_getA (b := ad (101 + 5 * a)) rfl ⟨rfl, rfl, rfl⟩ tu2 tu3 ?_
  refine r_iload rfl rfl ?_
  refine r_aaload0 rfl (isQ_of tu4 (by decide)) (vp_ct tu5 (vp_in_nI (by omega) (by omega))) (Eq.trans (congrArg (hR h (ad (101 + 5 * a))) ((nI_clamp (by omega)) : _ = b)) r3) ?_
  refine r_ifnonnullN (tg := 27) rfl rfl ?_
  refine r_ic (x := (-11)) rfl rfl ?_
  refine r_iret rfl ?_
  show WR _ cd_102 241 [some (.ref (ad 9)), some (.int (nI A)), some (.int (nI dp)), some (.int (nI a)), some (.int (nI b)), some (.int c)] [.int (-11)] h _
  refine r_iret rfl ?_
  exact (L1)

set_option maxHeartbeats 2000000 in
theorem w_c13ss {d : Nat} {Q : mQ} {n : Nat} {ad sa : Nat → Nat} {z0 : Nat} {h : mH} (fx : FX n ad sa z0 h) {A dp : Nat} (hA : A + 3 < 640) (f5 : hR h (ad 9) 5 = some (ad 1)) (f6 : hR h (ad 9) 6 = some (ad 7)) {a H y : Nat} {c : Int32} {b : Nat} (hb : b ≤ 2) (ha : a < n) (n6 : n ≤ 6) (tu1 : hR h (ad 7) a = some (ad (100 + 5 * a))) (tu2 : hT h (ad (100 + 5 * a)) = 8) (tu3 : hR h (ad (100 + 5 * a)) 5 = some (ad (101 + 5 * a))) (tu4 : hT h (ad (101 + 5 * a)) = 26) (tu5 : hN h (ad (101 + 5 * a)) = 5) (eh : hI h (ad 13) 2 = nI H) (hH : H < 100) (ty : hT h y = 4) (r3 : hR h (ad (101 + 5 * a)) b = some y) (s0 : hI h (ad 10) A = 13) (s1 : hI h (ad 10) (A + 1) = nI a) (s2 : hI h (ad 10) (A + 2) = nI b) (s3 : hI h (ad 10) (A + 3) = c) 
    (L1 : Q (some (.int 0)) (sR (sI (sI (sR h (ad 14) H (some y)) (ad 15) H 23) (ad 13) 2 (nI (H + 1))) (ad (101 + 5 * a)) b none)) : EV (d + 3) 102 [.ref (ad 9), .int (nI A), .int (nI dp)] h Q := by
  have fx0 := fx
  refine in_102 (Nat.le_of_ble_eq_true rfl) ?_
  show WR _ cd_102 0 [some (.ref (ad 9)), some (.int (nI A)), some (.int (nI dp)), none, none, none] [] h _
  refine r_aload rfl rfl ?_
  refine r_getA (b := ad 10) rfl ⟨rfl, rfl, rfl⟩ (fx_t9 fx) (fx_r9_0 fx) ?_
  refine r_iload rfl rfl ?_
  refine r_ic (x := 1) rfl rfl ?_
  refine r_iadd rfl ?_
  refine WR_tI (y := nI (A + 1)) (Eq.trans (nI_add A 1) (congrArg nI (by omega))) ?_
  refine r_iaload rfl (.inl (fx_t10 fx)) (vp_ct (fx_n10 fx) (vp_in_nI (by omega) (by omega))) ?_
  refine WR_tI (congrArg (hI h (ad 10)) ((nI_clamp (by omega)) : _ = A + 1)) ?_
  refine WR_tI (y := nI a) s1 ?_
  refine r_istore (lv' := [some (.ref (ad 9)), some (.int (nI A)), some (.int (nI dp)), some (.int (nI a)), none, none]) rfl (Nat.le_of_ble_eq_true rfl) rfl ?_
  refine r_aload rfl rfl ?_
  refine r_getA (b := ad 10) rfl ⟨rfl, rfl, rfl⟩ (fx_t9 fx) (fx_r9_0 fx) ?_
  refine r_iload rfl rfl ?_
  refine r_ic (x := 2) rfl rfl ?_
  refine r_iadd rfl ?_
  refine WR_tI (y := nI (A + 2)) (Eq.trans (nI_add A 2) (congrArg nI (by omega))) ?_
  refine r_iaload rfl (.inl (fx_t10 fx)) (vp_ct (fx_n10 fx) (vp_in_nI (by omega) (by omega))) ?_
  refine WR_tI (congrArg (hI h (ad 10)) ((nI_clamp (by omega)) : _ = A + 2)) ?_
  refine WR_tI (y := nI b) s2 ?_
  refine r_istore (lv' := [some (.ref (ad 9)), some (.int (nI A)), some (.int (nI dp)), some (.int (nI a)), some (.int (nI b)), none]) rfl (Nat.le_of_ble_eq_true rfl) rfl ?_
  refine r_aload rfl rfl ?_
  refine r_getA (b := ad 10) rfl ⟨rfl, rfl, rfl⟩ (fx_t9 fx) (fx_r9_0 fx) ?_
  refine r_iload rfl rfl ?_
  refine r_ic (x := 3) rfl rfl ?_
  refine r_iadd rfl ?_
  refine WR_tI (y := nI (A + 3)) (Eq.trans (nI_add A 3) (congrArg nI (by omega))) ?_
  refine r_iaload rfl (.inl (fx_t10 fx)) (vp_ct (fx_n10 fx) (vp_in_nI (by omega) (by omega))) ?_
  refine WR_tI (congrArg (hI h (ad 10)) ((nI_clamp (by omega)) : _ = A + 3)) ?_
  refine WR_tI (y := c) s3 ?_
  refine r_istore (lv' := [some (.ref (ad 9)), some (.int (nI A)), some (.int (nI dp)), some (.int (nI a)), some (.int (nI b)), some (.int c)]) rfl (Nat.le_of_ble_eq_true rfl) rfl ?_
  refine r_aload rfl rfl ?_
  refine r_getA (b := ad 10) rfl ⟨rfl, rfl, rfl⟩ (fx_t9 fx) (fx_r9_0 fx) ?_
  refine r_iload rfl rfl ?_
  refine r_iaload rfl (.inl (fx_t10 fx)) (vp_ct (fx_n10 fx) (vp_in_nI (by omega) (by omega))) ?_
  refine WR_tI (congrArg (hI h (ad 10)) ((nI_clamp (by omega)) : _ = A)) ?_
  refine WR_tI (y := 13) s0 ?_
  refine r_tswL (tg := 229) rfl (by decide) ?_
  refine r_aload rfl rfl ?_
  refine r_aload rfl rfl ?_
  refine r_getA (b := ad 7) rfl ⟨rfl, rfl, rfl⟩ (fx_t9 fx) f6 ?_
  refine r_iload rfl rfl ?_
  refine r_aaloadA (b := ad (100 + 5 * a)) rfl (isQ_of (fx_t7 fx) (by decide)) (vp_ct (fx_n7 fx) (vp_in_nI (by omega) (by omega))) (Eq.trans (congrArg (hR h (ad 7)) ((nI_clamp (by omega)) : _ = a)) tu1) ?_
  refine r_iload rfl rfl ?_
  refine r_cv (y := 115) (ra := [.int (nI b), .ref (ad (100 + 5 * a))]) (rest := []) rfl ⟨⟨rfl, rfl⟩, rfl, by decide⟩ (fx_t9 fx) rfl rfl (Nat.le_of_ble_eq_true rfl) ?_
  refine in_115 (Nat.le_of_ble_eq_true rfl) ?_
  show WR _ cd_115 0 [some (.ref (ad 9)), some (.ref (ad (100 + 5 * a))), some (.int (nI b))] [] h _
  refine r_iload rfl rfl ?_
  refine r_ic (x := 2) rfl rfl ?_
  refine r_icmp_le (tg := 15) rfl rfl (fun _ => ?_) (fun q => False.elim (by have : (nI b).toInt = ((b : Nat) : Int) := nI_toInt (by omega); have : (2 : Int32).toInt = 2 := rfl; have := i_nle q; omega))
  refine r_aload rfl rfl ?_
  refine r_getA (b := ad (101 + 5 * a)) rfl ⟨rfl, rfl, rfl⟩ tu2 tu3 ?_
  refine r_iload rfl rfl ?_
  refine r_aaloadA (b := y) rfl (isQ_of tu4 (by decide)) (vp_ct tu5 (vp_in_nI (by omega) (by omega))) (Eq.trans (congrArg (hR h (ad (101 + 5 * a))) ((nI_clamp (by omega)) : _ = b)) r3) ?_
  refine r_ifnonnullA (tg := 27) rfl rfl ?_
  refine r_aload rfl rfl ?_
  refine r_getA (b := ad 13) rfl ⟨rfl, rfl, rfl⟩ (fx_t9 fx) (fx_r9_3 fx) ?_
  refine r_aload rfl rfl ?_
  refine r_getA (b := ad (101 + 5 * a)) rfl ⟨rfl, rfl, rfl⟩ tu2 tu3 ?_
  refine r_iload rfl rfl ?_
  refine r_aaloadA (b := y) rfl (isQ_of tu4 (by decide)) (vp_ct tu5 (vp_in_nI (by omega) (by omega))) (Eq.trans (congrArg (hR h (ad (101 + 5 * a))) ((nI_clamp (by omega)) : _ = b)) r3) ?_
  refine r_ic (x := 23) rfl rfl ?_
  refine r_cv (y := 104) (ra := [.int 23, .ref y]) (rest := []) rfl ⟨⟨rfl, rfl⟩, rfl, by decide⟩ (fx_t13 fx) rfl rfl (Nat.le_of_ble_eq_true rfl) ?_
  refine in_104 (Nat.le_of_ble_eq_true rfl) ?_
  show WR _ cd_104 0 [some (.ref (ad 13)), some (.ref y), some (.int 23)] [] h _
  refine r_aload rfl rfl ?_
  refine r_getI rfl ⟨rfl, rfl, rfl⟩ (fx_t13 fx) ?_
  refine WR_tI (y := nI H) eh ?_
  refine r_aload rfl rfl ?_
  refine r_getA (b := ad 14) rfl ⟨rfl, rfl, rfl⟩ (fx_t13 fx) (fx_r13_0 fx) ?_
  refine r_alen rfl (isA_of (fx_t14 fx) (by decide)) ?_
  refine WR_tI (y := 100) (congrArg nI (fx_n14 fx)) ?_
  refine r_icmp_ge (tg := 42) rfl rfl (fun q => False.elim (by have : (nI H).toInt = ((H : Nat) : Int) := nI_toInt (by omega); have : (100 : Int32).toInt = 100 := rfl; have := i_le q; omega)) (fun _ => ?_)
  refine r_aload rfl rfl ?_
  refine r_getA (b := ad 14) rfl ⟨rfl, rfl, rfl⟩ (fx_t13 fx) (fx_r13_0 fx) ?_
  refine r_aload rfl rfl ?_
  refine r_getI rfl ⟨rfl, rfl, rfl⟩ (fx_t13 fx) ?_
  refine WR_tI (y := nI H) eh ?_
  refine r_aload rfl rfl ?_
  refine r_aastoreA rfl (isQ_of (fx_t14 fx) (by decide)) (vp_ct (fx_n14 fx) (vp_in_nI (by omega) (by omega))) (okR_of (fx_t14 fx) ty (by decide)) ?_
  refine WR_h (h2 := sR h (ad 14) H (some y)) (congrArg (fun z => sR h (ad 14) z (some y)) ((nI_clamp (by omega)) : _ = H)) ?_
  have fx : FX n ad sa z0 (sR h (ad 14) H (some y)) := FX.sRA (i := 14) fx (.inl (by decide)) (by decide)
  refine r_aload rfl rfl ?_
  refine r_getA (b := ad 15) rfl ⟨rfl, rfl, rfl⟩ (fx_t13 fx) (fx_r13_1 fx) ?_
  refine r_aload rfl rfl ?_
  refine r_getI rfl ⟨rfl, rfl, rfl⟩ (fx_t13 fx) ?_
  refine WR_tI (y := nI H) (Eq.trans I_oR eh) ?_
  refine r_iload rfl rfl ?_
  refine r_iastore rfl (fx_t15 fx) (vp_ct (fx_n15 fx) (vp_in_nI (by omega) (by omega))) ?_
  refine WR_h (h2 := sI (sR h (ad 14) H (some y)) (ad 15) H 23) (congrArg (fun z => sI (sR h (ad 14) H (some y)) (ad 15) z 23) ((nI_clamp (by omega)) : _ = H)) ?_
  have fx : FX n ad sa z0 (sI (sR h (ad 14) H (some y)) (ad 15) H 23) := (FX.sI fx)
  refine r_aload rfl rfl ?_
  refine r_dup rfl rfl ?_
  refine r_getI rfl ⟨rfl, rfl, rfl⟩ (fx_t13 fx) ?_
  refine WR_tI (y := nI H) (Eq.trans (I_ne (fx_ne fx (by decide))) (Eq.trans I_oR eh)) ?_
  refine r_ic (x := 1) rfl rfl ?_
  refine r_iadd rfl ?_
  refine WR_tI (y := nI (H + 1)) (Eq.trans (nI_add H 1) (congrArg nI (by omega))) ?_
  refine r_putI rfl ⟨rfl, rfl, rfl⟩ (fx_t13 fx) ?_
  have fx : FX n ad sa z0 (sI (sI (sR h (ad 14) H (some y)) (ad 15) H 23) (ad 13) 2 (nI (H + 1))) := (FX.sI fx)
  refine r_vret rfl ?_
  show WR _ cd_115 42 [some (.ref (ad 9)), some (.ref (ad (100 + 5 * a))), some (.int (nI b))] [] (sI (sI (sR h (ad 14) H (some y)) (ad 15) H 23) (ad 13) 2 (nI (H + 1))) _
  refine r_aload rfl rfl ?_
  refine r_getA (b := ad (101 + 5 * a)) rfl ⟨rfl, rfl, rfl⟩ tu2 (Eq.trans R_oI (Eq.trans R_oI (Eq.trans (R_ne (fx_ne fx (by omega))) tu3))) ?_
  refine r_iload rfl rfl ?_
  refine r_null rfl ?_
  refine r_aastore0 rfl (isQ_of tu4 (by decide)) (vp_ct tu5 (vp_in_nI (by omega) (by omega))) (fun _ q => by cases q) ?_
  refine WR_h (h2 := sR (sI (sI (sR h (ad 14) H (some y)) (ad 15) H 23) (ad 13) 2 (nI (H + 1))) (ad (101 + 5 * a)) b none) (congrArg (fun z => sR (sI (sI (sR h (ad 14) H (some y)) (ad 15) H 23) (ad 13) 2 (nI (H + 1))) (ad (101 + 5 * a)) z none) ((nI_clamp (by omega)) : _ = b)) ?_
  have fx : FX n ad sa z0 (sR (sI (sI (sR h (ad 14) H (some y)) (ad 15) H 23) (ad 13) 2 (nI (H + 1))) (ad (101 + 5 * a)) b none) := FX.sRT fx (t := a) ha
  refine r_ic (x := 0) rfl rfl ?_
  refine r_iret rfl ?_
  show WR _ cd_102 241 [some (.ref (ad 9)), some (.int (nI A)), some (.int (nI dp)), some (.int (nI a)), some (.int (nI b)), some (.int c)] [.int 0] (sR (sI (sI (sR h (ad 14) H (some y)) (ad 15) H 23) (ad 13) 2 (nI (H + 1))) (ad (101 + 5 * a)) b none) _
  refine r_iret rfl ?_
  exact (L1)

set_option maxHeartbeats 2000000 in
theorem w_c12h3 {d : Nat} {Q : mQ} {n : Nat} {ad sa : Nat → Nat} {z0 : Nat} {h : mH} (fx : FX n ad sa z0 h) {A dp : Nat} (hA : A + 3 < 640) (f5 : hR h (ad 9) 5 = some (ad 1)) (f6 : hR h (ad 9) 6 = some (ad 7)) {a : Nat} {c : Int32} (ha : a < n) (n6 : n ≤ 6) (tu1 : hR h (ad 7) a = some (ad (100 + 5 * a))) (tu2 : hT h (ad (100 + 5 * a)) = 8) (tu3 : hR h (ad (100 + 5 * a)) 5 = some (ad (101 + 5 * a))) (tu4 : hT h (ad (101 + 5 * a)) = 26) (tu5 : hN h (ad (101 + 5 * a)) = 5) (e9 : hI h (ad (100 + 5 * a)) 9 = 0) (s0 : hI h (ad 10) A = 12) (s1 : hI h (ad 10) (A + 1) = nI a) (s2 : hI h (ad 10) (A + 2) = 3) (s3 : hI h (ad 10) (A + 3) = c) 
    (L1 : Q (some (.int (-17))) h) : EV (d + 2) 102 [.ref (ad 9), .int (nI A), .int (nI dp)] h Q := by
  have fx0 := fx
  refine in_102 (Nat.le_of_ble_eq_true rfl) ?_
  show WR _ cd_102 0 [some (.ref (ad 9)), some (.int (nI A)), some (.int (nI dp)), none, none, none] [] h _
  refine r_aload rfl rfl ?_
  refine r_getA (b := ad 10) rfl ⟨rfl, rfl, rfl⟩ (fx_t9 fx) (fx_r9_0 fx) ?_
  refine r_iload rfl rfl ?_
  refine r_ic (x := 1) rfl rfl ?_
  refine r_iadd rfl ?_
  refine WR_tI (y := nI (A + 1)) (Eq.trans (nI_add A 1) (congrArg nI (by omega))) ?_
  refine r_iaload rfl (.inl (fx_t10 fx)) (vp_ct (fx_n10 fx) (vp_in_nI (by omega) (by omega))) ?_
  refine WR_tI (congrArg (hI h (ad 10)) ((nI_clamp (by omega)) : _ = A + 1)) ?_
  refine WR_tI (y := nI a) s1 ?_
  refine r_istore (lv' := [some (.ref (ad 9)), some (.int (nI A)), some (.int (nI dp)), some (.int (nI a)), none, none]) rfl (Nat.le_of_ble_eq_true rfl) rfl ?_
  refine r_aload rfl rfl ?_
  refine r_getA (b := ad 10) rfl ⟨rfl, rfl, rfl⟩ (fx_t9 fx) (fx_r9_0 fx) ?_
  refine r_iload rfl rfl ?_
  refine r_ic (x := 2) rfl rfl ?_
  refine r_iadd rfl ?_
  refine WR_tI (y := nI (A + 2)) (Eq.trans (nI_add A 2) (congrArg nI (by omega))) ?_
  refine r_iaload rfl (.inl (fx_t10 fx)) (vp_ct (fx_n10 fx) (vp_in_nI (by omega) (by omega))) ?_
  refine WR_tI (congrArg (hI h (ad 10)) ((nI_clamp (by omega)) : _ = A + 2)) ?_
  refine WR_tI (y := 3) s2 ?_
  refine r_istore (lv' := [some (.ref (ad 9)), some (.int (nI A)), some (.int (nI dp)), some (.int (nI a)), some (.int 3), none]) rfl (Nat.le_of_ble_eq_true rfl) rfl ?_
  refine r_aload rfl rfl ?_
  refine r_getA (b := ad 10) rfl ⟨rfl, rfl, rfl⟩ (fx_t9 fx) (fx_r9_0 fx) ?_
  refine r_iload rfl rfl ?_
  refine r_ic (x := 3) rfl rfl ?_
  refine r_iadd rfl ?_
  refine WR_tI (y := nI (A + 3)) (Eq.trans (nI_add A 3) (congrArg nI (by omega))) ?_
  refine r_iaload rfl (.inl (fx_t10 fx)) (vp_ct (fx_n10 fx) (vp_in_nI (by omega) (by omega))) ?_
  refine WR_tI (congrArg (hI h (ad 10)) ((nI_clamp (by omega)) : _ = A + 3)) ?_
  refine WR_tI (y := c) s3 ?_
  refine r_istore (lv' := [some (.ref (ad 9)), some (.int (nI A)), some (.int (nI dp)), some (.int (nI a)), some (.int 3), some (.int c)]) rfl (Nat.le_of_ble_eq_true rfl) rfl ?_
  refine r_aload rfl rfl ?_
  refine r_getA (b := ad 10) rfl ⟨rfl, rfl, rfl⟩ (fx_t9 fx) (fx_r9_0 fx) ?_
  refine r_iload rfl rfl ?_
  refine r_iaload rfl (.inl (fx_t10 fx)) (vp_ct (fx_n10 fx) (vp_in_nI (by omega) (by omega))) ?_
  refine WR_tI (congrArg (hI h (ad 10)) ((nI_clamp (by omega)) : _ = A)) ?_
  refine WR_tI (y := 12) s0 ?_
  refine r_tswL (tg := 216) rfl (by decide) ?_
  refine r_aload rfl rfl ?_
  refine r_aload rfl rfl ?_
  refine r_getA (b := ad 7) rfl ⟨rfl, rfl, rfl⟩ (fx_t9 fx) f6 ?_
  refine r_iload rfl rfl ?_
  refine r_aaloadA (b := ad (100 + 5 * a)) rfl (isQ_of (fx_t7 fx) (by decide)) (vp_ct (fx_n7 fx) (vp_in_nI (by omega) (by omega))) (Eq.trans (congrArg (hR h (ad 7)) ((nI_clamp (by omega)) : _ = a)) tu1) ?_
  refine r_iload rfl rfl ?_
  refine r_cv (y := 114) (ra := [.int 3, .ref (ad (100 + 5 * a))]) (rest := []) rfl ⟨⟨rfl, rfl⟩, rfl, by decide⟩ (fx_t9 fx) rfl rfl (Nat.le_of_ble_eq_true rfl) ?_
  refine in_114 (Nat.le_of_ble_eq_true rfl) ?_
  show WR _ cd_114 0 [some (.ref (ad 9)), some (.ref (ad (100 + 5 * a))), some (.int 3), none, none, none] [] h _
  refine r_iload rfl rfl ?_
  refine r_ic (x := 2) rfl rfl ?_
  refine r_icmp_le (tg := 15) rfl rfl (fun q => absurd q (by decide)) (fun _ => ?_)
  refine r_aload rfl rfl ?_
  refine r_getI rfl ⟨rfl, rfl, rfl⟩ tu2 ?_
  refine WR_tI (y := 0) e9 ?_
  refine r_if_ne (tg := 15) rfl rfl (fun q => absurd q (by decide)) (fun _ => ?_)
  refine r_ic (x := (-17)) rfl rfl ?_
  refine r_iret rfl ?_
  show WR _ cd_102 228 [some (.ref (ad 9)), some (.int (nI A)), some (.int (nI dp)), some (.int (nI a)), some (.int 3), some (.int c)] [.int (-17)] h _
  refine r_iret rfl ?_
  exact (L1)

set_option maxHeartbeats 2000000 in
theorem w_c13h3 {d : Nat} {Q : mQ} {n : Nat} {ad sa : Nat → Nat} {z0 : Nat} {h : mH} (fx : FX n ad sa z0 h) {A dp : Nat} (hA : A + 3 < 640) (f5 : hR h (ad 9) 5 = some (ad 1)) (f6 : hR h (ad 9) 6 = some (ad 7)) {a : Nat} {c : Int32} (ha : a < n) (n6 : n ≤ 6) (tu1 : hR h (ad 7) a = some (ad (100 + 5 * a))) (tu2 : hT h (ad (100 + 5 * a)) = 8) (tu3 : hR h (ad (100 + 5 * a)) 5 = some (ad (101 + 5 * a))) (tu4 : hT h (ad (101 + 5 * a)) = 26) (tu5 : hN h (ad (101 + 5 * a)) = 5) (e9 : hI h (ad (100 + 5 * a)) 9 = 0) (s0 : hI h (ad 10) A = 13) (s1 : hI h (ad 10) (A + 1) = nI a) (s2 : hI h (ad 10) (A + 2) = 3) (s3 : hI h (ad 10) (A + 3) = c) 
    (L1 : Q (some (.int (-17))) h) : EV (d + 2) 102 [.ref (ad 9), .int (nI A), .int (nI dp)] h Q := by
  have fx0 := fx
  refine in_102 (Nat.le_of_ble_eq_true rfl) ?_
  show WR _ cd_102 0 [some (.ref (ad 9)), some (.int (nI A)), some (.int (nI dp)), none, none, none] [] h _
  refine r_aload rfl rfl ?_
  refine r_getA (b := ad 10) rfl ⟨rfl, rfl, rfl⟩ (fx_t9 fx) (fx_r9_0 fx) ?_
  refine r_iload rfl rfl ?_
  refine r_ic (x := 1) rfl rfl ?_
  refine r_iadd rfl ?_
  refine WR_tI (y := nI (A + 1)) (Eq.trans (nI_add A 1) (congrArg nI (by omega))) ?_
  refine r_iaload rfl (.inl (fx_t10 fx)) (vp_ct (fx_n10 fx) (vp_in_nI (by omega) (by omega))) ?_
  refine WR_tI (congrArg (hI h (ad 10)) ((nI_clamp (by omega)) : _ = A + 1)) ?_
  refine WR_tI (y := nI a) s1 ?_
  refine r_istore (lv' := [some (.ref (ad 9)), some (.int (nI A)), some (.int (nI dp)), some (.int (nI a)), none, none]) rfl (Nat.le_of_ble_eq_true rfl) rfl ?_
  refine r_aload rfl rfl ?_
  refine r_getA (b := ad 10) rfl ⟨rfl, rfl, rfl⟩ (fx_t9 fx) (fx_r9_0 fx) ?_
  refine r_iload rfl rfl ?_
  refine r_ic (x := 2) rfl rfl ?_
  refine r_iadd rfl ?_
  refine WR_tI (y := nI (A + 2)) (Eq.trans (nI_add A 2) (congrArg nI (by omega))) ?_
  refine r_iaload rfl (.inl (fx_t10 fx)) (vp_ct (fx_n10 fx) (vp_in_nI (by omega) (by omega))) ?_
  refine WR_tI (congrArg (hI h (ad 10)) ((nI_clamp (by omega)) : _ = A + 2)) ?_
  refine WR_tI (y := 3) s2 ?_
  refine r_istore (lv' := [some (.ref (ad 9)), some (.int (nI A)), some (.int (nI dp)), some (.int (nI a)), some (.int 3), none]) rfl (Nat.le_of_ble_eq_true rfl) rfl ?_
  refine r_aload rfl rfl ?_
  refine r_getA (b := ad 10) rfl ⟨rfl, rfl, rfl⟩ (fx_t9 fx) (fx_r9_0 fx) ?_
  refine r_iload rfl rfl ?_
  refine r_ic (x := 3) rfl rfl ?_
  refine r_iadd rfl ?_
  refine WR_tI (y := nI (A + 3)) (Eq.trans (nI_add A 3) (congrArg nI (by omega))) ?_
  refine r_iaload rfl (.inl (fx_t10 fx)) (vp_ct (fx_n10 fx) (vp_in_nI (by omega) (by omega))) ?_
  refine WR_tI (congrArg (hI h (ad 10)) ((nI_clamp (by omega)) : _ = A + 3)) ?_
  refine WR_tI (y := c) s3 ?_
  refine r_istore (lv' := [some (.ref (ad 9)), some (.int (nI A)), some (.int (nI dp)), some (.int (nI a)), some (.int 3), some (.int c)]) rfl (Nat.le_of_ble_eq_true rfl) rfl ?_
  refine r_aload rfl rfl ?_
  refine r_getA (b := ad 10) rfl ⟨rfl, rfl, rfl⟩ (fx_t9 fx) (fx_r9_0 fx) ?_
  refine r_iload rfl rfl ?_
  refine r_iaload rfl (.inl (fx_t10 fx)) (vp_ct (fx_n10 fx) (vp_in_nI (by omega) (by omega))) ?_
  refine WR_tI (congrArg (hI h (ad 10)) ((nI_clamp (by omega)) : _ = A)) ?_
  refine WR_tI (y := 13) s0 ?_
  refine r_tswL (tg := 229) rfl (by decide) ?_
  refine r_aload rfl rfl ?_
  refine r_aload rfl rfl ?_
  refine r_getA (b := ad 7) rfl ⟨rfl, rfl, rfl⟩ (fx_t9 fx) f6 ?_
  refine r_iload rfl rfl ?_
  refine r_aaloadA (b := ad (100 + 5 * a)) rfl (isQ_of (fx_t7 fx) (by decide)) (vp_ct (fx_n7 fx) (vp_in_nI (by omega) (by omega))) (Eq.trans (congrArg (hR h (ad 7)) ((nI_clamp (by omega)) : _ = a)) tu1) ?_
  refine r_iload rfl rfl ?_
  refine r_cv (y := 115) (ra := [.int 3, .ref (ad (100 + 5 * a))]) (rest := []) rfl ⟨⟨rfl, rfl⟩, rfl, by decide⟩ (fx_t9 fx) rfl rfl (Nat.le_of_ble_eq_true rfl) ?_
  refine in_115 (Nat.le_of_ble_eq_true rfl) ?_
  show WR _ cd_115 0 [some (.ref (ad 9)), some (.ref (ad (100 + 5 * a))), some (.int 3)] [] h _
  refine r_iload rfl rfl ?_
  refine r_ic (x := 2) rfl rfl ?_
  refine r_icmp_le (tg := 15) rfl rfl (fun q => absurd q (by decide)) (fun _ => ?_)
  refine r_aload rfl rfl ?_
  refine r_getI rfl ⟨rfl, rfl, rfl⟩ tu2 ?_
  refine WR_tI (y := 0) e9 ?_
  refine r_if_ne (tg := 15) rfl rfl (fun q => absurd q (by decide)) (fun _ => ?_)
  refine r_ic (x := (-17)) rfl rfl ?_
  refine r_iret rfl ?_
  show WR _ cd_102 241 [some (.ref (ad 9)), some (.int (nI A)), some (.int (nI dp)), some (.int (nI a)), some (.int 3), some (.int c)] [.int (-17)] h _
  refine r_iret rfl ?_
  exact (L1)

set_option maxHeartbeats 2000000 in
theorem w_c12z3 {d : Nat} {Q : mQ} {n : Nat} {ad sa : Nat → Nat} {z0 : Nat} {h : mH} (fx : FX n ad sa z0 h) {A dp : Nat} (hA : A + 3 < 640) (f5 : hR h (ad 9) 5 = some (ad 1)) (f6 : hR h (ad 9) 6 = some (ad 7)) {a : Nat} {c : Int32} {v : Int32} (ha : a < n) (n6 : n ≤ 6) (tu1 : hR h (ad 7) a = some (ad (100 + 5 * a))) (tu2 : hT h (ad (100 + 5 * a)) = 8) (tu3 : hR h (ad (100 + 5 * a)) 5 = some (ad (101 + 5 * a))) (tu4 : hT h (ad (101 + 5 * a)) = 26) (tu5 : hN h (ad (101 + 5 * a)) = 5) (e9 : hI h (ad (100 + 5 * a)) 9 = v) (nv : ¬ v = 0) (eh : hI h (ad 13) 2 = 0) (s0 : hI h (ad 10) A = 12) (s1 : hI h (ad 10) (A + 1) = nI a) (s2 : hI h (ad 10) (A + 2) = 3) (s3 : hI h (ad 10) (A + 3) = c) 
    (L1 : ¬ v = 0 → Q (some (.int (-11))) h)
    (L2 : v = 0 → Q (some (.int (-17))) h) : EV (d + 3) 102 [.ref (ad 9), .int (nI A), .int (nI dp)] h Q := by
  have fx0 := fx
  refine in_102 (Nat.le_of_ble_eq_true rfl) ?_
  show WR _ cd_102 0 [some (.ref (ad 9)), some (.int (nI A)), some (.int (nI dp)), none, none, none] [] h _
  refine r_aload rfl rfl ?_
  refine r_getA (b := ad 10) rfl ⟨rfl, rfl, rfl⟩ (fx_t9 fx) (fx_r9_0 fx) ?_
  refine r_iload rfl rfl ?_
  refine r_ic (x := 1) rfl rfl ?_
  refine r_iadd rfl ?_
  refine WR_tI (y := nI (A + 1)) (Eq.trans (nI_add A 1) (congrArg nI (by omega))) ?_
  refine r_iaload rfl (.inl (fx_t10 fx)) (vp_ct (fx_n10 fx) (vp_in_nI (by omega) (by omega))) ?_
  refine WR_tI (congrArg (hI h (ad 10)) ((nI_clamp (by omega)) : _ = A + 1)) ?_
  refine WR_tI (y := nI a) s1 ?_
  refine r_istore (lv' := [some (.ref (ad 9)), some (.int (nI A)), some (.int (nI dp)), some (.int (nI a)), none, none]) rfl (Nat.le_of_ble_eq_true rfl) rfl ?_
  refine r_aload rfl rfl ?_
  refine r_getA (b := ad 10) rfl ⟨rfl, rfl, rfl⟩ (fx_t9 fx) (fx_r9_0 fx) ?_
  refine r_iload rfl rfl ?_
  refine r_ic (x := 2) rfl rfl ?_
  refine r_iadd rfl ?_
  refine WR_tI (y := nI (A + 2)) (Eq.trans (nI_add A 2) (congrArg nI (by omega))) ?_
  refine r_iaload rfl (.inl (fx_t10 fx)) (vp_ct (fx_n10 fx) (vp_in_nI (by omega) (by omega))) ?_
  refine WR_tI (congrArg (hI h (ad 10)) ((nI_clamp (by omega)) : _ = A + 2)) ?_
  refine WR_tI (y := 3) s2 ?_
  refine r_istore (lv' := [some (.ref (ad 9)), some (.int (nI A)), some (.int (nI dp)), some (.int (nI a)), some (.int 3), none]) rfl (Nat.le_of_ble_eq_true rfl) rfl ?_
  refine r_aload rfl rfl ?_
  refine r_getA (b := ad 10) rfl ⟨rfl, rfl, rfl⟩ (fx_t9 fx) (fx_r9_0 fx) ?_
  refine r_iload rfl rfl ?_
  refine r_ic (x := 3) rfl rfl ?_
  refine r_iadd rfl ?_
  refine WR_tI (y := nI (A + 3)) (Eq.trans (nI_add A 3) (congrArg nI (by omega))) ?_
  refine r_iaload rfl (.inl (fx_t10 fx)) (vp_ct (fx_n10 fx) (vp_in_nI (by omega) (by omega))) ?_
  refine WR_tI (congrArg (hI h (ad 10)) ((nI_clamp (by omega)) : _ = A + 3)) ?_
  refine WR_tI (y := c) s3 ?_
  refine r_istore (lv' := [some (.ref (ad 9)), some (.int (nI A)), some (.int (nI dp)), some (.int (nI a)), some (.int 3), some (.int c)]) rfl (Nat.le_of_ble_eq_true rfl) rfl ?_
  refine r_aload rfl rfl ?_
  refine r_getA (b := ad 10) rfl ⟨rfl, rfl, rfl⟩ (fx_t9 fx) (fx_r9_0 fx) ?_
  refine r_iload rfl rfl ?_
  refine r_iaload rfl (.inl (fx_t10 fx)) (vp_ct (fx_n10 fx) (vp_in_nI (by omega) (by omega))) ?_
  refine WR_tI (congrArg (hI h (ad 10)) ((nI_clamp (by omega)) : _ = A)) ?_
  refine WR_tI (y := 12) s0 ?_
  refine r_tswL (tg := 216) rfl (by decide) ?_
  refine r_aload rfl rfl ?_
  refine r_aload rfl rfl ?_
  refine r_getA (b := ad 7) rfl ⟨rfl, rfl, rfl⟩ (fx_t9 fx) f6 ?_
  refine r_iload rfl rfl ?_
  refine r_aaloadA (b := ad (100 + 5 * a)) rfl (isQ_of (fx_t7 fx) (by decide)) (vp_ct (fx_n7 fx) (vp_in_nI (by omega) (by omega))) (Eq.trans (congrArg (hR h (ad 7)) ((nI_clamp (by omega)) : _ = a)) tu1) ?_
  refine r_iload rfl rfl ?_
  refine r_cv (y := 114) (ra := [.int 3, .ref (ad (100 + 5 * a))]) (rest := []) rfl ⟨⟨rfl, rfl⟩, rfl, by decide⟩ (fx_t9 fx) rfl rfl (Nat.le_of_ble_eq_true rfl) ?_
  refine in_114 (Nat.le_of_ble_eq_true rfl) ?_
  show WR _ cd_114 0 [some (.ref (ad 9)), some (.ref (ad (100 + 5 * a))), some (.int 3), none, none, none] [] h _
  refine r_iload rfl rfl ?_
  refine r_ic (x := 2) rfl rfl ?_
  refine r_icmp_le (tg := 15) rfl rfl (fun q => absurd q (by decide)) (fun _ => ?_)
  refine r_aload rfl rfl ?_
  refine r_getI rfl ⟨rfl, rfl, rfl⟩ tu2 ?_
  refine WR_tI (y := v) e9 ?_
  refine r_if_ne (tg := 15) rfl rfl (fun c1 => ?_) (fun c1 => ?_)
  · refine r_aload rfl rfl ?_
    refine r_getA (b := ad 13) rfl ⟨rfl, rfl, rfl⟩ (fx_t9 fx) (fx_r9_3 fx) ?_
    refine r_cv (y := 106) (ra := []) (rest := []) rfl ⟨⟨rfl, rfl⟩, rfl, by decide⟩ (fx_t13 fx) rfl rfl (Nat.le_of_ble_eq_true rfl) ?_
    refine in_106 (Nat.le_of_ble_eq_true rfl) ?_
    show WR _ cd_106 0 [some (.ref (ad 13))] [] h _
    refine r_aload rfl rfl ?_
    refine r_getI rfl ⟨rfl, rfl, rfl⟩ (fx_t13 fx) ?_
    refine WR_tI (y := 0) eh ?_
    refine r_if_le (tg := 21) rfl rfl (fun _ => ?_) (fun q => absurd q (by decide))
    refine r_null rfl ?_
    refine r_aret0 rfl ?_
    show WR _ cd_114 22 [some (.ref (ad 9)), some (.ref (ad (100 + 5 * a))), some (.int 3), none, none, none] [.null] h _
    refine r_astore0 (lv' := [some (.ref (ad 9)), some (.ref (ad (100 + 5 * a))), some (.int 3), some (.null), none, none]) rfl (Nat.le_of_ble_eq_true rfl) rfl ?_
    refine r_aload0 rfl rfl ?_
    refine r_ifnonnullN (tg := 30) rfl rfl ?_
    refine r_ic (x := (-11)) rfl rfl ?_
    refine r_iret rfl ?_
    show WR _ cd_102 228 [some (.ref (ad 9)), some (.int (nI A)), some (.int (nI dp)), some (.int (nI a)), some (.int 3), some (.int c)] [.int (-11)] h _
    refine r_iret rfl ?_
    exact (L1 c1)
  · refine r_ic (x := (-17)) rfl rfl ?_
    refine r_iret rfl ?_
    show WR _ cd_102 228 [some (.ref (ad 9)), some (.int (nI A)), some (.int (nI dp)), some (.int (nI a)), some (.int 3), some (.int c)] [.int (-17)] h _
    refine r_iret rfl ?_
    exact (L2 c1)

set_option maxHeartbeats 2000000 in
theorem w_c12t53 {d : Nat} {Q : mQ} {n : Nat} {ad sa : Nat → Nat} {z0 : Nat} {h : mH} (fx : FX n ad sa z0 h) {A dp : Nat} (hA : A + 3 < 640) (f5 : hR h (ad 9) 5 = some (ad 1)) (f6 : hR h (ad 9) 6 = some (ad 7)) {a H x : Nat} {c : Int32} {v : Int32} (ha : a < n) (n6 : n ≤ 6) (tu1 : hR h (ad 7) a = some (ad (100 + 5 * a))) (tu2 : hT h (ad (100 + 5 * a)) = 8) (tu3 : hR h (ad (100 + 5 * a)) 5 = some (ad (101 + 5 * a))) (tu4 : hT h (ad (101 + 5 * a)) = 26) (tu5 : hN h (ad (101 + 5 * a)) = 5) (e9 : hI h (ad (100 + 5 * a)) 9 = v) (nv : ¬ v = 0) (eh : hI h (ad 13) 2 = nI H) (hH1 : 1 ≤ H) (hH : H ≤ 100) (r2 : hR h (ad 14) (H - 1) = some x) (tx : hT h x = 5) (s0 : hI h (ad 10) A = 12) (s1 : hI h (ad 10) (A + 1) = nI a) (s2 : hI h (ad 10) (A + 2) = 3) (s3 : hI h (ad 10) (A + 3) = c) 
    (L1 : ¬ v = 0 → Q (some (.int (-14))) h)
    (L2 : v = 0 → Q (some (.int (-17))) h) : EV (d + 3) 102 [.ref (ad 9), .int (nI A), .int (nI dp)] h Q := by
  have fx0 := fx
  refine in_102 (Nat.le_of_ble_eq_true rfl) ?_
  show WR _ cd_102 0 [some (.ref (ad 9)), some (.int (nI A)), some (.int (nI dp)), none, none, none] [] h _
  refine r_aload rfl rfl ?_
  refine r_getA (b := ad 10) rfl ⟨rfl, rfl, rfl⟩ (fx_t9 fx) (fx_r9_0 fx) ?_
  refine r_iload rfl rfl ?_
  refine r_ic (x := 1) rfl rfl ?_
  refine r_iadd rfl ?_
  refine WR_tI (y := nI (A + 1)) (Eq.trans (nI_add A 1) (congrArg nI (by omega))) ?_
  refine r_iaload rfl (.inl (fx_t10 fx)) (vp_ct (fx_n10 fx) (vp_in_nI (by omega) (by omega))) ?_
  refine WR_tI (congrArg (hI h (ad 10)) ((nI_clamp (by omega)) : _ = A + 1)) ?_
  refine WR_tI (y := nI a) s1 ?_
  refine r_istore (lv' := [some (.ref (ad 9)), some (.int (nI A)), some (.int (nI dp)), some (.int (nI a)), none, none]) rfl (Nat.le_of_ble_eq_true rfl) rfl ?_
  refine r_aload rfl rfl ?_
  refine r_getA (b := ad 10) rfl ⟨rfl, rfl, rfl⟩ (fx_t9 fx) (fx_r9_0 fx) ?_
  refine r_iload rfl rfl ?_
  refine r_ic (x := 2) rfl rfl ?_
  refine r_iadd rfl ?_
  refine WR_tI (y := nI (A + 2)) (Eq.trans (nI_add A 2) (congrArg nI (by omega))) ?_
  refine r_iaload rfl (.inl (fx_t10 fx)) (vp_ct (fx_n10 fx) (vp_in_nI (by omega) (by omega))) ?_
  refine WR_tI (congrArg (hI h (ad 10)) ((nI_clamp (by omega)) : _ = A + 2)) ?_
  refine WR_tI (y := 3) s2 ?_
  refine r_istore (lv' := [some (.ref (ad 9)), some (.int (nI A)), some (.int (nI dp)), some (.int (nI a)), some (.int 3), none]) rfl (Nat.le_of_ble_eq_true rfl) rfl ?_
  refine r_aload rfl rfl ?_
  refine r_getA (b := ad 10) rfl ⟨rfl, rfl, rfl⟩ (fx_t9 fx) (fx_r9_0 fx) ?_
  refine r_iload rfl rfl ?_
  refine r_ic (x := 3) rfl rfl ?_
  refine r_iadd rfl ?_
  refine WR_tI (y := nI (A + 3)) (Eq.trans (nI_add A 3) (congrArg nI (by omega))) ?_
  refine r_iaload rfl (.inl (fx_t10 fx)) (vp_ct (fx_n10 fx) (vp_in_nI (by omega) (by omega))) ?_
  refine WR_tI (congrArg (hI h (ad 10)) ((nI_clamp (by omega)) : _ = A + 3)) ?_
  refine WR_tI (y := c) s3 ?_
  refine r_istore (lv' := [some (.ref (ad 9)), some (.int (nI A)), some (.int (nI dp)), some (.int (nI a)), some (.int 3), some (.int c)]) rfl (Nat.le_of_ble_eq_true rfl) rfl ?_
  refine r_aload rfl rfl ?_
  refine r_getA (b := ad 10) rfl ⟨rfl, rfl, rfl⟩ (fx_t9 fx) (fx_r9_0 fx) ?_
  refine r_iload rfl rfl ?_
  refine r_iaload rfl (.inl (fx_t10 fx)) (vp_ct (fx_n10 fx) (vp_in_nI (by omega) (by omega))) ?_
  refine WR_tI (congrArg (hI h (ad 10)) ((nI_clamp (by omega)) : _ = A)) ?_
  refine WR_tI (y := 12) s0 ?_
  refine r_tswL (tg := 216) rfl (by decide) ?_
  refine r_aload rfl rfl ?_
  refine r_aload rfl rfl ?_
  refine r_getA (b := ad 7) rfl ⟨rfl, rfl, rfl⟩ (fx_t9 fx) f6 ?_
  refine r_iload rfl rfl ?_
  refine r_aaloadA (b := ad (100 + 5 * a)) rfl (isQ_of (fx_t7 fx) (by decide)) (vp_ct (fx_n7 fx) (vp_in_nI (by omega) (by omega))) (Eq.trans (congrArg (hR h (ad 7)) ((nI_clamp (by omega)) : _ = a)) tu1) ?_
  refine r_iload rfl rfl ?_
  refine r_cv (y := 114) (ra := [.int 3, .ref (ad (100 + 5 * a))]) (rest := []) rfl ⟨⟨rfl, rfl⟩, rfl, by decide⟩ (fx_t9 fx) rfl rfl (Nat.le_of_ble_eq_true rfl) ?_
  refine in_114 (Nat.le_of_ble_eq_true rfl) ?_
  show WR _ cd_114 0 [some (.ref (ad 9)), some (.ref (ad (100 + 5 * a))), some (.int 3), none, none, none] [] h _
  refine r_iload rfl rfl ?_
  refine r_ic (x := 2) rfl rfl ?_
  refine r_icmp_le (tg := 15) rfl rfl (fun q => absurd q (by decide)) (fun _ => ?_)
  refine r_aload rfl rfl ?_
  refine r_getI rfl ⟨rfl, rfl, rfl⟩ tu2 ?_
  refine WR_tI (y := v) e9 ?_
  refine r_if_ne (tg := 15) rfl rfl (fun c1 => ?_) (fun c1 => ?_)
  · refine r_aload rfl rfl ?_
    refine r_getA (b := ad 13) rfl ⟨rfl, rfl, rfl⟩ (fx_t9 fx) (fx_r9_3 fx) ?_
    refine r_cv (y := 106) (ra := []) (rest := []) rfl ⟨⟨rfl, rfl⟩, rfl, by decide⟩ (fx_t13 fx) rfl rfl (Nat.le_of_ble_eq_true rfl) ?_
    refine in_106 (Nat.le_of_ble_eq_true rfl) ?_
    show WR _ cd_106 0 [some (.ref (ad 13))] [] h _
    refine r_aload rfl rfl ?_
    refine r_getI rfl ⟨rfl, rfl, rfl⟩ (fx_t13 fx) ?_
    refine WR_tI (y := nI H) eh ?_
    refine r_if_le (tg := 21) rfl rfl (fun q => False.elim (by have : (nI H).toInt = ((H : Nat) : Int) := nI_toInt (by omega); have : (0 : Int32).toInt = 0 := rfl; have := i_le q; omega)) (fun _ => ?_)
    refine r_aload rfl rfl ?_
    refine r_getA (b := ad 14) rfl ⟨rfl, rfl, rfl⟩ (fx_t13 fx) (fx_r13_0 fx) ?_
    refine r_aload rfl rfl ?_
    refine r_getI rfl ⟨rfl, rfl, rfl⟩ (fx_t13 fx) ?_
    refine WR_tI (y := nI H) eh ?_
    refine r_ic (x := 1) rfl rfl ?_
    refine r_isub rfl ?_
    refine WR_tI (y := nI (H - 1)) (Eq.trans (pk_sub (a := H) (b := 1) (by omega)) (congrArg nI (by omega))) ?_
    refine r_aaloadA (b := x) rfl (isQ_of (fx_t14 fx) (by decide)) (vp_ct (fx_n14 fx) (vp_in_nI (by omega) (by omega))) (Eq.trans (congrArg (hR h (ad 14)) ((nI_clamp (by omega)) : _ = H - 1)) r2) ?_
    refine r_goto (tg := 22) rfl rfl ?_
    refine r_aret rfl ?_
    show WR _ cd_114 22 [some (.ref (ad 9)), some (.ref (ad (100 + 5 * a))), some (.int 3), none, none, none] [.ref x] h _
    refine r_astore (lv' := [some (.ref (ad 9)), some (.ref (ad (100 + 5 * a))), some (.int 3), some (.ref x), none, none]) rfl (Nat.le_of_ble_eq_true rfl) rfl ?_
    refine r_aload rfl rfl ?_
    refine r_ifnonnullA (tg := 30) rfl rfl ?_
    refine r_iload rfl rfl ?_
    refine r_ic (x := 3) rfl rfl ?_
    refine r_icmp_ne (tg := 39) rfl rfl (fun q => absurd q (by decide)) (fun _ => ?_)
    refine r_ic (x := 3) rfl rfl ?_
    refine r_goto (tg := 50) rfl rfl ?_
    refine r_istore (lv' := [some (.ref (ad 9)), some (.ref (ad (100 + 5 * a))), some (.int 3), some (.ref x), some (.int 3), none]) rfl (Nat.le_of_ble_eq_true rfl) rfl ?_
    refine r_aload rfl rfl ?_
    refine r_instW rfl (by decide) tx (by decide) ?_
    refine r_if_eq (tg := 75) rfl rfl (fun _ => ?_) (fun q => absurd q (by decide))
    refine r_ic (x := (-14)) rfl rfl ?_
    refine r_iret rfl ?_
    show WR _ cd_102 228 [some (.ref (ad 9)), some (.int (nI A)), some (.int (nI dp)), some (.int (nI a)), some (.int 3), some (.int c)] [.int (-14)] h _
    refine r_iret rfl ?_
    exact (L1 c1)
  · refine r_ic (x := (-17)) rfl rfl ?_
    refine r_iret rfl ?_
    show WR _ cd_102 228 [some (.ref (ad 9)), some (.int (nI A)), some (.int (nI dp)), some (.int (nI a)), some (.int 3), some (.int c)] [.int (-17)] h _
    refine r_iret rfl ?_
    exact (L2 c1)

set_option maxHeartbeats 2000000 in
theorem w_c12t63 {d : Nat} {Q : mQ} {n : Nat} {ad sa : Nat → Nat} {z0 : Nat} {h : mH} (fx : FX n ad sa z0 h) {A dp : Nat} (hA : A + 3 < 640) (f5 : hR h (ad 9) 5 = some (ad 1)) (f6 : hR h (ad 9) 6 = some (ad 7)) {a H x : Nat} {c : Int32} {v : Int32} (ha : a < n) (n6 : n ≤ 6) (tu1 : hR h (ad 7) a = some (ad (100 + 5 * a))) (tu2 : hT h (ad (100 + 5 * a)) = 8) (tu3 : hR h (ad (100 + 5 * a)) 5 = some (ad (101 + 5 * a))) (tu4 : hT h (ad (101 + 5 * a)) = 26) (tu5 : hN h (ad (101 + 5 * a)) = 5) (e9 : hI h (ad (100 + 5 * a)) 9 = v) (nv : ¬ v = 0) (eh : hI h (ad 13) 2 = nI H) (hH1 : 1 ≤ H) (hH : H ≤ 100) (r2 : hR h (ad 14) (H - 1) = some x) (tx : hT h x = 6) (s0 : hI h (ad 10) A = 12) (s1 : hI h (ad 10) (A + 1) = nI a) (s2 : hI h (ad 10) (A + 2) = 3) (s3 : hI h (ad 10) (A + 3) = c) 
    (L1 : ¬ v = 0 → Q (some (.int (-14))) h)
    (L2 : v = 0 → Q (some (.int (-17))) h) : EV (d + 3) 102 [.ref (ad 9), .int (nI A), .int (nI dp)] h Q := by
  have fx0 := fx
  refine in_102 (Nat.le_of_ble_eq_true rfl) ?_
  show WR _ cd_102 0 [some (.ref (ad 9)), some (.int (nI A)), some (.int (nI dp)), none, none, none] [] h _
  refine r_aload rfl rfl ?_
  refine r_getA (b := ad 10) rfl ⟨rfl, rfl, rfl⟩ (fx_t9 fx) (fx_r9_0 fx) ?_
  refine r_iload rfl rfl ?_
  refine r_ic (x := 1) rfl rfl ?_
  refine r_iadd rfl ?_
  refine WR_tI (y := nI (A + 1)) (Eq.trans (nI_add A 1) (congrArg nI (by omega))) ?_
  refine r_iaload rfl (.inl (fx_t10 fx)) (vp_ct (fx_n10 fx) (vp_in_nI (by omega) (by omega))) ?_
  refine WR_tI (congrArg (hI h (ad 10)) ((nI_clamp (by omega)) : _ = A + 1)) ?_
  refine WR_tI (y := nI a) s1 ?_
  refine r_istore (lv' := [some (.ref (ad 9)), some (.int (nI A)), some (.int (nI dp)), some (.int (nI a)), none, none]) rfl (Nat.le_of_ble_eq_true rfl) rfl ?_
  refine r_aload rfl rfl ?_
  refine r_getA (b := ad 10) rfl ⟨rfl, rfl, rfl⟩ (fx_t9 fx) (fx_r9_0 fx) ?_
  refine r_iload rfl rfl ?_
  refine r_ic (x := 2) rfl rfl ?_
  refine r_iadd rfl ?_
  refine WR_tI (y := nI (A + 2)) (Eq.trans (nI_add A 2) (congrArg nI (by omega))) ?_
  refine r_iaload rfl (.inl (fx_t10 fx)) (vp_ct (fx_n10 fx) (vp_in_nI (by omega) (by omega))) ?_
  refine WR_tI (congrArg (hI h (ad 10)) ((nI_clamp (by omega)) : _ = A + 2)) ?_
  refine WR_tI (y := 3) s2 ?_
  refine r_istore (lv' := [some (.ref (ad 9)), some (.int (nI A)), some (.int (nI dp)), some (.int (nI a)), some (.int 3), none]) rfl (Nat.le_of_ble_eq_true rfl) rfl ?_
  refine r_aload rfl rfl ?_
  refine r_getA (b := ad 10) rfl ⟨rfl, rfl, rfl⟩ (fx_t9 fx) (fx_r9_0 fx) ?_
  refine r_iload rfl rfl ?_
  refine r_ic (x := 3) rfl rfl ?_
  refine r_iadd rfl ?_
  refine WR_tI (y := nI (A + 3)) (Eq.trans (nI_add A 3) (congrArg nI (by omega))) ?_
  refine r_iaload rfl (.inl (fx_t10 fx)) (vp_ct (fx_n10 fx) (vp_in_nI (by omega) (by omega))) ?_
  refine WR_tI (congrArg (hI h (ad 10)) ((nI_clamp (by omega)) : _ = A + 3)) ?_
  refine WR_tI (y := c) s3 ?_
  refine r_istore (lv' := [some (.ref (ad 9)), some (.int (nI A)), some (.int (nI dp)), some (.int (nI a)), some (.int 3), some (.int c)]) rfl (Nat.le_of_ble_eq_true rfl) rfl ?_
  refine r_aload rfl rfl ?_
  refine r_getA (b := ad 10) rfl ⟨rfl, rfl, rfl⟩ (fx_t9 fx) (fx_r9_0 fx) ?_
  refine r_iload rfl rfl ?_
  refine r_iaload rfl (.inl (fx_t10 fx)) (vp_ct (fx_n10 fx) (vp_in_nI (by omega) (by omega))) ?_
  refine WR_tI (congrArg (hI h (ad 10)) ((nI_clamp (by omega)) : _ = A)) ?_
  refine WR_tI (y := 12) s0 ?_
  refine r_tswL (tg := 216) rfl (by decide) ?_
  refine r_aload rfl rfl ?_
  refine r_aload rfl rfl ?_
  refine r_getA (b := ad 7) rfl ⟨rfl, rfl, rfl⟩ (fx_t9 fx) f6 ?_
  refine r_iload rfl rfl ?_
  refine r_aaloadA (b := ad (100 + 5 * a)) rfl (isQ_of (fx_t7 fx) (by decide)) (vp_ct (fx_n7 fx) (vp_in_nI (by omega) (by omega))) (Eq.trans (congrArg (hR h (ad 7)) ((nI_clamp (by omega)) : _ = a)) tu1) ?_
  refine r_iload rfl rfl ?_
  refine r_cv (y := 114) (ra := [.int 3, .ref (ad (100 + 5 * a))]) (rest := []) rfl ⟨⟨rfl, rfl⟩, rfl, by decide⟩ (fx_t9 fx) rfl rfl (Nat.le_of_ble_eq_true rfl) ?_
  refine in_114 (Nat.le_of_ble_eq_true rfl) ?_
  show WR _ cd_114 0 [some (.ref (ad 9)), some (.ref (ad (100 + 5 * a))), some (.int 3), none, none, none] [] h _
  refine r_iload rfl rfl ?_
  refine r_ic (x := 2) rfl rfl ?_
  refine r_icmp_le (tg := 15) rfl rfl (fun q => absurd q (by decide)) (fun _ => ?_)
  refine r_aload rfl rfl ?_
  refine r_getI rfl ⟨rfl, rfl, rfl⟩ tu2 ?_
  refine WR_tI (y := v) e9 ?_
  refine r_if_ne (tg := 15) rfl rfl (fun c1 => ?_) (fun c1 => ?_)
  · refine r_aload rfl rfl ?_
    refine r_getA (b := ad 13) rfl ⟨rfl, rfl, rfl⟩ (fx_t9 fx) (fx_r9_3 fx) ?_
    refine r_cv (y := 106) (ra := []) (rest := []) rfl ⟨⟨rfl, rfl⟩, rfl, by decide⟩ (fx_t13 fx) rfl rfl (Nat.le_of_ble_eq_true rfl) ?_
    refine in_106 (Nat.le_of_ble_eq_true rfl) ?_
    show WR _ cd_106 0 [some (.ref (ad 13))] [] h _
    refine r_aload rfl rfl ?_
    refine r_getI rfl ⟨rfl, rfl, rfl⟩ (fx_t13 fx) ?_
    refine WR_tI (y := nI H) eh ?_
    refine r_if_le (tg := 21) rfl rfl (fun q => False.elim (by have : (nI H).toInt = ((H : Nat) : Int) := nI_toInt (by omega); have : (0 : Int32).toInt = 0 := rfl; have := i_le q; omega)) (fun _ => ?_)
    refine r_aload rfl rfl ?_
    refine r_getA (b := ad 14) rfl ⟨rfl, rfl, rfl⟩ (fx_t13 fx) (fx_r13_0 fx) ?_
    refine r_aload rfl rfl ?_
    refine r_getI rfl ⟨rfl, rfl, rfl⟩ (fx_t13 fx) ?_
    refine WR_tI (y := nI H) eh ?_
    refine r_ic (x := 1) rfl rfl ?_
    refine r_isub rfl ?_
    refine WR_tI (y := nI (H - 1)) (Eq.trans (pk_sub (a := H) (b := 1) (by omega)) (congrArg nI (by omega))) ?_
    refine r_aaloadA (b := x) rfl (isQ_of (fx_t14 fx) (by decide)) (vp_ct (fx_n14 fx) (vp_in_nI (by omega) (by omega))) (Eq.trans (congrArg (hR h (ad 14)) ((nI_clamp (by omega)) : _ = H - 1)) r2) ?_
    refine r_goto (tg := 22) rfl rfl ?_
    refine r_aret rfl ?_
    show WR _ cd_114 22 [some (.ref (ad 9)), some (.ref (ad (100 + 5 * a))), some (.int 3), none, none, none] [.ref x] h _
    refine r_astore (lv' := [some (.ref (ad 9)), some (.ref (ad (100 + 5 * a))), some (.int 3), some (.ref x), none, none]) rfl (Nat.le_of_ble_eq_true rfl) rfl ?_
    refine r_aload rfl rfl ?_
    refine r_ifnonnullA (tg := 30) rfl rfl ?_
    refine r_iload rfl rfl ?_
    refine r_ic (x := 3) rfl rfl ?_
    refine r_icmp_ne (tg := 39) rfl rfl (fun q => absurd q (by decide)) (fun _ => ?_)
    refine r_ic (x := 3) rfl rfl ?_
    refine r_goto (tg := 50) rfl rfl ?_
    refine r_istore (lv' := [some (.ref (ad 9)), some (.ref (ad (100 + 5 * a))), some (.int 3), some (.ref x), some (.int 3), none]) rfl (Nat.le_of_ble_eq_true rfl) rfl ?_
    refine r_aload rfl rfl ?_
    refine r_instW rfl (by decide) tx (by decide) ?_
    refine r_if_eq (tg := 75) rfl rfl (fun _ => ?_) (fun q => absurd q (by decide))
    refine r_ic (x := (-14)) rfl rfl ?_
    refine r_iret rfl ?_
    show WR _ cd_102 228 [some (.ref (ad 9)), some (.int (nI A)), some (.int (nI dp)), some (.int (nI a)), some (.int 3), some (.int c)] [.int (-14)] h _
    refine r_iret rfl ?_
    exact (L1 c1)
  · refine r_ic (x := (-17)) rfl rfl ?_
    refine r_iret rfl ?_
    show WR _ cd_102 228 [some (.ref (ad 9)), some (.int (nI A)), some (.int (nI dp)), some (.int (nI a)), some (.int 3), some (.int c)] [.int (-17)] h _
    refine r_iret rfl ?_
    exact (L2 c1)

set_option maxHeartbeats 2000000 in
theorem w_c12n3 {d : Nat} {Q : mQ} {n : Nat} {ad sa : Nat → Nat} {z0 : Nat} {h : mH} (fx : FX n ad sa z0 h) {A dp : Nat} (hA : A + 3 < 640) (f5 : hR h (ad 9) 5 = some (ad 1)) (f6 : hR h (ad 9) 6 = some (ad 7)) {a H x : Nat} {c : Int32} {v : Int32} (ha : a < n) (n6 : n ≤ 6) (tu1 : hR h (ad 7) a = some (ad (100 + 5 * a))) (tu2 : hT h (ad (100 + 5 * a)) = 8) (tu3 : hR h (ad (100 + 5 * a)) 5 = some (ad (101 + 5 * a))) (tu4 : hT h (ad (101 + 5 * a)) = 26) (tu5 : hN h (ad (101 + 5 * a)) = 5) (e9 : hI h (ad (100 + 5 * a)) 9 = v) (nv : ¬ v = 0) (eh : hI h (ad 13) 2 = nI H) (hH1 : 1 ≤ H) (hH : H ≤ 100) (r2 : hR h (ad 14) (H - 1) = some x) (tx : hT h x = 4) {kd : Nat} (kx : hI h x 0 = nI kd) (k7 : kd < 7) (rst : Rst sa h) (of_ : ¬ ofK kd 3 = true) (s0 : hI h (ad 10) A = 12) (s1 : hI h (ad 10) (A + 1) = nI a) (s2 : hI h (ad 10) (A + 2) = 3) (s3 : hI h (ad 10) (A + 3) = c) 
    (L1 : ¬ v = 0 → Q (some (.int (-14))) h)
    (L2 : v = 0 → Q (some (.int (-17))) h) : EV (d + 3) 102 [.ref (ad 9), .int (nI A), .int (nI dp)] h Q := by
  have fx0 := fx
  refine in_102 (Nat.le_of_ble_eq_true rfl) ?_
  show WR _ cd_102 0 [some (.ref (ad 9)), some (.int (nI A)), some (.int (nI dp)), none, none, none] [] h _
  refine r_aload rfl rfl ?_
  refine r_getA (b := ad 10) rfl ⟨rfl, rfl, rfl⟩ (fx_t9 fx) (fx_r9_0 fx) ?_
  refine r_iload rfl rfl ?_
  refine r_ic (x := 1) rfl rfl ?_
  refine r_iadd rfl ?_
  refine WR_tI (y := nI (A + 1)) (Eq.trans (nI_add A 1) (congrArg nI (by omega))) ?_
  refine r_iaload rfl (.inl (fx_t10 fx)) (vp_ct (fx_n10 fx) (vp_in_nI (by omega) (by omega))) ?_
  refine WR_tI (congrArg (hI h (ad 10)) ((nI_clamp (by omega)) : _ = A + 1)) ?_
  refine WR_tI (y := nI a) s1 ?_
  refine r_istore (lv' := [some (.ref (ad 9)), some (.int (nI A)), some (.int (nI dp)), some (.int (nI a)), none, none]) rfl (Nat.le_of_ble_eq_true rfl) rfl ?_
  refine r_aload rfl rfl ?_
  refine r_getA (b := ad 10) rfl ⟨rfl, rfl, rfl⟩ (fx_t9 fx) (fx_r9_0 fx) ?_
  refine r_iload rfl rfl ?_
  refine r_ic (x := 2) rfl rfl ?_
  refine r_iadd rfl ?_
  refine WR_tI (y := nI (A + 2)) (Eq.trans (nI_add A 2) (congrArg nI (by omega))) ?_
  refine r_iaload rfl (.inl (fx_t10 fx)) (vp_ct (fx_n10 fx) (vp_in_nI (by omega) (by omega))) ?_
  refine WR_tI (congrArg (hI h (ad 10)) ((nI_clamp (by omega)) : _ = A + 2)) ?_
  refine WR_tI (y := 3) s2 ?_
  refine r_istore (lv' := [some (.ref (ad 9)), some (.int (nI A)), some (.int (nI dp)), some (.int (nI a)), some (.int 3), none]) rfl (Nat.le_of_ble_eq_true rfl) rfl ?_
  refine r_aload rfl rfl ?_
  refine r_getA (b := ad 10) rfl ⟨rfl, rfl, rfl⟩ (fx_t9 fx) (fx_r9_0 fx) ?_
  refine r_iload rfl rfl ?_
  refine r_ic (x := 3) rfl rfl ?_
  refine r_iadd rfl ?_
  refine WR_tI (y := nI (A + 3)) (Eq.trans (nI_add A 3) (congrArg nI (by omega))) ?_
  refine r_iaload rfl (.inl (fx_t10 fx)) (vp_ct (fx_n10 fx) (vp_in_nI (by omega) (by omega))) ?_
  refine WR_tI (congrArg (hI h (ad 10)) ((nI_clamp (by omega)) : _ = A + 3)) ?_
  refine WR_tI (y := c) s3 ?_
  refine r_istore (lv' := [some (.ref (ad 9)), some (.int (nI A)), some (.int (nI dp)), some (.int (nI a)), some (.int 3), some (.int c)]) rfl (Nat.le_of_ble_eq_true rfl) rfl ?_
  refine r_aload rfl rfl ?_
  refine r_getA (b := ad 10) rfl ⟨rfl, rfl, rfl⟩ (fx_t9 fx) (fx_r9_0 fx) ?_
  refine r_iload rfl rfl ?_
  refine r_iaload rfl (.inl (fx_t10 fx)) (vp_ct (fx_n10 fx) (vp_in_nI (by omega) (by omega))) ?_
  refine WR_tI (congrArg (hI h (ad 10)) ((nI_clamp (by omega)) : _ = A)) ?_
  refine WR_tI (y := 12) s0 ?_
  refine r_tswL (tg := 216) rfl (by decide) ?_
  refine r_aload rfl rfl ?_
  refine r_aload rfl rfl ?_
  refine r_getA (b := ad 7) rfl ⟨rfl, rfl, rfl⟩ (fx_t9 fx) f6 ?_
  refine r_iload rfl rfl ?_
  refine r_aaloadA (b := ad (100 + 5 * a)) rfl (isQ_of (fx_t7 fx) (by decide)) (vp_ct (fx_n7 fx) (vp_in_nI (by omega) (by omega))) (Eq.trans (congrArg (hR h (ad 7)) ((nI_clamp (by omega)) : _ = a)) tu1) ?_
  refine r_iload rfl rfl ?_
  refine r_cv (y := 114) (ra := [.int 3, .ref (ad (100 + 5 * a))]) (rest := []) rfl ⟨⟨rfl, rfl⟩, rfl, by decide⟩ (fx_t9 fx) rfl rfl (Nat.le_of_ble_eq_true rfl) ?_
  refine in_114 (Nat.le_of_ble_eq_true rfl) ?_
  show WR _ cd_114 0 [some (.ref (ad 9)), some (.ref (ad (100 + 5 * a))), some (.int 3), none, none, none] [] h _
  refine r_iload rfl rfl ?_
  refine r_ic (x := 2) rfl rfl ?_
  refine r_icmp_le (tg := 15) rfl rfl (fun q => absurd q (by decide)) (fun _ => ?_)
  refine r_aload rfl rfl ?_
  refine r_getI rfl ⟨rfl, rfl, rfl⟩ tu2 ?_
  refine WR_tI (y := v) e9 ?_
  refine r_if_ne (tg := 15) rfl rfl (fun c1 => ?_) (fun c1 => ?_)
  · refine r_aload rfl rfl ?_
    refine r_getA (b := ad 13) rfl ⟨rfl, rfl, rfl⟩ (fx_t9 fx) (fx_r9_3 fx) ?_
    refine r_cv (y := 106) (ra := []) (rest := []) rfl ⟨⟨rfl, rfl⟩, rfl, by decide⟩ (fx_t13 fx) rfl rfl (Nat.le_of_ble_eq_true rfl) ?_
    refine in_106 (Nat.le_of_ble_eq_true rfl) ?_
    show WR _ cd_106 0 [some (.ref (ad 13))] [] h _
    refine r_aload rfl rfl ?_
    refine r_getI rfl ⟨rfl, rfl, rfl⟩ (fx_t13 fx) ?_
    refine WR_tI (y := nI H) eh ?_
    refine r_if_le (tg := 21) rfl rfl (fun q => False.elim (by have : (nI H).toInt = ((H : Nat) : Int) := nI_toInt (by omega); have : (0 : Int32).toInt = 0 := rfl; have := i_le q; omega)) (fun _ => ?_)
    refine r_aload rfl rfl ?_
    refine r_getA (b := ad 14) rfl ⟨rfl, rfl, rfl⟩ (fx_t13 fx) (fx_r13_0 fx) ?_
    refine r_aload rfl rfl ?_
    refine r_getI rfl ⟨rfl, rfl, rfl⟩ (fx_t13 fx) ?_
    refine WR_tI (y := nI H) eh ?_
    refine r_ic (x := 1) rfl rfl ?_
    refine r_isub rfl ?_
    refine WR_tI (y := nI (H - 1)) (Eq.trans (pk_sub (a := H) (b := 1) (by omega)) (congrArg nI (by omega))) ?_
    refine r_aaloadA (b := x) rfl (isQ_of (fx_t14 fx) (by decide)) (vp_ct (fx_n14 fx) (vp_in_nI (by omega) (by omega))) (Eq.trans (congrArg (hR h (ad 14)) ((nI_clamp (by omega)) : _ = H - 1)) r2) ?_
    refine r_goto (tg := 22) rfl rfl ?_
    refine r_aret rfl ?_
    show WR _ cd_114 22 [some (.ref (ad 9)), some (.ref (ad (100 + 5 * a))), some (.int 3), none, none, none] [.ref x] h _
    refine r_astore (lv' := [some (.ref (ad 9)), some (.ref (ad (100 + 5 * a))), some (.int 3), some (.ref x), none, none]) rfl (Nat.le_of_ble_eq_true rfl) rfl ?_
    refine r_aload rfl rfl ?_
    refine r_ifnonnullA (tg := 30) rfl rfl ?_
    refine r_iload rfl rfl ?_
    refine r_ic (x := 3) rfl rfl ?_
    refine r_icmp_ne (tg := 39) rfl rfl (fun q => absurd q (by decide)) (fun _ => ?_)
    refine r_ic (x := 3) rfl rfl ?_
    refine r_goto (tg := 50) rfl rfl ?_
    refine r_istore (lv' := [some (.ref (ad 9)), some (.ref (ad (100 + 5 * a))), some (.int 3), some (.ref x), some (.int 3), none]) rfl (Nat.le_of_ble_eq_true rfl) rfl ?_
    refine r_aload rfl rfl ?_
    refine r_instY rfl (by decide) tx ?_
    refine r_if_eq (tg := 75) rfl rfl (fun q => absurd q (by decide)) (fun _ => ?_)
    refine r_aload rfl rfl ?_
    refine r_cast rfl tx ?_
    refine r_astore (lv' := [some (.ref (ad 9)), some (.ref (ad (100 + 5 * a))), some (.int 3), some (.ref x), some (.int 3), some (.ref x)]) rfl (Nat.le_of_ble_eq_true rfl) rfl ?_
    refine r_aload rfl rfl ?_
    refine r_iload rfl rfl ?_
    refine r_cv (y := 48) (ra := [.int 3]) (rest := []) rfl ⟨⟨rfl, rfl⟩, rfl, by decide⟩ tx rfl rfl (Nat.le_of_ble_eq_true rfl) ?_
    refine c_isOf (h := h) (kd := kd) (k := 3) fx rst tx kx k7 (by decide) ?_
    rw [if_neg of_]
    show WR _ cd_114 72 [some (.ref (ad 9)), some (.ref (ad (100 + 5 * a))), some (.int 3), some (.ref x), some (.int 3), some (.ref x)] [.int 0] h _
    refine r_if_ne (tg := 78) rfl rfl (fun q => absurd q (by decide)) (fun _ => ?_)
    refine r_ic (x := (-14)) rfl rfl ?_
    refine r_iret rfl ?_
    show WR _ cd_102 228 [some (.ref (ad 9)), some (.int (nI A)), some (.int (nI dp)), some (.int (nI a)), some (.int 3), some (.int c)] [.int (-14)] h _
    refine r_iret rfl ?_
    exact (L1 c1)
  · refine r_ic (x := (-17)) rfl rfl ?_
    refine r_iret rfl ?_
    show WR _ cd_102 228 [some (.ref (ad 9)), some (.int (nI A)), some (.int (nI dp)), some (.int (nI a)), some (.int 3), some (.int c)] [.int (-17)] h _
    refine r_iret rfl ?_
    exact (L2 c1)

set_option maxHeartbeats 2000000 in
theorem w_c12e3 {d : Nat} {Q : mQ} {n : Nat} {ad sa : Nat → Nat} {z0 : Nat} {h : mH} (fx : FX n ad sa z0 h) {A dp : Nat} (hA : A + 3 < 640) (f5 : hR h (ad 9) 5 = some (ad 1)) (f6 : hR h (ad 9) 6 = some (ad 7)) {a H x : Nat} {c : Int32} {v : Int32} (ha : a < n) (n6 : n ≤ 6) (tu1 : hR h (ad 7) a = some (ad (100 + 5 * a))) (tu2 : hT h (ad (100 + 5 * a)) = 8) (tu3 : hR h (ad (100 + 5 * a)) 5 = some (ad (101 + 5 * a))) (tu4 : hT h (ad (101 + 5 * a)) = 26) (tu5 : hN h (ad (101 + 5 * a)) = 5) (e9 : hI h (ad (100 + 5 * a)) 9 = v) (nv : ¬ v = 0) (eh : hI h (ad 13) 2 = nI H) (hH1 : 1 ≤ H) (hH : H ≤ 100) (r2 : hR h (ad 14) (H - 1) = some x) (tx : hT h x = 4) {kd : Nat} (kx : hI h x 0 = nI kd) (k7 : kd < 7) (rst : Rst sa h) (of_ : ofK kd 3 = true) (r3 : hR h (ad (101 + 5 * a)) 3 = none) (s0 : hI h (ad 10) A = 12) (s1 : hI h (ad 10) (A + 1) = nI a) (s2 : hI h (ad 10) (A + 2) = 3) (s3 : hI h (ad 10) (A + 3) = c) 
    (L1 : ¬ v = 0 → Q (some (.int 0)) (sR (sI h (ad 13) 2 (nI (H - 1))) (ad (101 + 5 * a)) 3 (some x)))
    (L2 : v = 0 → Q (some (.int (-17))) h) : EV (d + 3) 102 [.ref (ad 9), .int (nI A), .int (nI dp)] h Q := by
  have fx0 := fx
  refine in_102 (Nat.le_of_ble_eq_true rfl) ?_
  show WR _ cd_102 0 [some (.ref (ad 9)), some (.int (nI A)), some (.int (nI dp)), none, none, none] [] h _
  refine r_aload rfl rfl ?_
  refine r_getA (b := ad 10) rfl ⟨rfl, rfl, rfl⟩ (fx_t9 fx) (fx_r9_0 fx) ?_
  refine r_iload rfl rfl ?_
  refine r_ic (x := 1) rfl rfl ?_
  refine r_iadd rfl ?_
  refine WR_tI (y := nI (A + 1)) (Eq.trans (nI_add A 1) (congrArg nI (by omega))) ?_
  refine r_iaload rfl (.inl (fx_t10 fx)) (vp_ct (fx_n10 fx) (vp_in_nI (by omega) (by omega))) ?_
  refine WR_tI (congrArg (hI h (ad 10)) ((nI_clamp (by omega)) : _ = A + 1)) ?_
  refine WR_tI (y := nI a) s1 ?_
  refine r_istore (lv' := [some (.ref (ad 9)), some (.int (nI A)), some (.int (nI dp)), some (.int (nI a)), none, none]) rfl (Nat.le_of_ble_eq_true rfl) rfl ?_
  refine r_aload rfl rfl ?_
  refine r_getA (b := ad 10) rfl ⟨rfl, rfl, rfl⟩ (fx_t9 fx) (fx_r9_0 fx) ?_
  refine r_iload rfl rfl ?_
  refine r_ic (x := 2) rfl rfl ?_
  refine r_iadd rfl ?_
  refine WR_tI (y := nI (A + 2)) (Eq.trans (nI_add A 2) (congrArg nI (by omega))) ?_
  refine r_iaload rfl (.inl (fx_t10 fx)) (vp_ct (fx_n10 fx) (vp_in_nI (by omega) (by omega))) ?_
  refine WR_tI (congrArg (hI h (ad 10)) ((nI_clamp (by omega)) : _ = A + 2)) ?_
  refine WR_tI (y := 3) s2 ?_
  refine r_istore (lv' := [some (.ref (ad 9)), some (.int (nI A)), some (.int (nI dp)), some (.int (nI a)), some (.int 3), none]) rfl (Nat.le_of_ble_eq_true rfl) rfl ?_
  refine r_aload rfl rfl ?_
  refine r_getA (b := ad 10) rfl ⟨rfl, rfl, rfl⟩ (fx_t9 fx) (fx_r9_0 fx) ?_
  refine r_iload rfl rfl ?_
  refine r_ic (x := 3) rfl rfl ?_
  refine r_iadd rfl ?_
  refine WR_tI (y := nI (A + 3)) (Eq.trans (nI_add A 3) (congrArg nI (by omega))) ?_
  refine r_iaload rfl (.inl (fx_t10 fx)) (vp_ct (fx_n10 fx) (vp_in_nI (by omega) (by omega))) ?_
  refine WR_tI (congrArg (hI h (ad 10)) ((nI_clamp (by omega)) : _ = A + 3)) ?_
  refine WR_tI (y := c) s3 ?_
  refine r_istore (lv' := [some (.ref (ad 9)), some (.int (nI A)), some (.int (nI dp)), some (.int (nI a)), some (.int 3), some (.int c)]) rfl (Nat.le_of_ble_eq_true rfl) rfl ?_
  refine r_aload rfl rfl ?_
  refine r_getA (b := ad 10) rfl ⟨rfl, rfl, rfl⟩ (fx_t9 fx) (fx_r9_0 fx) ?_
  refine r_iload rfl rfl ?_
  refine r_iaload rfl (.inl (fx_t10 fx)) (vp_ct (fx_n10 fx) (vp_in_nI (by omega) (by omega))) ?_
  refine WR_tI (congrArg (hI h (ad 10)) ((nI_clamp (by omega)) : _ = A)) ?_
  refine WR_tI (y := 12) s0 ?_
  refine r_tswL (tg := 216) rfl (by decide) ?_
  refine r_aload rfl rfl ?_
  refine r_aload rfl rfl ?_
  refine r_getA (b := ad 7) rfl ⟨rfl, rfl, rfl⟩ (fx_t9 fx) f6 ?_
  refine r_iload rfl rfl ?_
  refine r_aaloadA (b := ad (100 + 5 * a)) rfl (isQ_of (fx_t7 fx) (by decide)) (vp_ct (fx_n7 fx) (vp_in_nI (by omega) (by omega))) (Eq.trans (congrArg (hR h (ad 7)) ((nI_clamp (by omega)) : _ = a)) tu1) ?_
  refine r_iload rfl rfl ?_
  refine r_cv (y := 114) (ra := [.int 3, .ref (ad (100 + 5 * a))]) (rest := []) rfl ⟨⟨rfl, rfl⟩, rfl, by decide⟩ (fx_t9 fx) rfl rfl (Nat.le_of_ble_eq_true rfl) ?_
  refine in_114 (Nat.le_of_ble_eq_true rfl) ?_
  show WR _ cd_114 0 [some (.ref (ad 9)), some (.ref (ad (100 + 5 * a))), some (.int 3), none, none, none] [] h _
  refine r_iload rfl rfl ?_
  refine r_ic (x := 2) rfl rfl ?_
  refine r_icmp_le (tg := 15) rfl rfl (fun q => absurd q (by decide)) (fun _ => ?_)
  refine r_aload rfl rfl ?_
  refine r_getI rfl ⟨rfl, rfl, rfl⟩ tu2 ?_
  refine WR_tI (y := v) e9 ?_
  refine r_if_ne (tg := 15) rfl rfl (fun c1 => ?_) (fun c1 => ?_)
  · refine r_aload rfl rfl ?_
    refine r_getA (b := ad 13) rfl ⟨rfl, rfl, rfl⟩ (fx_t9 fx) (fx_r9_3 fx) ?_
    refine r_cv (y := 106) (ra := []) (rest := []) rfl ⟨⟨rfl, rfl⟩, rfl, by decide⟩ (fx_t13 fx) rfl rfl (Nat.le_of_ble_eq_true rfl) ?_
    refine in_106 (Nat.le_of_ble_eq_true rfl) ?_
    show WR _ cd_106 0 [some (.ref (ad 13))] [] h _
    refine r_aload rfl rfl ?_
    refine r_getI rfl ⟨rfl, rfl, rfl⟩ (fx_t13 fx) ?_
    refine WR_tI (y := nI H) eh ?_
    refine r_if_le (tg := 21) rfl rfl (fun q => False.elim (by have : (nI H).toInt = ((H : Nat) : Int) := nI_toInt (by omega); have : (0 : Int32).toInt = 0 := rfl; have := i_le q; omega)) (fun _ => ?_)
    refine r_aload rfl rfl ?_
    refine r_getA (b := ad 14) rfl ⟨rfl, rfl, rfl⟩ (fx_t13 fx) (fx_r13_0 fx) ?_
    refine r_aload rfl rfl ?_
    refine r_getI rfl ⟨rfl, rfl, rfl⟩ (fx_t13 fx) ?_
    refine WR_tI (y := nI H) eh ?_
    refine r_ic (x := 1) rfl rfl ?_
    refine r_isub rfl ?_
    refine WR_tI (y := nI (H - 1)) (Eq.trans (pk_sub (a := H) (b := 1) (by omega)) (congrArg nI (by omega))) ?_
    refine r_aaloadA (b := x) rfl (isQ_of (fx_t14 fx) (by decide)) (vp_ct (fx_n14 fx) (vp_in_nI (by omega) (by omega))) (Eq.trans (congrArg (hR h (ad 14)) ((nI_clamp (by omega)) : _ = H - 1)) r2) ?_
    refine r_goto (tg := 22) rfl rfl ?_
    refine r_aret rfl ?_
    show WR _ cd_114 22 [some (.ref (ad 9)), some (.ref (ad (100 + 5 * a))), some (.int 3), none, none, none] [.ref x] h _
    refine r_astore (lv' := [some (.ref (ad 9)), some (.ref (ad (100 + 5 * a))), some (.int 3), some (.ref x), none, none]) rfl (Nat.le_of_ble_eq_true rfl) rfl ?_
    refine r_aload rfl rfl ?_
    refine r_ifnonnullA (tg := 30) rfl rfl ?_
    refine r_iload rfl rfl ?_
    refine r_ic (x := 3) rfl rfl ?_
    refine r_icmp_ne (tg := 39) rfl rfl (fun q => absurd q (by decide)) (fun _ => ?_)
    refine r_ic (x := 3) rfl rfl ?_
    refine r_goto (tg := 50) rfl rfl ?_
    refine r_istore (lv' := [some (.ref (ad 9)), some (.ref (ad (100 + 5 * a))), some (.int 3), some (.ref x), some (.int 3), none]) rfl (Nat.le_of_ble_eq_true rfl) rfl ?_
    refine r_aload rfl rfl ?_
    refine r_instY rfl (by decide) tx ?_
    refine r_if_eq (tg := 75) rfl rfl (fun q => absurd q (by decide)) (fun _ => ?_)
    refine r_aload rfl rfl ?_
    refine r_cast rfl tx ?_
    refine r_astore (lv' := [some (.ref (ad 9)), some (.ref (ad (100 + 5 * a))), some (.int 3), some (.ref x), some (.int 3), some (.ref x)]) rfl (Nat.le_of_ble_eq_true rfl) rfl ?_
    refine r_aload rfl rfl ?_
    refine r_iload rfl rfl ?_
    refine r_cv (y := 48) (ra := [.int 3]) (rest := []) rfl ⟨⟨rfl, rfl⟩, rfl, by decide⟩ tx rfl rfl (Nat.le_of_ble_eq_true rfl) ?_
    refine c_isOf (h := h) (kd := kd) (k := 3) fx rst tx kx k7 (by decide) ?_
    rw [if_pos of_]
    show WR _ cd_114 72 [some (.ref (ad 9)), some (.ref (ad (100 + 5 * a))), some (.int 3), some (.ref x), some (.int 3), some (.ref x)] [.int 1] h _
    refine r_if_ne (tg := 78) rfl rfl (fun _ => ?_) (fun q => absurd q (by decide))
    refine r_aload rfl rfl ?_
    refine r_getA (b := ad 13) rfl ⟨rfl, rfl, rfl⟩ (fx_t9 fx) (fx_r9_3 fx) ?_
    refine r_dup rfl rfl ?_
    refine r_getI rfl ⟨rfl, rfl, rfl⟩ (fx_t13 fx) ?_
    refine WR_tI (y := nI H) eh ?_
    refine r_ic (x := 1) rfl rfl ?_
    refine r_isub rfl ?_
    refine WR_tI (y := nI (H - 1)) (Eq.trans (pk_sub (a := H) (b := 1) (by omega)) (congrArg nI (by omega))) ?_
    refine r_putI rfl ⟨rfl, rfl, rfl⟩ (fx_t13 fx) ?_
    have fx : FX n ad sa z0 (sI h (ad 13) 2 (nI (H - 1))) := (FX.sI fx)
    refine r_aload rfl rfl ?_
    refine r_getA (b := ad (101 + 5 * a)) rfl ⟨rfl, rfl, rfl⟩ tu2 (Eq.trans R_oI tu3) ?_
    refine r_iload rfl rfl ?_
    refine r_aaload0 rfl (isQ_of tu4 (by decide)) (vp_ct tu5 (vp_in_nI (n := 3) (by omega) (by omega))) (Eq.trans R_oI r3) ?_
    refine r_ifnullN (tg := 115) rfl rfl ?_
    refine r_aload rfl rfl ?_
    refine r_getA (b := ad (101 + 5 * a)) rfl ⟨rfl, rfl, rfl⟩ tu2 (Eq.trans R_oI tu3) ?_
    refine r_iload rfl rfl ?_
    refine r_aload rfl rfl ?_
    refine r_aastoreA rfl (isQ_of tu4 (by decide)) (vp_ct tu5 (vp_in_nI (n := 3) (by omega) (by omega))) (okR_of tu4 tx (by decide)) ?_
    refine WR_h (h2 := sR (sI h (ad 13) 2 (nI (H - 1))) (ad (101 + 5 * a)) 3 (some x)) (congrArg (fun z => sR (sI h (ad 13) 2 (nI (H - 1))) (ad (101 + 5 * a)) z (some x)) (rfl : _ = 3)) ?_
    have fx : FX n ad sa z0 (sR (sI h (ad 13) 2 (nI (H - 1))) (ad (101 + 5 * a)) 3 (some x)) := FX.sRT fx (t := a) ha
    refine r_ic (x := 0) rfl rfl ?_
    refine r_iret rfl ?_
    show WR _ cd_102 228 [some (.ref (ad 9)), some (.int (nI A)), some (.int (nI dp)), some (.int (nI a)), some (.int 3), some (.int c)] [.int 0] (sR (sI h (ad 13) 2 (nI (H - 1))) (ad (101 + 5 * a)) 3 (some x)) _
    refine r_iret rfl ?_
    exact (L1 c1)
  · refine r_ic (x := (-17)) rfl rfl ?_
    refine r_iret rfl ?_
    show WR _ cd_102 228 [some (.ref (ad 9)), some (.int (nI A)), some (.int (nI dp)), some (.int (nI a)), some (.int 3), some (.int c)] [.int (-17)] h _
    refine r_iret rfl ?_
    exact (L2 c1)

set_option maxHeartbeats 2000000 in
theorem w_c12f3 {d : Nat} {Q : mQ} {n : Nat} {ad sa : Nat → Nat} {z0 : Nat} {h : mH} (fx : FX n ad sa z0 h) {A dp : Nat} (hA : A + 3 < 640) (f5 : hR h (ad 9) 5 = some (ad 1)) (f6 : hR h (ad 9) 6 = some (ad 7)) {a H x y : Nat} {c : Int32} {v : Int32} (ha : a < n) (n6 : n ≤ 6) (tu1 : hR h (ad 7) a = some (ad (100 + 5 * a))) (tu2 : hT h (ad (100 + 5 * a)) = 8) (tu3 : hR h (ad (100 + 5 * a)) 5 = some (ad (101 + 5 * a))) (tu4 : hT h (ad (101 + 5 * a)) = 26) (tu5 : hN h (ad (101 + 5 * a)) = 5) (e9 : hI h (ad (100 + 5 * a)) 9 = v) (nv : ¬ v = 0) (eh : hI h (ad 13) 2 = nI H) (hH1 : 1 ≤ H) (hH : H ≤ 100) (r2 : hR h (ad 14) (H - 1) = some x) (tx : hT h x = 4) {kd : Nat} (kx : hI h x 0 = nI kd) (k7 : kd < 7) (rst : Rst sa h) (of_ : ofK kd 3 = true) (ty : hT h y = 4) (r3 : hR h (ad (101 + 5 * a)) 3 = some y) (s0 : hI h (ad 10) A = 12) (s1 : hI h (ad 10) (A + 1) = nI a) (s2 : hI h (ad 10) (A + 2) = 3) (s3 : hI h (ad 10) (A + 3) = c) 
    (L1 : ¬ v = 0 → Q (some (.int 0)) (sR (sI (sI (sR (sI h (ad 13) 2 (nI (H - 1))) (ad 14) (H - 1) (some y)) (ad 15) (H - 1) 23) (ad 13) 2 (nI H)) (ad (101 + 5 * a)) 3 (some x)))
    (L2 : v = 0 → Q (some (.int (-17))) h) : EV (d + 3) 102 [.ref (ad 9), .int (nI A), .int (nI dp)] h Q := by
  have fx0 := fx
  refine in_102 (Nat.le_of_ble_eq_true rfl) ?_
  show WR _ cd_102 0 [some (.ref (ad 9)), some (.int (nI A)), some (.int (nI dp)), none, none, none] [] h _
  refine r_aload rfl rfl ?_
  refine r_getA (b := ad 10) rfl ⟨rfl, rfl, rfl⟩ (fx_t9 fx) (fx_r9_0 fx) ?_
  refine r_iload rfl rfl ?_
  refine r_ic (x := 1) rfl rfl ?_
  refine r_iadd rfl ?_
  refine WR_tI (y := nI (A + 1)) (Eq.trans (nI_add A 1) (congrArg nI (by omega))) ?_
  refine r_iaload rfl (.inl (fx_t10 fx)) (vp_ct (fx_n10 fx) (vp_in_nI (by omega) (by omega))) ?_
  refine WR_tI (congrArg (hI h (ad 10)) ((nI_clamp (by omega)) : _ = A + 1)) ?_
  refine WR_tI (y := nI a) s1 ?_
  refine r_istore (lv' := [some (.ref (ad 9)), some (.int (nI A)), some (.int (nI dp)), some (.int (nI a)), none, none]) rfl (Nat.le_of_ble_eq_true rfl) rfl ?_
  refine r_aload rfl rfl ?_
  refine r_getA (b := ad 10) rfl ⟨rfl, rfl, rfl⟩ (fx_t9 fx) (fx_r9_0 fx) ?_
  refine r_iload rfl rfl ?_
  refine r_ic (x := 2) rfl rfl ?_
  refine r_iadd rfl ?_
  refine WR_tI (y := nI (A + 2)) (Eq.trans (nI_add A 2) (congrArg nI (by omega))) ?_
  refine r_iaload rfl (.inl (fx_t10 fx)) (vp_ct (fx_n10 fx) (vp_in_nI (by omega) (by omega))) ?_
  refine WR_tI (congrArg (hI h (ad 10)) ((nI_clamp (by omega)) : _ = A + 2)) ?_
  refine WR_tI (y := 3) s2 ?_
  refine r_istore (lv' := [some (.ref (ad 9)), some (.int (nI A)), some (.int (nI dp)), some (.int (nI a)), some (.int 3), none]) rfl (Nat.le_of_ble_eq_true rfl) rfl ?_
  refine r_aload rfl rfl ?_
  refine r_getA (b := ad 10) rfl ⟨rfl, rfl, rfl⟩ (fx_t9 fx) (fx_r9_0 fx) ?_
  refine r_iload rfl rfl ?_
  refine r_ic (x := 3) rfl rfl ?_
  refine r_iadd rfl ?_
  refine WR_tI (y := nI (A + 3)) (Eq.trans (nI_add A 3) (congrArg nI (by omega))) ?_
  refine r_iaload rfl (.inl (fx_t10 fx)) (vp_ct (fx_n10 fx) (vp_in_nI (by omega) (by omega))) ?_
  refine WR_tI (congrArg (hI h (ad 10)) ((nI_clamp (by omega)) : _ = A + 3)) ?_
  refine WR_tI (y := c) s3 ?_
  refine r_istore (lv' := [some (.ref (ad 9)), some (.int (nI A)), some (.int (nI dp)), some (.int (nI a)), some (.int 3), some (.int c)]) rfl (Nat.le_of_ble_eq_true rfl) rfl ?_
  refine r_aload rfl rfl ?_
  refine r_getA (b := ad 10) rfl ⟨rfl, rfl, rfl⟩ (fx_t9 fx) (fx_r9_0 fx) ?_
  refine r_iload rfl rfl ?_
  refine r_iaload rfl (.inl (fx_t10 fx)) (vp_ct (fx_n10 fx) (vp_in_nI (by omega) (by omega))) ?_
  refine WR_tI (congrArg (hI h (ad 10)) ((nI_clamp (by omega)) : _ = A)) ?_
  refine WR_tI (y := 12) s0 ?_
  refine r_tswL (tg := 216) rfl (by decide) ?_
  refine r_aload rfl rfl ?_
  refine r_aload rfl rfl ?_
  refine r_getA (b := ad 7) rfl ⟨rfl, rfl, rfl⟩ (fx_t9 fx) f6 ?_
  refine r_iload rfl rfl ?_
  refine r_aaloadA (b := ad (100 + 5 * a)) rfl (isQ_of (fx_t7 fx) (by decide)) (vp_ct (fx_n7 fx) (vp_in_nI (by omega) (by omega))) (Eq.trans (congrArg (hR h (ad 7)) ((nI_clamp (by omega)) : _ = a)) tu1) ?_
  refine r_iload rfl rfl ?_
  refine r_cv (y := 114) (ra := [.int 3, .ref (ad (100 + 5 * a))]) (rest := []) rfl ⟨⟨rfl, rfl⟩, rfl, by decide⟩ (fx_t9 fx) rfl rfl (Nat.le_of_ble_eq_true rfl) ?_
  refine in_114 (Nat.le_of_ble_eq_true rfl) ?_
  show WR _ cd_114 0 [some (.ref (ad 9)), some (.ref (ad (100 + 5 * a))), some (.int 3), none, none, none] [] h _
  refine r_iload rfl rfl ?_
  refine r_ic (x := 2) rfl rfl ?_
  refine r_icmp_le (tg := 15) rfl rfl (fun q => absurd q (by decide)) (fun _ => ?_)
  refine r_aload rfl rfl ?_
  refine r_getI rfl ⟨rfl, rfl, rfl⟩ tu2 ?_
  refine WR_tI (y := v) e9 ?_
  refine r_if_ne (tg := 15) rfl rfl (fun c1 => ?_) (fun c1 => ?_)
  · refine r_aload rfl rfl ?_
    refine r_getA (b := ad 13) rfl ⟨rfl, rfl, rfl⟩ (fx_t9 fx) (fx_r9_3 fx) ?_
    refine r_cv (y := 106) (ra := []) (rest := []) rfl ⟨⟨rfl, rfl⟩, rfl, by decide⟩ (fx_t13 fx) rfl rfl (Nat.le_of_ble_eq_true rfl) ?_
    refine in_106 (Nat.le_of_ble_eq_true rfl) ?_
    show WR _ cd_106 0 [some (.ref (ad 13))] [] h _
    refine r_aload rfl rfl ?_
    refine r_getI rfl ⟨rfl, rfl, rfl⟩ (fx_t13 fx) ?_
    refine WR_tI (y := nI H) eh ?_
    refine r_if_le (tg := 21) rfl rfl (fun q => False.elim (by have : (nI H).toInt = ((H : Nat) : Int) := nI_toInt (by omega); have : (0 : Int32).toInt = 0 := rfl; have := i_le q; omega)) (fun _ => ?_)
    refine r_aload rfl rfl ?_
    refine r_getA (b := ad 14) rfl ⟨rfl, rfl, rfl⟩ (fx_t13 fx) (fx_r13_0 fx) ?_
    refine r_aload rfl rfl ?_
    refine r_getI rfl ⟨rfl, rfl, rfl⟩ (fx_t13 fx) ?_
    refine WR_tI (y := nI H) eh ?_
    refine r_ic (x := 1) rfl rfl ?_
    refine r_isub rfl ?_
    refine WR_tI (y := nI (H - 1)) (Eq.trans (pk_sub (a := H) (b := 1) (by omega)) (congrArg nI (by omega))) ?_
    refine r_aaloadA (b := x) rfl (isQ_of (fx_t14 fx) (by decide)) (vp_ct (fx_n14 fx) (vp_in_nI (by omega) (by omega))) (Eq.trans (congrArg (hR h (ad 14)) ((nI_clamp (by omega)) : _ = H - 1)) r2) ?_
    refine r_goto (tg := 22) rfl rfl ?_
    refine r_aret rfl ?_
    show WR _ cd_114 22 [some (.ref (ad 9)), some (.ref (ad (100 + 5 * a))), some (.int 3), none, none, none] [.ref x] h _
    refine r_astore (lv' := [some (.ref (ad 9)), some (.ref (ad (100 + 5 * a))), some (.int 3), some (.ref x), none, none]) rfl (Nat.le_of_ble_eq_true rfl) rfl ?_
    refine r_aload rfl rfl ?_
    refine r_ifnonnullA (tg := 30) rfl rfl ?_
    refine r_iload rfl rfl ?_
    refine r_ic (x := 3) rfl rfl ?_
    refine r_icmp_ne (tg := 39) rfl rfl (fun q => absurd q (by decide)) (fun _ => ?_)
    refine r_ic (x := 3) rfl rfl ?_
    refine r_goto (tg := 50) rfl rfl ?_
    refine r_istore (lv' := [some (.ref (ad 9)), some (.ref (ad (100 + 5 * a))), some (.int 3), some (.ref x), some (.int 3), none]) rfl (Nat.le_of_ble_eq_true rfl) rfl ?_
    refine r_aload rfl rfl ?_
    refine r_instY rfl (by decide) tx ?_
    refine r_if_eq (tg := 75) rfl rfl (fun q => absurd q (by decide)) (fun _ => ?_)
    refine r_aload rfl rfl ?_
    refine r_cast rfl tx ?_
    refine r_astore (lv' := [some (.ref (ad 9)), some (.ref (ad (100 + 5 * a))), some (.int 3), some (.ref x), some (.int 3), some (.ref x)]) rfl (Nat.le_of_ble_eq_true rfl) rfl ?_
    refine r_aload rfl rfl ?_
    refine r_iload rfl rfl ?_
    refine r_cv (y := 48) (ra := [.int 3]) (rest := []) rfl ⟨⟨rfl, rfl⟩, rfl, by decide⟩ tx rfl rfl (Nat.le_of_ble_eq_true rfl) ?_
    refine c_isOf (h := h) (kd := kd) (k := 3) fx rst tx kx k7 (by decide) ?_
    rw [if_pos of_]
    show WR _ cd_114 72 [some (.ref (ad 9)), some (.ref (ad (100 + 5 * a))), some (.int 3), some (.ref x), some (.int 3), some (.ref x)] [.int 1] h _
    refine r_if_ne (tg := 78) rfl rfl (fun _ => ?_) (fun q => absurd q (by decide))
    refine r_aload rfl rfl ?_
    refine r_getA (b := ad 13) rfl ⟨rfl, rfl, rfl⟩ (fx_t9 fx) (fx_r9_3 fx) ?_
    refine r_dup rfl rfl ?_
    refine r_getI rfl ⟨rfl, rfl, rfl⟩ (fx_t13 fx) ?_
    refine WR_tI (y := nI H) eh ?_
    refine r_ic (x := 1) rfl rfl ?_
    refine r_isub rfl ?_
    refine WR_tI (y := nI (H - 1)) (Eq.trans (pk_sub (a := H) (b := 1) (by omega)) (congrArg nI (by omega))) ?_
    refine r_putI rfl ⟨rfl, rfl, rfl⟩ (fx_t13 fx) ?_
    have fx : FX n ad sa z0 (sI h (ad 13) 2 (nI (H - 1))) := (FX.sI fx)
    refine r_aload rfl rfl ?_
    refine r_getA (b := ad (101 + 5 * a)) rfl ⟨rfl, rfl, rfl⟩ tu2 (Eq.trans R_oI tu3) ?_
    refine r_iload rfl rfl ?_
    refine r_aaloadA (b := y) rfl (isQ_of tu4 (by decide)) (vp_ct tu5 (vp_in_nI (n := 3) (by omega) (by omega))) (Eq.trans R_oI r3) ?_
    refine r_ifnullA (tg := 115) rfl rfl ?_
    refine r_aload rfl rfl ?_
    refine r_getA (b := ad 13) rfl ⟨rfl, rfl, rfl⟩ (fx_t9 fx) (fx_r9_3 fx) ?_
    refine r_aload rfl rfl ?_
    refine r_getA (b := ad (101 + 5 * a)) rfl ⟨rfl, rfl, rfl⟩ tu2 (Eq.trans R_oI tu3) ?_
    refine r_iload rfl rfl ?_
    refine r_aaloadA (b := y) rfl (isQ_of tu4 (by decide)) (vp_ct tu5 (vp_in_nI (n := 3) (by omega) (by omega))) (Eq.trans R_oI r3) ?_
    refine r_ic (x := 23) rfl rfl ?_
    refine r_cv (y := 104) (ra := [.int 23, .ref y]) (rest := []) rfl ⟨⟨rfl, rfl⟩, rfl, by decide⟩ (fx_t13 fx) rfl rfl (Nat.le_of_ble_eq_true rfl) ?_
    refine in_104 (Nat.le_of_ble_eq_true rfl) ?_
    show WR _ cd_104 0 [some (.ref (ad 13)), some (.ref y), some (.int 23)] [] (sI h (ad 13) 2 (nI (H - 1))) _
    refine r_aload rfl rfl ?_
    refine r_getI rfl ⟨rfl, rfl, rfl⟩ (fx_t13 fx) ?_
    refine WR_tI (y := nI (H - 1)) I_eq ?_
    refine r_aload rfl rfl ?_
    refine r_getA (b := ad 14) rfl ⟨rfl, rfl, rfl⟩ (fx_t13 fx) (fx_r13_0 fx) ?_
    refine r_alen rfl (isA_of (fx_t14 fx) (by decide)) ?_
    refine WR_tI (y := 100) (congrArg nI (fx_n14 fx)) ?_
    refine r_icmp_ge (tg := 42) rfl rfl (fun q => False.elim (by have : (nI (H - 1)).toInt = ((H - 1 : Nat) : Int) := nI_toInt (by omega); have : (100 : Int32).toInt = 100 := rfl; have := i_le q; omega)) (fun _ => ?_)
    refine r_aload rfl rfl ?_
    refine r_getA (b := ad 14) rfl ⟨rfl, rfl, rfl⟩ (fx_t13 fx) (fx_r13_0 fx) ?_
    refine r_aload rfl rfl ?_
    refine r_getI rfl ⟨rfl, rfl, rfl⟩ (fx_t13 fx) ?_
    refine WR_tI (y := nI (H - 1)) I_eq ?_
    refine r_aload rfl rfl ?_
    refine r_aastoreA rfl (isQ_of (fx_t14 fx) (by decide)) (vp_ct (fx_n14 fx) (vp_in_nI (by omega) (by omega))) (okR_of (fx_t14 fx) ty (by decide)) ?_
    refine WR_h (h2 := sR (sI h (ad 13) 2 (nI (H - 1))) (ad 14) (H - 1) (some y)) (congrArg (fun z => sR (sI h (ad 13) 2 (nI (H - 1))) (ad 14) z (some y)) ((nI_clamp (by omega)) : _ = H - 1)) ?_
    have fx : FX n ad sa z0 (sR (sI h (ad 13) 2 (nI (H - 1))) (ad 14) (H - 1) (some y)) := FX.sRA (i := 14) fx (.inl (by decide)) (by decide)
    refine r_aload rfl rfl ?_
    refine r_getA (b := ad 15) rfl ⟨rfl, rfl, rfl⟩ (fx_t13 fx) (fx_r13_1 fx) ?_
    refine r_aload rfl rfl ?_
    refine r_getI rfl ⟨rfl, rfl, rfl⟩ (fx_t13 fx) ?_
    refine WR_tI (y := nI (H - 1)) (Eq.trans I_oR I_eq) ?_
    refine r_iload rfl rfl ?_
    refine r_iastore rfl (fx_t15 fx) (vp_ct (fx_n15 fx) (vp_in_nI (by omega) (by omega))) ?_
    refine WR_h (h2 := sI (sR (sI h (ad 13) 2 (nI (H - 1))) (ad 14) (H - 1) (some y)) (ad 15) (H - 1) 23) (congrArg (fun z => sI (sR (sI h (ad 13) 2 (nI (H - 1))) (ad 14) (H - 1) (some y)) (ad 15) z 23) ((nI_clamp (by omega)) : _ = H - 1)) ?_
    have fx : FX n ad sa z0 (sI (sR (sI h (ad 13) 2 (nI (H - 1))) (ad 14) (H - 1) (some y)) (ad 15) (H - 1) 23) := (FX.sI fx)
    refine r_aload rfl rfl ?_
    refine r_dup rfl rfl ?_
    refine r_getI rfl ⟨rfl, rfl, rfl⟩ (fx_t13 fx) ?_
    refine WR_tI (y := nI (H - 1)) (Eq.trans (I_ne (fx_ne fx (by decide))) (Eq.trans I_oR I_eq)) ?_
    refine r_ic (x := 1) rfl rfl ?_
    refine r_iadd rfl ?_
    refine WR_tI (y := nI H) (Eq.trans (nI_add (H - 1) 1) (congrArg nI (by omega))) ?_
    refine r_putI rfl ⟨rfl, rfl, rfl⟩ (fx_t13 fx) ?_
    have fx : FX n ad sa z0 (sI (sI (sR (sI h (ad 13) 2 (nI (H - 1))) (ad 14) (H - 1) (some y)) (ad 15) (H - 1) 23) (ad 13) 2 (nI H)) := (FX.sI fx)
    refine r_vret rfl ?_
    show WR _ cd_114 115 [some (.ref (ad 9)), some (.ref (ad (100 + 5 * a))), some (.int 3), some (.ref x), some (.int 3), some (.ref x)] [] (sI (sI (sR (sI h (ad 13) 2 (nI (H - 1))) (ad 14) (H - 1) (some y)) (ad 15) (H - 1) 23) (ad 13) 2 (nI H)) _
    refine r_aload rfl rfl ?_
    refine r_getA (b := ad (101 + 5 * a)) rfl ⟨rfl, rfl, rfl⟩ tu2 (Eq.trans R_oI (Eq.trans R_oI (Eq.trans (R_ne (fx_ne fx (by omega))) (Eq.trans R_oI tu3)))) ?_
    refine r_iload rfl rfl ?_
    refine r_aload rfl rfl ?_
    refine r_aastoreA rfl (isQ_of tu4 (by decide)) (vp_ct tu5 (vp_in_nI (n := 3) (by omega) (by omega))) (okR_of tu4 tx (by decide)) ?_
    refine WR_h (h2 := sR (sI (sI (sR (sI h (ad 13) 2 (nI (H - 1))) (ad 14) (H - 1) (some y)) (ad 15) (H - 1) 23) (ad 13) 2 (nI H)) (ad (101 + 5 * a)) 3 (some x)) (congrArg (fun z => sR (sI (sI (sR (sI h (ad 13) 2 (nI (H - 1))) (ad 14) (H - 1) (some y)) (ad 15) (H - 1) 23) (ad 13) 2 (nI H)) (ad (101 + 5 * a)) z (some x)) (rfl : _ = 3)) ?_
    have fx : FX n ad sa z0 (sR (sI (sI (sR (sI h (ad 13) 2 (nI (H - 1))) (ad 14) (H - 1) (some y)) (ad 15) (H - 1) 23) (ad 13) 2 (nI H)) (ad (101 + 5 * a)) 3 (some x)) := FX.sRT fx (t := a) ha
    refine r_ic (x := 0) rfl rfl ?_
    refine r_iret rfl ?_
    show WR _ cd_102 228 [some (.ref (ad 9)), some (.int (nI A)), some (.int (nI dp)), some (.int (nI a)), some (.int 3), some (.int c)] [.int 0] (sR (sI (sI (sR (sI h (ad 13) 2 (nI (H - 1))) (ad 14) (H - 1) (some y)) (ad 15) (H - 1) 23) (ad 13) 2 (nI H)) (ad (101 + 5 * a)) 3 (some x)) _
    refine r_iret rfl ?_
    exact (L1 c1)
  · refine r_ic (x := (-17)) rfl rfl ?_
    refine r_iret rfl ?_
    show WR _ cd_102 228 [some (.ref (ad 9)), some (.int (nI A)), some (.int (nI dp)), some (.int (nI a)), some (.int 3), some (.int c)] [.int (-17)] h _
    refine r_iret rfl ?_
    exact (L2 c1)

set_option maxHeartbeats 2000000 in
theorem w_c13n3 {d : Nat} {Q : mQ} {n : Nat} {ad sa : Nat → Nat} {z0 : Nat} {h : mH} (fx : FX n ad sa z0 h) {A dp : Nat} (hA : A + 3 < 640) (f5 : hR h (ad 9) 5 = some (ad 1)) (f6 : hR h (ad 9) 6 = some (ad 7)) {a : Nat} {c : Int32} {v : Int32} (ha : a < n) (n6 : n ≤ 6) (tu1 : hR h (ad 7) a = some (ad (100 + 5 * a))) (tu2 : hT h (ad (100 + 5 * a)) = 8) (tu3 : hR h (ad (100 + 5 * a)) 5 = some (ad (101 + 5 * a))) (tu4 : hT h (ad (101 + 5 * a)) = 26) (tu5 : hN h (ad (101 + 5 * a)) = 5) (e9 : hI h (ad (100 + 5 * a)) 9 = v) (nv : ¬ v = 0) (r3 : hR h (ad (101 + 5 * a)) 3 = none) (s0 : hI h (ad 10) A = 13) (s1 : hI h (ad 10) (A + 1) = nI a) (s2 : hI h (ad 10) (A + 2) = 3) (s3 : hI h (ad 10) (A + 3) = c) 
    (L1 : ¬ v = 0 → Q (some (.int (-11))) h)
    (L2 : v = 0 → Q (some (.int (-17))) h) : EV (d + 2) 102 [.ref (ad 9), .int (nI A), .int (nI dp)] h Q := by
  have fx0 := fx
  refine in_102 (Nat.le_of_ble_eq_true rfl) ?_
  show WR _ cd_102 0 [some (.ref (ad 9)), some (.int (nI A)), some (.int (nI dp)), none, none, none] [] h _
  refine r_aload rfl rfl ?_
  refine r_getA (b := ad 10) rfl ⟨rfl, rfl, rfl⟩ (fx_t9 fx) (fx_r9_0 fx) ?_
  refine r_iload rfl rfl ?_
  refine r_ic (x := 1) rfl rfl ?_
  refine r_iadd rfl ?_
  refine WR_tI (y := nI (A + 1)) (Eq.trans (nI_add A 1) (congrArg nI (by omega))) ?_
  refine r_iaload rfl (.inl (fx_t10 fx)) (vp_ct (fx_n10 fx) (vp_in_nI (by omega) (by omega))) ?_
  refine WR_tI (congrArg (hI h (ad 10)) ((nI_clamp (by omega)) : _ = A + 1)) ?_
  refine WR_tI (y := nI a) s1 ?_
  refine r_istore (lv' := [some (.ref (ad 9)), some (.int (nI A)), some (.int (nI dp)), some (.int (nI a)), none, none]) rfl (Nat.le_of_ble_eq_true rfl) rfl ?_
  refine r_aload rfl rfl ?_
  refine r_getA (b := ad 10) rfl ⟨rfl, rfl, rfl⟩ (fx_t9 fx) (fx_r9_0 fx) ?_
  refine r_iload rfl rfl ?_
  refine r_ic (x := 2) rfl rfl ?_
  refine r_iadd rfl ?_
  refine WR_tI (y := nI (A + 2)) (Eq.trans (nI_add A 2) (congrArg nI (by omega))) ?_
  refine r_iaload rfl (.inl (fx_t10 fx)) (vp_ct (fx_n10 fx) (vp_in_nI (by omega) (by omega))) ?_
  refine WR_tI (congrArg (hI h (ad 10)) ((nI_clamp (by omega)) : _ = A + 2)) ?_
  refine WR_tI (y := 3) s2 ?_
  refine r_istore (lv' := [some (.ref (ad 9)), some (.int (nI A)), some (.int (nI dp)), some (.int (nI a)), some (.int 3), none]) rfl (Nat.le_of_ble_eq_true rfl) rfl ?_
  refine r_aload rfl rfl ?_
  refine r_getA (b := ad 10) rfl ⟨rfl, rfl, rfl⟩ (fx_t9 fx) (fx_r9_0 fx) ?_
  refine r_iload rfl rfl ?_
  refine r_ic (x := 3) rfl rfl ?_
  refine r_iadd rfl ?_
  refine WR_tI (y := nI (A + 3)) (Eq.trans (nI_add A 3) (congrArg nI (by omega))) ?_
  refine r_iaload rfl (.inl (fx_t10 fx)) (vp_ct (fx_n10 fx) (vp_in_nI (by omega) (by omega))) ?_
  refine WR_tI (congrArg (hI h (ad 10)) ((nI_clamp (by omega)) : _ = A + 3)) ?_
  refine WR_tI (y := c) s3 ?_
  refine r_istore (lv' := [some (.ref (ad 9)), some (.int (nI A)), some (.int (nI dp)), some (.int (nI a)), some (.int 3), some (.int c)]) rfl (Nat.le_of_ble_eq_true rfl) rfl ?_
  refine r_aload rfl rfl ?_
  refine r_getA (b := ad 10) rfl ⟨rfl, rfl, rfl⟩ (fx_t9 fx) (fx_r9_0 fx) ?_
  refine r_iload rfl rfl ?_
  refine r_iaload rfl (.inl (fx_t10 fx)) (vp_ct (fx_n10 fx) (vp_in_nI (by omega) (by omega))) ?_
  refine WR_tI (congrArg (hI h (ad 10)) ((nI_clamp (by omega)) : _ = A)) ?_
  refine WR_tI (y := 13) s0 ?_
  refine r_tswL (tg := 229) rfl (by decide) ?_
  refine r_aload rfl rfl ?_
  refine r_aload rfl rfl ?_
  refine r_getA (b := ad 7) rfl ⟨rfl, rfl, rfl⟩ (fx_t9 fx) f6 ?_
  refine r_iload rfl rfl ?_
  refine r_aaloadA (b := ad (100 + 5 * a)) rfl (isQ_of (fx_t7 fx) (by decide)) (vp_ct (fx_n7 fx) (vp_in_nI (by omega) (by omega))) (Eq.trans (congrArg (hR h (ad 7)) ((nI_clamp (by omega)) : _ = a)) tu1) ?_
  refine r_iload rfl rfl ?_
  refine r_cv (y := 115) (ra := [.int 3, .ref (ad (100 + 5 * a))]) (rest := []) rfl ⟨⟨rfl, rfl⟩, rfl, by decide⟩ (fx_t9 fx) rfl rfl (Nat.le_of_ble_eq_true rfl) ?_
  refine in_115 (Nat.le_of_ble_eq_true rfl) ?_
  show WR _ cd_115 0 [some (.ref (ad 9)), some (.ref (ad (100 + 5 * a))), some (.int 3)] [] h _
  refine r_iload rfl rfl ?_
  refine r_ic (x := 2) rfl rfl ?_
  refine r_icmp_le (tg := 15) rfl rfl (fun q => absurd q (by decide)) (fun _ => ?_)
  refine r_aload rfl rfl ?_
  refine r_getI rfl ⟨rfl, rfl, rfl⟩ tu2 ?_
  refine WR_tI (y := v) e9 ?_
  refine r_if_ne (tg := 15) rfl rfl (fun c1 => ?_) (fun c1 => ?_)
  · refine r_aload rfl rfl ?_
    refine r_getA (b := ad (101 + 5 * a)) rfl ⟨rfl, rfl, rfl⟩ tu2 tu3 ?_
    refine r_iload rfl rfl ?_
    refine r_aaload0 rfl (isQ_of tu4 (by decide)) (vp_ct tu5 (vp_in_nI (n := 3) (by omega) (by omega))) r3 ?_
    refine r_ifnonnullN (tg := 27) rfl rfl ?_
    refine r_ic (x := (-11)) rfl rfl ?_
    refine r_iret rfl ?_
    show WR _ cd_102 241 [some (.ref (ad 9)), some (.int (nI A)), some (.int (nI dp)), some (.int (nI a)), some (.int 3), some (.int c)] [.int (-11)] h _
    refine r_iret rfl ?_
    exact (L1 c1)
  · refine r_ic (x := (-17)) rfl rfl ?_
    refine r_iret rfl ?_
    show WR _ cd_102 241 [some (.ref (ad 9)), some (.int (nI A)), some (.int (nI dp)), some (.int (nI a)), some (.int 3), some (.int c)] [.int (-17)] h _
    refine r_iret rfl ?_
    exact (L2 c1)

set_option maxHeartbeats 2000000 in
theorem w_c13s3 {d : Nat} {Q : mQ} {n : Nat} {ad sa : Nat → Nat} {z0 : Nat} {h : mH} (fx : FX n ad sa z0 h) {A dp : Nat} (hA : A + 3 < 640) (f5 : hR h (ad 9) 5 = some (ad 1)) (f6 : hR h (ad 9) 6 = some (ad 7)) {a H y : Nat} {c : Int32} {v : Int32} (ha : a < n) (n6 : n ≤ 6) (tu1 : hR h (ad 7) a = some (ad (100 + 5 * a))) (tu2 : hT h (ad (100 + 5 * a)) = 8) (tu3 : hR h (ad (100 + 5 * a)) 5 = some (ad (101 + 5 * a))) (tu4 : hT h (ad (101 + 5 * a)) = 26) (tu5 : hN h (ad (101 + 5 * a)) = 5) (e9 : hI h (ad (100 + 5 * a)) 9 = v) (nv : ¬ v = 0) (eh : hI h (ad 13) 2 = nI H) (hH : H < 100) (ty : hT h y = 4) (r3 : hR h (ad (101 + 5 * a)) 3 = some y) (s0 : hI h (ad 10) A = 13) (s1 : hI h (ad 10) (A + 1) = nI a) (s2 : hI h (ad 10) (A + 2) = 3) (s3 : hI h (ad 10) (A + 3) = c) 
    (L1 : ¬ v = 0 → Q (some (.int 0)) (sR (sI (sI (sR h (ad 14) H (some y)) (ad 15) H 23) (ad 13) 2 (nI (H + 1))) (ad (101 + 5 * a)) 3 none))
    (L2 : v = 0 → Q (some (.int (-17))) h) : EV (d + 3) 102 [.ref (ad 9), .int (nI A), .int (nI dp)] h Q := by
  have fx0 := fx
  refine in_102 (Nat.le_of_ble_eq_true rfl) ?_
  show WR _ cd_102 0 [some (.ref (ad 9)), some (.int (nI A)), some (.int (nI dp)), none, none, none] [] h _
  refine r_aload rfl rfl ?_
  refine r_getA (b := ad 10) rfl ⟨rfl, rfl, rfl⟩ (fx_t9 fx) (fx_r9_0 fx) ?_
  refine r_iload rfl rfl ?_
  refine r_ic (x := 1) rfl rfl ?_
  refine r_iadd rfl ?_
  refine WR_tI (y := nI (A + 1)) (Eq.trans (nI_add A 1) (congrArg nI (by omega))) ?_
  refine r_iaload rfl (.inl (fx_t10 fx)) (vp_ct (fx_n10 fx) (vp_in_nI (by omega) (by omega))) ?_
  refine WR_tI (congrArg (hI h (ad 10)) ((nI_clamp (by omega)) : _ = A + 1)) ?_
  refine WR_tI (y := nI a) s1 ?_
  refine r_istore (lv' := [some (.ref (ad 9)), some (.int (nI A)), some (.int (nI dp)), some (.int (nI a)), none, none]) rfl (Nat.le_of_ble_eq_true rfl) rfl ?_
  refine r_aload rfl rfl ?_
  refine r_getA (b := ad 10) rfl ⟨rfl, rfl, rfl⟩ (fx_t9 fx) (fx_r9_0 fx) ?_
  refine r_iload rfl rfl ?_
  refine r_ic (x := 2) rfl rfl ?_
  refine r_iadd rfl ?_
  refine WR_tI (y := nI (A + 2)) (Eq.trans (nI_add A 2) (congrArg nI (by omega))) ?_
  refine r_iaload rfl (.inl (fx_t10 fx)) (vp_ct (fx_n10 fx) (vp_in_nI (by omega) (by omega))) ?_
  refine WR_tI (congrArg (hI h (ad 10)) ((nI_clamp (by omega)) : _ = A + 2)) ?_
  refine WR_tI (y := 3) s2 ?_
  refine r_istore (lv' := [some (.ref (ad 9)), some (.int (nI A)), some (.int (nI dp)), some (.int (nI a)), some (.int 3), none]) rfl (Nat.le_of_ble_eq_true rfl) rfl ?_
  refine r_aload rfl rfl ?_
  refine r_getA (b := ad 10) rfl ⟨rfl, rfl, rfl⟩ (fx_t9 fx) (fx_r9_0 fx) ?_
  refine r_iload rfl rfl ?_
  refine r_ic (x := 3) rfl rfl ?_
  refine r_iadd rfl ?_
  refine WR_tI (y := nI (A + 3)) (Eq.trans (nI_add A 3) (congrArg nI (by omega))) ?_
  refine r_iaload rfl (.inl (fx_t10 fx)) (vp_ct (fx_n10 fx) (vp_in_nI (by omega) (by omega))) ?_
  refine WR_tI (congrArg (hI h (ad 10)) ((nI_clamp (by omega)) : _ = A + 3)) ?_
  refine WR_tI (y := c) s3 ?_
  refine r_istore (lv' := [some (.ref (ad 9)), some (.int (nI A)), some (.int (nI dp)), some (.int (nI a)), some (.int 3), some (.int c)]) rfl (Nat.le_of_ble_eq_true rfl) rfl ?_
  refine r_aload rfl rfl ?_
  refine r_getA (b := ad 10) rfl ⟨rfl, rfl, rfl⟩ (fx_t9 fx) (fx_r9_0 fx) ?_
  refine r_iload rfl rfl ?_
  refine r_iaload rfl (.inl (fx_t10 fx)) (vp_ct (fx_n10 fx) (vp_in_nI (by omega) (by omega))) ?_
  refine WR_tI (congrArg (hI h (ad 10)) ((nI_clamp (by omega)) : _ = A)) ?_
  refine WR_tI (y := 13) s0 ?_
  refine r_tswL (tg := 229) rfl (by decide) ?_
  refine r_aload rfl rfl ?_
  refine r_aload rfl rfl ?_
  refine r_getA (b := ad 7) rfl ⟨rfl, rfl, rfl⟩ (fx_t9 fx) f6 ?_
  refine r_iload rfl rfl ?_
  refine r_aaloadA (b := ad (100 + 5 * a)) rfl (isQ_of (fx_t7 fx) (by decide)) (vp_ct (fx_n7 fx) (vp_in_nI (by omega) (by omega))) (Eq.trans (congrArg (hR h (ad 7)) ((nI_clamp (by omega)) : _ = a)) tu1) ?_
  refine r_iload rfl rfl ?_
  refine r_cv (y := 115) (ra := [.int 3, .ref (ad (100 + 5 * a))]) (rest := []) rfl ⟨⟨rfl, rfl⟩, rfl, by decide⟩ (fx_t9 fx) rfl rfl (Nat.le_of_ble_eq_true rfl) ?_
  refine in_115 (Nat.le_of_ble_eq_true rfl) ?_
  show WR _ cd_115 0 [some (.ref (ad 9)), some (.ref (ad (100 + 5 * a))), some (.int 3)] [] h _
  refine r_iload rfl rfl ?_
  refine r_ic (x := 2) rfl rfl ?_
  refine r_icmp_le (tg := 15) rfl rfl (fun q => absurd q (by decide)) (fun _ => ?_)
  refine r_aload rfl rfl ?_
  refine r_getI rfl ⟨rfl, rfl, rfl⟩ tu2 ?_
  refine WR_tI (y := v) e9 ?_
  refine r_if_ne (tg := 15) rfl rfl (fun c1 => ?_) (fun c1 => ?_)
  · refine r_aload rfl rfl ?_
    refine r_getA (b := ad (101 + 5 * a)) rfl ⟨rfl, rfl, rfl⟩ tu2 tu3 ?_
    refine r_iload rfl rfl ?_
    refine r_aaloadA (b := y) rfl (isQ_of tu4 (by decide)) (vp_ct tu5 (vp_in_nI (n := 3) (by omega) (by omega))) r3 ?_
    refine r_ifnonnullA (tg := 27) rfl rfl ?_
    refine r_aload rfl rfl ?_
    refine r_getA (b := ad 13) rfl ⟨rfl, rfl, rfl⟩ (fx_t9 fx) (fx_r9_3 fx) ?_
    refine r_aload rfl rfl ?_
    refine r_getA (b := ad (101 + 5 * a)) rfl ⟨rfl, rfl, rfl⟩ tu2 tu3 ?_
    refine r_iload rfl rfl ?_
    refine r_aaloadA (b := y) rfl (isQ_of tu4 (by decide)) (vp_ct tu5 (vp_in_nI (n := 3) (by omega) (by omega))) r3 ?_
    refine r_ic (x := 23) rfl rfl ?_
    refine r_cv (y := 104) (ra := [.int 23, .ref y]) (rest := []) rfl ⟨⟨rfl, rfl⟩, rfl, by decide⟩ (fx_t13 fx) rfl rfl (Nat.le_of_ble_eq_true rfl) ?_
    refine in_104 (Nat.le_of_ble_eq_true rfl) ?_
    show WR _ cd_104 0 [some (.ref (ad 13)), some (.ref y), some (.int 23)] [] h _
    refine r_aload rfl rfl ?_
    refine r_getI rfl ⟨rfl, rfl, rfl⟩ (fx_t13 fx) ?_
    refine WR_tI (y := nI H) eh ?_
    refine r_aload rfl rfl ?_
    refine r_getA (b := ad 14) rfl ⟨rfl, rfl, rfl⟩ (fx_t13 fx) (fx_r13_0 fx) ?_
    refine r_alen rfl (isA_of (fx_t14 fx) (by decide)) ?_
    refine WR_tI (y := 100) (congrArg nI (fx_n14 fx)) ?_
    refine r_icmp_ge (tg := 42) rfl rfl (fun q => False.elim (by have : (nI H).toInt = ((H : Nat) : Int) := nI_toInt (by omega); have : (100 : Int32).toInt = 100 := rfl; have := i_le q; omega)) (fun _ => ?_)
    refine r_aload rfl rfl ?_
    refine r_getA (b := ad 14) rfl ⟨rfl, rfl, rfl⟩ (fx_t13 fx) (fx_r13_0 fx) ?_
    refine r_aload rfl rfl ?_
    refine r_getI rfl ⟨rfl, rfl, rfl⟩ (fx_t13 fx) ?_
    refine WR_tI (y := nI H) eh ?_
    refine r_aload rfl rfl ?_
    refine r_aastoreA rfl (isQ_of (fx_t14 fx) (by decide)) (vp_ct (fx_n14 fx) (vp_in_nI (by omega) (by omega))) (okR_of (fx_t14 fx) ty (by decide)) ?_
    refine WR_h (h2 := sR h (ad 14) H (some y)) (congrArg (fun z => sR h (ad 14) z (some y)) ((nI_clamp (by omega)) : _ = H)) ?_
    have fx : FX n ad sa z0 (sR h (ad 14) H (some y)) := FX.sRA (i := 14) fx (.inl (by decide)) (by decide)
    refine r_aload rfl rfl ?_
    refine r_getA (b := ad 15) rfl ⟨rfl, rfl, rfl⟩ (fx_t13 fx) (fx_r13_1 fx) ?_
    refine r_aload rfl rfl ?_
    refine r_getI rfl ⟨rfl, rfl, rfl⟩ (fx_t13 fx) ?_
    refine WR_tI (y := nI H) (Eq.trans I_oR eh) ?_
    refine r_iload rfl rfl ?_
    refine r_iastore rfl (fx_t15 fx) (vp_ct (fx_n15 fx) (vp_in_nI (by omega) (by omega))) ?_
    refine WR_h (h2 := sI (sR h (ad 14) H (some y)) (ad 15) H 23) (congrArg (fun z => sI (sR h (ad 14) H (some y)) (ad 15) z 23) ((nI_clamp (by omega)) : _ = H)) ?_
    have fx : FX n ad sa z0 (sI (sR h (ad 14) H (some y)) (ad 15) H 23) := (FX.sI fx)
    refine r_aload rfl rfl ?_
    refine r_dup rfl rfl ?_
    refine r_getI rfl ⟨rfl, rfl, rfl⟩ (fx_t13 fx) ?_
    refine WR_tI (y := nI H) (Eq.trans (I_ne (fx_ne fx (by decide))) (Eq.trans I_oR eh)) ?_
    refine r_ic (x := 1) rfl rfl ?_
    refine r_iadd rfl ?_
    refine WR_tI (y := nI (H + 1)) (Eq.trans (nI_add H 1) (congrArg nI (by omega))) ?_
    refine r_putI rfl ⟨rfl, rfl, rfl⟩ (fx_t13 fx) ?_
    have fx : FX n ad sa z0 (sI (sI (sR h (ad 14) H (some y)) (ad 15) H 23) (ad 13) 2 (nI (H + 1))) := (FX.sI fx)
    refine r_vret rfl ?_
    show WR _ cd_115 42 [some (.ref (ad 9)), some (.ref (ad (100 + 5 * a))), some (.int 3)] [] (sI (sI (sR h (ad 14) H (some y)) (ad 15) H 23) (ad 13) 2 (nI (H + 1))) _
    refine r_aload rfl rfl ?_
    refine r_getA (b := ad (101 + 5 * a)) rfl ⟨rfl, rfl, rfl⟩ tu2 (Eq.trans R_oI (Eq.trans R_oI (Eq.trans (R_ne (fx_ne fx (by omega))) tu3))) ?_
    refine r_iload rfl rfl ?_
    refine r_null rfl ?_
    refine r_aastore0 rfl (isQ_of tu4 (by decide)) (vp_ct tu5 (vp_in_nI (n := 3) (by omega) (by omega))) (fun _ q => by cases q) ?_
    refine WR_h (h2 := sR (sI (sI (sR h (ad 14) H (some y)) (ad 15) H 23) (ad 13) 2 (nI (H + 1))) (ad (101 + 5 * a)) 3 none) (congrArg (fun z => sR (sI (sI (sR h (ad 14) H (some y)) (ad 15) H 23) (ad 13) 2 (nI (H + 1))) (ad (101 + 5 * a)) z none) (rfl : _ = 3)) ?_
    have fx : FX n ad sa z0 (sR (sI (sI (sR h (ad 14) H (some y)) (ad 15) H 23) (ad 13) 2 (nI (H + 1))) (ad (101 + 5 * a)) 3 none) := FX.sRT fx (t := a) ha
    refine r_ic (x := 0) rfl rfl ?_
    refine r_iret rfl ?_
    show WR _ cd_102 241 [some (.ref (ad 9)), some (.int (nI A)), some (.int (nI dp)), some (.int (nI a)), some (.int 3), some (.int c)] [.int 0] (sR (sI (sI (sR h (ad 14) H (some y)) (ad 15) H 23) (ad 13) 2 (nI (H + 1))) (ad (101 + 5 * a)) 3 none) _
    refine r_iret rfl ?_
    exact (L1 c1)
  · refine r_ic (x := (-17)) rfl rfl ?_
    refine r_iret rfl ?_
    show WR _ cd_102 241 [some (.ref (ad 9)), some (.int (nI A)), some (.int (nI dp)), some (.int (nI a)), some (.int 3), some (.int c)] [.int (-17)] h _
    refine r_iret rfl ?_
    exact (L2 c1)

set_option maxHeartbeats 2000000 in
theorem w_c12h4 {d : Nat} {Q : mQ} {n : Nat} {ad sa : Nat → Nat} {z0 : Nat} {h : mH} (fx : FX n ad sa z0 h) {A dp : Nat} (hA : A + 3 < 640) (f5 : hR h (ad 9) 5 = some (ad 1)) (f6 : hR h (ad 9) 6 = some (ad 7)) {a : Nat} {c : Int32} (ha : a < n) (n6 : n ≤ 6) (tu1 : hR h (ad 7) a = some (ad (100 + 5 * a))) (tu2 : hT h (ad (100 + 5 * a)) = 8) (tu3 : hR h (ad (100 + 5 * a)) 5 = some (ad (101 + 5 * a))) (tu4 : hT h (ad (101 + 5 * a)) = 26) (tu5 : hN h (ad (101 + 5 * a)) = 5) (e9 : hI h (ad (100 + 5 * a)) 9 = 0) (s0 : hI h (ad 10) A = 12) (s1 : hI h (ad 10) (A + 1) = nI a) (s2 : hI h (ad 10) (A + 2) = 4) (s3 : hI h (ad 10) (A + 3) = c) 
    (L1 : Q (some (.int (-17))) h) : EV (d + 2) 102 [.ref (ad 9), .int (nI A), .int (nI dp)] h Q := by
  have fx0 := fx
  refine in_102 (Nat.le_of_ble_eq_true rfl) ?_
  show WR _ cd_102 0 [some (.ref (ad 9)), some (.int (nI A)), some (.int (nI dp)), none, none, none] [] h _
  refine r_aload rfl rfl ?_
  refine r_getA (b := ad 10) rfl ⟨rfl, rfl, rfl⟩ (fx_t9 fx) (fx_r9_0 fx) ?_
  refine r_iload rfl rfl ?_
  refine r_ic (x := 1) rfl rfl ?_
  refine r_iadd rfl ?_
  refine WR_tI (y := nI (A + 1)) (Eq.trans (nI_add A 1) (congrArg nI (by omega))) ?_
  refine r_iaload rfl (.inl (fx_t10 fx)) (vp_ct (fx_n10 fx) (vp_in_nI (by omega) (by omega))) ?_
  refine WR_tI (congrArg (hI h (ad 10)) ((nI_clamp (by omega)) : _ = A + 1)) ?_
  refine WR_tI (y := nI a) s1 ?_
  refine r_istore (lv' := [some (.ref (ad 9)), some (.int (nI A)), some (.int (nI dp)), some (.int (nI a)), none, none]) rfl (Nat.le_of_ble_eq_true rfl) rfl ?_
  refine r_aload rfl rfl ?_
  refine r_getA (b := ad 10) rfl ⟨rfl, rfl, rfl⟩ (fx_t9 fx) (fx_r9_0 fx) ?_
  refine r_iload rfl rfl ?_
  refine r_ic (x := 2) rfl rfl ?_
  refine r_iadd rfl ?_
  refine WR_tI (y := nI (A + 2)) (Eq.trans (nI_add A 2) (congrArg nI (by omega))) ?_
  refine r_iaload rfl (.inl (fx_t10 fx)) (vp_ct (fx_n10 fx) (vp_in_nI (by omega) (by omega))) ?_
  refine WR_tI (congrArg (hI h (ad 10)) ((nI_clamp (by omega)) : _ = A + 2)) ?_
  refine WR_tI (y := 4) s2 ?_
  refine r_istore (lv' := [some (.ref (ad 9)), some (.int (nI A)), some (.int (nI dp)), some (.int (nI a)), some (.int 4), none]) rfl (Nat.le_of_ble_eq_true rfl) rfl ?_
  refine r_aload rfl rfl ?_
  refine r_getA (b := ad 10) rfl ⟨rfl, rfl, rfl⟩ (fx_t9 fx) (fx_r9_0 fx) ?_
  refine r_iload rfl rfl ?_
  refine r_ic (x := 3) rfl rfl ?_
  refine r_iadd rfl ?_
  refine WR_tI (y := nI (A + 3)) (Eq.trans (nI_add A 3) (congrArg nI (by omega))) ?_
  refine r_iaload rfl (.inl (fx_t10 fx)) (vp_ct (fx_n10 fx) (vp_in_nI (by omega) (by omega))) ?_
  refine WR_tI (congrArg (hI h (ad 10)) ((nI_clamp (by omega)) : _ = A + 3)) ?_
  refine WR_tI (y := c) s3 ?_
  refine r_istore (lv' := [some (.ref (ad 9)), some (.int (nI A)), some (.int (nI dp)), some (.int (nI a)), some (.int 4), some (.int c)]) rfl (Nat.le_of_ble_eq_true rfl) rfl ?_
  refine r_aload rfl rfl ?_
  refine r_getA (b := ad 10) rfl ⟨rfl, rfl, rfl⟩ (fx_t9 fx) (fx_r9_0 fx) ?_
  refine r_iload rfl rfl ?_
  refine r_iaload rfl (.inl (fx_t10 fx)) (vp_ct (fx_n10 fx) (vp_in_nI (by omega) (by omega))) ?_
  refine WR_tI (congrArg (hI h (ad 10)) ((nI_clamp (by omega)) : _ = A)) ?_
  refine WR_tI (y := 12) s0 ?_
  refine r_tswL (tg := 216) rfl (by decide) ?_
  refine r_aload rfl rfl ?_
  refine r_aload rfl rfl ?_
  refine r_getA (b := ad 7) rfl ⟨rfl, rfl, rfl⟩ (fx_t9 fx) f6 ?_
  refine r_iload rfl rfl ?_
  refine r_aaloadA (b := ad (100 + 5 * a)) rfl (isQ_of (fx_t7 fx) (by decide)) (vp_ct (fx_n7 fx) (vp_in_nI (by omega) (by omega))) (Eq.trans (congrArg (hR h (ad 7)) ((nI_clamp (by omega)) : _ = a)) tu1) ?_
  refine r_iload rfl rfl ?_
  refine r_cv (y := 114) (ra := [.int 4, .ref (ad (100 + 5 * a))]) (rest := []) rfl ⟨⟨rfl, rfl⟩, rfl, by decide⟩ (fx_t9 fx) rfl rfl (Nat.le_of_ble_eq_true rfl) ?_
  refine in_114 (Nat.le_of_ble_eq_true rfl) ?_
  show WR _ cd_114 0 [some (.ref (ad 9)), some (.ref (ad (100 + 5 * a))), some (.int 4), none, none, none] [] h _
  refine r_iload rfl rfl ?_
  refine r_ic (x := 2) rfl rfl ?_
  refine r_icmp_le (tg := 15) rfl rfl (fun q => absurd q (by decide)) (fun _ => ?_)
  refine r_aload rfl rfl ?_
  refine r_getI rfl ⟨rfl, rfl, rfl⟩ tu2 ?_
  refine WR_tI (y := 0) e9 ?_
  refine r_if_ne (tg := 15) rfl rfl (fun q => absurd q (by decide)) (fun _ => ?_)
  refine r_ic (x := (-17)) rfl rfl ?_
  refine r_iret rfl ?_
  show WR _ cd_102 228 [some (.ref (ad 9)), some (.int (nI A)), some (.int (nI dp)), some (.int (nI a)), some (.int 4), some (.int c)] [.int (-17)] h _
  refine r_iret rfl ?_
  exact (L1)

set_option maxHeartbeats 2000000 in
theorem w_c13h4 {d : Nat} {Q : mQ} {n : Nat} {ad sa : Nat → Nat} {z0 : Nat} {h : mH} (fx : FX n ad sa z0 h) {A dp : Nat} (hA : A + 3 < 640) (f5 : hR h (ad 9) 5 = some (ad 1)) (f6 : hR h (ad 9) 6 = some (ad 7)) {a : Nat} {c : Int32} (ha : a < n) (n6 : n ≤ 6) (tu1 : hR h (ad 7) a = some (ad (100 + 5 * a))) (tu2 : hT h (ad (100 + 5 * a)) = 8) (tu3 : hR h (ad (100 + 5 * a)) 5 = some (ad (101 + 5 * a))) (tu4 : hT h (ad (101 + 5 * a)) = 26) (tu5 : hN h (ad (101 + 5 * a)) = 5) (e9 : hI h (ad (100 + 5 * a)) 9 = 0) (s0 : hI h (ad 10) A = 13) (s1 : hI h (ad 10) (A + 1) = nI a) (s2 : hI h (ad 10) (A + 2) = 4) (s3 : hI h (ad 10) (A + 3) = c) 
    (L1 : Q (some (.int (-17))) h) : EV (d + 2) 102 [.ref (ad 9), .int (nI A), .int (nI dp)] h Q := by
  have fx0 := fx
  refine in_102 (Nat.le_of_ble_eq_true rfl) ?_
  show WR _ cd_102 0 [some (.ref (ad 9)), some (.int (nI A)), some (.int (nI dp)), none, none, none] [] h _
  refine r_aload rfl rfl ?_
  refine r_getA (b := ad 10) rfl ⟨rfl, rfl, rfl⟩ (fx_t9 fx) (fx_r9_0 fx) ?_
  refine r_iload rfl rfl ?_
  refine r_ic (x := 1) rfl rfl ?_
  refine r_iadd rfl ?_
  refine WR_tI (y := nI (A + 1)) (Eq.trans (nI_add A 1) (congrArg nI (by omega))) ?_
  refine r_iaload rfl (.inl (fx_t10 fx)) (vp_ct (fx_n10 fx) (vp_in_nI (by omega) (by omega))) ?_
  refine WR_tI (congrArg (hI h (ad 10)) ((nI_clamp (by omega)) : _ = A + 1)) ?_
  refine WR_tI (y := nI a) s1 ?_
  refine r_istore (lv' := [some (.ref (ad 9)), some (.int (nI A)), some (.int (nI dp)), some (.int (nI a)), none, none]) rfl (Nat.le_of_ble_eq_true rfl) rfl ?_
  refine r_aload rfl rfl ?_
  refine r_getA (b := ad 10) rfl ⟨rfl, rfl, rfl⟩ (fx_t9 fx) (fx_r9_0 fx) ?_
  refine r_iload rfl rfl ?_
  refine r_ic (x := 2) rfl rfl ?_
  refine r_iadd rfl ?_
  refine WR_tI (y := nI (A + 2)) (Eq.trans (nI_add A 2) (congrArg nI (by omega))) ?_
  refine r_iaload rfl (.inl (fx_t10 fx)) (vp_ct (fx_n10 fx) (vp_in_nI (by omega) (by omega))) ?_
  refine WR_tI (congrArg (hI h (ad 10)) ((nI_clamp (by omega)) : _ = A + 2)) ?_
  refine WR_tI (y := 4) s2 ?_
  refine r_istore (lv' := [some (.ref (ad 9)), some (.int (nI A)), some (.int (nI dp)), some (.int (nI a)), some (.int 4), none]) rfl (Nat.le_of_ble_eq_true rfl) rfl ?_
  refine r_aload rfl rfl ?_
  refine r_getA (b := ad 10) rfl ⟨rfl, rfl, rfl⟩ (fx_t9 fx) (fx_r9_0 fx) ?_
  refine r_iload rfl rfl ?_
  refine r_ic (x := 3) rfl rfl ?_
  refine r_iadd rfl ?_
  refine WR_tI (y := nI (A + 3)) (Eq.trans (nI_add A 3) (congrArg nI (by omega))) ?_
  refine r_iaload rfl (.inl (fx_t10 fx)) (vp_ct (fx_n10 fx) (vp_in_nI (by omega) (by omega))) ?_
  refine WR_tI (congrArg (hI h (ad 10)) ((nI_clamp (by omega)) : _ = A + 3)) ?_
  refine WR_tI (y := c) s3 ?_
  refine r_istore (lv' := [some (.ref (ad 9)), some (.int (nI A)), some (.int (nI dp)), some (.int (nI a)), some (.int 4), some (.int c)]) rfl (Nat.le_of_ble_eq_true rfl) rfl ?_
  refine r_aload rfl rfl ?_
  refine r_getA (b := ad 10) rfl ⟨rfl, rfl, rfl⟩ (fx_t9 fx) (fx_r9_0 fx) ?_
  refine r_iload rfl rfl ?_
  refine r_iaload rfl (.inl (fx_t10 fx)) (vp_ct (fx_n10 fx) (vp_in_nI (by omega) (by omega))) ?_
  refine WR_tI (congrArg (hI h (ad 10)) ((nI_clamp (by omega)) : _ = A)) ?_
  refine WR_tI (y := 13) s0 ?_
  refine r_tswL (tg := 229) rfl (by decide) ?_
  refine r_aload rfl rfl ?_
  refine r_aload rfl rfl ?_
  refine r_getA (b := ad 7) rfl ⟨rfl, rfl, rfl⟩ (fx_t9 fx) f6 ?_
  refine r_iload rfl rfl ?_
  refine r_aaloadA (b := ad (100 + 5 * a)) rfl (isQ_of (fx_t7 fx) (by decide)) (vp_ct (fx_n7 fx) (vp_in_nI (by omega) (by omega))) (Eq.trans (congrArg (hR h (ad 7)) ((nI_clamp (by omega)) : _ = a)) tu1) ?_
  refine r_iload rfl rfl ?_
  refine r_cv (y := 115) (ra := [.int 4, .ref (ad (100 + 5 * a))]) (rest := []) rfl ⟨⟨rfl, rfl⟩, rfl, by decide⟩ (fx_t9 fx) rfl rfl (Nat.le_of_ble_eq_true rfl) ?_
  refine in_115 (Nat.le_of_ble_eq_true rfl) ?_
  show WR _ cd_115 0 [some (.ref (ad 9)), some (.ref (ad (100 + 5 * a))), some (.int 4)] [] h _
  refine r_iload rfl rfl ?_
  refine r_ic (x := 2) rfl rfl ?_
  refine r_icmp_le (tg := 15) rfl rfl (fun q => absurd q (by decide)) (fun _ => ?_)
  refine r_aload rfl rfl ?_
  refine r_getI rfl ⟨rfl, rfl, rfl⟩ tu2 ?_
  refine WR_tI (y := 0) e9 ?_
  refine r_if_ne (tg := 15) rfl rfl (fun q => absurd q (by decide)) (fun _ => ?_)
  refine r_ic (x := (-17)) rfl rfl ?_
  refine r_iret rfl ?_
  show WR _ cd_102 241 [some (.ref (ad 9)), some (.int (nI A)), some (.int (nI dp)), some (.int (nI a)), some (.int 4), some (.int c)] [.int (-17)] h _
  refine r_iret rfl ?_
  exact (L1)

set_option maxHeartbeats 2000000 in
theorem w_c12z4 {d : Nat} {Q : mQ} {n : Nat} {ad sa : Nat → Nat} {z0 : Nat} {h : mH} (fx : FX n ad sa z0 h) {A dp : Nat} (hA : A + 3 < 640) (f5 : hR h (ad 9) 5 = some (ad 1)) (f6 : hR h (ad 9) 6 = some (ad 7)) {a : Nat} {c : Int32} {v : Int32} (ha : a < n) (n6 : n ≤ 6) (tu1 : hR h (ad 7) a = some (ad (100 + 5 * a))) (tu2 : hT h (ad (100 + 5 * a)) = 8) (tu3 : hR h (ad (100 + 5 * a)) 5 = some (ad (101 + 5 * a))) (tu4 : hT h (ad (101 + 5 * a)) = 26) (tu5 : hN h (ad (101 + 5 * a)) = 5) (e9 : hI h (ad (100 + 5 * a)) 9 = v) (nv : ¬ v = 0) (eh : hI h (ad 13) 2 = 0) (s0 : hI h (ad 10) A = 12) (s1 : hI h (ad 10) (A + 1) = nI a) (s2 : hI h (ad 10) (A + 2) = 4) (s3 : hI h (ad 10) (A + 3) = c) 
    (L1 : ¬ v = 0 → Q (some (.int (-11))) h)
    (L2 : v = 0 → Q (some (.int (-17))) h) : EV (d + 3) 102 [.ref (ad 9), .int (nI A), .int (nI dp)] h Q := by
  have fx0 := fx
  refine in_102 (Nat.le_of_ble_eq_true rfl) ?_
  show WR _ cd_102 0 [some (.ref (ad 9)), some (.int (nI A)), some (.int (nI dp)), none, none, none] [] h _
  refine r_aload rfl rfl ?_
  refine r_getA (b := ad 10) rfl ⟨rfl, rfl, rfl⟩ (fx_t9 fx) (fx_r9_0 fx) ?_
  refine r_iload rfl rfl ?_
  refine r_ic (x := 1) rfl rfl ?_
  refine r_iadd rfl ?_
  refine WR_tI (y := nI (A + 1)) (Eq.trans (nI_add A 1) (congrArg nI (by omega))) ?_
  refine r_iaload rfl (.inl (fx_t10 fx)) (vp_ct (fx_n10 fx) (vp_in_nI (by omega) (by omega))) ?_
  refine WR_tI (congrArg (hI h (ad 10)) ((nI_clamp (by omega)) : _ = A + 1)) ?_
  refine WR_tI (y := nI a) s1 ?_
  refine r_istore (lv' := [some (.ref (ad 9)), some (.int (nI A)), some (.int (nI dp)), some (.int (nI a)), none, none]) rfl (Nat.le_of_ble_eq_true rfl) rfl ?_
  refine r_aload rfl rfl ?_
  refine r_getA (b := ad 10) rfl ⟨rfl, rfl, rfl⟩ (fx_t9 fx) (fx_r9_0 fx) ?_
  refine r_iload rfl rfl ?_
  refine r_ic (x := 2) rfl rfl ?_
  refine r_iadd rfl ?_
  refine WR_tI (y := nI (A + 2)) (Eq.trans (nI_add A 2) (congrArg nI (by omega))) ?_
  refine r_iaload rfl (.inl (fx_t10 fx)) (vp_ct (fx_n10 fx) (vp_in_nI (by omega) (by omega))) ?_
  refine WR_tI (congrArg (hI h (ad 10)) ((nI_clamp (by omega)) : _ = A + 2)) ?_
  refine WR_tI (y := 4) s2 ?_
  refine r_istore (lv' := [some (.ref (ad 9)), some (.int (nI A)), some (.int (nI dp)), some (.int (nI a)), some (.int 4), none]) rfl (Nat.le_of_ble_eq_true rfl) rfl ?_
  refine r_aload rfl rfl ?_
  refine r_getA (b := ad 10) rfl ⟨rfl, rfl, rfl⟩ (fx_t9 fx) (fx_r9_0 fx) ?_
  refine r_iload rfl rfl ?_
  refine r_ic (x := 3) rfl rfl ?_
  refine r_iadd rfl ?_
  refine WR_tI (y := nI (A + 3)) (Eq.trans (nI_add A 3) (congrArg nI (by omega))) ?_
  refine r_iaload rfl (.inl (fx_t10 fx)) (vp_ct (fx_n10 fx) (vp_in_nI (by omega) (by omega))) ?_
  refine WR_tI (congrArg (hI h (ad 10)) ((nI_clamp (by omega)) : _ = A + 3)) ?_
  refine WR_tI (y := c) s3 ?_
  refine r_istore (lv' := [some (.ref (ad 9)), some (.int (nI A)), some (.int (nI dp)), some (.int (nI a)), some (.int 4), some (.int c)]) rfl (Nat.le_of_ble_eq_true rfl) rfl ?_
  refine r_aload rfl rfl ?_
  refine r_getA (b := ad 10) rfl ⟨rfl, rfl, rfl⟩ (fx_t9 fx) (fx_r9_0 fx) ?_
  refine r_iload rfl rfl ?_
  refine r_iaload rfl (.inl (fx_t10 fx)) (vp_ct (fx_n10 fx) (vp_in_nI (by omega) (by omega))) ?_
  refine WR_tI (congrArg (hI h (ad 10)) ((nI_clamp (by omega)) : _ = A)) ?_
  refine WR_tI (y := 12) s0 ?_
  refine r_tswL (tg := 216) rfl (by decide) ?_
  refine r_aload rfl rfl ?_
  refine r_aload rfl rfl ?_
  refine r_getA (b := ad 7) rfl ⟨rfl, rfl, rfl⟩ (fx_t9 fx) f6 ?_
  refine r_iload rfl rfl ?_
  refine r_aaloadA (b := ad (100 + 5 * a)) rfl (isQ_of (fx_t7 fx) (by decide)) (vp_ct (fx_n7 fx) (vp_in_nI (by omega) (by omega))) (Eq.trans (congrArg (hR h (ad 7)) ((nI_clamp (by omega)) : _ = a)) tu1) ?_
  refine r_iload rfl rfl ?_
  refine r_cv (y := 114) (ra := [.int 4, .ref (ad (100 + 5 * a))]) (rest := []) rfl ⟨⟨rfl, rfl⟩, rfl, by decide⟩ (fx_t9 fx) rfl rfl (Nat.le_of_ble_eq_true rfl) ?_
  refine in_114 (Nat.le_of_ble_eq_true rfl) ?_
  show WR _ cd_114 0 [some (.ref (ad 9)), some (.ref (ad (100 + 5 * a))), some (.int 4), none, none, none] [] h _
  refine r_iload rfl rfl ?_
  refine r_ic (x := 2) rfl rfl ?_
  refine r_icmp_le (tg := 15) rfl rfl (fun q => absurd q (by decide)) (fun _ => ?_)
  refine r_aload rfl rfl ?_
  refine r_getI rfl ⟨rfl, rfl, rfl⟩ tu2 ?_
  refine WR_tI (y := v) e9 ?_
  refine r_if_ne (tg := 15) rfl rfl (fun c1 => ?_) (fun c1 => ?_)
  · refine r_aload rfl rfl ?_
    refine r_getA (b := ad 13) rfl ⟨rfl, rfl, rfl⟩ (fx_t9 fx) (fx_r9_3 fx) ?_
    refine r_cv (y := 106) (ra := []) (rest := []) rfl ⟨⟨rfl, rfl⟩, rfl, by decide⟩ (fx_t13 fx) rfl rfl (Nat.le_of_ble_eq_true rfl) ?_
    refine in_106 (Nat.le_of_ble_eq_true rfl) ?_
    show WR _ cd_106 0 [some (.ref (ad 13))] [] h _
    refine r_aload rfl rfl ?_
    refine r_getI rfl ⟨rfl, rfl, rfl⟩ (fx_t13 fx) ?_
    refine WR_tI (y := 0) eh ?_
    refine r_if_le (tg := 21) rfl rfl (fun _ => ?_) (fun q => absurd q (by decide))
    refine r_null rfl ?_
    refine r_aret0 rfl ?_
    show WR _ cd_114 22 [some (.ref (ad 9)), some (.ref (ad (100 + 5 * a))), some (.int 4), none, none, none] [.null] h _
    refine r_astore0 (lv' := [some (.ref (ad 9)), some (.ref (ad (100 + 5 * a))), some (.int 4), some (.null), none, none]) rfl (Nat.le_of_ble_eq_true rfl) rfl ?_
    refine r_aload0 rfl rfl ?_
    refine r_ifnonnullN (tg := 30) rfl rfl ?_
    refine r_ic (x := (-11)) rfl rfl ?_
    refine r_iret rfl ?_
    show WR _ cd_102 228 [some (.ref (ad 9)), some (.int (nI A)), some (.int (nI dp)), some (.int (nI a)), some (.int 4), some (.int c)] [.int (-11)] h _
    refine r_iret rfl ?_
    exact (L1 c1)
  · refine r_ic (x := (-17)) rfl rfl ?_
    refine r_iret rfl ?_
    show WR _ cd_102 228 [some (.ref (ad 9)), some (.int (nI A)), some (.int (nI dp)), some (.int (nI a)), some (.int 4), some (.int c)] [.int (-17)] h _
    refine r_iret rfl ?_
    exact (L2 c1)

set_option maxHeartbeats 2000000 in
theorem w_c12t54 {d : Nat} {Q : mQ} {n : Nat} {ad sa : Nat → Nat} {z0 : Nat} {h : mH} (fx : FX n ad sa z0 h) {A dp : Nat} (hA : A + 3 < 640) (f5 : hR h (ad 9) 5 = some (ad 1)) (f6 : hR h (ad 9) 6 = some (ad 7)) {a H x : Nat} {c : Int32} {v : Int32} (ha : a < n) (n6 : n ≤ 6) (tu1 : hR h (ad 7) a = some (ad (100 + 5 * a))) (tu2 : hT h (ad (100 + 5 * a)) = 8) (tu3 : hR h (ad (100 + 5 * a)) 5 = some (ad (101 + 5 * a))) (tu4 : hT h (ad (101 + 5 * a)) = 26) (tu5 : hN h (ad (101 + 5 * a)) = 5) (e9 : hI h (ad (100 + 5 * a)) 9 = v) (nv : ¬ v = 0) (eh : hI h (ad 13) 2 = nI H) (hH1 : 1 ≤ H) (hH : H ≤ 100) (r2 : hR h (ad 14) (H - 1) = some x) (tx : hT h x = 5) (s0 : hI h (ad 10) A = 12) (s1 : hI h (ad 10) (A + 1) = nI a) (s2 : hI h (ad 10) (A + 2) = 4) (s3 : hI h (ad 10) (A + 3) = c) 
    (L1 : ¬ v = 0 → Q (some (.int (-14))) h)
    (L2 : v = 0 → Q (some (.int (-17))) h) : EV (d + 3) 102 [.ref (ad 9), .int (nI A), .int (nI dp)] h Q := by
  have fx0 := fx
  refine in_102 (Nat.le_of_ble_eq_true rfl) ?_
  show WR _ cd_102 0 [some (.ref (ad 9)), some (.int (nI A)), some (.int (nI dp)), none, none, none] [] h _
  refine r_aload rfl rfl ?_
  refine r_getA (b := ad 10) rfl ⟨rfl, rfl, rfl⟩ (fx_t9 fx) (fx_r9_0 fx) ?_
  refine r_iload rfl rfl ?_
  refine r_ic (x := 1) rfl rfl ?_
  refine r_iadd rfl ?_
  refine WR_tI (y := nI (A + 1)) (Eq.trans (nI_add A 1) (congrArg nI (by omega))) ?_
  refine r_iaload rfl (.inl (fx_t10 fx)) (vp_ct (fx_n10 fx) (vp_in_nI (by omega) (by omega))) ?_
  refine WR_tI (congrArg (hI h (ad 10)) ((nI_clamp (by omega)) : _ = A + 1)) ?_
  refine WR_tI (y := nI a) s1 ?_
  refine r_istore (lv' := [some (.ref (ad 9)), some (.int (nI A)), some (.int (nI dp)), some (.int (nI a)), none, none]) rfl (Nat.le_of_ble_eq_true rfl) rfl ?_
  refine r_aload rfl rfl ?_
  refine r_getA (b := ad 10) rfl ⟨rfl, rfl, rfl⟩ (fx_t9 fx) (fx_r9_0 fx) ?_
  refine r_iload rfl rfl ?_
  refine r_ic (x := 2) rfl rfl ?_
  refine r_iadd rfl ?_
  refine WR_tI (y := nI (A + 2)) (Eq.trans (nI_add A 2) (congrArg nI (by omega))) ?_
  refine r_iaload rfl (.inl (fx_t10 fx)) (vp_ct (fx_n10 fx) (vp_in_nI (by omega) (by omega))) ?_
  refine WR_tI (congrArg (hI h (ad 10)) ((nI_clamp (by omega)) : _ = A + 2)) ?_
  refine WR_tI (y := 4) s2 ?_
  refine r_istore (lv' := [some (.ref (ad 9)), some (.int (nI A)), some (.int (nI dp)), some (.int (nI a)), some (.int 4), none]) rfl (Nat.le_of_ble_eq_true rfl) rfl ?_
  refine r_aload rfl rfl ?_
  refine r_getA (b := ad 10) rfl ⟨rfl, rfl, rfl⟩ (fx_t9 fx) (fx_r9_0 fx) ?_
  refine r_iload rfl rfl ?_
  refine r_ic (x := 3) rfl rfl ?_
  refine r_iadd rfl ?_
  refine WR_tI (y := nI (A + 3)) (Eq.trans (nI_add A 3) (congrArg nI (by omega))) ?_
  refine r_iaload rfl (.inl (fx_t10 fx)) (vp_ct (fx_n10 fx) (vp_in_nI (by omega) (by omega))) ?_
  refine WR_tI (congrArg (hI h (ad 10)) ((nI_clamp (by omega)) : _ = A + 3)) ?_
  refine WR_tI (y := c) s3 ?_
  refine r_istore (lv' := [some (.ref (ad 9)), some (.int (nI A)), some (.int (nI dp)), some (.int (nI a)), some (.int 4), some (.int c)]) rfl (Nat.le_of_ble_eq_true rfl) rfl ?_
  refine r_aload rfl rfl ?_
  refine r_getA (b := ad 10) rfl ⟨rfl, rfl, rfl⟩ (fx_t9 fx) (fx_r9_0 fx) ?_
  refine r_iload rfl rfl ?_
  refine r_iaload rfl (.inl (fx_t10 fx)) (vp_ct (fx_n10 fx) (vp_in_nI (by omega) (by omega))) ?_
  refine WR_tI (congrArg (hI h (ad 10)) ((nI_clamp (by omega)) : _ = A)) ?_
  refine WR_tI (y := 12) s0 ?_
  refine r_tswL (tg := 216) rfl (by decide) ?_
  refine r_aload rfl rfl ?_
  refine r_aload rfl rfl ?_
  refine r_getA (b := ad 7) rfl ⟨rfl, rfl, rfl⟩ (fx_t9 fx) f6 ?_
  refine r_iload rfl rfl ?_
  refine r_aaloadA (b := ad (100 + 5 * a)) rfl (isQ_of (fx_t7 fx) (by decide)) (vp_ct (fx_n7 fx) (vp_in_nI (by omega) (by omega))) (Eq.trans (congrArg (hR h (ad 7)) ((nI_clamp (by omega)) : _ = a)) tu1) ?_
  refine r_iload rfl rfl ?_
  refine r_cv (y := 114) (ra := [.int 4, .ref (ad (100 + 5 * a))]) (rest := []) rfl ⟨⟨rfl, rfl⟩, rfl, by decide⟩ (fx_t9 fx) rfl rfl (Nat.le_of_ble_eq_true rfl) ?_
  refine in_114 (Nat.le_of_ble_eq_true rfl) ?_
  show WR _ cd_114 0 [some (.ref (ad 9)), some (.ref (ad (100 + 5 * a))), some (.int 4), none, none, none] [] h _
  refine r_iload rfl rfl ?_
  refine r_ic (x := 2) rfl rfl ?_
  refine r_icmp_le (tg := 15) rfl rfl (fun q => absurd q (by decide)) (fun _ => ?_)
  refine r_aload rfl rfl ?_
  refine r_getI rfl ⟨rfl, rfl, rfl⟩ tu2 ?_
  refine WR_tI (y := v) e9 ?_
  refine r_if_ne (tg := 15) rfl rfl (fun c1 => ?_) (fun c1 => ?_)
  · refine r_aload rfl rfl ?_
    refine r_getA (b := ad 13) rfl ⟨rfl, rfl, rfl⟩ (fx_t9 fx) (fx_r9_3 fx) ?_
    refine r_cv (y := 106) (ra := []) (rest := []) rfl ⟨⟨rfl, rfl⟩, rfl, by decide⟩ (fx_t13 fx) rfl rfl (Nat.le_of_ble_eq_true rfl) ?_
    refine in_106 (Nat.le_of_ble_eq_true rfl) ?_
    show WR _ cd_106 0 [some (.ref (ad 13))] [] h _
    refine r_aload rfl rfl ?_
    refine r_getI rfl ⟨rfl, rfl, rfl⟩ (fx_t13 fx) ?_
    refine WR_tI (y := nI H) eh ?_
    refine r_if_le (tg := 21) rfl rfl (fun q => False.elim (by have : (nI H).toInt = ((H : Nat) : Int) := nI_toInt (by omega); have : (0 : Int32).toInt = 0 := rfl; have := i_le q; omega)) (fun _ => ?_)
    refine r_aload rfl rfl ?_
    refine r_getA (b := ad 14) rfl ⟨rfl, rfl, rfl⟩ (fx_t13 fx) (fx_r13_0 fx) ?_
    refine r_aload rfl rfl ?_
    refine r_getI rfl ⟨rfl, rfl, rfl⟩ (fx_t13 fx) ?_
    refine WR_tI (y := nI H) eh ?_
    refine r_ic (x := 1) rfl rfl ?_
    refine r_isub rfl ?_
    refine WR_tI (y := nI (H - 1)) (Eq.trans (pk_sub (a := H) (b := 1) (by omega)) (congrArg nI (by omega))) ?_
    refine r_aaloadA (b := x) rfl (isQ_of (fx_t14 fx) (by decide)) (vp_ct (fx_n14 fx) (vp_in_nI (by omega) (by omega))) (Eq.trans (congrArg (hR h (ad 14)) ((nI_clamp (by omega)) : _ = H - 1)) r2) ?_
    refine r_goto (tg := 22) rfl rfl ?_
    refine r_aret rfl ?_
    show WR _ cd_114 22 [some (.ref (ad 9)), some (.ref (ad (100 + 5 * a))), some (.int 4), none, none, none] [.ref x] h _
    refine r_astore (lv' := [some (.ref (ad 9)), some (.ref (ad (100 + 5 * a))), some (.int 4), some (.ref x), none, none]) rfl (Nat.le_of_ble_eq_true rfl) rfl ?_
    refine r_aload rfl rfl ?_
    refine r_ifnonnullA (tg := 30) rfl rfl ?_
    refine r_iload rfl rfl ?_
    refine r_ic (x := 3) rfl rfl ?_
    refine r_icmp_ne (tg := 39) rfl rfl (fun _ => ?_) (fun q => absurd q (by decide))
    refine r_iload rfl rfl ?_
    refine r_ic (x := 4) rfl rfl ?_
    refine r_icmp_ne (tg := 48) rfl rfl (fun q => absurd q (by decide)) (fun _ => ?_)
    refine r_ic (x := 5) rfl rfl ?_
    refine r_goto (tg := 50) rfl rfl ?_
    refine r_istore (lv' := [some (.ref (ad 9)), some (.ref (ad (100 + 5 * a))), some (.int 4), some (.ref x), some (.int 5), none]) rfl (Nat.le_of_ble_eq_true rfl) rfl ?_
    refine r_aload rfl rfl ?_
    refine r_instW rfl (by decide) tx (by decide) ?_
    refine r_if_eq (tg := 75) rfl rfl (fun _ => ?_) (fun q => absurd q (by decide))
    refine r_ic (x := (-14)) rfl rfl ?_
    refine r_iret rfl ?_
    show WR _ cd_102 228 [some (.ref (ad 9)), some (.int (nI A)), some (.int (nI dp)), some (.int (nI a)), some (.int 4), some (.int c)] [.int (-14)] h _
    refine r_iret rfl ?_
    exact (L1 c1)
  · refine r_ic (x := (-17)) rfl rfl ?_
    refine r_iret rfl ?_
    show WR _ cd_102 228 [some (.ref (ad 9)), some (.int (nI A)), some (.int (nI dp)), some (.int (nI a)), some (.int 4), some (.int c)] [.int (-17)] h _
    refine r_iret rfl ?_
    exact (L2 c1)

set_option maxHeartbeats 2000000 in
theorem w_c12t64 {d : Nat} {Q : mQ} {n : Nat} {ad sa : Nat → Nat} {z0 : Nat} {h : mH} (fx : FX n ad sa z0 h) {A dp : Nat} (hA : A + 3 < 640) (f5 : hR h (ad 9) 5 = some (ad 1)) (f6 : hR h (ad 9) 6 = some (ad 7)) {a H x : Nat} {c : Int32} {v : Int32} (ha : a < n) (n6 : n ≤ 6) (tu1 : hR h (ad 7) a = some (ad (100 + 5 * a))) (tu2 : hT h (ad (100 + 5 * a)) = 8) (tu3 : hR h (ad (100 + 5 * a)) 5 = some (ad (101 + 5 * a))) (tu4 : hT h (ad (101 + 5 * a)) = 26) (tu5 : hN h (ad (101 + 5 * a)) = 5) (e9 : hI h (ad (100 + 5 * a)) 9 = v) (nv : ¬ v = 0) (eh : hI h (ad 13) 2 = nI H) (hH1 : 1 ≤ H) (hH : H ≤ 100) (r2 : hR h (ad 14) (H - 1) = some x) (tx : hT h x = 6) (s0 : hI h (ad 10) A = 12) (s1 : hI h (ad 10) (A + 1) = nI a) (s2 : hI h (ad 10) (A + 2) = 4) (s3 : hI h (ad 10) (A + 3) = c) 
    (L1 : ¬ v = 0 → Q (some (.int (-14))) h)
    (L2 : v = 0 → Q (some (.int (-17))) h) : EV (d + 3) 102 [.ref (ad 9), .int (nI A), .int (nI dp)] h Q := by
  have fx0 := fx
  refine in_102 (Nat.le_of_ble_eq_true rfl) ?_
  show WR _ cd_102 0 [some (.ref (ad 9)), some (.int (nI A)), some (.int (nI dp)), none, none, none] [] h _
  refine r_aload rfl rfl ?_
  refine r_getA (b := ad 10) rfl ⟨rfl, rfl, rfl⟩ (fx_t9 fx) (fx_r9_0 fx) ?_
  refine r_iload rfl rfl ?_
  refine r_ic (x := 1) rfl rfl ?_
  refine r_iadd rfl ?_
  refine WR_tI (y := nI (A + 1)) (Eq.trans (nI_add A 1) (congrArg nI (by omega))) ?_
  refine r_iaload rfl (.inl (fx_t10 fx)) (vp_ct (fx_n10 fx) (vp_in_nI (by omega) (by omega))) ?_
  refine WR_tI (congrArg (hI h (ad 10)) ((nI_clamp (by omega)) : _ = A + 1)) ?_
  refine WR_tI (y := nI a) s1 ?_
  refine r_istore (lv' := [some (.ref (ad 9)), some (.int (nI A)), some (.int (nI dp)), some (.int (nI a)), none, none]) rfl (Nat.le_of_ble_eq_true rfl) rfl ?_
  refine r_aload rfl rfl ?_
  refine r_getA (b := ad 10) rfl ⟨rfl, rfl, rfl⟩ (fx_t9 fx) (fx_r9_0 fx) ?_
  refine r_iload rfl rfl ?_
  refine r_ic (x := 2) rfl rfl ?_
  refine r_iadd rfl ?_
  refine WR_tI (y := nI (A + 2)) (Eq.trans (nI_add A 2) (congrArg nI (by omega))) ?_
  refine r_iaload rfl (.inl (fx_t10 fx)) (vp_ct (fx_n10 fx) (vp_in_nI (by omega) (by omega))) ?_
  refine WR_tI (congrArg (hI h (ad 10)) ((nI_clamp (by omega)) : _ = A + 2)) ?_
  refine WR_tI (y := 4) s2 ?_
  refine r_istore (lv' := [some (.ref (ad 9)), some (.int (nI A)), some (.int (nI dp)), some (.int (nI a)), some (.int 4), none]) rfl (Nat.le_of_ble_eq_true rfl) rfl ?_
  refine r_aload rfl rfl ?_
  refine r_getA (b := ad 10) rfl ⟨rfl, rfl, rfl⟩ (fx_t9 fx) (fx_r9_0 fx) ?_
  refine r_iload rfl rfl ?_
  refine r_ic (x := 3) rfl rfl ?_
  refine r_iadd rfl ?_
  refine WR_tI (y := nI (A + 3)) (Eq.trans (nI_add A 3) (congrArg nI (by omega))) ?_
  refine r_iaload rfl (.inl (fx_t10 fx)) (vp_ct (fx_n10 fx) (vp_in_nI (by omega) (by omega))) ?_
  refine WR_tI (congrArg (hI h (ad 10)) ((nI_clamp (by omega)) : _ = A + 3)) ?_
  refine WR_tI (y := c) s3 ?_
  refine r_istore (lv' := [some (.ref (ad 9)), some (.int (nI A)), some (.int (nI dp)), some (.int (nI a)), some (.int 4), some (.int c)]) rfl (Nat.le_of_ble_eq_true rfl) rfl ?_
  refine r_aload rfl rfl ?_
  refine r_getA (b := ad 10) rfl ⟨rfl, rfl, rfl⟩ (fx_t9 fx) (fx_r9_0 fx) ?_
  refine r_iload rfl rfl ?_
  refine r_iaload rfl (.inl (fx_t10 fx)) (vp_ct (fx_n10 fx) (vp_in_nI (by omega) (by omega))) ?_
  refine WR_tI (congrArg (hI h (ad 10)) ((nI_clamp (by omega)) : _ = A)) ?_
  refine WR_tI (y := 12) s0 ?_
  refine r_tswL (tg := 216) rfl (by decide) ?_
  refine r_aload rfl rfl ?_
  refine r_aload rfl rfl ?_
  refine r_getA (b := ad 7) rfl ⟨rfl, rfl, rfl⟩ (fx_t9 fx) f6 ?_
  refine r_iload rfl rfl ?_
  refine r_aaloadA (b := ad (100 + 5 * a)) rfl (isQ_of (fx_t7 fx) (by decide)) (vp_ct (fx_n7 fx) (vp_in_nI (by omega) (by omega))) (Eq.trans (congrArg (hR h (ad 7)) ((nI_clamp (by omega)) : _ = a)) tu1) ?_
  refine r_iload rfl rfl ?_
  refine r_cv (y := 114) (ra := [.int 4, .ref (ad (100 + 5 * a))]) (rest := []) rfl ⟨⟨rfl, rfl⟩, rfl, by decide⟩ (fx_t9 fx) rfl rfl (Nat.le_of_ble_eq_true rfl) ?_
  refine in_114 (Nat.le_of_ble_eq_true rfl) ?_
  show WR _ cd_114 0 [some (.ref (ad 9)), some (.ref (ad (100 + 5 * a))), some (.int 4), none, none, none] [] h _
  refine r_iload rfl rfl ?_
  refine r_ic (x := 2) rfl rfl ?_
  refine r_icmp_le (tg := 15) rfl rfl (fun q => absurd q (by decide)) (fun _ => ?_)
  refine r_aload rfl rfl ?_
  refine r_getI rfl ⟨rfl, rfl, rfl⟩ tu2 ?_
  refine WR_tI (y := v) e9 ?_
  refine r_if_ne (tg := 15) rfl rfl (fun c1 => ?_) (fun c1 => ?_)
  · refine r_aload rfl rfl ?_
    refine r_getA (b := ad 13) rfl ⟨rfl, rfl, rfl⟩ (fx_t9 fx) (fx_r9_3 fx) ?_
    refine r_cv (y := 106) (ra := []) (rest := []) rfl ⟨⟨rfl, rfl⟩, rfl, by decide⟩ (fx_t13 fx) rfl rfl (Nat.le_of_ble_eq_true rfl) ?_
    refine in_106 (Nat.le_of_ble_eq_true rfl) ?_
    show WR _ cd_106 0 [some (.ref (ad 13))] [] h _
    refine r_aload rfl rfl ?_
    refine r_getI rfl ⟨rfl, rfl, rfl⟩ (fx_t13 fx) ?_
    refine WR_tI (y := nI H) eh ?_
    refine r_if_le (tg := 21) rfl rfl (fun q => False.elim (by have : (nI H).toInt = ((H : Nat) : Int) := nI_toInt (by omega); have : (0 : Int32).toInt = 0 := rfl; have := i_le q; omega)) (fun _ => ?_)
    refine r_aload rfl rfl ?_
    refine r_getA (b := ad 14) rfl ⟨rfl, rfl, rfl⟩ (fx_t13 fx) (fx_r13_0 fx) ?_
    refine r_aload rfl rfl ?_
    refine r_getI rfl ⟨rfl, rfl, rfl⟩ (fx_t13 fx) ?_
    refine WR_tI (y := nI H) eh ?_
    refine r_ic (x := 1) rfl rfl ?_
    refine r_isub rfl ?_
    refine WR_tI (y := nI (H - 1)) (Eq.trans (pk_sub (a := H) (b := 1) (by omega)) (congrArg nI (by omega))) ?_
    refine r_aaloadA (b := x) rfl (isQ_of (fx_t14 fx) (by decide)) (vp_ct (fx_n14 fx) (vp_in_nI (by omega) (by omega))) (Eq.trans (congrArg (hR h (ad 14)) ((nI_clamp (by omega)) : _ = H - 1)) r2) ?_
    refine r_goto (tg := 22) rfl rfl ?_
    refine r_aret rfl ?_
    show WR _ cd_114 22 [some (.ref (ad 9)), some (.ref (ad (100 + 5 * a))), some (.int 4), none, none, none] [.ref x] h _
    refine r_astore (lv' := [some (.ref (ad 9)), some (.ref (ad (100 + 5 * a))), some (.int 4), some (.ref x), none, none]) rfl (Nat.le_of_ble_eq_true rfl) rfl ?_
    refine r_aload rfl rfl ?_
    refine r_ifnonnullA (tg := 30) rfl rfl ?_
    refine r_iload rfl rfl ?_
    refine r_ic (x := 3) rfl rfl ?_
    refine r_icmp_ne (tg := 39) rfl rfl (fun _ => ?_) (fun q => absurd q (by decide))
    refine r_iload rfl rfl ?_
    refine r_ic (x := 4) rfl rfl ?_
    refine r_icmp_ne (tg := 48) rfl rfl (fun q => absurd q (by decide)) (fun _ => ?_)
    refine r_ic (x := 5) rfl rfl ?_
    refine r_goto (tg := 50) rfl rfl ?_
    refine r_istore (lv' := [some (.ref (ad 9)), some (.ref (ad (100 + 5 * a))), some (.int 4), some (.ref x), some (.int 5), none]) rfl (Nat.le_of_ble_eq_true rfl) rfl ?_
    refine r_aload rfl rfl ?_
    refine r_instW rfl (by decide) tx (by decide) ?_
    refine r_if_eq (tg := 75) rfl rfl (fun _ => ?_) (fun q => absurd q (by decide))
    refine r_ic (x := (-14)) rfl rfl ?_
    refine r_iret rfl ?_
    show WR _ cd_102 228 [some (.ref (ad 9)), some (.int (nI A)), some (.int (nI dp)), some (.int (nI a)), some (.int 4), some (.int c)] [.int (-14)] h _
    refine r_iret rfl ?_
    exact (L1 c1)
  · refine r_ic (x := (-17)) rfl rfl ?_
    refine r_iret rfl ?_
    show WR _ cd_102 228 [some (.ref (ad 9)), some (.int (nI A)), some (.int (nI dp)), some (.int (nI a)), some (.int 4), some (.int c)] [.int (-17)] h _
    refine r_iret rfl ?_
    exact (L2 c1)

set_option maxHeartbeats 2000000 in
theorem w_c12n4 {d : Nat} {Q : mQ} {n : Nat} {ad sa : Nat → Nat} {z0 : Nat} {h : mH} (fx : FX n ad sa z0 h) {A dp : Nat} (hA : A + 3 < 640) (f5 : hR h (ad 9) 5 = some (ad 1)) (f6 : hR h (ad 9) 6 = some (ad 7)) {a H x : Nat} {c : Int32} {v : Int32} (ha : a < n) (n6 : n ≤ 6) (tu1 : hR h (ad 7) a = some (ad (100 + 5 * a))) (tu2 : hT h (ad (100 + 5 * a)) = 8) (tu3 : hR h (ad (100 + 5 * a)) 5 = some (ad (101 + 5 * a))) (tu4 : hT h (ad (101 + 5 * a)) = 26) (tu5 : hN h (ad (101 + 5 * a)) = 5) (e9 : hI h (ad (100 + 5 * a)) 9 = v) (nv : ¬ v = 0) (eh : hI h (ad 13) 2 = nI H) (hH1 : 1 ≤ H) (hH : H ≤ 100) (r2 : hR h (ad 14) (H - 1) = some x) (tx : hT h x = 4) {kd : Nat} (kx : hI h x 0 = nI kd) (k7 : kd < 7) (rst : Rst sa h) (of_ : ¬ ofK kd 5 = true) (s0 : hI h (ad 10) A = 12) (s1 : hI h (ad 10) (A + 1) = nI a) (s2 : hI h (ad 10) (A + 2) = 4) (s3 : hI h (ad 10) (A + 3) = c) 
    (L1 : ¬ v = 0 → Q (some (.int (-14))) h)
    (L2 : v = 0 → Q (some (.int (-17))) h) : EV (d + 3) 102 [.ref (ad 9), .int (nI A), .int (nI dp)] h Q := by
  have fx0 := fx
  refine in_102 (Nat.le_of_ble_eq_true rfl) ?_
  show WR _ cd_102 0 [some (.ref (ad 9)), some (.int (nI A)), some (.int (nI dp)), none, none, none] [] h _
  refine r_aload rfl rfl ?_
  refine r_getA (b := ad 10) rfl ⟨rfl, rfl, rfl⟩ (fx_t9 fx) (fx_r9_0 fx) ?_
  refine r_iload rfl rfl ?_
  refine r_ic (x := 1) rfl rfl ?_
  refine r_iadd rfl ?_
  refine WR_tI (y := nI (A + 1)) (Eq.trans (nI_add A 1) (congrArg nI (by omega))) ?_
  refine r_iaload rfl (.inl (fx_t10 fx)) (vp_ct (fx_n10 fx) (vp_in_nI (by omega) (by omega))) ?_
  refine WR_tI (congrArg (hI h (ad 10)) ((nI_clamp (by omega)) : _ = A + 1)) ?_
  refine WR_tI (y := nI a) s1 ?_
  refine r_istore (lv' := [some (.ref (ad 9)), some (.int (nI A)), some (.int (nI dp)), some (.int (nI a)), none, none]) rfl (Nat.le_of_ble_eq_true rfl) rfl ?_
  refine r_aload rfl rfl ?_
  refine r_getA (b := ad 10) rfl ⟨rfl, rfl, rfl⟩ (fx_t9 fx) (fx_r9_0 fx) ?_
  refine r_iload rfl rfl ?_
  refine r_ic (x := 2) rfl rfl ?_
  refine r_iadd rfl ?_
  refine WR_tI (y := nI (A + 2)) (Eq.trans (nI_add A 2) (congrArg nI (by omega))) ?_
  refine r_iaload rfl (.inl (fx_t10 fx)) (vp_ct (fx_n10 fx) (vp_in_nI (by omega) (by omega))) ?_
  refine WR_tI (congrArg (hI h (ad 10)) ((nI_clamp (by omega)) : _ = A + 2)) ?_
  refine WR_tI (y := 4) s2 ?_
  refine r_istore (lv' := [some (.ref (ad 9)), some (.int (nI A)), some (.int (nI dp)), some (.int (nI a)), some (.int 4), none]) rfl (Nat.le_of_ble_eq_true rfl) rfl ?_
  refine r_aload rfl rfl ?_
  refine r_getA (b := ad 10) rfl ⟨rfl, rfl, rfl⟩ (fx_t9 fx) (fx_r9_0 fx) ?_
  refine r_iload rfl rfl ?_
  refine r_ic (x := 3) rfl rfl ?_
  refine r_iadd rfl ?_
  refine WR_tI (y := nI (A + 3)) (Eq.trans (nI_add A 3) (congrArg nI (by omega))) ?_
  refine r_iaload rfl (.inl (fx_t10 fx)) (vp_ct (fx_n10 fx) (vp_in_nI (by omega) (by omega))) ?_
  refine WR_tI (congrArg (hI h (ad 10)) ((nI_clamp (by omega)) : _ = A + 3)) ?_
  refine WR_tI (y := c) s3 ?_
  refine r_istore (lv' := [some (.ref (ad 9)), some (.int (nI A)), some (.int (nI dp)), some (.int (nI a)), some (.int 4), some (.int c)]) rfl (Nat.le_of_ble_eq_true rfl) rfl ?_
  refine r_aload rfl rfl ?_
  refine r_getA (b := ad 10) rfl ⟨rfl, rfl, rfl⟩ (fx_t9 fx) (fx_r9_0 fx) ?_
  refine r_iload rfl rfl ?_
  refine r_iaload rfl (.inl (fx_t10 fx)) (vp_ct (fx_n10 fx) (vp_in_nI (by omega) (by omega))) ?_
  refine WR_tI (congrArg (hI h (ad 10)) ((nI_clamp (by omega)) : _ = A)) ?_
  refine WR_tI (y := 12) s0 ?_
  refine r_tswL (tg := 216) rfl (by decide) ?_
  refine r_aload rfl rfl ?_
  refine r_aload rfl rfl ?_
  refine r_getA (b := ad 7) rfl ⟨rfl, rfl, rfl⟩ (fx_t9 fx) f6 ?_
  refine r_iload rfl rfl ?_
  refine r_aaloadA (b := ad (100 + 5 * a)) rfl (isQ_of (fx_t7 fx) (by decide)) (vp_ct (fx_n7 fx) (vp_in_nI (by omega) (by omega))) (Eq.trans (congrArg (hR h (ad 7)) ((nI_clamp (by omega)) : _ = a)) tu1) ?_
  refine r_iload rfl rfl ?_
  refine r_cv (y := 114) (ra := [.int 4, .ref (ad (100 + 5 * a))]) (rest := []) rfl ⟨⟨rfl, rfl⟩, rfl, by decide⟩ (fx_t9 fx) rfl rfl (Nat.le_of_ble_eq_true rfl) ?_
  refine in_114 (Nat.le_of_ble_eq_true rfl) ?_
  show WR _ cd_114 0 [some (.ref (ad 9)), some (.ref (ad (100 + 5 * a))), some (.int 4), none, none, none] [] h _
  refine r_iload rfl rfl ?_
  refine r_ic (x := 2) rfl rfl ?_
  refine r_icmp_le (tg := 15) rfl rfl (fun q => absurd q (by decide)) (fun _ => ?_)
  refine r_aload rfl rfl ?_
  refine r_getI rfl ⟨rfl, rfl, rfl⟩ tu2 ?_
  refine WR_tI (y := v) e9 ?_
  refine r_if_ne (tg := 15) rfl rfl (fun c1 => ?_) (fun c1 => ?_)
  · refine r_aload rfl rfl ?_
    refine r_getA (b := ad 13) rfl ⟨rfl, rfl, rfl⟩ (fx_t9 fx) (fx_r9_3 fx) ?_
    refine r_cv (y := 106) (ra := []) (rest := []) rfl ⟨⟨rfl, rfl⟩, rfl, by decide⟩ (fx_t13 fx) rfl rfl (Nat.le_of_ble_eq_true rfl) ?_
    refine in_106 (Nat.le_of_ble_eq_true rfl) ?_
    show WR _ cd_106 0 [some (.ref (ad 13))] [] h _
    refine r_aload rfl rfl ?_
    refine r_getI rfl ⟨rfl, rfl, rfl⟩ (fx_t13 fx) ?_
    refine WR_tI (y := nI H) eh ?_
    refine r_if_le (tg := 21) rfl rfl (fun q => False.elim (by have : (nI H).toInt = ((H : Nat) : Int) := nI_toInt (by omega); have : (0 : Int32).toInt = 0 := rfl; have := i_le q; omega)) (fun _ => ?_)
    refine r_aload rfl rfl ?_
    refine r_getA (b := ad 14) rfl ⟨rfl, rfl, rfl⟩ (fx_t13 fx) (fx_r13_0 fx) ?_
    refine r_aload rfl rfl ?_
    refine r_getI rfl ⟨rfl, rfl, rfl⟩ (fx_t13 fx) ?_
    refine WR_tI (y := nI H) eh ?_
    refine r_ic (x := 1) rfl rfl ?_
    refine r_isub rfl ?_
    refine WR_tI (y := nI (H - 1)) (Eq.trans (pk_sub (a := H) (b := 1) (by omega)) (congrArg nI (by omega))) ?_
    refine r_aaloadA (b := x) rfl (isQ_of (fx_t14 fx) (by decide)) (vp_ct (fx_n14 fx) (vp_in_nI (by omega) (by omega))) (Eq.trans (congrArg (hR h (ad 14)) ((nI_clamp (by omega)) : _ = H - 1)) r2) ?_
    refine r_goto (tg := 22) rfl rfl ?_
    refine r_aret rfl ?_
    show WR _ cd_114 22 [some (.ref (ad 9)), some (.ref (ad (100 + 5 * a))), some (.int 4), none, none, none] [.ref x] h _
    refine r_astore (lv' := [some (.ref (ad 9)), some (.ref (ad (100 + 5 * a))), some (.int 4), some (.ref x), none, none]) rfl (Nat.le_of_ble_eq_true rfl) rfl ?_
    refine r_aload rfl rfl ?_
    refine r_ifnonnullA (tg := 30) rfl rfl ?_
    refine r_iload rfl rfl ?_
    refine r_ic (x := 3) rfl rfl ?_
    refine r_icmp_ne (tg := 39) rfl rfl (fun _ => ?_) (fun q => absurd q (by decide))
    refine r_iload rfl rfl ?_
    refine r_ic (x := 4) rfl rfl ?_
    refine r_icmp_ne (tg := 48) rfl rfl (fun q => absurd q (by decide)) (fun _ => ?_)
    refine r_ic (x := 5) rfl rfl ?_
    refine r_goto (tg := 50) rfl rfl ?_
    refine r_istore (lv' := [some (.ref (ad 9)), some (.ref (ad (100 + 5 * a))), some (.int 4), some (.ref x), some (.int 5), none]) rfl (Nat.le_of_ble_eq_true rfl) rfl ?_
    refine r_aload rfl rfl ?_
    refine r_instY rfl (by decide) tx ?_
    refine r_if_eq (tg := 75) rfl rfl (fun q => absurd q (by decide)) (fun _ => ?_)
    refine r_aload rfl rfl ?_
    refine r_cast rfl tx ?_
    refine r_astore (lv' := [some (.ref (ad 9)), some (.ref (ad (100 + 5 * a))), some (.int 4), some (.ref x), some (.int 5), some (.ref x)]) rfl (Nat.le_of_ble_eq_true rfl) rfl ?_
    refine r_aload rfl rfl ?_
    refine r_iload rfl rfl ?_
    refine r_cv (y := 48) (ra := [.int 5]) (rest := []) rfl ⟨⟨rfl, rfl⟩, rfl, by decide⟩ tx rfl rfl (Nat.le_of_ble_eq_true rfl) ?_
    refine c_isOf (h := h) (kd := kd) (k := 5) fx rst tx kx k7 (by decide) ?_
    rw [if_neg of_]
    show WR _ cd_114 72 [some (.ref (ad 9)), some (.ref (ad (100 + 5 * a))), some (.int 4), some (.ref x), some (.int 5), some (.ref x)] [.int 0] h _
    refine r_if_ne (tg := 78) rfl rfl (fun q => absurd q (by decide)) (fun _ => ?_)
    refine r_ic (x := (-14)) rfl rfl ?_
    refine r_iret rfl ?_
    show WR _ cd_102 228 [some (.ref (ad 9)), some (.int (nI A)), some (.int (nI dp)), some (.int (nI a)), some (.int 4), some (.int c)] [.int (-14)] h _
    refine r_iret rfl ?_
    exact (L1 c1)
  · refine r_ic (x := (-17)) rfl rfl ?_
    refine r_iret rfl ?_
    show WR _ cd_102 228 [some (.ref (ad 9)), some (.int (nI A)), some (.int (nI dp)), some (.int (nI a)), some (.int 4), some (.int c)] [.int (-17)] h _
    refine r_iret rfl ?_
    exact (L2 c1)

set_option maxHeartbeats 2000000 in
theorem w_c12e4 {d : Nat} {Q : mQ} {n : Nat} {ad sa : Nat → Nat} {z0 : Nat} {h : mH} (fx : FX n ad sa z0 h) {A dp : Nat} (hA : A + 3 < 640) (f5 : hR h (ad 9) 5 = some (ad 1)) (f6 : hR h (ad 9) 6 = some (ad 7)) {a H x : Nat} {c : Int32} {v : Int32} (ha : a < n) (n6 : n ≤ 6) (tu1 : hR h (ad 7) a = some (ad (100 + 5 * a))) (tu2 : hT h (ad (100 + 5 * a)) = 8) (tu3 : hR h (ad (100 + 5 * a)) 5 = some (ad (101 + 5 * a))) (tu4 : hT h (ad (101 + 5 * a)) = 26) (tu5 : hN h (ad (101 + 5 * a)) = 5) (e9 : hI h (ad (100 + 5 * a)) 9 = v) (nv : ¬ v = 0) (eh : hI h (ad 13) 2 = nI H) (hH1 : 1 ≤ H) (hH : H ≤ 100) (r2 : hR h (ad 14) (H - 1) = some x) (tx : hT h x = 4) {kd : Nat} (kx : hI h x 0 = nI kd) (k7 : kd < 7) (rst : Rst sa h) (of_ : ofK kd 5 = true) (r3 : hR h (ad (101 + 5 * a)) 4 = none) (s0 : hI h (ad 10) A = 12) (s1 : hI h (ad 10) (A + 1) = nI a) (s2 : hI h (ad 10) (A + 2) = 4) (s3 : hI h (ad 10) (A + 3) = c) 
    (L1 : ¬ v = 0 → Q (some (.int 0)) (sR (sI h (ad 13) 2 (nI (H - 1))) (ad (101 + 5 * a)) 4 (some x)))
    (L2 : v = 0 → Q (some (.int (-17))) h) : EV (d + 3) 102 [.ref (ad 9), .int (nI A), .int (nI dp)] h Q := by
  have fx0 := fx
  refine in_102 (Nat.le_of_ble_eq_true rfl) ?_
  show WR _ cd_102 0 [some (.ref (ad 9)), some (.int (nI A)), some (.int (nI dp)), none, none, none] [] h _
  refine r_aload rfl rfl ?_
  refine r_getA (b := ad 10) rfl ⟨rfl, rfl, rfl⟩ (fx_t9 fx) (fx_r9_0 fx) ?_
  refine r_iload rfl rfl ?_
  refine r_ic (x := 1) rfl rfl ?_
  refine r_iadd rfl ?_
  refine WR_tI (y := nI (A + 1)) (Eq.trans (nI_add A 1) (congrArg nI (by omega))) ?_
  refine r_iaload rfl (.inl (fx_t10 fx)) (vp_ct (fx_n10 fx) (vp_in_nI (by omega) (by omega))) ?_
  refine WR_tI (congrArg (hI h (ad 10)) ((nI_clamp (by omega)) : _ = A + 1)) ?_
  refine WR_tI (y := nI a) s1 ?_
  refine r_istore (lv' := [some (.ref (ad 9)), some (.int (nI A)), some (.int (nI dp)), some (.int (nI a)), none, none]) rfl (Nat.le_of_ble_eq_true rfl) rfl ?_
  refine r_aload rfl rfl ?_
  refine r_getA (b := ad 10) rfl ⟨rfl, rfl, rfl⟩ (fx_t9 fx) (fx_r9_0 fx) ?_
  refine r_iload rfl rfl ?_
  refine r_ic (x := 2) rfl rfl ?_
  refine r_iadd rfl ?_
  refine WR_tI (y := nI (A + 2)) (Eq.trans (nI_add A 2) (congrArg nI (by omega))) ?_
  refine r_iaload rfl (.inl (fx_t10 fx)) (vp_ct (fx_n10 fx) (vp_in_nI (by omega) (by omega))) ?_
  refine WR_tI (congrArg (hI h (ad 10)) ((nI_clamp (by omega)) : _ = A + 2)) ?_
  refine WR_tI (y := 4) s2 ?_
  refine r_istore (lv' := [some (.ref (ad 9)), some (.int (nI A)), some (.int (nI dp)), some (.int (nI a)), some (.int 4), none]) rfl (Nat.le_of_ble_eq_true rfl) rfl ?_
  refine r_aload rfl rfl ?_
  refine r_getA (b := ad 10) rfl ⟨rfl, rfl, rfl⟩ (fx_t9 fx) (fx_r9_0 fx) ?_
  refine r_iload rfl rfl ?_
  refine r_ic (x := 3) rfl rfl ?_
  refine r_iadd rfl ?_
  refine WR_tI (y := nI (A + 3)) (Eq.trans (nI_add A 3) (congrArg nI (by omega))) ?_
  refine r_iaload rfl (.inl (fx_t10 fx)) (vp_ct (fx_n10 fx) (vp_in_nI (by omega) (by omega))) ?_
  refine WR_tI (congrArg (hI h (ad 10)) ((nI_clamp (by omega)) : _ = A + 3)) ?_
  refine WR_tI (y := c) s3 ?_
  refine r_istore (lv' := [some (.ref (ad 9)), some (.int (nI A)), some (.int (nI dp)), some (.int (nI a)), some (.int 4), some (.int c)]) rfl (Nat.le_of_ble_eq_true rfl) rfl ?_
  refine r_aload rfl rfl ?_
  refine r_getA (b := ad 10) rfl ⟨rfl, rfl, rfl⟩ (fx_t9 fx) (fx_r9_0 fx) ?_
  refine r_iload rfl rfl ?_
  refine r_iaload rfl (.inl (fx_t10 fx)) (vp_ct (fx_n10 fx) (vp_in_nI (by omega) (by omega))) ?_
  refine WR_tI (congrArg (hI h (ad 10)) ((nI_clamp (by omega)) : _ = A)) ?_
  refine WR_tI (y := 12) s0 ?_
  refine r_tswL (tg := 216) rfl (by decide) ?_
  refine r_aload rfl rfl ?_
  refine r_aload rfl rfl ?_
  refine r_getA (b := ad 7) rfl ⟨rfl, rfl, rfl⟩ (fx_t9 fx) f6 ?_
  refine r_iload rfl rfl ?_
  refine r_aaloadA (b := ad (100 + 5 * a)) rfl (isQ_of (fx_t7 fx) (by decide)) (vp_ct (fx_n7 fx) (vp_in_nI (by omega) (by omega))) (Eq.trans (congrArg (hR h (ad 7)) ((nI_clamp (by omega)) : _ = a)) tu1) ?_
  refine r_iload rfl rfl ?_
  refine r_cv (y := 114) (ra := [.int 4, .ref (ad (100 + 5 * a))]) (rest := []) rfl ⟨⟨rfl, rfl⟩, rfl, by decide⟩ (fx_t9 fx) rfl rfl (Nat.le_of_ble_eq_true rfl) ?_
  refine in_114 (Nat.le_of_ble_eq_true rfl) ?_
  show WR _ cd_114 0 [some (.ref (ad 9)), some (.ref (ad (100 + 5 * a))), some (.int 4), none, none, none] [] h _
  refine r_iload rfl rfl ?_
  refine r_ic (x := 2) rfl rfl ?_
  refine r_icmp_le (tg := 15) rfl rfl (fun q => absurd q (by decide)) (fun _ => ?_)
  refine r_aload rfl rfl ?_
  refine r_getI rfl ⟨rfl, rfl, rfl⟩ tu2 ?_
  refine WR_tI (y := v) e9 ?_
  refine r_if_ne (tg := 15) rfl rfl (fun c1 => ?_) (fun c1 => ?_)
  · refine r_aload rfl rfl ?_
    refine r_getA (b := ad 13) rfl ⟨rfl, rfl, rfl⟩ (fx_t9 fx) (fx_r9_3 fx) ?_
    refine r_cv (y := 106) (ra := []) (rest := []) rfl ⟨⟨rfl, rfl⟩, rfl, by decide⟩ (fx_t13 fx) rfl rfl (Nat.le_of_ble_eq_true rfl) ?_
    refine in_106 (Nat.le_of_ble_eq_true rfl) ?_
    show WR _ cd_106 0 [some (.ref (ad 13))] [] h _
    refine r_aload rfl rfl ?_
    refine r_getI rfl ⟨rfl, rfl, rfl⟩ (fx_t13 fx) ?_
    refine WR_tI (y := nI H) eh ?_
    refine r_if_le (tg := 21) rfl rfl (fun q => False.elim (by have : (nI H).toInt = ((H : Nat) : Int) := nI_toInt (by omega); have : (0 : Int32).toInt = 0 := rfl; have := i_le q; omega)) (fun _ => ?_)
    refine r_aload rfl rfl ?_
    refine r_getA (b := ad 14) rfl ⟨rfl, rfl, rfl⟩ (fx_t13 fx) (fx_r13_0 fx) ?_
    refine r_aload rfl rfl ?_
    refine r_getI rfl ⟨rfl, rfl, rfl⟩ (fx_t13 fx) ?_
    refine WR_tI (y := nI H) eh ?_
    refine r_ic (x := 1) rfl rfl ?_
    refine r_isub rfl ?_
    refine WR_tI (y := nI (H - 1)) (Eq.trans (pk_sub (a := H) (b := 1) (by omega)) (congrArg nI (by omega))) ?_
    refine r_aaloadA (b := x) rfl (isQ_of (fx_t14 fx) (by decide)) (vp_ct (fx_n14 fx) (vp_in_nI (by omega) (by omega))) (Eq.trans (congrArg (hR h (ad 14)) ((nI_clamp (by omega)) : _ = H - 1)) r2) ?_
    refine r_goto (tg := 22) rfl rfl ?_
    refine r_aret rfl ?_
    show WR _ cd_114 22 [some (.ref (ad 9)), some (.ref (ad (100 + 5 * a))), some (.int 4), none, none, none] [.ref x] h _
    refine r_astore (lv' := [some (.ref (ad 9)), some (.ref (ad (100 + 5 * a))), some (.int 4), some (.ref x), none, none]) rfl (Nat.le_of_ble_eq_true rfl) rfl ?_
    refine r_aload rfl rfl ?_
    refine r_ifnonnullA (tg := 30) rfl rfl ?_
    refine r_iload rfl rfl ?_
    refine r_ic (x := 3) rfl rfl ?_
    refine r_icmp_ne (tg := 39) rfl rfl (fun _ => ?_) (fun q => absurd q (by decide))
    refine r_iload rfl rfl ?_
    refine r_ic (x := 4) rfl rfl ?_
    refine r_icmp_ne (tg := 48) rfl rfl (fun q => absurd q (by decide)) (fun _ => ?_)
    refine r_ic (x := 5) rfl rfl ?_
    refine r_goto (tg := 50) rfl rfl ?_
    refine r_istore (lv' := [some (.ref (ad 9)), some (.ref (ad (100 + 5 * a))), some (.int 4), some (.ref x), some (.int 5), none]) rfl (Nat.le_of_ble_eq_true rfl) rfl ?_
    refine r_aload rfl rfl ?_
    refine r_instY rfl (by decide) tx ?_
    refine r_if_eq (tg := 75) rfl rfl (fun q => absurd q (by decide)) (fun _ => ?_)
    refine r_aload rfl rfl ?_
    refine r_cast rfl tx ?_
    refine r_astore (lv' := [some (.ref (ad 9)), some (.ref (ad (100 + 5 * a))), some (.int 4), some (.ref x), some (.int 5), some (.ref x)]) rfl (Nat.le_of_ble_eq_true rfl) rfl ?_
    refine r_aload rfl rfl ?_
    refine r_iload rfl rfl ?_
    refine r_cv (y := 48) (ra := [.int 5]) (rest := []) rfl ⟨⟨rfl, rfl⟩, rfl, by decide⟩ tx rfl rfl (Nat.le_of_ble_eq_true rfl) ?_
    refine c_isOf (h := h) (kd := kd) (k := 5) fx rst tx kx k7 (by decide) ?_
    rw [if_pos of_]
    show WR _ cd_114 72 [some (.ref (ad 9)), some (.ref (ad (100 + 5 * a))), some (.int 4), some (.ref x), some (.int 5), some (.ref x)] [.int 1] h _
    refine r_if_ne (tg := 78) rfl rfl (fun _ => ?_) (fun q => absurd q (by decide))
    refine r_aload rfl rfl ?_
    refine r_getA (b := ad 13) rfl ⟨rfl, rfl, rfl⟩ (fx_t9 fx) (fx_r9_3 fx) ?_
    refine r_dup rfl rfl ?_
    refine r_getI rfl ⟨rfl, rfl, rfl⟩ (fx_t13 fx) ?_
    refine WR_tI (y := nI H) eh ?_
    refine r_ic (x := 1) rfl rfl ?_
    refine r_isub rfl ?_
    refine WR_tI (y := nI (H - 1)) (Eq.trans (pk_sub (a := H) (b := 1) (by omega)) (congrArg nI (by omega))) ?_
    refine r_putI rfl ⟨rfl, rfl, rfl⟩ (fx_t13 fx) ?_
    have fx : FX n ad sa z0 (sI h (ad 13) 2 (nI (H - 1))) := (FX.sI fx)
    refine r_aload rfl rfl ?_
    refine r_getA (b := ad (101 + 5 * a)) rfl ⟨rfl, rfl, rfl⟩ tu2 (Eq.trans R_oI tu3) ?_
    refine r_iload rfl rfl ?_
    refine r_aaload0 rfl (isQ_of tu4 (by decide)) (vp_ct tu5 (vp_in_nI (n := 4) (by omega) (by omega))) (Eq.trans R_oI r3) ?_
    refine r_ifnullN (tg := 115) rfl rfl ?_
    refine r_aload rfl rfl ?_
    refine r_getA (b := ad (101 + 5 * a)) rfl ⟨rfl, rfl, rfl⟩ tu2 (Eq.trans R_oI tu3) ?_
    refine r_iload rfl rfl ?_
    refine r_aload rfl rfl ?_
    refine r_aastoreA rfl (isQ_of tu4 (by decide)) (vp_ct tu5 (vp_in_nI (n := 4) (by omega) (by omega))) (okR_of tu4 tx (by decide)) ?_
    refine WR_h (h2 := sR (sI h (ad 13) 2 (nI (H - 1))) (ad (101 + 5 * a)) 4 (some x)) (congrArg (fun z => sR (sI h (ad 13) 2 (nI (H - 1))) (ad (101 + 5 * a)) z (some x)) (rfl : _ = 4)) ?_
    have fx : FX n ad sa z0 (sR (sI h (ad 13) 2 (nI (H - 1))) (ad (101 + 5 * a)) 4 (some x)) := FX.sRT fx (t := a) ha
    refine r_ic (x := 0) rfl rfl ?_
    refine r_iret rfl ?_
    show WR _ cd_102 228 [some (.ref (ad 9)), some (.int (nI A)), some (.int (nI dp)), some (.int (nI a)), some (.int 4), some (.int c)] [.int 0] (sR (sI h (ad 13) 2 (nI (H - 1))) (ad (101 + 5 * a)) 4 (some x)) _
    refine r_iret rfl ?_
    exact (L1 c1)
  · refine r_ic (x := (-17)) rfl rfl ?_
    refine r_iret rfl ?_
    show WR _ cd_102 228 [some (.ref (ad 9)), some (.int (nI A)), some (.int (nI dp)), some (.int (nI a)), some (.int 4), some (.int c)] [.int (-17)] h _
    refine r_iret rfl ?_
    exact (L2 c1)

set_option maxHeartbeats 2000000 in
theorem w_c12f4 {d : Nat} {Q : mQ} {n : Nat} {ad sa : Nat → Nat} {z0 : Nat} {h : mH} (fx : FX n ad sa z0 h) {A dp : Nat} (hA : A + 3 < 640) (f5 : hR h (ad 9) 5 = some (ad 1)) (f6 : hR h (ad 9) 6 = some (ad 7)) {a H x y : Nat} {c : Int32} {v : Int32} (ha : a < n) (n6 : n ≤ 6) (tu1 : hR h (ad 7) a = some (ad (100 + 5 * a))) (tu2 : hT h (ad (100 + 5 * a)) = 8) (tu3 : hR h (ad (100 + 5 * a)) 5 = some (ad (101 + 5 * a))) (tu4 : hT h (ad (101 + 5 * a)) = 26) (tu5 : hN h (ad (101 + 5 * a)) = 5) (e9 : hI h (ad (100 + 5 * a)) 9 = v) (nv : ¬ v = 0) (eh : hI h (ad 13) 2 = nI H) (hH1 : 1 ≤ H) (hH : H ≤ 100) (r2 : hR h (ad 14) (H - 1) = some x) (tx : hT h x = 4) {kd : Nat} (kx : hI h x 0 = nI kd) (k7 : kd < 7) (rst : Rst sa h) (of_ : ofK kd 5 = true) (ty : hT h y = 4) (r3 : hR h (ad (101 + 5 * a)) 4 = some y) (s0 : hI h (ad 10) A = 12) (s1 : hI h (ad 10) (A + 1) = nI a) (s2 : hI h (ad 10) (A + 2) = 4) (s3 : hI h (ad 10) (A + 3) = c) 
    (L1 : ¬ v = 0 → Q (some (.int 0)) (sR (sI (sI (sR (sI h (ad 13) 2 (nI (H - 1))) (ad 14) (H - 1) (some y)) (ad 15) (H - 1) 23) (ad 13) 2 (nI H)) (ad (101 + 5 * a)) 4 (some x)))
    (L2 : v = 0 → Q (some (.int (-17))) h) : EV (d + 3) 102 [.ref (ad 9), .int (nI A), .int (nI dp)] h Q := by
  have fx0 := fx
  refine in_102 (Nat.le_of_ble_eq_true rfl) ?_
  show WR _ cd_102 0 [some (.ref (ad 9)), some (.int (nI A)), some (.int (nI dp)), none, none, none] [] h _
  refine r_aload rfl rfl ?_
  refine r_getA (b := ad 10) rfl ⟨rfl, rfl, rfl⟩ (fx_t9 fx) (fx_r9_0 fx) ?_
  refine r_iload rfl rfl ?_
  refine r_ic (x := 1) rfl rfl ?_
  refine r_iadd rfl ?_
  refine WR_tI (y := nI (A + 1)) (Eq.trans (nI_add A 1) (congrArg nI (by omega))) ?_
  refine r_iaload rfl (.inl (fx_t10 fx)) (vp_ct (fx_n10 fx) (vp_in_nI (by omega) (by omega))) ?_
  refine WR_tI (congrArg (hI h (ad 10)) ((nI_clamp (by omega)) : _ = A + 1)) ?_
  refine WR_tI (y := nI a) s1 ?_
  refine r_istore (lv' := [some (.ref (ad 9)), some (.int (nI A)), some (.int (nI dp)), some (.int (nI a)), none, none]) rfl (Nat.le_of_ble_eq_true rfl) rfl ?_
  refine r_aload rfl rfl ?_
  refine r_getA (b := ad 10) rfl ⟨rfl, rfl, rfl⟩ (fx_t9 fx) (fx_r9_0 fx) ?_
  refine r_iload rfl rfl ?_
  refine r_ic (x := 2) rfl rfl ?_
  refine r_iadd rfl ?_
  refine WR_tI (y := nI (A + 2)) (Eq.trans (nI_add A 2) (congrArg nI (by omega))) ?_
  refine r_iaload rfl (.inl (fx_t10 fx)) (vp_ct (fx_n10 fx) (vp_in_nI (by omega) (by omega))) ?_
  refine WR_tI (congrArg (hI h (ad 10)) ((nI_clamp (by omega)) : _ = A + 2)) ?_
  refine WR_tI (y := 4) s2 ?_
  refine r_istore (lv' := [some (.ref (ad 9)), some (.int (nI A)), some (.int (nI dp)), some (.int (nI a)), some (.int 4), none]) rfl (Nat.le_of_ble_eq_true rfl) rfl ?_
  refine r_aload rfl rfl ?_
  refine r_getA (b := ad 10) rfl ⟨rfl, rfl, rfl⟩ (fx_t9 fx) (fx_r9_0 fx) ?_
  refine r_iload rfl rfl ?_
  refine r_ic (x := 3) rfl rfl ?_
  refine r_iadd rfl ?_
  refine WR_tI (y := nI (A + 3)) (Eq.trans (nI_add A 3) (congrArg nI (by omega))) ?_
  refine r_iaload rfl (.inl (fx_t10 fx)) (vp_ct (fx_n10 fx) (vp_in_nI (by omega) (by omega))) ?_
  refine WR_tI (congrArg (hI h (ad 10)) ((nI_clamp (by omega)) : _ = A + 3)) ?_
  refine WR_tI (y := c) s3 ?_
  refine r_istore (lv' := [some (.ref (ad 9)), some (.int (nI A)), some (.int (nI dp)), some (.int (nI a)), some (.int 4), some (.int c)]) rfl (Nat.le_of_ble_eq_true rfl) rfl ?_
  refine r_aload rfl rfl ?_
  refine r_getA (b := ad 10) rfl ⟨rfl, rfl, rfl⟩ (fx_t9 fx) (fx_r9_0 fx) ?_
  refine r_iload rfl rfl ?_
  refine r_iaload rfl (.inl (fx_t10 fx)) (vp_ct (fx_n10 fx) (vp_in_nI (by omega) (by omega))) ?_
  refine WR_tI (congrArg (hI h (ad 10)) ((nI_clamp (by omega)) : _ = A)) ?_
  refine WR_tI (y := 12) s0 ?_
  refine r_tswL (tg := 216) rfl (by decide) ?_
  refine r_aload rfl rfl ?_
  refine r_aload rfl rfl ?_
  refine r_getA (b := ad 7) rfl ⟨rfl, rfl, rfl⟩ (fx_t9 fx) f6 ?_
  refine r_iload rfl rfl ?_
  refine r_aaloadA (b := ad (100 + 5 * a)) rfl (isQ_of (fx_t7 fx) (by decide)) (vp_ct (fx_n7 fx) (vp_in_nI (by omega) (by omega))) (Eq.trans (congrArg (hR h (ad 7)) ((nI_clamp (by omega)) : _ = a)) tu1) ?_
  refine r_iload rfl rfl ?_
  refine r_cv (y := 114) (ra := [.int 4, .ref (ad (100 + 5 * a))]) (rest := []) rfl ⟨⟨rfl, rfl⟩, rfl, by decide⟩ (fx_t9 fx) rfl rfl (Nat.le_of_ble_eq_true rfl) ?_
  refine in_114 (Nat.le_of_ble_eq_true rfl) ?_
  show WR _ cd_114 0 [some (.ref (ad 9)), some (.ref (ad (100 + 5 * a))), some (.int 4), none, none, none] [] h _
  refine r_iload rfl rfl ?_
  refine r_ic (x := 2) rfl rfl ?_
  refine r_icmp_le (tg := 15) rfl rfl (fun q => absurd q (by decide)) (fun _ => ?_)
  refine r_aload rfl rfl ?_
  refine r_getI rfl ⟨rfl, rfl, rfl⟩ tu2 ?_
  refine WR_tI (y := v) e9 ?_
  refine r_if_ne (tg := 15) rfl rfl (fun c1 => ?_) (fun c1 => ?_)
  · refine r_aload rfl rfl ?_
    refine r_getA (b := ad 13) rfl ⟨rfl, rfl, rfl⟩ (fx_t9 fx) (fx_r9_3 fx) ?_
    refine r_cv (y := 106) (ra := []) (rest := []) rfl ⟨⟨rfl, rfl⟩, rfl, by decide⟩ (fx_t13 fx) rfl rfl (Nat.le_of_ble_eq_true rfl) ?_
    refine in_106 (Nat.le_of_ble_eq_true rfl) ?_
    show WR _ cd_106 0 [some (.ref (ad 13))] [] h _
    refine r_aload rfl rfl ?_
    refine r_getI rfl ⟨rfl, rfl, rfl⟩ (fx_t13 fx) ?_
    refine WR_tI (y := nI H) eh ?_
    refine r_if_le (tg := 21) rfl rfl (fun q => False.elim (by have : (nI H).toInt = ((H : Nat) : Int) := nI_toInt (by omega); have : (0 : Int32).toInt = 0 := rfl; have := i_le q; omega)) (fun _ => ?_)
    refine r_aload rfl rfl ?_
    refine r_getA (b := ad 14) rfl ⟨rfl, rfl, rfl⟩ (fx_t13 fx) (fx_r13_0 fx) ?_
    refine r_aload rfl rfl ?_
    refine r_getI rfl ⟨rfl, rfl, rfl⟩ (fx_t13 fx) ?_
    refine WR_tI (y := nI H) eh ?_
    refine r_ic (x := 1) rfl rfl ?_
    refine r_isub rfl ?_
    refine WR_tI (y := nI (H - 1)) (Eq.trans (pk_sub (a := H) (b := 1) (by omega)) (congrArg nI (by omega))) ?_
    refine r_aaloadA (b := x) rfl (isQ_of (fx_t14 fx) (by decide)) (vp_ct (fx_n14 fx) (vp_in_nI (by omega) (by omega))) (Eq.trans (congrArg (hR h (ad 14)) ((nI_clamp (by omega)) : _ = H - 1)) r2) ?_
    refine r_goto (tg := 22) rfl rfl ?_
    refine r_aret rfl ?_
    show WR _ cd_114 22 [some (.ref (ad 9)), some (.ref (ad (100 + 5 * a))), some (.int 4), none, none, none] [.ref x] h _
    refine r_astore (lv' := [some (.ref (ad 9)), some (.ref (ad (100 + 5 * a))), some (.int 4), some (.ref x), none, none]) rfl (Nat.le_of_ble_eq_true rfl) rfl ?_
    refine r_aload rfl rfl ?_
    refine r_ifnonnullA (tg := 30) rfl rfl ?_
    refine r_iload rfl rfl ?_
    refine r_ic (x := 3) rfl rfl ?_
    refine r_icmp_ne (tg := 39) rfl rfl (fun _ => ?_) (fun q => absurd q (by decide))
    refine r_iload rfl rfl ?_
    refine r_ic (x := 4) rfl rfl ?_
    refine r_icmp_ne (tg := 48) rfl rfl (fun q => absurd q (by decide)) (fun _ => ?_)
    refine r_ic (x := 5) rfl rfl ?_
    refine r_goto (tg := 50) rfl rfl ?_
    refine r_istore (lv' := [some (.ref (ad 9)), some (.ref (ad (100 + 5 * a))), some (.int 4), some (.ref x), some (.int 5), none]) rfl (Nat.le_of_ble_eq_true rfl) rfl ?_
    refine r_aload rfl rfl ?_
    refine r_instY rfl (by decide) tx ?_
    refine r_if_eq (tg := 75) rfl rfl (fun q => absurd q (by decide)) (fun _ => ?_)
    refine r_aload rfl rfl ?_
    refine r_cast rfl tx ?_
    refine r_astore (lv' := [some (.ref (ad 9)), some (.ref (ad (100 + 5 * a))), some (.int 4), some (.ref x), some (.int 5), some (.ref x)]) rfl (Nat.le_of_ble_eq_true rfl) rfl ?_
    refine r_aload rfl rfl ?_
    refine r_iload rfl rfl ?_
    refine r_cv (y := 48) (ra := [.int 5]) (rest := []) rfl ⟨⟨rfl, rfl⟩, rfl, by decide⟩ tx rfl rfl (Nat.le_of_ble_eq_true rfl) ?_
    refine c_isOf (h := h) (kd := kd) (k := 5) fx rst tx kx k7 (by decide) ?_
    rw [if_pos of_]
    show WR _ cd_114 72 [some (.ref (ad 9)), some (.ref (ad (100 + 5 * a))), some (.int 4), some (.ref x), some (.int 5), some (.ref x)] [.int 1] h _
    refine r_if_ne (tg := 78) rfl rfl (fun _ => ?_) (fun q => absurd q (by decide))
    refine r_aload rfl rfl ?_
    refine r_getA (b := ad 13) rfl ⟨rfl, rfl, rfl⟩ (fx_t9 fx) (fx_r9_3 fx) ?_
    refine r_dup rfl rfl ?_
    refine r_getI rfl ⟨rfl, rfl, rfl⟩ (fx_t13 fx) ?_
    refine WR_tI (y := nI H) eh ?_
    refine r_ic (x := 1) rfl rfl ?_
    refine r_isub rfl ?_
    refine WR_tI (y := nI (H - 1)) (Eq.trans (pk_sub (a := H) (b := 1) (by omega)) (congrArg nI (by omega))) ?_
    refine r_putI rfl ⟨rfl, rfl, rfl⟩ (fx_t13 fx) ?_
    have fx : FX n ad sa z0 (sI h (ad 13) 2 (nI (H - 1))) := (FX.sI fx)
    refine r_aload rfl rfl ?_
    refine r_getA (b := ad (101 + 5 * a)) rfl ⟨rfl, rfl, rfl⟩ tu2 (Eq.trans R_oI tu3) ?_
    refine r_iload rfl rfl ?_
    refine r_aaloadA (b := y) rfl (isQ_of tu4 (by decide)) (vp_ct tu5 (vp_in_nI (n := 4) (by omega) (by omega))) (Eq.trans R_oI r3) ?_
    refine r_ifnullA (tg := 115) rfl rfl ?_
    refine r_aload rfl rfl ?_
    refine r_getA (b := ad 13) rfl ⟨rfl, rfl, rfl⟩ (fx_t9 fx) (fx_r9_3 fx) ?_
    refine r_aload rfl rfl ?_
    refine r_getA (b := ad (101 + 5 * a)) rfl ⟨rfl, rfl, rfl⟩ tu2 (Eq.trans R_oI tu3) ?_
    refine r_iload rfl rfl ?_
    refine r_aaloadA (b := y) rfl (isQ_of tu4 (by decide)) (vp_ct tu5 (vp_in_nI (n := 4) (by omega) (by omega))) (Eq.trans R_oI r3) ?_
    refine r_ic (x := 23) rfl rfl ?_
    refine r_cv (y := 104) (ra := [.int 23, .ref y]) (rest := []) rfl ⟨⟨rfl, rfl⟩, rfl, by decide⟩ (fx_t13 fx) rfl rfl (Nat.le_of_ble_eq_true rfl) ?_
    refine in_104 (Nat.le_of_ble_eq_true rfl) ?_
    show WR _ cd_104 0 [some (.ref (ad 13)), some (.ref y), some (.int 23)] [] (sI h (ad 13) 2 (nI (H - 1))) _
    refine r_aload rfl rfl ?_
    refine r_getI rfl ⟨rfl, rfl, rfl⟩ (fx_t13 fx) ?_
    refine WR_tI (y := nI (H - 1)) I_eq ?_
    refine r_aload rfl rfl ?_
    refine r_getA (b := ad 14) rfl ⟨rfl, rfl, rfl⟩ (fx_t13 fx) (fx_r13_0 fx) ?_
    refine r_alen rfl (isA_of (fx_t14 fx) (by decide)) ?_
    refine WR_tI (y := 100) (congrArg nI (fx_n14 fx)) ?_
    refine r_icmp_ge (tg := 42) rfl rfl (fun q => False.elim (by have : (nI (H - 1)).toInt = ((H - 1 : Nat) : Int) := nI_toInt (by omega); have : (100 : Int32).toInt = 100 := rfl; have := i_le q; omega)) (fun _ => ?_)
    refine r_aload rfl rfl ?_
    refine r_getA (b := ad 14) rfl ⟨rfl, rfl, rfl⟩ (fx_t13 fx) (fx_r13_0 fx) ?_
    refine r_aload rfl rfl ?_
    refine r_getI rfl ⟨rfl, rfl, rfl⟩ (fx_t13 fx) ?_
    refine WR_tI (y := nI (H - 1)) I_eq ?_
    refine r_aload rfl rfl ?_
    refine r_aastoreA rfl (isQ_of (fx_t14 fx) (by decide)) (vp_ct (fx_n14 fx) (vp_in_nI (by omega) (by omega))) (okR_of (fx_t14 fx) ty (by decide)) ?_
    refine WR_h (h2 := sR (sI h (ad 13) 2 (nI (H - 1))) (ad 14) (H - 1) (some y)) (congrArg (fun z => sR (sI h (ad 13) 2 (nI (H - 1))) (ad 14) z (some y)) ((nI_clamp (by omega)) : _ = H - 1)) ?_
    have fx : FX n ad sa z0 (sR (sI h (ad 13) 2 (nI (H - 1))) (ad 14) (H - 1) (some y)) := FX.sRA (i := 14) fx (.inl (by decide)) (by decide)
    refine r_aload rfl rfl ?_
    refine r_getA (b := ad 15) rfl ⟨rfl, rfl, rfl⟩ (fx_t13 fx) (fx_r13_1 fx) ?_
    refine r_aload rfl rfl ?_
    refine r_getI rfl ⟨rfl, rfl, rfl⟩ (fx_t13 fx) ?_
    refine WR_tI (y := nI (H - 1)) (Eq.trans I_oR I_eq) ?_
    refine r_iload rfl rfl ?_
    refine r_iastore rfl (fx_t15 fx) (vp_ct (fx_n15 fx) (vp_in_nI (by omega) (by omega))) ?_
    refine WR_h (h2 := sI (sR (sI h (ad 13) 2 (nI (H - 1))) (ad 14) (H - 1) (some y)) (ad 15) (H - 1) 23) (congrArg (fun z => sI (sR (sI h (ad 13) 2 (nI (H - 1))) (ad 14) (H - 1) (some y)) (ad 15) z 23) ((nI_clamp (by omega)) : _ = H - 1)) ?_
    have fx : FX n ad sa z0 (sI (sR (sI h (ad 13) 2 (nI (H - 1))) (ad 14) (H - 1) (some y)) (ad 15) (H - 1) 23) := (FX.sI fx)
    refine r_aload rfl rfl ?_
    refine r_dup rfl rfl ?_
    refine r_getI rfl ⟨rfl, rfl, rfl⟩ (fx_t13 fx) ?_
    refine WR_tI (y := nI (H - 1)) (Eq.trans (I_ne (fx_ne fx (by decide))) (Eq.trans I_oR I_eq)) ?_
    refine r_ic (x := 1) rfl rfl ?_
    refine r_iadd rfl ?_
    refine WR_tI (y := nI H) (Eq.trans (nI_add (H - 1) 1) (congrArg nI (by omega))) ?_
    refine r_putI rfl ⟨rfl, rfl, rfl⟩ (fx_t13 fx) ?_
    have fx : FX n ad sa z0 (sI (sI (sR (sI h (ad 13) 2 (nI (H - 1))) (ad 14) (H - 1) (some y)) (ad 15) (H - 1) 23) (ad 13) 2 (nI H)) := (FX.sI fx)
    refine r_vret rfl ?_
    show WR _ cd_114 115 [some (.ref (ad 9)), some (.ref (ad (100 + 5 * a))), some (.int 4), some (.ref x), some (.int 5), some (.ref x)] [] (sI (sI (sR (sI h (ad 13) 2 (nI (H - 1))) (ad 14) (H - 1) (some y)) (ad 15) (H - 1) 23) (ad 13) 2 (nI H)) _
    refine r_aload rfl rfl ?_
    refine r_getA (b := ad (101 + 5 * a)) rfl ⟨rfl, rfl, rfl⟩ tu2 (Eq.trans R_oI (Eq.trans R_oI (Eq.trans (R_ne (fx_ne fx (by omega))) (Eq.trans R_oI tu3)))) ?_
    refine r_iload rfl rfl ?_
    refine r_aload rfl rfl ?_
    refine r_aastoreA rfl (isQ_of tu4 (by decide)) (vp_ct tu5 (vp_in_nI (n := 4) (by omega) (by omega))) (okR_of tu4 tx (by decide)) ?_
    refine WR_h (h2 := sR (sI (sI (sR (sI h (ad 13) 2 (nI (H - 1))) (ad 14) (H - 1) (some y)) (ad 15) (H - 1) 23) (ad 13) 2 (nI H)) (ad (101 + 5 * a)) 4 (some x)) (congrArg (fun z => sR (sI (sI (sR (sI h (ad 13) 2 (nI (H - 1))) (ad 14) (H - 1) (some y)) (ad 15) (H - 1) 23) (ad 13) 2 (nI H)) (ad (101 + 5 * a)) z (some x)) (rfl : _ = 4)) ?_
    have fx : FX n ad sa z0 (sR (sI (sI (sR (sI h (ad 13) 2 (nI (H - 1))) (ad 14) (H - 1) (some y)) (ad 15) (H - 1) 23) (ad 13) 2 (nI H)) (ad (101 + 5 * a)) 4 (some x)) := FX.sRT fx (t := a) ha
    refine r_ic (x := 0) rfl rfl ?_
    refine r_iret rfl ?_
    show WR _ cd_102 228 [some (.ref (ad 9)), some (.int (nI A)), some (.int (nI dp)), some (.int (nI a)), some (.int 4), some (.int c)] [.int 0] (sR (sI (sI (sR (sI h (ad 13) 2 (nI (H - 1))) (ad 14) (H - 1) (some y)) (ad 15) (H - 1) 23) (ad 13) 2 (nI H)) (ad (101 + 5 * a)) 4 (some x)) _
    refine r_iret rfl ?_
    exact (L1 c1)
  · refine r_ic (x := (-17)) rfl rfl ?_
    refine r_iret rfl ?_
    show WR _ cd_102 228 [some (.ref (ad 9)), some (.int (nI A)), some (.int (nI dp)), some (.int (nI a)), some (.int 4), some (.int c)] [.int (-17)] h _
    refine r_iret rfl ?_
    exact (L2 c1)

set_option maxHeartbeats 2000000 in
theorem w_c13n4 {d : Nat} {Q : mQ} {n : Nat} {ad sa : Nat → Nat} {z0 : Nat} {h : mH} (fx : FX n ad sa z0 h) {A dp : Nat} (hA : A + 3 < 640) (f5 : hR h (ad 9) 5 = some (ad 1)) (f6 : hR h (ad 9) 6 = some (ad 7)) {a : Nat} {c : Int32} {v : Int32} (ha : a < n) (n6 : n ≤ 6) (tu1 : hR h (ad 7) a = some (ad (100 + 5 * a))) (tu2 : hT h (ad (100 + 5 * a)) = 8) (tu3 : hR h (ad (100 + 5 * a)) 5 = some (ad (101 + 5 * a))) (tu4 : hT h (ad (101 + 5 * a)) = 26) (tu5 : hN h (ad (101 + 5 * a)) = 5) (e9 : hI h (ad (100 + 5 * a)) 9 = v) (nv : ¬ v = 0) (r3 : hR h (ad (101 + 5 * a)) 4 = none) (s0 : hI h (ad 10) A = 13) (s1 : hI h (ad 10) (A + 1) = nI a) (s2 : hI h (ad 10) (A + 2) = 4) (s3 : hI h (ad 10) (A + 3) = c) 
    (L1 : ¬ v = 0 → Q (some (.int (-11))) h)
    (L2 : v = 0 → Q (some (.int (-17))) h) : EV (d + 2) 102 [.ref (ad 9), .int (nI A), .int (nI dp)] h Q := by
  have fx0 := fx
  refine in_102 (Nat.le_of_ble_eq_true rfl) ?_
  show WR _ cd_102 0 [some (.ref (ad 9)), some (.int (nI A)), some (.int (nI dp)), none, none, none] [] h _
  refine r_aload rfl rfl ?_
  refine r_getA (b := ad 10) rfl ⟨rfl, rfl, rfl⟩ (fx_t9 fx) (fx_r9_0 fx) ?_
  refine r_iload rfl rfl ?_
  refine r_ic (x := 1) rfl rfl ?_
  refine r_iadd rfl ?_
  refine WR_tI (y := nI (A + 1)) (Eq.trans (nI_add A 1) (congrArg nI (by omega))) ?_
  refine r_iaload rfl (.inl (fx_t10 fx)) (vp_ct (fx_n10 fx) (vp_in_nI (by omega) (by omega))) ?_
  refine WR_tI (congrArg (hI h (ad 10)) ((nI_clamp (by omega)) : _ = A + 1)) ?_
  refine WR_tI (y := nI a) s1 ?_
  refine r_istore (lv' := [some (.ref (ad 9)), some (.int (nI A)), some (.int (nI dp)), some (.int (nI a)), none, none]) rfl (Nat.le_of_ble_eq_true rfl) rfl ?_
  refine r_aload rfl rfl ?_
  refine r_getA (b := ad 10) rfl ⟨rfl, rfl, rfl⟩ (fx_t9 fx) (fx_r9_0 fx) ?_
  refine r_iload rfl rfl ?_
  refine r_ic (x := 2) rfl rfl ?_
  refine r_iadd rfl ?_
  refine WR_tI (y := nI (A + 2)) (Eq.trans (nI_add A 2) (congrArg nI (by omega))) ?_
  refine r_iaload rfl (.inl (fx_t10 fx)) (vp_ct (fx_n10 fx) (vp_in_nI (by omega) (by omega))) ?_
  refine WR_tI (congrArg (hI h (ad 10)) ((nI_clamp (by omega)) : _ = A + 2)) ?_
  refine WR_tI (y := 4) s2 ?_
  refine r_istore (lv' := [some (.ref (ad 9)), some (.int (nI A)), some (.int (nI dp)), some (.int (nI a)), some (.int 4), none]) rfl (Nat.le_of_ble_eq_true rfl) rfl ?_
  refine r_aload rfl rfl ?_
  refine r_getA (b := ad 10) rfl ⟨rfl, rfl, rfl⟩ (fx_t9 fx) (fx_r9_0 fx) ?_
  refine r_iload rfl rfl ?_
  refine r_ic (x := 3) rfl rfl ?_
  refine r_iadd rfl ?_
  refine WR_tI (y := nI (A + 3)) (Eq.trans (nI_add A 3) (congrArg nI (by omega))) ?_
  refine r_iaload rfl (.inl (fx_t10 fx)) (vp_ct (fx_n10 fx) (vp_in_nI (by omega) (by omega))) ?_
  refine WR_tI (congrArg (hI h (ad 10)) ((nI_clamp (by omega)) : _ = A + 3)) ?_
  refine WR_tI (y := c) s3 ?_
  refine r_istore (lv' := [some (.ref (ad 9)), some (.int (nI A)), some (.int (nI dp)), some (.int (nI a)), some (.int 4), some (.int c)]) rfl (Nat.le_of_ble_eq_true rfl) rfl ?_
  refine r_aload rfl rfl ?_
  refine r_getA (b := ad 10) rfl ⟨rfl, rfl, rfl⟩ (fx_t9 fx) (fx_r9_0 fx) ?_
  refine r_iload rfl rfl ?_
  refine r_iaload rfl (.inl (fx_t10 fx)) (vp_ct (fx_n10 fx) (vp_in_nI (by omega) (by omega))) ?_
  refine WR_tI (congrArg (hI h (ad 10)) ((nI_clamp (by omega)) : _ = A)) ?_
  refine WR_tI (y := 13) s0 ?_
  refine r_tswL (tg := 229) rfl (by decide) ?_
  refine r_aload rfl rfl ?_
  refine r_aload rfl rfl ?_
  refine r_getA (b := ad 7) rfl ⟨rfl, rfl, rfl⟩ (fx_t9 fx) f6 ?_
  refine r_iload rfl rfl ?_
  refine r_aaloadA (b := ad (100 + 5 * a)) rfl (isQ_of (fx_t7 fx) (by decide)) (vp_ct (fx_n7 fx) (vp_in_nI (by omega) (by omega))) (Eq.trans (congrArg (hR h (ad 7)) ((nI_clamp (by omega)) : _ = a)) tu1) ?_
  refine r_iload rfl rfl ?_
  refine r_cv (y := 115) (ra := [.int 4, .ref (ad (100 + 5 * a))]) (rest := []) rfl ⟨⟨rfl, rfl⟩, rfl, by decide⟩ (fx_t9 fx) rfl rfl (Nat.le_of_ble_eq_true rfl) ?_
  refine in_115 (Nat.le_of_ble_eq_true rfl) ?_
  show WR _ cd_115 0 [some (.ref (ad 9)), some (.ref (ad (100 + 5 * a))), some (.int 4)] [] h _
  refine r_iload rfl rfl ?_
  refine r_ic (x := 2) rfl rfl ?_
  refine r_icmp_le (tg := 15) rfl rfl (fun q => absurd q (by decide)) (fun _ => ?_)
  refine r_aload rfl rfl ?_
  refine r_getI rfl ⟨rfl, rfl, rfl⟩ tu2 ?_
  refine WR_tI (y := v) e9 ?_
  refine r_if_ne (tg := 15) rfl rfl (fun c1 => ?_) (fun c1 => ?_)
  · refine r_aload rfl rfl ?_
    refine r_getA (b := ad (101 + 5 * a)) rfl ⟨rfl, rfl, rfl⟩ tu2 tu3 ?_
    refine r_iload rfl rfl ?_
    refine r_aaload0 rfl (isQ_of tu4 (by decide)) (vp_ct tu5 (vp_in_nI (n := 4) (by omega) (by omega))) r3 ?_
    refine r_ifnonnullN (tg := 27) rfl rfl ?_
    refine r_ic (x := (-11)) rfl rfl ?_
    refine r_iret rfl ?_
    show WR _ cd_102 241 [some (.ref (ad 9)), some (.int (nI A)), some (.int (nI dp)), some (.int (nI a)), some (.int 4), some (.int c)] [.int (-11)] h _
    refine r_iret rfl ?_
    exact (L1 c1)
  · refine r_ic (x := (-17)) rfl rfl ?_
    refine r_iret rfl ?_
    show WR _ cd_102 241 [some (.ref (ad 9)), some (.int (nI A)), some (.int (nI dp)), some (.int (nI a)), some (.int 4), some (.int c)] [.int (-17)] h _
    refine r_iret rfl ?_
    exact (L2 c1)

set_option maxHeartbeats 2000000 in
theorem w_c13s4 {d : Nat} {Q : mQ} {n : Nat} {ad sa : Nat → Nat} {z0 : Nat} {h : mH} (fx : FX n ad sa z0 h) {A dp : Nat} (hA : A + 3 < 640) (f5 : hR h (ad 9) 5 = some (ad 1)) (f6 : hR h (ad 9) 6 = some (ad 7)) {a H y : Nat} {c : Int32} {v : Int32} (ha : a < n) (n6 : n ≤ 6) (tu1 : hR h (ad 7) a = some (ad (100 + 5 * a))) (tu2 : hT h (ad (100 + 5 * a)) = 8) (tu3 : hR h (ad (100 + 5 * a)) 5 = some (ad (101 + 5 * a))) (tu4 : hT h (ad (101 + 5 * a)) = 26) (tu5 : hN h (ad (101 + 5 * a)) = 5) (e9 : hI h (ad (100 + 5 * a)) 9 = v) (nv : ¬ v = 0) (eh : hI h (ad 13) 2 = nI H) (hH : H < 100) (ty : hT h y = 4) (r3 : hR h (ad (101 + 5 * a)) 4 = some y) (s0 : hI h (ad 10) A = 13) (s1 : hI h (ad 10) (A + 1) = nI a) (s2 : hI h (ad 10) (A + 2) = 4) (s3 : hI h (ad 10) (A + 3) = c) 
    (L1 : ¬ v = 0 → Q (some (.int 0)) (sR (sI (sI (sR h (ad 14) H (some y)) (ad 15) H 23) (ad 13) 2 (nI (H + 1))) (ad (101 + 5 * a)) 4 none))
    (L2 : v = 0 → Q (some (.int (-17))) h) : EV (d + 3) 102 [.ref (ad 9), .int (nI A), .int (nI dp)] h Q := by
  have fx0 := fx
  refine in_102 (Nat.le_of_ble_eq_true rfl) ?_
  show WR _ cd_102 0 [some (.ref (ad 9)), some (.int (nI A)), some (.int (nI dp)), none, none, none] [] h _
  refine r_aload rfl rfl ?_
  refine r_getA (b := ad 10) rfl ⟨rfl, rfl, rfl⟩ (fx_t9 fx) (fx_r9_0 fx) ?_
  refine r_iload rfl rfl ?_
  refine r_ic (x := 1) rfl rfl ?_
  refine r_iadd rfl ?_
  refine WR_tI (y := nI (A + 1)) (Eq.trans (nI_add A 1) (congrArg nI (by omega))) ?_
  refine r_iaload rfl (.inl (fx_t10 fx)) (vp_ct (fx_n10 fx) (vp_in_nI (by omega) (by omega))) ?_
  refine WR_tI (congrArg (hI h (ad 10)) ((nI_clamp (by omega)) : _ = A + 1)) ?_
  refine WR_tI (y := nI a) s1 ?_
  refine r_istore (lv' := [some (.ref (ad 9)), some (.int (nI A)), some (.int (nI dp)), some (.int (nI a)), none, none]) rfl (Nat.le_of_ble_eq_true rfl) rfl ?_
  refine r_aload rfl rfl ?_
  refine r_getA (b := ad 10) rfl ⟨rfl, rfl, rfl⟩ (fx_t9 fx) (fx_r9_0 fx) ?_
  refine r_iload rfl rfl ?_
  refine r_ic (x := 2) rfl rfl ?_
  refine r_iadd rfl ?_
  refine WR_tI (y := nI (A + 2)) (Eq.trans (nI_add A 2) (congrArg nI (by omega))) ?_
  refine r_iaload rfl (.inl (fx_t10 fx)) (vp_ct (fx_n10 fx) (vp_in_nI (by omega) (by omega))) ?_
  refine WR_tI (congrArg (hI h (ad 10)) ((nI_clamp (by omega)) : _ = A + 2)) ?_
  refine WR_tI (y := 4) s2 ?_
  refine r_istore (lv' := [some (.ref (ad 9)), some (.int (nI A)), some (.int (nI dp)), some (.int (nI a)), some (.int 4), none]) rfl (Nat.le_of_ble_eq_true rfl) rfl ?_
  refine r_aload rfl rfl ?_
  refine r_getA (b := ad 10) rfl ⟨rfl, rfl, rfl⟩ (fx_t9 fx) (fx_r9_0 fx) ?_
  refine r_iload rfl rfl ?_
  refine r_ic (x := 3) rfl rfl ?_
  refine r_iadd rfl ?_
  refine WR_tI (y := nI (A + 3)) (Eq.trans (nI_add A 3) (congrArg nI (by omega))) ?_
  refine r_iaload rfl (.inl (fx_t10 fx)) (vp_ct (fx_n10 fx) (vp_in_nI (by omega) (by omega))) ?_
  refine WR_tI (congrArg (hI h (ad 10)) ((nI_clamp (by omega)) : _ = A + 3)) ?_
  refine WR_tI (y := c) s3 ?_
  refine r_istore (lv' := [some (.ref (ad 9)), some (.int (nI A)), some (.int (nI dp)), some (.int (nI a)), some (.int 4), some (.int c)]) rfl (Nat.le_of_ble_eq_true rfl) rfl ?_
  refine r_aload rfl rfl ?_
  refine r_getA (b := ad 10) rfl ⟨rfl, rfl, rfl⟩ (fx_t9 fx) (fx_r9_0 fx) ?_
  refine r_iload rfl rfl ?_
  refine r_iaload rfl (.inl (fx_t10 fx)) (vp_ct (fx_n10 fx) (vp_in_nI (by omega) (by omega))) ?_
  refine WR_tI (congrArg (hI h (ad 10)) ((nI_clamp (by omega)) : _ = A)) ?_
  refine WR_tI (y := 13) s0 ?_
  refine r_tswL (tg := 229) rfl (by decide) ?_
  refine r_aload rfl rfl ?_
  refine r_aload rfl rfl ?_
  refine r_getA (b := ad 7) rfl ⟨rfl, rfl, rfl⟩ (fx_t9 fx) f6 ?_
  refine r_iload rfl rfl ?_
  refine r_aaloadA (b := ad (100 + 5 * a)) rfl (isQ_of (fx_t7 fx) (by decide)) (vp_ct (fx_n7 fx) (vp_in_nI (by omega) (by omega))) (Eq.trans (congrArg (hR h (ad 7)) ((nI_clamp (by omega)) : _ = a)) tu1) ?_
  refine r_iload rfl rfl ?_
  refine r_cv (y := 115) (ra := [.int 4, .ref (ad (100 + 5 * a))]) (rest := []) rfl ⟨⟨rfl, rfl⟩, rfl, by decide⟩ (fx_t9 fx) rfl rfl (Nat.le_of_ble_eq_true rfl) ?_
  refine in_115 (Nat.le_of_ble_eq_true rfl) ?_
  show WR _ cd_115 0 [some (.ref (ad 9)), some (.ref (ad (100 + 5 * a))), some (.int 4)] [] h _
  refine r_iload rfl rfl ?_
  refine r_ic (x := 2) rfl rfl ?_
  refine r_icmp_le (tg := 15) rfl rfl (fun q => absurd q (by decide)) (fun _ => ?_)
  refine r_aload rfl rfl ?_
  refine r_getI rfl ⟨rfl, rfl, rfl⟩ tu2 ?_
  refine WR_tI (y := v) e9 ?_
  refine r_if_ne (tg := 15) rfl rfl (fun c1 => ?_) (fun c1 => ?_)
  · refine r_aload rfl rfl ?_
    refine r_getA (b := ad (101 + 5 * a)) rfl ⟨rfl, rfl, rfl⟩ tu2 tu3 ?_
    refine r_iload rfl rfl ?_
    refine r_aaloadA (b := y) rfl (isQ_of tu4 (by decide)) (vp_ct tu5 (vp_in_nI (n := 4) (by omega) (by omega))) r3 ?_
    refine r_ifnonnullA (tg := 27) rfl rfl ?_
    refine r_aload rfl rfl ?_
    refine r_getA (b := ad 13) rfl ⟨rfl, rfl, rfl⟩ (fx_t9 fx) (fx_r9_3 fx) ?_
    refine r_aload rfl rfl ?_
    refine r_getA (b := ad (101 + 5 * a)) rfl ⟨rfl, rfl, rfl⟩ tu2 tu3 ?_
    refine r_iload rfl rfl ?_
    refine r_aaloadA (b := y) rfl (isQ_of tu4 (by decide)) (vp_ct tu5 (vp_in_nI (n := 4) (by omega) (by omega))) r3 ?_
    refine r_ic (x := 23) rfl rfl ?_
    refine r_cv (y := 104) (ra := [.int 23, .ref y]) (rest := []) rfl ⟨⟨rfl, rfl⟩, rfl, by decide⟩ (fx_t13 fx) rfl rfl (Nat.le_of_ble_eq_true rfl) ?_
    refine in_104 (Nat.le_of_ble_eq_true rfl) ?_
    show WR _ cd_104 0 [some (.ref (ad 13)), some (.ref y), some (.int 23)] [] h _
    refine r_aload rfl rfl ?_
    refine r_getI rfl ⟨rfl, rfl, rfl⟩ (fx_t13 fx) ?_
    refine WR_tI (y := nI H) eh ?_
    refine r_aload rfl rfl ?_
    refine r_getA (b := ad 14) rfl ⟨rfl, rfl, rfl⟩ (fx_t13 fx) (fx_r13_0 fx) ?_
    refine r_alen rfl (isA_of (fx_t14 fx) (by decide)) ?_
    refine WR_tI (y := 100) (congrArg nI (fx_n14 fx)) ?_
    refine r_icmp_ge (tg := 42) rfl rfl (fun q => False.elim (by have : (nI H).toInt = ((H : Nat) : Int) := nI_toInt (by omega); have : (100 : Int32).toInt = 100 := rfl; have := i_le q; omega)) (fun _ => ?_)
    refine r_aload rfl rfl ?_
    refine r_getA (b := ad 14) rfl ⟨rfl, rfl, rfl⟩ (fx_t13 fx) (fx_r13_0 fx) ?_
    refine r_aload rfl rfl ?_
    refine r_getI rfl ⟨rfl, rfl, rfl⟩ (fx_t13 fx) ?_
    refine WR_tI (y := nI H) eh ?_
    refine r_aload rfl rfl ?_
    refine r_aastoreA rfl (isQ_of (fx_t14 fx) (by decide)) (vp_ct (fx_n14 fx) (vp_in_nI (by omega) (by omega))) (okR_of (fx_t14 fx) ty (by decide)) ?_
    refine WR_h (h2 := sR h (ad 14) H (some y)) (congrArg (fun z => sR h (ad 14) z (some y)) ((nI_clamp (by omega)) : _ = H)) ?_
    have fx : FX n ad sa z0 (sR h (ad 14) H (some y)) := FX.sRA (i := 14) fx (.inl (by decide)) (by decide)
    refine r_aload rfl rfl ?_
    refine r_getA (b := ad 15) rfl ⟨rfl, rfl, rfl⟩ (fx_t13 fx) (fx_r13_1 fx) ?_
    refine r_aload rfl rfl ?_
    refine r_getI rfl ⟨rfl, rfl, rfl⟩ (fx_t13 fx) ?_
    refine WR_tI (y := nI H) (Eq.trans I_oR eh) ?_
    refine r_iload rfl rfl ?_
    refine r_iastore rfl (fx_t15 fx) (vp_ct (fx_n15 fx) (vp_in_nI (by omega) (by omega))) ?_
    refine WR_h (h2 := sI (sR h (ad 14) H (some y)) (ad 15) H 23) (congrArg (fun z => sI (sR h (ad 14) H (some y)) (ad 15) z 23) ((nI_clamp (by omega)) : _ = H)) ?_
    have fx : FX n ad sa z0 (sI (sR h (ad 14) H (some y)) (ad 15) H 23) := (FX.sI fx)
    refine r_aload rfl rfl ?_
    refine r_dup rfl rfl ?_
    refine r_getI rfl ⟨rfl, rfl, rfl⟩ (fx_t13 fx) ?_
    refine WR_tI (y := nI H) (Eq.trans (I_ne (fx_ne fx (by decide))) (Eq.trans I_oR eh)) ?_
    refine r_ic (x := 1) rfl rfl ?_
    refine r_iadd rfl ?_
    refine WR_tI (y := nI (H + 1)) (Eq.trans (nI_add H 1) (congrArg nI (by omega))) ?_
    refine r_putI rfl ⟨rfl, rfl, rfl⟩ (fx_t13 fx) ?_
    have fx : FX n ad sa z0 (sI (sI (sR h (ad 14) H (some y)) (ad 15) H 23) (ad 13) 2 (nI (H + 1))) := (FX.sI fx)
    refine r_vret rfl ?_
    show WR _ cd_115 42 [some (.ref (ad 9)), some (.ref (ad (100 + 5 * a))), some (.int 4)] [] (sI (sI (sR h (ad 14) H (some y)) (ad 15) H 23) (ad 13) 2 (nI (H + 1))) _
    refine r_aload rfl rfl ?_
    refine r_getA (b := ad (101 + 5 * a)) rfl ⟨rfl, rfl, rfl⟩ tu2 (Eq.trans R_oI (Eq.trans R_oI (Eq.trans (R_ne (fx_ne fx (by omega))) tu3))) ?_
    refine r_iload rfl rfl ?_
    refine r_null rfl ?_
    refine r_aastore0 rfl (isQ_of tu4 (by decide)) (vp_ct tu5 (vp_in_nI (n := 4) (by omega) (by omega))) (fun _ q => by cases q) ?_
    refine WR_h (h2 := sR (sI (sI (sR h (ad 14) H (some y)) (ad 15) H 23) (ad 13) 2 (nI (H + 1))) (ad (101 + 5 * a)) 4 none) (congrArg (fun z => sR (sI (sI (sR h (ad 14) H (some y)) (ad 15) H 23) (ad 13) 2 (nI (H + 1))) (ad (101 + 5 * a)) z none) (rfl : _ = 4)) ?_
    have fx : FX n ad sa z0 (sR (sI (sI (sR h (ad 14) H (some y)) (ad 15) H 23) (ad 13) 2 (nI (H + 1))) (ad (101 + 5 * a)) 4 none) := FX.sRT fx (t := a) ha
    refine r_ic (x := 0) rfl rfl ?_
    refine r_iret rfl ?_
    show WR _ cd_102 241 [some (.ref (ad 9)), some (.int (nI A)), some (.int (nI dp)), some (.int (nI a)), some (.int 4), some (.int c)] [.int 0] (sR (sI (sI (sR h (ad 14) H (some y)) (ad 15) H 23) (ad 13) 2 (nI (H + 1))) (ad (101 + 5 * a)) 4 none) _
    refine r_iret rfl ?_
    exact (L1 c1)
  · refine r_ic (x := (-17)) rfl rfl ?_
    refine r_iret rfl ?_
    show WR _ cd_102 241 [some (.ref (ad 9)), some (.int (nI A)), some (.int (nI dp)), some (.int (nI a)), some (.int 4), some (.int c)] [.int (-17)] h _
    refine r_iret rfl ?_
    exact (L2 c1)

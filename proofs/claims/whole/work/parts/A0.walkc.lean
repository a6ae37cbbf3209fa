/-! ===== walks of the reference's control of an act; printed ===== -/
set_option maxHeartbeats 2000000 in
theorem w_pi8 {d : Nat} {Q : mQ} {n : Nat} {ad sa : Nat → Nat} {z0 : Nat} {h : mH} (fx : FX n ad sa z0 h) (t0 : hI h (ad 30) 23 = 8) {w p : Int32} 
    (L1 : Q none (sI (sI (sI (sI h (ad 50) 7 w) (ad 30) 29 3) (ad 30) 30 8) (ad 30) 47 1)) : EV (d + 2) 211 [.ref (ad 30), .int w, .int p] h Q := by
  have fx0 := fx
  refine in_211 (Nat.le_of_ble_eq_true rfl) ?_
  show WR _ cd_211 0 [some (.ref (ad 30)), some (.int w), some (.int p)] [] h _
  refine r_aload rfl rfl ?_
  refine r_getI rfl ⟨rfl, rfl, rfl⟩ (fx_t30 fx) ?_
  refine WR_tI (y := 8) t0 ?_
  refine r_if_le (tg := 19) rfl rfl (fun q => absurd q (by decide)) (fun _ => ?_)
  refine r_aload rfl rfl ?_
  refine r_getA (b := ad 50) rfl ⟨rfl, rfl, rfl⟩ (fx_t30 fx) (fx_r30_26 fx) ?_
  refine r_aload rfl rfl ?_
  refine r_getI rfl ⟨rfl, rfl, rfl⟩ (fx_t30 fx) ?_
  refine WR_tI (y := 8) t0 ?_
  refine r_ic (x := 1) rfl rfl ?_
  refine r_isub rfl ?_
  refine WR_tI (y := 7) rfl ?_
  refine r_iload rfl rfl ?_
  refine r_iastore rfl (fx_t50 fx) (vp_ct (fx_n50 fx) (vp_in_nI (n := 7) (by omega) (by omega))) ?_
  refine WR_h (h2 := sI h (ad 50) 7 w) (congrArg (fun z => sI h (ad 50) z w) (rfl : _ = 7)) ?_
  have fx : FX n ad sa z0 (sI h (ad 50) 7 w) := (FX.sI fx)
  refine r_aload rfl rfl ?_
  refine r_getI rfl ⟨rfl, rfl, rfl⟩ (fx_t30 fx) ?_
  refine WR_tI (y := 8) (Eq.trans (I_ne (fx_ne fx (by decide))) t0) ?_
  refine r_ic (x := 8) rfl rfl ?_
  refine r_icmp_ne (tg := 41) rfl rfl (fun q => absurd q (by decide)) (fun _ => ?_)
  refine r_aload rfl rfl ?_
  refine r_ic (x := 3) rfl rfl ?_
  refine r_ic (x := 8) rfl rfl ?_
  refine r_cv (y := 212) (ra := [.int 8, .int 3]) (rest := []) rfl ⟨⟨rfl, rfl⟩, rfl, by decide⟩ (fx_t30 fx) rfl rfl (Nat.le_of_ble_eq_true rfl) ?_
  refine in_212 (Nat.le_of_ble_eq_true rfl) ?_
  show WR _ cd_212 0 [some (.ref (ad 30)), some (.int 3), some (.int 8)] [] (sI h (ad 50) 7 w) _
  refine r_aload rfl rfl ?_
  refine r_iload rfl rfl ?_
  refine r_putI rfl ⟨rfl, rfl, rfl⟩ (fx_t30 fx) ?_
  have fx : FX n ad sa z0 (sI (sI h (ad 50) 7 w) (ad 30) 29 3) := (FX.sI fx)
  refine r_aload rfl rfl ?_
  refine r_iload rfl rfl ?_
  refine r_putI rfl ⟨rfl, rfl, rfl⟩ (fx_t30 fx) ?_
  have fx : FX n ad sa z0 (sI (sI (sI h (ad 50) 7 w) (ad 30) 29 3) (ad 30) 30 8) := (FX.sI fx)
  refine r_vret rfl ?_
  show WR _ cd_211 35 [some (.ref (ad 30)), some (.int w), some (.int p)] [] (sI (sI (sI h (ad 50) 7 w) (ad 30) 29 3) (ad 30) 30 8) _
  refine r_aload rfl rfl ?_
  refine r_ic (x := 1) rfl rfl ?_
  refine r_putZ rfl ⟨rfl, rfl, rfl⟩ (fx_t30 fx) (.inr rfl) ?_
  have fx : FX n ad sa z0 (sI (sI (sI (sI h (ad 50) 7 w) (ad 30) 29 3) (ad 30) 30 8) (ad 30) 47 1) := (FX.sI fx)
  refine r_vret rfl ?_
  exact (L1)

set_option maxHeartbeats 2000000 in
theorem w_pi0l {d : Nat} {Q : mQ} {n : Nat} {ad sa : Nat → Nat} {z0 : Nat} {h : mH} (fx : FX n ad sa z0 h) {D : Nat} (dd : D < 1) (t0 : hI h (ad 30) 23 = 0) (t1 : hI h (ad 30) 32 = nI D) {w p : Int32} 
    (L1 : Q none (sI (sI (sI (sI (sI h (ad 48) 0 p) (ad 49) 0 0) (ad 30) 23 1) (ad 30) 32 1) (ad 30) 29 0)) : EV (d + 1) 211 [.ref (ad 30), .int w, .int p] h Q := by
  have fx0 := fx
  refine in_211 (Nat.le_of_ble_eq_true rfl) ?_
  show WR _ cd_211 0 [some (.ref (ad 30)), some (.int w), some (.int p)] [] h _
  refine r_aload rfl rfl ?_
  refine r_getI rfl ⟨rfl, rfl, rfl⟩ (fx_t30 fx) ?_
  refine WR_tI (y := 0) t0 ?_
  refine r_if_le (tg := 19) rfl rfl (fun _ => ?_) (fun q => absurd q (by decide))
  refine r_aload rfl rfl ?_
  refine r_getI rfl ⟨rfl, rfl, rfl⟩ (fx_t30 fx) ?_
  refine WR_tI (y := 0) t0 ?_
  refine r_ic (x := 8) rfl rfl ?_
  refine r_icmp_ne (tg := 41) rfl rfl (fun _ => ?_) (fun q => absurd q (by decide))
  refine r_aload rfl rfl ?_
  refine r_getA (b := ad 48) rfl ⟨rfl, rfl, rfl⟩ (fx_t30 fx) (fx_r30_24 fx) ?_
  refine r_aload rfl rfl ?_
  refine r_getI rfl ⟨rfl, rfl, rfl⟩ (fx_t30 fx) ?_
  refine WR_tI (y := 0) t0 ?_
  refine r_iload rfl rfl ?_
  refine r_iastore rfl (fx_t48 fx) (vp_ct (fx_n48 fx) (vp_in_nI (n := 0) (by omega) (by omega))) ?_
  refine WR_h (h2 := sI h (ad 48) 0 p) (congrArg (fun z => sI h (ad 48) z p) (rfl : _ = 0)) ?_
  have fx : FX n ad sa z0 (sI h (ad 48) 0 p) := (FX.sI fx)
  refine r_aload rfl rfl ?_
  refine r_getA (b := ad 49) rfl ⟨rfl, rfl, rfl⟩ (fx_t30 fx) (fx_r30_25 fx) ?_
  refine r_aload rfl rfl ?_
  refine r_getI rfl ⟨rfl, rfl, rfl⟩ (fx_t30 fx) ?_
  refine WR_tI (y := 0) (Eq.trans (I_ne (fx_ne fx (by decide))) t0) ?_
  refine r_ic (x := 0) rfl rfl ?_
  refine r_iastore rfl (fx_t49 fx) (vp_ct (fx_n49 fx) (vp_in_nI (n := 0) (by omega) (by omega))) ?_
  refine WR_h (h2 := sI (sI h (ad 48) 0 p) (ad 49) 0 0) (congrArg (fun z => sI (sI h (ad 48) 0 p) (ad 49) z 0) (rfl : _ = 0)) ?_
  have fx : FX n ad sa z0 (sI (sI h (ad 48) 0 p) (ad 49) 0 0) := (FX.sI fx)
  refine r_aload rfl rfl ?_
  refine r_dup rfl rfl ?_
  refine r_getI rfl ⟨rfl, rfl, rfl⟩ (fx_t30 fx) ?_
  refine WR_tI (y := 0) (Eq.trans (I_ne (fx_ne fx (by decide))) (Eq.trans (I_ne (fx_ne fx (by decide))) t0)) ?_
  refine r_ic (x := 1) rfl rfl ?_
  refine r_iadd rfl ?_
  refine WR_tI (y := 1) rfl ?_
  refine r_putI rfl ⟨rfl, rfl, rfl⟩ (fx_t30 fx) ?_
  have fx : FX n ad sa z0 (sI (sI (sI h (ad 48) 0 p) (ad 49) 0 0) (ad 30) 23 1) := (FX.sI fx)
  refine r_aload rfl rfl ?_
  refine r_aload rfl rfl ?_
  refine r_getI rfl ⟨rfl, rfl, rfl⟩ (fx_t30 fx) ?_
  refine WR_tI (y := 1) I_eq ?_
  refine r_aload rfl rfl ?_
  refine r_getI rfl ⟨rfl, rfl, rfl⟩ (fx_t30 fx) ?_
  refine WR_tI (y := nI D) (Eq.trans (I_nk (by decide)) (Eq.trans (I_ne (fx_ne fx (by decide))) (Eq.trans (I_ne (fx_ne fx (by decide))) t1))) ?_
  refine r_icmp_le (tg := 90) rfl rfl (fun q => False.elim (by have : (1 : Int32).toInt = 1 := rfl; have : (nI D).toInt = ((D : Nat) : Int) := nI_toInt (by omega); have := i_le q; omega)) (fun _ => ?_)
  refine r_aload rfl rfl ?_
  refine r_getI rfl ⟨rfl, rfl, rfl⟩ (fx_t30 fx) ?_
  refine WR_tI (y := 1) I_eq ?_
  refine r_goto (tg := 94) rfl rfl ?_
  refine r_putI rfl ⟨rfl, rfl, rfl⟩ (fx_t30 fx) ?_
  have fx : FX n ad sa z0 (sI (sI (sI (sI h (ad 48) 0 p) (ad 49) 0 0) (ad 30) 23 1) (ad 30) 32 1) := (FX.sI fx)
  refine r_aload rfl rfl ?_
  refine r_ic (x := 0) rfl rfl ?_
  refine r_putI rfl ⟨rfl, rfl, rfl⟩ (fx_t30 fx) ?_
  have fx : FX n ad sa z0 (sI (sI (sI (sI (sI h (ad 48) 0 p) (ad 49) 0 0) (ad 30) 23 1) (ad 30) 32 1) (ad 30) 29 0) := (FX.sI fx)
  refine r_vret rfl ?_
  exact (L1)

set_option maxHeartbeats 2000000 in
theorem w_pi0g {d : Nat} {Q : mQ} {n : Nat} {ad sa : Nat → Nat} {z0 : Nat} {h : mH} (fx : FX n ad sa z0 h) {D : Nat} (dd : 1 ≤ D) (d8 : D ≤ 8) (t0 : hI h (ad 30) 23 = 0) (t1 : hI h (ad 30) 32 = nI D) {w p : Int32} 
    (L1 : Q none (sI (sI (sI (sI (sI h (ad 48) 0 p) (ad 49) 0 0) (ad 30) 23 1) (ad 30) 32 (nI D)) (ad 30) 29 0)) : EV (d + 1) 211 [.ref (ad 30), .int w, .int p] h Q := by
  have fx0 := fx
  refine in_211 (Nat.le_of_ble_eq_true rfl) ?_
  show WR _ cd_211 0 [some (.ref (ad 30)), some (.int w), some (.int p)] [] h _
  refine r_aload rfl rfl ?_
  refine r_getI rfl ⟨rfl, rfl, rfl⟩ (fx_t30 fx) ?_
  refine WR_tI (y := 0) t0 ?_
  refine r_if_le (tg := 19) rfl rfl (fun _ => ?_) (fun q => absurd q (by decide))
  refine r_aload rfl rfl ?_
  refine r_getI rfl ⟨rfl, rfl, rfl⟩ (fx_t30 fx) ?_
  refine WR_tI (y := 0) t0 ?_
  refine r_ic (x := 8) rfl rfl ?_
  refine r_icmp_ne (tg := 41) rfl rfl (fun _ => ?_) (fun q => absurd q (by decide))
  refine r_aload rfl rfl ?_
  refine r_getA (b := ad 48) rfl ⟨rfl, rfl, rfl⟩ (fx_t30 fx) (fx_r30_24 fx) ?_
  refine r_aload rfl rfl ?_
  refine r_getI rfl ⟨rfl, rfl, rfl⟩ (fx_t30 fx) ?_
  refine WR_tI (y := 0) t0 ?_
  refine r_iload rfl rfl ?_
  refine r_iastore rfl (fx_t48 fx) (vp_ct (fx_n48 fx) (vp_in_nI (n := 0) (by omega) (by omega))) ?_
  refine WR_h (h2 := sI h (ad 48) 0 p) (congrArg (fun z => sI h (ad 48) z p) (rfl : _ = 0)) ?_
  have fx : FX n ad sa z0 (sI h (ad 48) 0 p) := (FX.sI fx)
  refine r_aload rfl rfl ?_
  refine r_getA (b := ad 49) rfl ⟨rfl, rfl, rfl⟩ (fx_t30 fx) (fx_r30_25 fx) ?_
  refine r_aload rfl rfl ?_
  refine r_getI rfl ⟨rfl, rfl, rfl⟩ (fx_t30 fx) ?_
  refine WR_tI (y := 0) (Eq.trans (I_ne (fx_ne fx (by decide))) t0) ?_
  refine r_ic (x := 0) rfl rfl ?_
  refine r_iastore rfl (fx_t49 fx) (vp_ct (fx_n49 fx) (vp_in_nI (n := 0) (by omega) (by omega))) ?_
  refine WR_h (h2 := sI (sI h (ad 48) 0 p) (ad 49) 0 0) (congrArg (fun z => sI (sI h (ad 48) 0 p) (ad 49) z 0) (rfl : _ = 0)) ?_
  have fx : FX n ad sa z0 (sI (sI h (ad 48) 0 p) (ad 49) 0 0) := (FX.sI fx)
  refine r_aload rfl rfl ?_
  refine r_dup rfl rfl ?_
  refine r_getI rfl ⟨rfl, rfl, rfl⟩ (fx_t30 fx) ?_
  refine WR_tI (y := 0) (Eq.trans (I_ne (fx_ne fx (by decide))) (Eq.trans (I_ne (fx_ne fx (by decide))) t0)) ?_
  refine r_ic (x := 1) rfl rfl ?_
  refine r_iadd rfl ?_
  refine WR_tI (y := 1) rfl ?_
  refine r_putI rfl ⟨rfl, rfl, rfl⟩ (fx_t30 fx) ?_
  have fx : FX n ad sa z0 (sI (sI (sI h (ad 48) 0 p) (ad 49) 0 0) (ad 30) 23 1) := (FX.sI fx)
  refine r_aload rfl rfl ?_
  refine r_aload rfl rfl ?_
  refine r_getI rfl ⟨rfl, rfl, rfl⟩ (fx_t30 fx) ?_
  refine WR_tI (y := 1) I_eq ?_
  refine r_aload rfl rfl ?_
  refine r_getI rfl ⟨rfl, rfl, rfl⟩ (fx_t30 fx) ?_
  refine WR_tI (y := nI D) (Eq.trans (I_nk (by decide)) (Eq.trans (I_ne (fx_ne fx (by decide))) (Eq.trans (I_ne (fx_ne fx (by decide))) t1))) ?_
  refine r_icmp_le (tg := 90) rfl rfl (fun _ => ?_) (fun q => False.elim (by have : (1 : Int32).toInt = 1 := rfl; have : (nI D).toInt = ((D : Nat) : Int) := nI_toInt (by omega); have := i_nle q; omega))
  refine r_aload rfl rfl ?_
  refine r_getI rfl ⟨rfl, rfl, rfl⟩ (fx_t30 fx) ?_
  refine WR_tI (y := nI D) (Eq.trans (I_nk (by decide)) (Eq.trans (I_ne (fx_ne fx (by decide))) (Eq.trans (I_ne (fx_ne fx (by decide))) t1))) ?_
  refine r_putI rfl ⟨rfl, rfl, rfl⟩ (fx_t30 fx) ?_
  have fx : FX n ad sa z0 (sI (sI (sI (sI h (ad 48) 0 p) (ad 49) 0 0) (ad 30) 23 1) (ad 30) 32 (nI D)) := (FX.sI fx)
  refine r_aload rfl rfl ?_
  refine r_ic (x := 0) rfl rfl ?_
  refine r_putI rfl ⟨rfl, rfl, rfl⟩ (fx_t30 fx) ?_
  have fx : FX n ad sa z0 (sI (sI (sI (sI (sI h (ad 48) 0 p) (ad 49) 0 0) (ad 30) 23 1) (ad 30) 32 (nI D)) (ad 30) 29 0) := (FX.sI fx)
  refine r_vret rfl ?_
  exact (L1)

set_option maxHeartbeats 2000000 in
theorem w_pikl {d : Nat} {Q : mQ} {n : Nat} {ad sa : Nat → Nat} {z0 : Nat} {h : mH} (fx : FX n ad sa z0 h) {k D : Nat} (k1 : 1 ≤ k) (k8 : k < 8) (dd : D < k + 1) (t0 : hI h (ad 30) 23 = nI k) (t1 : hI h (ad 30) 32 = nI D) {w p : Int32} 
    (L1 : Q none (sI (sI (sI (sI (sI (sI h (ad 50) (k - 1) w) (ad 48) k p) (ad 49) k 0) (ad 30) 23 (nI (k + 1))) (ad 30) 32 (nI (k + 1))) (ad 30) 29 0)) : EV (d + 1) 211 [.ref (ad 30), .int w, .int p] h Q := by
  have fx0 := fx
  refine in_211 (Nat.le_of_ble_eq_true rfl) ?_
  show WR _ cd_211 0 [some (.ref (ad 30)), some (.int w), some (.int p)] [] h _
  refine r_aload rfl rfl ?_
  refine r_getI rfl ⟨rfl, rfl, rfl⟩ (fx_t30 fx) ?_
  refine WR_tI (y := nI k) t0 ?_
  refine r_if_le (tg := 19) rfl rfl (fun q => False.elim (by have : (nI k).toInt = ((k : Nat) : Int) := nI_toInt (by omega); have : (0 : Int32).toInt = 0 := rfl; have := i_le q; omega)) (fun _ => ?_)
  refine r_aload rfl rfl ?_
  refine r_getA (b := ad 50) rfl ⟨rfl, rfl, rfl⟩ (fx_t30 fx) (fx_r30_26 fx) ?_
  refine r_aload rfl rfl ?_
  refine r_getI rfl ⟨rfl, rfl, rfl⟩ (fx_t30 fx) ?_
  refine WR_tI (y := nI k) t0 ?_
  refine r_ic (x := 1) rfl rfl ?_
  refine r_isub rfl ?_
  refine WR_tI (y := nI (k - 1)) (Eq.trans (pk_sub (a := k) (b := 1) (by omega)) (congrArg nI (by omega))) ?_
  refine r_iload rfl rfl ?_
  refine r_iastore rfl (fx_t50 fx) (vp_ct (fx_n50 fx) (vp_in_nI (by omega) (by omega))) ?_
  refine WR_h (h2 := sI h (ad 50) (k - 1) w) (congrArg (fun z => sI h (ad 50) z w) ((nI_clamp (by omega)) : _ = k - 1)) ?_
  have fx : FX n ad sa z0 (sI h (ad 50) (k - 1) w) := (FX.sI fx)
  refine r_aload rfl rfl ?_
  refine r_getI rfl ⟨rfl, rfl, rfl⟩ (fx_t30 fx) ?_
  refine WR_tI (y := nI k) (Eq.trans (I_ne (fx_ne fx (by decide))) t0) ?_
  refine r_ic (x := 8) rfl rfl ?_
  refine r_icmp_ne (tg := 41) rfl rfl (fun _ => ?_) (fun q => False.elim (by have : (nI k).toInt = ((k : Nat) : Int) := nI_toInt (by omega); have : (8 : Int32).toInt = 8 := rfl; have := i_eq q; omega))
  refine r_aload rfl rfl ?_
  refine r_getA (b := ad 48) rfl ⟨rfl, rfl, rfl⟩ (fx_t30 fx) (fx_r30_24 fx) ?_
  refine r_aload rfl rfl ?_
  refine r_getI rfl ⟨rfl, rfl, rfl⟩ (fx_t30 fx) ?_
  refine WR_tI (y := nI k) (Eq.trans (I_ne (fx_ne fx (by decide))) t0) ?_
  refine r_iload rfl rfl ?_
  refine r_iastore rfl (fx_t48 fx) (vp_ct (fx_n48 fx) (vp_in_nI (by omega) (by omega))) ?_
  refine WR_h (h2 := sI (sI h (ad 50) (k - 1) w) (ad 48) k p) (congrArg (fun z => sI (sI h (ad 50) (k - 1) w) (ad 48) z p) ((nI_clamp (by omega)) : _ = k)) ?_
  have fx : FX n ad sa z0 (sI (sI h (ad 50) (k - 1) w) (ad 48) k p) := (FX.sI fx)
  refine r_aload rfl rfl ?_
  refine r_getA (b := ad 49) rfl ⟨rfl, rfl, rfl⟩ (fx_t30 fx) (fx_r30_25 fx) ?_
  refine r_aload rfl rfl ?_
  refine r_getI rfl ⟨rfl, rfl, rfl⟩ (fx_t30 fx) ?_
  refine WR_tI (y := nI k) (Eq.trans (I_ne (fx_ne fx (by decide))) (Eq.trans (I_ne (fx_ne fx (by decide))) t0)) ?_
  refine r_ic (x := 0) rfl rfl ?_
  refine r_iastore rfl (fx_t49 fx) (vp_ct (fx_n49 fx) (vp_in_nI (by omega) (by omega))) ?_
  refine WR_h (h2 := sI (sI (sI h (ad 50) (k - 1) w) (ad 48) k p) (ad 49) k 0) (congrArg (fun z => sI (sI (sI h (ad 50) (k - 1) w) (ad 48) k p) (ad 49) z 0) ((nI_clamp (by omega)) : _ = k)) ?_
  have fx : FX n ad sa z0 (sI (sI (sI h (ad 50) (k - 1) w) (ad 48) k p) (ad 49) k 0) := (FX.sI fx)
  refine r_aload rfl rfl ?_
  refine r_dup rfl rfl ?_
  refine r_getI rfl ⟨rfl, rfl, rfl⟩ (fx_t30 fx) ?_
  refine WR_tI (y := nI k) (Eq.trans (I_ne (fx_ne fx (by decide))) (Eq.trans (I_ne (fx_ne fx (by decide))) (Eq.trans (I_ne (fx_ne fx (by decide))) t0))) ?_
  refine r_ic (x := 1) rfl rfl ?_
  refine r_iadd rfl ?_
  refine WR_tI (y := nI (k + 1)) (Eq.trans (nI_add k 1) (congrArg nI (by omega))) ?_
  refine r_putI rfl ⟨rfl, rfl, rfl⟩ (fx_t30 fx) ?_
  have fx : FX n ad sa z0 (sI (sI (sI (sI h (ad 50) (k - 1) w) (ad 48) k p) (ad 49) k 0) (ad 30) 23 (nI (k + 1))) := (FX.sI fx)
  refine r_aload rfl rfl ?_
  refine r_aload rfl rfl ?_
  refine r_getI rfl ⟨rfl, rfl, rfl⟩ (fx_t30 fx) ?_
  refine WR_tI (y := nI (k + 1)) I_eq ?_
  refine r_aload rfl rfl ?_
  refine r_getI rfl ⟨rfl, rfl, rfl⟩ (fx_t30 fx) ?_
  refine WR_tI (y := nI D) (Eq.trans (I_nk (by decide)) (Eq.trans (I_ne (fx_ne fx (by decide))) (Eq.trans (I_ne (fx_ne fx (by decide))) (Eq.trans (I_ne (fx_ne fx (by decide))) t1)))) ?_
  refine r_icmp_le (tg := 90) rfl rfl (fun q => False.elim (by have : (nI (k + 1)).toInt = ((k + 1 : Nat) : Int) := nI_toInt (by omega); have : (nI D).toInt = ((D : Nat) : Int) := nI_toInt (by omega); have := i_le q; omega)) (fun _ => ?_)
  refine r_aload rfl rfl ?_
  refine r_getI rfl ⟨rfl, rfl, rfl⟩ (fx_t30 fx) ?_
  refine WR_tI (y := nI (k + 1)) I_eq ?_
  refine r_goto (tg := 94) rfl rfl ?_
  refine r_putI rfl ⟨rfl, rfl, rfl⟩ (fx_t30 fx) ?_
  have fx : FX n ad sa z0 (sI (sI (sI (sI (sI h (ad 50) (k - 1) w) (ad 48) k p) (ad 49) k 0) (ad 30) 23 (nI (k + 1))) (ad 30) 32 (nI (k + 1))) := (FX.sI fx)
  refine r_aload rfl rfl ?_
  refine r_ic (x := 0) rfl rfl ?_
  refine r_putI rfl ⟨rfl, rfl, rfl⟩ (fx_t30 fx) ?_
  have fx : FX n ad sa z0 (sI (sI (sI (sI (sI (sI h (ad 50) (k - 1) w) (ad 48) k p) (ad 49) k 0) (ad 30) 23 (nI (k + 1))) (ad 30) 32 (nI (k + 1))) (ad 30) 29 0) := (FX.sI fx)
  refine r_vret rfl ?_
  exact (L1)

set_option maxHeartbeats 2000000 in
theorem w_pikg {d : Nat} {Q : mQ} {n : Nat} {ad sa : Nat → Nat} {z0 : Nat} {h : mH} (fx : FX n ad sa z0 h) {k D : Nat} (k1 : 1 ≤ k) (k8 : k < 8) (dd : k + 1 ≤ D) (d8 : D ≤ 8) (t0 : hI h (ad 30) 23 = nI k) (t1 : hI h (ad 30) 32 = nI D) {w p : Int32} 
    (L1 : Q none (sI (sI (sI (sI (sI (sI h (ad 50) (k - 1) w) (ad 48) k p) (ad 49) k 0) (ad 30) 23 (nI (k + 1))) (ad 30) 32 (nI D)) (ad 30) 29 0)) : EV (d + 1) 211 [.ref (ad 30), .int w, .int p] h Q := by
  have fx0 := fx
  refine in_211 (Nat.le_of_ble_eq_true rfl) ?_
  show WR _ cd_211 0 [some (.ref (ad 30)), some (.int w), some (.int p)] [] h _
  refine r_aload rfl rfl ?_
  refine r_getI rfl ⟨rfl, rfl, rfl⟩ (fx_t30 fx) ?_
  refine WR_tI (y := nI k) t0 ?_
  refine r_if_le (tg := 19) rfl rfl (fun q => False.elim (by have : (nI k).toInt = ((k : Nat) : Int) := nI_toInt (by omega); have : (0 : Int32).toInt = 0 := rfl; have := i_le q; omega)) (fun _ => ?_)
  refine r_aload rfl rfl ?_
  refine r_getA (b := ad 50) rfl ⟨rfl, rfl, rfl⟩ (fx_t30 fx) (fx_r30_26 fx) ?_
  refine r_aload rfl rfl ?_
  refine r_getI rfl ⟨rfl, rfl, rfl⟩ (fx_t30 fx) ?_
  refine WR_tI (y := nI k) t0 ?_
  refine r_ic (x := 1) rfl rfl ?_
  refine r_isub rfl ?_
  refine WR_tI (y := nI (k - 1)) (Eq.trans (pk_sub (a := k) (b := 1) (by omega)) (congrArg nI (by omega))) ?_
  refine r_iload rfl rfl ?_
  refine r_iastore rfl (fx_t50 fx) (vp_ct (fx_n50 fx) (vp_in_nI (by omega) (by omega))) ?_
  refine WR_h (h2 := sI h (ad 50) (k - 1) w) (congrArg (fun z => sI h (ad 50) z w) ((nI_clamp (by omega)) : _ = k - 1)) ?_
  have fx : FX n ad sa z0 (sI h (ad 50) (k - 1) w) := (FX.sI fx)
  refine r_aload rfl rfl ?_
  refine r_getI rfl ⟨rfl, rfl, rfl⟩ (fx_t30 fx) ?_
  refine WR_tI (y := nI k) (Eq.trans (I_ne (fx_ne fx (by decide))) t0) ?_
  refine r_ic (x := 8) rfl rfl ?_
  refine r_icmp_ne (tg := 41) rfl rfl (fun _ => ?_) (fun q => False.elim (by have : (nI k).toInt = ((k : Nat) : Int) := nI_toInt (by omega); have : (8 : Int32).toInt = 8 := rfl; have := i_eq q; omega))
  refine r_aload rfl rfl ?_
  refine r_getA (b := ad 48) rfl ⟨rfl, rfl, rfl⟩ (fx_t30 fx) (fx_r30_24 fx) ?_
  refine r_aload rfl rfl ?_
  refine r_getI rfl ⟨rfl, rfl, rfl⟩ (fx_t30 fx) ?_
  refine WR_tI (y := nI k) (Eq.trans (I_ne (fx_ne fx (by decide))) t0) ?_
  refine r_iload rfl rfl ?_
  refine r_iastore rfl (fx_t48 fx) (vp_ct (fx_n48 fx) (vp_in_nI (by omega) (by omega))) ?_
  refine WR_h (h2 := sI (sI h (ad 50) (k - 1) w) (ad 48) k p) (congrArg (fun z => sI (sI h (ad 50) (k - 1) w) (ad 48) z p) ((nI_clamp (by omega)) : _ = k)) ?_
  have fx : FX n ad sa z0 (sI (sI h (ad 50) (k - 1) w) (ad 48) k p) := (FX.sI fx)
  refine r_aload rfl rfl ?_
  refine r_getA (b := ad 49) rfl ⟨rfl, rfl, rfl⟩ (fx_t30 fx) (fx_r30_25 fx) ?_
  refine r_aload rfl rfl ?_
  refine r_getI rfl ⟨rfl, rfl, rfl⟩ (fx_t30 fx) ?_
  refine WR_tI (y := nI k) (Eq.trans (I_ne (fx_ne fx (by decide))) (Eq.trans (I_ne (fx_ne fx (by decide))) t0)) ?_
  refine r_ic (x := 0) rfl rfl ?_
  refine r_iastore rfl (fx_t49 fx) (vp_ct (fx_n49 fx) (vp_in_nI (by omega) (by omega))) ?_
  refine WR_h (h2 := sI (sI (sI h (ad 50) (k - 1) w) (ad 48) k p) (ad 49) k 0) (congrArg (fun z => sI (sI (sI h (ad 50) (k - 1) w) (ad 48) k p) (ad 49) z 0) ((nI_clamp (by omega)) : _ = k)) ?_
  have fx : FX n ad sa z0 (sI (sI (sI h (ad 50) (k - 1) w) (ad 48) k p) (ad 49) k 0) := (FX.sI fx)
  refine r_aload rfl rfl ?_
  refine r_dup rfl rfl ?_
  refine r_getI rfl ⟨rfl, rfl, rfl⟩ (fx_t30 fx) ?_
  refine WR_tI (y := nI k) (Eq.trans (I_ne (fx_ne fx (by decide))) (Eq.trans (I_ne (fx_ne fx (by decide))) (Eq.trans (I_ne (fx_ne fx (by decide))) t0))) ?_
  refine r_ic (x := 1) rfl rfl ?_
  refine r_iadd rfl ?_
  refine WR_tI (y := nI (k + 1)) (Eq.trans (nI_add k 1) (congrArg nI (by omega))) ?_
  refine r_putI rfl ⟨rfl, rfl, rfl⟩ (fx_t30 fx) ?_
  have fx : FX n ad sa z0 (sI (sI (sI (sI h (ad 50) (k - 1) w) (ad 48) k p) (ad 49) k 0) (ad 30) 23 (nI (k + 1))) := (FX.sI fx)
  refine r_aload rfl rfl ?_
  refine r_aload rfl rfl ?_
  refine r_getI rfl ⟨rfl, rfl, rfl⟩ (fx_t30 fx) ?_
  refine WR_tI (y := nI (k + 1)) I_eq ?_
  refine r_aload rfl rfl ?_
  refine r_getI rfl ⟨rfl, rfl, rfl⟩ (fx_t30 fx) ?_
  refine WR_tI (y := nI D) (Eq.trans (I_nk (by decide)) (Eq.trans (I_ne (fx_ne fx (by decide))) (Eq.trans (I_ne (fx_ne fx (by decide))) (Eq.trans (I_ne (fx_ne fx (by decide))) t1)))) ?_
  refine r_icmp_le (tg := 90) rfl rfl (fun _ => ?_) (fun q => False.elim (by have : (nI (k + 1)).toInt = ((k + 1 : Nat) : Int) := nI_toInt (by omega); have : (nI D).toInt = ((D : Nat) : Int) := nI_toInt (by omega); have := i_nle q; omega))
  refine r_aload rfl rfl ?_
  refine r_getI rfl ⟨rfl, rfl, rfl⟩ (fx_t30 fx) ?_
  refine WR_tI (y := nI D) (Eq.trans (I_nk (by decide)) (Eq.trans (I_ne (fx_ne fx (by decide))) (Eq.trans (I_ne (fx_ne fx (by decide))) (Eq.trans (I_ne (fx_ne fx (by decide))) t1)))) ?_
  refine r_putI rfl ⟨rfl, rfl, rfl⟩ (fx_t30 fx) ?_
  have fx : FX n ad sa z0 (sI (sI (sI (sI (sI h (ad 50) (k - 1) w) (ad 48) k p) (ad 49) k 0) (ad 30) 23 (nI (k + 1))) (ad 30) 32 (nI D)) := (FX.sI fx)
  refine r_aload rfl rfl ?_
  refine r_ic (x := 0) rfl rfl ?_
  refine r_putI rfl ⟨rfl, rfl, rfl⟩ (fx_t30 fx) ?_
  have fx : FX n ad sa z0 (sI (sI (sI (sI (sI (sI h (ad 50) (k - 1) w) (ad 48) k p) (ad 49) k 0) (ad 30) 23 (nI (k + 1))) (ad 30) 32 (nI D)) (ad 30) 29 0) := (FX.sI fx)
  refine r_vret rfl ?_
  exact (L1)

set_option maxHeartbeats 2000000 in
theorem w_lpb {d : Nat} {Q : mQ} {n : Nat} {ad sa : Nat → Nat} {z0 : Nat} {h : mH} (fx : FX n ad sa z0 h) {k : Nat} (k8 : k < 8) {pl : Int32} (t0 : hI h (ad 30) 23 = nI (k + 1)) (t1 : hI h (ad 30) 47 = 1) 
    (C1 : EV (d) 213 [.ref (ad 30)] h (fun v_ h_ => WR (d) cd_209 89 [some (.ref (ad 30)), some (.int pl)] (v_.toList ++ []) h_ Q)) : WR (d) cd_209 71 [some (.ref (ad 30)), some (.int pl)] [] h Q := by
  have fx0 := fx
  refine r_aload rfl rfl ?_
  refine r_getI rfl ⟨rfl, rfl, rfl⟩ (fx_t30 fx) ?_
  refine WR_tI (y := nI (k + 1)) t0 ?_
  refine r_if_le (tg := 135) rfl rfl (fun q => False.elim (by have : (nI (k + 1)).toInt = ((k + 1 : Nat) : Int) := nI_toInt (by omega); have : (0 : Int32).toInt = 0 := rfl; have := i_le q; omega)) (fun _ => ?_)
  refine r_aload rfl rfl ?_
  refine r_getZ rfl ⟨rfl, rfl, rfl⟩ (fx_t30 fx) ?_
  refine WR_tI (y := 1) t1 ?_
  refine r_if_eq (tg := 92) rfl rfl (fun q => absurd q (by decide)) (fun _ => ?_)
  refine r_aload rfl rfl ?_
  refine r_cv (y := 213) (ra := []) (rest := []) rfl ⟨⟨rfl, rfl⟩, rfl, by decide⟩ (fx_t30 fx) rfl rfl (Nat.le_of_ble_eq_true rfl) ?_
  exact (C1)

set_option maxHeartbeats 2000000 in
theorem w_lpg {d : Nat} {Q : mQ} {n : Nat} {ad sa : Nat → Nat} {z0 : Nat} {h : mH} (fx : FX n ad sa z0 h) {k : Nat} (k8 : k < 8) {pl : Int32} (t0 : hI h (ad 30) 23 = nI (k + 1)) (t1 : hI h (ad 30) 47 = 0) (t2 : hI h (ad 30) 29 = 0) 
    (C1 : EV (d) 215 [.ref (ad 30)] h (fun v_ h_ => WR (d) cd_209 132 [some (.ref (ad 30)), some (.int pl)] (v_.toList ++ []) h_ Q)) : WR (d) cd_209 71 [some (.ref (ad 30)), some (.int pl)] [] h Q := by
  have fx0 := fx
  refine r_aload rfl rfl ?_
  refine r_getI rfl ⟨rfl, rfl, rfl⟩ (fx_t30 fx) ?_
  refine WR_tI (y := nI (k + 1)) t0 ?_
  refine r_if_le (tg := 135) rfl rfl (fun q => False.elim (by have : (nI (k + 1)).toInt = ((k + 1 : Nat) : Int) := nI_toInt (by omega); have : (0 : Int32).toInt = 0 := rfl; have := i_le q; omega)) (fun _ => ?_)
  refine r_aload rfl rfl ?_
  refine r_getZ rfl ⟨rfl, rfl, rfl⟩ (fx_t30 fx) ?_
  refine WR_tI (y := 0) t1 ?_
  refine r_if_eq (tg := 92) rfl rfl (fun _ => ?_) (fun q => absurd q (by decide))
  refine r_aload rfl rfl ?_
  refine r_getI rfl ⟨rfl, rfl, rfl⟩ (fx_t30 fx) ?_
  refine WR_tI (y := 0) t2 ?_
  refine r_if_eq (tg := 128) rfl rfl (fun _ => ?_) (fun q => absurd q (by decide))
  refine r_aload rfl rfl ?_
  refine r_cv (y := 215) (ra := []) (rest := []) rfl ⟨⟨rfl, rfl⟩, rfl, by decide⟩ (fx_t30 fx) rfl rfl (Nat.le_of_ble_eq_true rfl) ?_
  exact (C1)

set_option maxHeartbeats 2000000 in
theorem w_lpp1 {d : Nat} {Q : mQ} {n : Nat} {ad sa : Nat → Nat} {z0 : Nat} {h : mH} (fx : FX n ad sa z0 h) {k : Nat} (k8 : k < 8) {pl : Int32} (t0 : hI h (ad 30) 23 = nI (k + 1)) (k1 : 1 ≤ k) (t1 : hI h (ad 30) 47 = 0) (t2 : hI h (ad 30) 29 = 1) 
    (K1 : WR (d) cd_209 71 [some (.ref (ad 30)), some (.int pl)] [] (sI (sI h (ad 30) 23 (nI k)) (ad 30) 47 1) Q) : WR (d) cd_209 71 [some (.ref (ad 30)), some (.int pl)] [] h Q := by
  have fx0 := fx
  refine r_aload rfl rfl ?_
  refine r_getI rfl ⟨rfl, rfl, rfl⟩ (fx_t30 fx) ?_
  refine WR_tI (y := nI (k + 1)) t0 ?_
  refine r_if_le (tg := 135) rfl rfl (fun q => False.elim (by have : (nI (k + 1)).toInt = ((k + 1 : Nat) : Int) := nI_toInt (by omega); have : (0 : Int32).toInt = 0 := rfl; have := i_le q; omega)) (fun _ => ?_)
  refine r_aload rfl rfl ?_
  refine r_getZ rfl ⟨rfl, rfl, rfl⟩ (fx_t30 fx) ?_
  refine WR_tI (y := 0) t1 ?_
  refine r_if_eq (tg := 92) rfl rfl (fun _ => ?_) (fun q => absurd q (by decide))
  refine r_aload rfl rfl ?_
  refine r_getI rfl ⟨rfl, rfl, rfl⟩ (fx_t30 fx) ?_
  refine WR_tI (y := 1) t2 ?_
  refine r_if_eq (tg := 128) rfl rfl (fun q => absurd q (by decide)) (fun _ => ?_)
  refine r_aload rfl rfl ?_
  refine r_dup rfl rfl ?_
  refine r_getI rfl ⟨rfl, rfl, rfl⟩ (fx_t30 fx) ?_
  refine WR_tI (y := nI (k + 1)) t0 ?_
  refine r_ic (x := 1) rfl rfl ?_
  refine r_isub rfl ?_
  refine WR_tI (y := nI k) (Eq.trans (pk_sub (a := k + 1) (b := 1) (by omega)) (congrArg nI (by omega))) ?_
  refine r_putI rfl ⟨rfl, rfl, rfl⟩ (fx_t30 fx) ?_
  have fx : FX n ad sa z0 (sI h (ad 30) 23 (nI k)) := (FX.sI fx)
  refine r_aload rfl rfl ?_
  refine r_aload rfl rfl ?_
  refine r_getI rfl ⟨rfl, rfl, rfl⟩ (fx_t30 fx) ?_
  refine WR_tI (y := nI k) I_eq ?_
  refine r_if_le (tg := 121) rfl rfl (fun q => False.elim (by have : (nI k).toInt = ((k : Nat) : Int) := nI_toInt (by omega); have : (0 : Int32).toInt = 0 := rfl; have := i_le q; omega)) (fun _ => ?_)
  refine r_ic (x := 1) rfl rfl ?_
  refine r_goto (tg := 122) rfl rfl ?_
  refine r_putZ rfl ⟨rfl, rfl, rfl⟩ (fx_t30 fx) (.inr rfl) ?_
  have fx : FX n ad sa z0 (sI (sI h (ad 30) 23 (nI k)) (ad 30) 47 1) := (FX.sI fx)
  refine r_goto (tg := 71) rfl rfl ?_
  exact (K1)

set_option maxHeartbeats 2000000 in
theorem w_lpz1 {d : Nat} {Q : mQ} {n : Nat} {ad sa : Nat → Nat} {z0 : Nat} {h : mH} (fx : FX n ad sa z0 h) {pl : Int32} (t0 : hI h (ad 30) 23 = 1) (t1 : hI h (ad 30) 47 = 0) (t2 : hI h (ad 30) 29 = 1) 
    (K1 : WR (d) cd_209 71 [some (.ref (ad 30)), some (.int pl)] [] (sI (sI h (ad 30) 23 0) (ad 30) 47 0) Q) : WR (d) cd_209 71 [some (.ref (ad 30)), some (.int pl)] [] h Q := by
  have fx0 := fx
  refine r_aload rfl rfl ?_
  refine r_getI rfl ⟨rfl, rfl, rfl⟩ (fx_t30 fx) ?_
  refine WR_tI (y := 1) t0 ?_
  refine r_if_le (tg := 135) rfl rfl (fun q => absurd q (by decide)) (fun _ => ?_)
  refine r_aload rfl rfl ?_
  refine r_getZ rfl ⟨rfl, rfl, rfl⟩ (fx_t30 fx) ?_
  refine WR_tI (y := 0) t1 ?_
  refine r_if_eq (tg := 92) rfl rfl (fun _ => ?_) (fun q => absurd q (by decide))
  refine r_aload rfl rfl ?_
  refine r_getI rfl ⟨rfl, rfl, rfl⟩ (fx_t30 fx) ?_
  refine WR_tI (y := 1) t2 ?_
  refine r_if_eq (tg := 128) rfl rfl (fun q => absurd q (by decide)) (fun _ => ?_)
  refine r_aload rfl rfl ?_
  refine r_dup rfl rfl ?_
  refine r_getI rfl ⟨rfl, rfl, rfl⟩ (fx_t30 fx) ?_
  refine WR_tI (y := 1) t0 ?_
  refine r_ic (x := 1) rfl rfl ?_
  refine r_isub rfl ?_
  refine WR_tI (y := 0) rfl ?_
  refine r_putI rfl ⟨rfl, rfl, rfl⟩ (fx_t30 fx) ?_
  have fx : FX n ad sa z0 (sI h (ad 30) 23 0) := (FX.sI fx)
  refine r_aload rfl rfl ?_
  refine r_aload rfl rfl ?_
  refine r_getI rfl ⟨rfl, rfl, rfl⟩ (fx_t30 fx) ?_
  refine WR_tI (y := 0) I_eq ?_
  refine r_if_le (tg := 121) rfl rfl (fun _ => ?_) (fun q => absurd q (by decide))
  refine r_ic (x := 0) rfl rfl ?_
  refine r_putZ rfl ⟨rfl, rfl, rfl⟩ (fx_t30 fx) (.inl rfl) ?_
  have fx : FX n ad sa z0 (sI (sI h (ad 30) 23 0) (ad 30) 47 0) := (FX.sI fx)
  refine r_goto (tg := 71) rfl rfl ?_
  exact (K1)

set_option maxHeartbeats 2000000 in
theorem w_lpp2 {d : Nat} {Q : mQ} {n : Nat} {ad sa : Nat → Nat} {z0 : Nat} {h : mH} (fx : FX n ad sa z0 h) {k : Nat} (k8 : k < 8) {pl : Int32} (t0 : hI h (ad 30) 23 = nI (k + 1)) (k1 : 1 ≤ k) (t1 : hI h (ad 30) 47 = 0) (t2 : hI h (ad 30) 29 = 2) 
    (K1 : WR (d) cd_209 71 [some (.ref (ad 30)), some (.int pl)] [] (sI (sI h (ad 30) 23 (nI k)) (ad 30) 47 1) Q) : WR (d) cd_209 71 [some (.ref (ad 30)), some (.int pl)] [] h Q := by
  have fx0 := fx
  refine r_aload rfl rfl ?_
  refine r_getI rfl ⟨rfl, rfl, rfl⟩ (fx_t30 fx) ?_
  refine WR_tI (y := nI (k + 1)) t0 ?_
  refine r_if_le (tg := 135) rfl rfl (fun q => False.elim (by have : (nI (k + 1)).toInt = ((k + 1 : Nat) : Int) := nI_toInt (by omega); have : (0 : Int32).toInt = 0 := rfl; have := i_le q; omega)) (fun _ => ?_)
  refine r_aload rfl rfl ?_
  refine r_getZ rfl ⟨rfl, rfl, rfl⟩ (fx_t30 fx) ?_
  refine WR_tI (y := 0) t1 ?_
  refine r_if_eq (tg := 92) rfl rfl (fun _ => ?_) (fun q => absurd q (by decide))
  refine r_aload rfl rfl ?_
  refine r_getI rfl ⟨rfl, rfl, rfl⟩ (fx_t30 fx) ?_
  refine WR_tI (y := 2) t2 ?_
  refine r_if_eq (tg := 128) rfl rfl (fun q => absurd q (by decide)) (fun _ => ?_)
  refine r_aload rfl rfl ?_
  refine r_dup rfl rfl ?_
  refine r_getI rfl ⟨rfl, rfl, rfl⟩ (fx_t30 fx) ?_
  refine WR_tI (y := nI (k + 1)) t0 ?_
  refine r_ic (x := 1) rfl rfl ?_
  refine r_isub rfl ?_
  refine WR_tI (y := nI k) (Eq.trans (pk_sub (a := k + 1) (b := 1) (by omega)) (congrArg nI (by omega))) ?_
  refine r_putI rfl ⟨rfl, rfl, rfl⟩ (fx_t30 fx) ?_
  have fx : FX n ad sa z0 (sI h (ad 30) 23 (nI k)) := (FX.sI fx)
  refine r_aload rfl rfl ?_
  refine r_aload rfl rfl ?_
  refine r_getI rfl ⟨rfl, rfl, rfl⟩ (fx_t30 fx) ?_
  refine WR_tI (y := nI k) I_eq ?_
  refine r_if_le (tg := 121) rfl rfl (fun q => False.elim (by have : (nI k).toInt = ((k : Nat) : Int) := nI_toInt (by omega); have : (0 : Int32).toInt = 0 := rfl; have := i_le q; omega)) (fun _ => ?_)
  refine r_ic (x := 1) rfl rfl ?_
  refine r_goto (tg := 122) rfl rfl ?_
  refine r_putZ rfl ⟨rfl, rfl, rfl⟩ (fx_t30 fx) (.inr rfl) ?_
  have fx : FX n ad sa z0 (sI (sI h (ad 30) 23 (nI k)) (ad 30) 47 1) := (FX.sI fx)
  refine r_goto (tg := 71) rfl rfl ?_
  exact (K1)

set_option maxHeartbeats 2000000 in
theorem w_lpz2 {d : Nat} {Q : mQ} {n : Nat} {ad sa : Nat → Nat} {z0 : Nat} {h : mH} (fx : FX n ad sa z0 h) {pl : Int32} (t0 : hI h (ad 30) 23 = 1) (t1 : hI h (ad 30) 47 = 0) (t2 : hI h (ad 30) 29 = 2) 
    (K1 : WR (d) cd_209 71 [some (.ref (ad 30)), some (.int pl)] [] (sI (sI h (ad 30) 23 0) (ad 30) 47 0) Q) : WR (d) cd_209 71 [some (.ref (ad 30)), some (.int pl)] [] h Q := by
  have fx0 := fx
  refine r_aload rfl rfl ?_
  refine r_getI rfl ⟨rfl, rfl, rfl⟩ (fx_t30 fx) ?_
  refine WR_tI (y := 1) t0 ?_
  refine r_if_le (tg := 135) rfl rfl (fun q => absurd q (by decide)) (fun _ => ?_)
  refine r_aload rfl rfl ?_
  refine r_getZ rfl ⟨rfl, rfl, rfl⟩ (fx_t30 fx) ?_
  refine WR_tI (y := 0) t1 ?_
  refine r_if_eq (tg := 92) rfl rfl (fun _ => ?_) (fun q => absurd q (by decide))
  refine r_aload rfl rfl ?_
  refine r_getI rfl ⟨rfl, rfl, rfl⟩ (fx_t30 fx) ?_
  refine WR_tI (y := 2) t2 ?_
  refine r_if_eq (tg := 128) rfl rfl (fun q => absurd q (by decide)) (fun _ => ?_)
  refine r_aload rfl rfl ?_
  refine r_dup rfl rfl ?_
  refine r_getI rfl ⟨rfl, rfl, rfl⟩ (fx_t30 fx) ?_
  refine WR_tI (y := 1) t0 ?_
  refine r_ic (x := 1) rfl rfl ?_
  refine r_isub rfl ?_
  refine WR_tI (y := 0) rfl ?_
  refine r_putI rfl ⟨rfl, rfl, rfl⟩ (fx_t30 fx) ?_
  have fx : FX n ad sa z0 (sI h (ad 30) 23 0) := (FX.sI fx)
  refine r_aload rfl rfl ?_
  refine r_aload rfl rfl ?_
  refine r_getI rfl ⟨rfl, rfl, rfl⟩ (fx_t30 fx) ?_
  refine WR_tI (y := 0) I_eq ?_
  refine r_if_le (tg := 121) rfl rfl (fun _ => ?_) (fun q => absurd q (by decide))
  refine r_ic (x := 0) rfl rfl ?_
  refine r_putZ rfl ⟨rfl, rfl, rfl⟩ (fx_t30 fx) (.inl rfl) ?_
  have fx : FX n ad sa z0 (sI (sI h (ad 30) 23 0) (ad 30) 47 0) := (FX.sI fx)
  refine r_goto (tg := 71) rfl rfl ?_
  exact (K1)

set_option maxHeartbeats 2000000 in
theorem w_lpp3 {d : Nat} {Q : mQ} {n : Nat} {ad sa : Nat → Nat} {z0 : Nat} {h : mH} (fx : FX n ad sa z0 h) {k : Nat} (k8 : k < 8) {pl : Int32} (t0 : hI h (ad 30) 23 = nI (k + 1)) (k1 : 1 ≤ k) (t1 : hI h (ad 30) 47 = 0) (t2 : hI h (ad 30) 29 = 3) 
    (K1 : WR (d) cd_209 71 [some (.ref (ad 30)), some (.int pl)] [] (sI (sI h (ad 30) 23 (nI k)) (ad 30) 47 1) Q) : WR (d) cd_209 71 [some (.ref (ad 30)), some (.int pl)] [] h Q := by
  have fx0 := fx
  refine r_aload rfl rfl ?_
  refine r_getI rfl ⟨rfl, rfl, rfl⟩ (fx_t30 fx) ?_
  refine WR_tI (y := nI (k + 1)) t0 ?_
  refine r_if_le (tg := 135) rfl rfl (fun q => False.elim (by have : (nI (k + 1)).toInt = ((k + 1 : Nat) : Int) := nI_toInt (by omega); have : (0 : Int32).toInt = 0 := rfl; have := i_le q; omega)) (fun _ => ?_)
  refine r_aload rfl rfl ?_
  refine r_getZ rfl ⟨rfl, rfl, rfl⟩ (fx_t30 fx) ?_
  refine WR_tI (y := 0) t1 ?_
  refine r_if_eq (tg := 92) rfl rfl (fun _ => ?_) (fun q => absurd q (by decide))
  refine r_aload rfl rfl ?_
  refine r_getI rfl ⟨rfl, rfl, rfl⟩ (fx_t30 fx) ?_
  refine WR_tI (y := 3) t2 ?_
  refine r_if_eq (tg := 128) rfl rfl (fun q => absurd q (by decide)) (fun _ => ?_)
  refine r_aload rfl rfl ?_
  refine r_dup rfl rfl ?_
  refine r_getI rfl ⟨rfl, rfl, rfl⟩ (fx_t30 fx) ?_
  refine WR_tI (y := nI (k + 1)) t0 ?_
  refine r_ic (x := 1) rfl rfl ?_
  refine r_isub rfl ?_
  refine WR_tI (y := nI k) (Eq.trans (pk_sub (a := k + 1) (b := 1) (by omega)) (congrArg nI (by omega))) ?_
  refine r_putI rfl ⟨rfl, rfl, rfl⟩ (fx_t30 fx) ?_
  have fx : FX n ad sa z0 (sI h (ad 30) 23 (nI k)) := (FX.sI fx)
  refine r_aload rfl rfl ?_
  refine r_aload rfl rfl ?_
  refine r_getI rfl ⟨rfl, rfl, rfl⟩ (fx_t30 fx) ?_
  refine WR_tI (y := nI k) I_eq ?_
  refine r_if_le (tg := 121) rfl rfl (fun q => False.elim (by have : (nI k).toInt = ((k : Nat) : Int) := nI_toInt (by omega); have : (0 : Int32).toInt = 0 := rfl; have := i_le q; omega)) (fun _ => ?_)
  refine r_ic (x := 1) rfl rfl ?_
  refine r_goto (tg := 122) rfl rfl ?_
  refine r_putZ rfl ⟨rfl, rfl, rfl⟩ (fx_t30 fx) (.inr rfl) ?_
  have fx : FX n ad sa z0 (sI (sI h (ad 30) 23 (nI k)) (ad 30) 47 1) := (FX.sI fx)
  refine r_goto (tg := 71) rfl rfl ?_
  exact (K1)

set_option maxHeartbeats 2000000 in
theorem w_lpz3 {d : Nat} {Q : mQ} {n : Nat} {ad sa : Nat → Nat} {z0 : Nat} {h : mH} (fx : FX n ad sa z0 h) {pl : Int32} (t0 : hI h (ad 30) 23 = 1) (t1 : hI h (ad 30) 47 = 0) (t2 : hI h (ad 30) 29 = 3) 
    (K1 : WR (d) cd_209 71 [some (.ref (ad 30)), some (.int pl)] [] (sI (sI h (ad 30) 23 0) (ad 30) 47 0) Q) : WR (d) cd_209 71 [some (.ref (ad 30)), some (.int pl)] [] h Q := by
  have fx0 := fx
  refine r_aload rfl rfl ?_
  refine r_getI rfl ⟨rfl, rfl, rfl⟩ (fx_t30 fx) ?_
  refine WR_tI (y := 1) t0 ?_
  refine r_if_le (tg := 135) rfl rfl (fun q => absurd q (by decide)) (fun _ => ?_)
  refine r_aload rfl rfl ?_
  refine r_getZ rfl ⟨rfl, rfl, rfl⟩ (fx_t30 fx) ?_
  refine WR_tI (y := 0) t1 ?_
  refine r_if_eq (tg := 92) rfl rfl (fun _ => ?_) (fun q => absurd q (by decide))
  refine r_aload rfl rfl ?_
  refine r_getI rfl ⟨rfl, rfl, rfl⟩ (fx_t30 fx) ?_
  refine WR_tI (y := 3) t2 ?_
  refine r_if_eq (tg := 128) rfl rfl (fun q => absurd q (by decide)) (fun _ => ?_)
  refine r_aload rfl rfl ?_
  refine r_dup rfl rfl ?_
  refine r_getI rfl ⟨rfl, rfl, rfl⟩ (fx_t30 fx) ?_
  refine WR_tI (y := 1) t0 ?_
  refine r_ic (x := 1) rfl rfl ?_
  refine r_isub rfl ?_
  refine WR_tI (y := 0) rfl ?_
  refine r_putI rfl ⟨rfl, rfl, rfl⟩ (fx_t30 fx) ?_
  have fx : FX n ad sa z0 (sI h (ad 30) 23 0) := (FX.sI fx)
  refine r_aload rfl rfl ?_
  refine r_aload rfl rfl ?_
  refine r_getI rfl ⟨rfl, rfl, rfl⟩ (fx_t30 fx) ?_
  refine WR_tI (y := 0) I_eq ?_
  refine r_if_le (tg := 121) rfl rfl (fun _ => ?_) (fun q => absurd q (by decide))
  refine r_ic (x := 0) rfl rfl ?_
  refine r_putZ rfl ⟨rfl, rfl, rfl⟩ (fx_t30 fx) (.inl rfl) ?_
  have fx : FX n ad sa z0 (sI (sI h (ad 30) 23 0) (ad 30) 47 0) := (FX.sI fx)
  refine r_goto (tg := 71) rfl rfl ?_
  exact (K1)

set_option maxHeartbeats 2000000 in
theorem w_lr89 {d : Nat} {Q : mQ} {n : Nat} {ad sa : Nat → Nat} {z0 : Nat} {h : mH} (fx : FX n ad sa z0 h) {pl : Int32} 
    (K1 : WR (d) cd_209 71 [some (.ref (ad 30)), some (.int pl)] [] h Q) : WR (d) cd_209 89 [some (.ref (ad 30)), some (.int pl)] [] h Q := by
  have fx0 := fx
  refine r_goto (tg := 71) rfl rfl ?_
  exact (K1)

set_option maxHeartbeats 2000000 in
theorem w_lr132 {d : Nat} {Q : mQ} {n : Nat} {ad sa : Nat → Nat} {z0 : Nat} {h : mH} (fx : FX n ad sa z0 h) {pl : Int32} 
    (K1 : WR (d) cd_209 71 [some (.ref (ad 30)), some (.int pl)] [] h Q) : WR (d) cd_209 132 [some (.ref (ad 30)), some (.int pl)] [] h Q := by
  have fx0 := fx
  refine r_goto (tg := 71) rfl rfl ?_
  exact (K1)

set_option maxHeartbeats 2000000 in
theorem w_lpe {d : Nat} {Q : mQ} {n : Nat} {ad sa : Nat → Nat} {z0 : Nat} {h : mH} (fx : FX n ad sa z0 h) {pl : Int32} (t0 : hI h (ad 30) 23 = 0) 
    (K1 : WR (d) cd_209 135 [some (.ref (ad 30)), some (.int pl)] [] h Q) : WR (d) cd_209 71 [some (.ref (ad 30)), some (.int pl)] [] h Q := by
  have fx0 := fx
  refine r_aload rfl rfl ?_
  refine r_getI rfl ⟨rfl, rfl, rfl⟩ (fx_t30 fx) ?_
  refine WR_tI (y := 0) t0 ?_
  refine r_if_le (tg := 135) rfl rfl (fun _ => ?_) (fun q => absurd q (by decide))
  exact (K1)

set_option maxHeartbeats 2000000 in
theorem w_gse {d : Nat} {Q : mQ} {n : Nat} {ad sa : Nat → Nat} {z0 : Nat} {h : mH} (fx : FX n ad sa z0 h) {k p i l : Nat} (k8 : k < 8) (p10 : p < 10) (l16 : l ≤ 16) (t0 : hI h (ad 30) 23 = nI (k + 1)) (t1 : hI h (ad 48) k = nI p) (t2 : hI h (ad 49) k = nI i) (t3 : hI h (ad 43) p = nI l) (il : i = l) 
    (L1 : Q none (sI (sI h (ad 30) 29 1) (ad 30) 30 0)) : EV (d + 2) 215 [.ref (ad 30)] h Q := by
  have fx0 := fx
  refine in_215 (Nat.le_of_ble_eq_true rfl) ?_
  show WR _ cd_215 0 [some (.ref (ad 30)), none, none, none, none, none] [] h _
  refine r_aload rfl rfl ?_
  refine r_getI rfl ⟨rfl, rfl, rfl⟩ (fx_t30 fx) ?_
  refine WR_tI (y := nI (k + 1)) t0 ?_
  refine r_ic (x := 1) rfl rfl ?_
  refine r_isub rfl ?_
  refine WR_tI (y := nI k) (Eq.trans (pk_sub (a := k + 1) (b := 1) (by omega)) (congrArg nI (by omega))) ?_
  refine r_istore (lv' := [some (.ref (ad 30)), some (.int (nI k)), none, none, none, none]) rfl (Nat.le_of_ble_eq_true rfl) rfl ?_
  refine r_aload rfl rfl ?_
  refine r_getA (b := ad 48) rfl ⟨rfl, rfl, rfl⟩ (fx_t30 fx) (fx_r30_24 fx) ?_
  refine r_iload rfl rfl ?_
  refine r_iaload rfl (.inl (fx_t48 fx)) (vp_ct (fx_n48 fx) (vp_in_nI (by omega) (by omega))) ?_
  refine WR_tI (congrArg (hI h (ad 48)) ((nI_clamp (by omega)) : _ = k)) ?_
  refine WR_tI (y := nI p) t1 ?_
  refine r_istore (lv' := [some (.ref (ad 30)), some (.int (nI k)), some (.int (nI p)), none, none, none]) rfl (Nat.le_of_ble_eq_true rfl) rfl ?_
  refine r_aload rfl rfl ?_
  refine r_getA (b := ad 49) rfl ⟨rfl, rfl, rfl⟩ (fx_t30 fx) (fx_r30_25 fx) ?_
  refine r_iload rfl rfl ?_
  refine r_iaload rfl (.inl (fx_t49 fx)) (vp_ct (fx_n49 fx) (vp_in_nI (by omega) (by omega))) ?_
  refine WR_tI (congrArg (hI h (ad 49)) ((nI_clamp (by omega)) : _ = k)) ?_
  refine WR_tI (y := nI i) t2 ?_
  refine r_aload rfl rfl ?_
  refine r_getA (b := ad 43) rfl ⟨rfl, rfl, rfl⟩ (fx_t30 fx) (fx_r30_18 fx) ?_
  refine r_iload rfl rfl ?_
  refine r_iaload rfl (.inl (fx_t43 fx)) (vp_ct (fx_n43 fx) (vp_in_nI (by omega) (by omega))) ?_
  refine WR_tI (congrArg (hI h (ad 43)) ((nI_clamp (by omega)) : _ = p)) ?_
  refine WR_tI (y := nI l) t3 ?_
  refine r_icmp_ne (tg := 36) rfl rfl (fun q => False.elim (by have : (nI i).toInt = ((i : Nat) : Int) := nI_toInt (by omega); have : (nI l).toInt = ((l : Nat) : Int) := nI_toInt (by omega); have := i_neq q; omega)) (fun _ => ?_)
  refine r_aload rfl rfl ?_
  refine r_ic (x := 1) rfl rfl ?_
  refine r_ic (x := 0) rfl rfl ?_
  refine r_cv (y := 212) (ra := [.int 0, .int 1]) (rest := []) rfl ⟨⟨rfl, rfl⟩, rfl, by decide⟩ (fx_t30 fx) rfl rfl (Nat.le_of_ble_eq_true rfl) ?_
  refine in_212 (Nat.le_of_ble_eq_true rfl) ?_
  show WR _ cd_212 0 [some (.ref (ad 30)), some (.int 1), some (.int 0)] [] h _
  refine r_aload rfl rfl ?_
  refine r_iload rfl rfl ?_
  refine r_putI rfl ⟨rfl, rfl, rfl⟩ (fx_t30 fx) ?_
  have fx : FX n ad sa z0 (sI h (ad 30) 29 1) := (FX.sI fx)
  refine r_aload rfl rfl ?_
  refine r_iload rfl rfl ?_
  refine r_putI rfl ⟨rfl, rfl, rfl⟩ (fx_t30 fx) ?_
  have fx : FX n ad sa z0 (sI (sI h (ad 30) 29 1) (ad 30) 30 0) := (FX.sI fx)
  refine r_vret rfl ?_
  show WR _ cd_215 35 [some (.ref (ad 30)), some (.int (nI k)), some (.int (nI p)), none, none, none] [] (sI (sI h (ad 30) 29 1) (ad 30) 30 0) _
  refine r_vret rfl ?_
  exact (L1)

set_option maxHeartbeats 2000000 in
theorem w_gsb {d : Nat} {Q : mQ} {n : Nat} {ad sa : Nat → Nat} {z0 : Nat} {h : mH} (fx : FX n ad sa z0 h) {k p i l : Nat} (k8 : k < 8) (p10 : p < 10) (l16 : l ≤ 16) (t0 : hI h (ad 30) 23 = nI (k + 1)) (t1 : hI h (ad 48) k = nI p) (t2 : hI h (ad 49) k = nI i) (t3 : hI h (ad 43) p = nI l) (il : i < l) (t4 : hI h (ad 30) 31 = 100) 
    (L1 : Q none (sI (sI h (ad 30) 29 3) (ad 30) 30 9)) : EV (d + 2) 215 [.ref (ad 30)] h Q := by
  have fx0 := fx
  refine in_215 (Nat.le_of_ble_eq_true rfl) ?_
  show WR _ cd_215 0 [some (.ref (ad 30)), none, none, none, none, none] [] h _
  refine r_aload rfl rfl ?_
  refine r_getI rfl ⟨rfl, rfl, rfl⟩ (fx_t30 fx) ?_
  refine WR_tI (y := nI (k + 1)) t0 ?_
  refine r_ic (x := 1) rfl rfl ?_
  refine r_isub rfl ?_
  refine WR_tI (y := nI k) (Eq.trans (pk_sub (a := k + 1) (b := 1) (by omega)) (congrArg nI (by omega))) ?_
  refine r_istore (lv' := [some (.ref (ad 30)), some (.int (nI k)), none, none, none, none]) rfl (Nat.le_of_ble_eq_true rfl) rfl ?_
  refine r_aload rfl rfl ?_
  refine r_getA (b := ad 48) rfl ⟨rfl, rfl, rfl⟩ (fx_t30 fx) (fx_r30_24 fx) ?_
  refine r_iload rfl rfl ?_
  refine r_iaload rfl (.inl (fx_t48 fx)) (vp_ct (fx_n48 fx) (vp_in_nI (by omega) (by omega))) ?_
  refine WR_tI (congrArg (hI h (ad 48)) ((nI_clamp (by omega)) : _ = k)) ?_
  refine WR_tI (y := nI p) t1 ?_
  refine r_istore (lv' := [some (.ref (ad 30)), some (.int (nI k)), some (.int (nI p)), none, none, none]) rfl (Nat.le_of_ble_eq_true rfl) rfl ?_
  refine r_aload rfl rfl ?_
  refine r_getA (b := ad 49) rfl ⟨rfl, rfl, rfl⟩ (fx_t30 fx) (fx_r30_25 fx) ?_
  refine r_iload rfl rfl ?_
  refine r_iaload rfl (.inl (fx_t49 fx)) (vp_ct (fx_n49 fx) (vp_in_nI (by omega) (by omega))) ?_
  refine WR_tI (congrArg (hI h (ad 49)) ((nI_clamp (by omega)) : _ = k)) ?_
  refine WR_tI (y := nI i) t2 ?_
  refine r_aload rfl rfl ?_
  refine r_getA (b := ad 43) rfl ⟨rfl, rfl, rfl⟩ (fx_t30 fx) (fx_r30_18 fx) ?_
  refine r_iload rfl rfl ?_
  refine r_iaload rfl (.inl (fx_t43 fx)) (vp_ct (fx_n43 fx) (vp_in_nI (by omega) (by omega))) ?_
  refine WR_tI (congrArg (hI h (ad 43)) ((nI_clamp (by omega)) : _ = p)) ?_
  refine WR_tI (y := nI l) t3 ?_
  refine r_icmp_ne (tg := 36) rfl rfl (fun _ => ?_) (fun q => False.elim (by have : (nI i).toInt = ((i : Nat) : Int) := nI_toInt (by omega); have : (nI l).toInt = ((l : Nat) : Int) := nI_toInt (by omega); have := i_eq q; omega))
  refine r_aload rfl rfl ?_
  refine r_getI rfl ⟨rfl, rfl, rfl⟩ (fx_t30 fx) ?_
  refine WR_tI (y := 100) t4 ?_
  refine r_ic (x := 100) rfl rfl ?_
  refine r_icmp_ne (tg := 53) rfl rfl (fun q => absurd q (by decide)) (fun _ => ?_)
  refine r_aload rfl rfl ?_
  refine r_ic (x := 3) rfl rfl ?_
  refine r_ic (x := 9) rfl rfl ?_
  refine r_cv (y := 212) (ra := [.int 9, .int 3]) (rest := []) rfl ⟨⟨rfl, rfl⟩, rfl, by decide⟩ (fx_t30 fx) rfl rfl (Nat.le_of_ble_eq_true rfl) ?_
  refine in_212 (Nat.le_of_ble_eq_true rfl) ?_
  show WR _ cd_212 0 [some (.ref (ad 30)), some (.int 3), some (.int 9)] [] h _
  refine r_aload rfl rfl ?_
  refine r_iload rfl rfl ?_
  refine r_putI rfl ⟨rfl, rfl, rfl⟩ (fx_t30 fx) ?_
  have fx : FX n ad sa z0 (sI h (ad 30) 29 3) := (FX.sI fx)
  refine r_aload rfl rfl ?_
  refine r_iload rfl rfl ?_
  refine r_putI rfl ⟨rfl, rfl, rfl⟩ (fx_t30 fx) ?_
  have fx : FX n ad sa z0 (sI (sI h (ad 30) 29 3) (ad 30) 30 9) := (FX.sI fx)
  refine r_vret rfl ?_
  show WR _ cd_215 52 [some (.ref (ad 30)), some (.int (nI k)), some (.int (nI p)), none, none, none] [] (sI (sI h (ad 30) 29 3) (ad 30) 30 9) _
  refine r_vret rfl ?_
  exact (L1)

set_option maxHeartbeats 2000000 in
theorem w_gs7 {d : Nat} {Q : mQ} {n : Nat} {ad sa : Nat → Nat} {z0 : Nat} {h : mH} (fx : FX n ad sa z0 h) {k p i l : Nat} (k8 : k < 8) (p10 : p < 10) (l16 : l ≤ 16) (t0 : hI h (ad 30) 23 = nI (k + 1)) (t1 : hI h (ad 48) k = nI p) (t2 : hI h (ad 49) k = nI i) (t3 : hI h (ad 43) p = nI l) (il : i < l) {B : Nat} (b1 : B < 100) (t4 : hI h (ad 30) 31 = nI B) {a : Int32} (t5 : hI h (ad 44) (16 * p + i) = 7) (t6 : hI h (ad 45) (16 * p + i) = a) 
    (C1 : EV (d) 211 [.ref (ad 30), .int 7, .int a] (sI (sI h (ad 30) 31 (nI (B + 1))) (ad 49) k (nI (i + 1))) (fun v_ h_ => WR (d) cd_215 156 [some (.ref (ad 30)), some (.int (nI k)), some (.int (nI p)), some (.int (nI (16 * p + i))), some (.int 7), none] (v_.toList ++ []) h_ Q)) : EV (d + 1) 215 [.ref (ad 30)] h Q := by
  have fx0 := fx
  refine in_215 (Nat.le_of_ble_eq_true rfl) ?_
  show WR _ cd_215 0 [some (.ref (ad 30)), none, none, none, none, none] [] h _
  refine r_aload rfl rfl ?_
  refine r_getI rfl ⟨rfl, rfl, rfl⟩ (fx_t30 fx) ?_
  refine WR_tI (y := nI (k + 1)) t0 ?_
  refine r_ic (x := 1) rfl rfl ?_
  refine r_isub rfl ?_
  refine WR_tI (y := nI k) (Eq.trans (pk_sub (a := k + 1) (b := 1) (by omega)) (congrArg nI (by omega))) ?_
  refine r_istore (lv' := [some (.ref (ad 30)), some (.int (nI k)), none, none, none, none]) rfl (Nat.le_of_ble_eq_true rfl) rfl ?_
  refine r_aload rfl rfl ?_
  refine r_getA (b := ad 48) rfl ⟨rfl, rfl, rfl⟩ (fx_t30 fx) (fx_r30_24 fx) ?_
  refine r_iload rfl rfl ?_
  refine r_iaload rfl (.inl (fx_t48 fx)) (vp_ct (fx_n48 fx) (vp_in_nI (by omega) (by omega))) ?_
  refine WR_tI (congrArg (hI h (ad 48)) ((nI_clamp (by omega)) : _ = k)) ?_
  refine WR_tI (y := nI p) t1 ?_
  refine r_istore (lv' := [some (.ref (ad 30)), some (.int (nI k)), some (.int (nI p)), none, none, none]) rfl (Nat.le_of_ble_eq_true rfl) rfl ?_
  refine r_aload rfl rfl ?_
  refine r_getA (b := ad 49) rfl ⟨rfl, rfl, rfl⟩ (fx_t30 fx) (fx_r30_25 fx) ?_
  refine r_iload rfl rfl ?_
  refine r_iaload rfl (.inl (fx_t49 fx)) (vp_ct (fx_n49 fx) (vp_in_nI (by omega) (by omega))) ?_
  refine WR_tI (congrArg (hI h (ad 49)) ((nI_clamp (by omega)) : _ = k)) ?_
  refine WR_tI (y := nI i) t2 ?_
  refine r_aload rfl rfl ?_
  refine r_getA (b := ad 43) rfl ⟨rfl, rfl, rfl⟩ (fx_t30 fx) (fx_r30_18 fx) ?_
  refine r_iload rfl rfl ?_
  refine r_iaload rfl (.inl (fx_t43 fx)) (vp_ct (fx_n43 fx) (vp_in_nI (by omega) (by omega))) ?_
  refine WR_tI (congrArg (hI h (ad 43)) ((nI_clamp (by omega)) : _ = p)) ?_
  refine WR_tI (y := nI l) t3 ?_
  refine r_icmp_ne (tg := 36) rfl rfl (fun _ => ?_) (fun q => False.elim (by have : (nI i).toInt = ((i : Nat) : Int) := nI_toInt (by omega); have : (nI l).toInt = ((l : Nat) : Int) := nI_toInt (by omega); have := i_eq q; omega))
  refine r_aload rfl rfl ?_
  refine r_getI rfl ⟨rfl, rfl, rfl⟩ (fx_t30 fx) ?_
  refine WR_tI (y := nI B) t4 ?_
  refine r_ic (x := 100) rfl rfl ?_
  refine r_icmp_ne (tg := 53) rfl rfl (fun _ => ?_) (fun q => False.elim (by have : (nI B).toInt = ((B : Nat) : Int) := nI_toInt (by omega); have : (100 : Int32).toInt = 100 := rfl; have := i_eq q; omega))
  refine r_aload rfl rfl ?_
  refine r_dup rfl rfl ?_
  refine r_getI rfl ⟨rfl, rfl, rfl⟩ (fx_t30 fx) ?_
  refine WR_tI (y := nI B) t4 ?_
  refine r_ic (x := 1) rfl rfl ?_
  refine r_iadd rfl ?_
  refine WR_tI (y := nI (B + 1)) (Eq.trans (nI_add B 1) (congrArg nI (by omega))) ?_
  refine r_putI rfl ⟨rfl, rfl, rfl⟩ (fx_t30 fx) ?_
  have fx : FX n ad sa z0 (sI h (ad 30) 31 (nI (B + 1))) := (FX.sI fx)
  refine r_ic (x := 16) rfl rfl ?_
  refine r_iload rfl rfl ?_
  refine r_imul rfl ?_
  refine WR_tI (y := nI (16 * p)) (Eq.trans (pk_mul 16 p) (congrArg nI (by omega))) ?_
  refine r_aload rfl rfl ?_
  refine r_getA (b := ad 49) rfl ⟨rfl, rfl, rfl⟩ (fx_t30 fx) (fx_r30_25 fx) ?_
  refine r_iload rfl rfl ?_
  refine r_iaload rfl (.inl (fx_t49 fx)) (vp_ct (fx_n49 fx) (vp_in_nI (by omega) (by omega))) ?_
  refine WR_tI (congrArg (hI (sI h (ad 30) 31 (nI (B + 1))) (ad 49)) ((nI_clamp (by omega)) : _ = k)) ?_
  refine WR_tI (y := nI i) (Eq.trans (I_ne (fx_ne fx (by decide))) t2) ?_
  refine r_iadd rfl ?_
  refine WR_tI (y := nI (16 * p + i)) (Eq.trans (nI_add (16 * p) i) (congrArg nI (by omega))) ?_
  refine r_istore (lv' := [some (.ref (ad 30)), some (.int (nI k)), some (.int (nI p)), some (.int (nI (16 * p + i))), none, none]) rfl (Nat.le_of_ble_eq_true rfl) rfl ?_
  refine r_aload rfl rfl ?_
  refine r_getA (b := ad 49) rfl ⟨rfl, rfl, rfl⟩ (fx_t30 fx) (fx_r30_25 fx) ?_
  refine r_iload rfl rfl ?_
  refine r_dup2 rfl rfl rfl ?_
  refine r_iaload rfl (.inl (fx_t49 fx)) (vp_ct (fx_n49 fx) (vp_in_nI (by omega) (by omega))) ?_
  refine WR_tI (congrArg (hI (sI h (ad 30) 31 (nI (B + 1))) (ad 49)) ((nI_clamp (by omega)) : _ = k)) ?_
  refine WR_tI (y := nI i) (Eq.trans (I_ne (fx_ne fx (by decide))) t2) ?_
  refine r_ic (x := 1) rfl rfl ?_
  refine r_iadd rfl ?_
  refine WR_tI (y := nI (i + 1)) (Eq.trans (nI_add i 1) (congrArg nI (by omega))) ?_
  refine r_iastore rfl (fx_t49 fx) (vp_ct (fx_n49 fx) (vp_in_nI (by omega) (by omega))) ?_
  refine WR_h (h2 := sI (sI h (ad 30) 31 (nI (B + 1))) (ad 49) k (nI (i + 1))) (congrArg (fun z => sI (sI h (ad 30) 31 (nI (B + 1))) (ad 49) z (nI (i + 1))) ((nI_clamp (by omega)) : _ = k)) ?_
  have fx : FX n ad sa z0 (sI (sI h (ad 30) 31 (nI (B + 1))) (ad 49) k (nI (i + 1))) := (FX.sI fx)
  refine r_aload rfl rfl ?_
  refine r_getA (b := ad 44) rfl ⟨rfl, rfl, rfl⟩ (fx_t30 fx) (fx_r30_19 fx) ?_
  refine r_iload rfl rfl ?_
  refine r_iaload rfl (.inl (fx_t44 fx)) (vp_ct (fx_n44 fx) (vp_in_nI (by omega) (by omega))) ?_
  refine WR_tI (congrArg (hI (sI (sI h (ad 30) 31 (nI (B + 1))) (ad 49) k (nI (i + 1))) (ad 44)) ((nI_clamp (by omega)) : _ = 16 * p + i)) ?_
  refine WR_tI (y := 7) (Eq.trans (I_ne (fx_ne fx (by decide))) (Eq.trans (I_ne (fx_ne fx (by decide))) t5)) ?_
  refine r_istore (lv' := [some (.ref (ad 30)), some (.int (nI k)), some (.int (nI p)), some (.int (nI (16 * p + i))), some (.int 7), none]) rfl (Nat.le_of_ble_eq_true rfl) rfl ?_
  refine r_iload rfl rfl ?_
  refine r_ic (x := 10) rfl rfl ?_
  refine r_icmp_ne (tg := 130) rfl rfl (fun _ => ?_) (fun q => absurd q (by decide))
  refine r_iload rfl rfl ?_
  refine r_ic (x := 6) rfl rfl ?_
  refine r_icmp_le (tg := 159) rfl rfl (fun q => absurd q (by decide)) (fun _ => ?_)
  refine r_iload rfl rfl ?_
  refine r_ic (x := 10) rfl rfl ?_
  refine r_icmp_ge (tg := 159) rfl rfl (fun q => absurd q (by decide)) (fun _ => ?_)
  refine r_aload rfl rfl ?_
  refine r_iload rfl rfl ?_
  refine r_aload rfl rfl ?_
  refine r_getA (b := ad 45) rfl ⟨rfl, rfl, rfl⟩ (fx_t30 fx) (fx_r30_20 fx) ?_
  refine r_iload rfl rfl ?_
  refine r_iaload rfl (.inl (fx_t45 fx)) (vp_ct (fx_n45 fx) (vp_in_nI (by omega) (by omega))) ?_
  refine WR_tI (congrArg (hI (sI (sI h (ad 30) 31 (nI (B + 1))) (ad 49) k (nI (i + 1))) (ad 45)) ((nI_clamp (by omega)) : _ = 16 * p + i)) ?_
  refine WR_tI (y := a) (Eq.trans (I_ne (fx_ne fx (by decide))) (Eq.trans (I_ne (fx_ne fx (by decide))) t6)) ?_
  refine r_cv (y := 211) (ra := [.int a, .int 7]) (rest := []) rfl ⟨⟨rfl, rfl⟩, rfl, by decide⟩ (fx_t30 fx) rfl rfl (Nat.le_of_ble_eq_true rfl) ?_
  exact (C1)

set_option maxHeartbeats 2000000 in
theorem w_gs8 {d : Nat} {Q : mQ} {n : Nat} {ad sa : Nat → Nat} {z0 : Nat} {h : mH} (fx : FX n ad sa z0 h) {k p i l : Nat} (k8 : k < 8) (p10 : p < 10) (l16 : l ≤ 16) (t0 : hI h (ad 30) 23 = nI (k + 1)) (t1 : hI h (ad 48) k = nI p) (t2 : hI h (ad 49) k = nI i) (t3 : hI h (ad 43) p = nI l) (il : i < l) {B : Nat} (b1 : B < 100) (t4 : hI h (ad 30) 31 = nI B) {a : Int32} (t5 : hI h (ad 44) (16 * p + i) = 8) (t6 : hI h (ad 45) (16 * p + i) = a) 
    (C1 : EV (d) 211 [.ref (ad 30), .int 8, .int a] (sI (sI h (ad 30) 31 (nI (B + 1))) (ad 49) k (nI (i + 1))) (fun v_ h_ => WR (d) cd_215 156 [some (.ref (ad 30)), some (.int (nI k)), some (.int (nI p)), some (.int (nI (16 * p + i))), some (.int 8), none] (v_.toList ++ []) h_ Q)) : EV (d + 1) 215 [.ref (ad 30)] h Q := by
  have fx0 := fx
  refine in_215 (Nat.le_of_ble_eq_true rfl) ?_
  show WR _ cd_215 0 [some (.ref (ad 30)), none, none, none, none, none] [] h _
  refine r_aload rfl rfl ?_
  refine r_getI rfl ⟨rfl, rfl, rfl⟩ (fx_t30 fx) ?_
  refine WR_tI (y := nI (k + 1)) t0 ?_
  refine r_ic (x := 1) rfl rfl ?_
  refine r_isub rfl ?_
  refine WR_tI (y := nI k) (Eq.trans (pk_sub (a := k + 1) (b := 1) (by omega)) (congrArg nI (by omega))) ?_
  refine r_istore (lv' := [some (.ref (ad 30)), some (.int (nI k)), none, none, none, none]) rfl (Nat.le_of_ble_eq_true rfl) rfl ?_
  refine r_aload rfl rfl ?_
  refine r_getA (b := ad 48) rfl ⟨rfl, rfl, rfl⟩ (fx_t30 fx) (fx_r30_24 fx) ?_
  refine r_iload rfl rfl ?_
  refine r_iaload rfl (.inl (fx_t48 fx)) (vp_ct (fx_n48 fx) (vp_in_nI (by omega) (by omega))) ?_
  refine WR_tI (congrArg (hI h (ad 48)) ((nI_clamp (by omega)) : _ = k)) ?_
  refine WR_tI (y := nI p) t1 ?_
  refine r_istore (lv' := [some (.ref (ad 30)), some (.int (nI k)), some (.int (nI p)), none, none, none]) rfl (Nat.le_of_ble_eq_true rfl) rfl ?_
  refine r_aload rfl rfl ?_
  refine r_getA (b := ad 49) rfl ⟨rfl, rfl, rfl⟩ (fx_t30 fx) (fx_r30_25 fx) ?_
  refine r_iload rfl rfl ?_
  refine r_iaload rfl (.inl (fx_t49 fx)) (vp_ct (fx_n49 fx) (vp_in_nI (by omega) (by omega))) ?_
  refine WR_tI (congrArg (hI h (ad 49)) ((nI_clamp (by omega)) : _ = k)) ?_
  refine WR_tI (y := nI i) t2 ?_
  refine r_aload rfl rfl ?_
  refine r_getA (b := ad 43) rfl ⟨rfl, rfl, rfl⟩ (fx_t30 fx) (fx_r30_18 fx) ?_
  refine r_iload rfl rfl ?_
  refine r_iaload rfl (.inl (fx_t43 fx)) (vp_ct (fx_n43 fx) (vp_in_nI (by omega) (by omega))) ?_
  refine WR_tI (congrArg (hI h (ad 43)) ((nI_clamp (by omega)) : _ = p)) ?_
  refine WR_tI (y := nI l) t3 ?_
  refine r_icmp_ne (tg := 36) rfl rfl (fun _ => ?_) (fun q => False.elim (by have : (nI i).toInt = ((i : Nat) : Int) := nI_toInt (by omega); have : (nI l).toInt = ((l : Nat) : Int) := nI_toInt (by omega); have := i_eq q; omega))
  refine r_aload rfl rfl ?_
  refine r_getI rfl ⟨rfl, rfl, rfl⟩ (fx_t30 fx) ?_
  refine WR_tI (y := nI B) t4 ?_
  refine r_ic (x := 100) rfl rfl ?_
  refine r_icmp_ne (tg := 53) rfl rfl (fun _ => ?_) (fun q => False.elim (by have : (nI B).toInt = ((B : Nat) : Int) := nI_toInt (by omega); have : (100 : Int32).toInt = 100 := rfl; have := i_eq q; omega))
  refine r_aload rfl rfl ?_
  refine r_dup rfl rfl ?_
  refine r_getI rfl ⟨rfl, rfl, rfl⟩ (fx_t30 fx) ?_
  refine WR_tI (y := nI B) t4 ?_
  refine r_ic (x := 1) rfl rfl ?_
  refine r_iadd rfl ?_
  refine WR_tI (y := nI (B + 1)) (Eq.trans (nI_add B 1) (congrArg nI (by omega))) ?_
  refine r_putI rfl ⟨rfl, rfl, rfl⟩ (fx_t30 fx) ?_
  have fx : FX n ad sa z0 (sI h (ad 30) 31 (nI (B + 1))) := (FX.sI fx)
  refine r_ic (x := 16) rfl rfl ?_
  refine r_iload rfl rfl ?_
  refine r_imul rfl ?_
  refine WR_tI (y := nI (16 * p)) (Eq.trans (pk_mul 16 p) (congrArg nI (by omega))) ?_
  refine r_aload rfl rfl ?_
  refine r_getA (b := ad 49) rfl ⟨rfl, rfl, rfl⟩ (fx_t30 fx) (fx_r30_25 fx) ?_
  refine r_iload rfl rfl ?_
  refine r_iaload rfl (.inl (fx_t49 fx)) (vp_ct (fx_n49 fx) (vp_in_nI (by omega) (by omega))) ?_
  refine WR_tI (congrArg (hI (sI h (ad 30) 31 (nI (B + 1))) (ad 49)) ((nI_clamp (by omega)) : _ = k)) ?_
  refine WR_tI (y := nI i) (Eq.trans (I_ne (fx_ne fx (by decide))) t2) ?_
  refine r_iadd rfl ?_
  refine WR_tI (y := nI (16 * p + i)) (Eq.trans (nI_add (16 * p) i) (congrArg nI (by omega))) ?_
  refine r_istore (lv' := [some (.ref (ad 30)), some (.int (nI k)), some (.int (nI p)), some (.int (nI (16 * p + i))), none, none]) rfl (Nat.le_of_ble_eq_true rfl) rfl ?_
  refine r_aload rfl rfl ?_
  refine r_getA (b := ad 49) rfl ⟨rfl, rfl, rfl⟩ (fx_t30 fx) (fx_r30_25 fx) ?_
  refine r_iload rfl rfl ?_
  refine r_dup2 rfl rfl rfl ?_
  refine r_iaload rfl (.inl (fx_t49 fx)) (vp_ct (fx_n49 fx) (vp_in_nI (by omega) (by omega))) ?_
  refine WR_tI (congrArg (hI (sI h (ad 30) 31 (nI (B + 1))) (ad 49)) ((nI_clamp (by omega)) : _ = k)) ?_
  refine WR_tI (y := nI i) (Eq.trans (I_ne (fx_ne fx (by decide))) t2) ?_
  refine r_ic (x := 1) rfl rfl ?_
  refine r_iadd rfl ?_
  refine WR_tI (y := nI (i + 1)) (Eq.trans (nI_add i 1) (congrArg nI (by omega))) ?_
  refine r_iastore rfl (fx_t49 fx) (vp_ct (fx_n49 fx) (vp_in_nI (by omega) (by omega))) ?_
  refine WR_h (h2 := sI (sI h (ad 30) 31 (nI (B + 1))) (ad 49) k (nI (i + 1))) (congrArg (fun z => sI (sI h (ad 30) 31 (nI (B + 1))) (ad 49) z (nI (i + 1))) ((nI_clamp (by omega)) : _ = k)) ?_
  have fx : FX n ad sa z0 (sI (sI h (ad 30) 31 (nI (B + 1))) (ad 49) k (nI (i + 1))) := (FX.sI fx)
  refine r_aload rfl rfl ?_
  refine r_getA (b := ad 44) rfl ⟨rfl, rfl, rfl⟩ (fx_t30 fx) (fx_r30_19 fx) ?_
  refine r_iload rfl rfl ?_
  refine r_iaload rfl (.inl (fx_t44 fx)) (vp_ct (fx_n44 fx) (vp_in_nI (by omega) (by omega))) ?_
  refine WR_tI (congrArg (hI (sI (sI h (ad 30) 31 (nI (B + 1))) (ad 49) k (nI (i + 1))) (ad 44)) ((nI_clamp (by omega)) : _ = 16 * p + i)) ?_
  refine WR_tI (y := 8) (Eq.trans (I_ne (fx_ne fx (by decide))) (Eq.trans (I_ne (fx_ne fx (by decide))) t5)) ?_
  refine r_istore (lv' := [some (.ref (ad 30)), some (.int (nI k)), some (.int (nI p)), some (.int (nI (16 * p + i))), some (.int 8), none]) rfl (Nat.le_of_ble_eq_true rfl) rfl ?_
  refine r_iload rfl rfl ?_
  refine r_ic (x := 10) rfl rfl ?_
  refine r_icmp_ne (tg := 130) rfl rfl (fun _ => ?_) (fun q => absurd q (by decide))
  refine r_iload rfl rfl ?_
  refine r_ic (x := 6) rfl rfl ?_
  refine r_icmp_le (tg := 159) rfl rfl (fun q => absurd q (by decide)) (fun _ => ?_)
  refine r_iload rfl rfl ?_
  refine r_ic (x := 10) rfl rfl ?_
  refine r_icmp_ge (tg := 159) rfl rfl (fun q => absurd q (by decide)) (fun _ => ?_)
  refine r_aload rfl rfl ?_
  refine r_iload rfl rfl ?_
  refine r_aload rfl rfl ?_
  refine r_getA (b := ad 45) rfl ⟨rfl, rfl, rfl⟩ (fx_t30 fx) (fx_r30_20 fx) ?_
  refine r_iload rfl rfl ?_
  refine r_iaload rfl (.inl (fx_t45 fx)) (vp_ct (fx_n45 fx) (vp_in_nI (by omega) (by omega))) ?_
  refine WR_tI (congrArg (hI (sI (sI h (ad 30) 31 (nI (B + 1))) (ad 49) k (nI (i + 1))) (ad 45)) ((nI_clamp (by omega)) : _ = 16 * p + i)) ?_
  refine WR_tI (y := a) (Eq.trans (I_ne (fx_ne fx (by decide))) (Eq.trans (I_ne (fx_ne fx (by decide))) t6)) ?_
  refine r_cv (y := 211) (ra := [.int a, .int 8]) (rest := []) rfl ⟨⟨rfl, rfl⟩, rfl, by decide⟩ (fx_t30 fx) rfl rfl (Nat.le_of_ble_eq_true rfl) ?_
  exact (C1)

set_option maxHeartbeats 2000000 in
theorem w_gs9 {d : Nat} {Q : mQ} {n : Nat} {ad sa : Nat → Nat} {z0 : Nat} {h : mH} (fx : FX n ad sa z0 h) {k p i l : Nat} (k8 : k < 8) (p10 : p < 10) (l16 : l ≤ 16) (t0 : hI h (ad 30) 23 = nI (k + 1)) (t1 : hI h (ad 48) k = nI p) (t2 : hI h (ad 49) k = nI i) (t3 : hI h (ad 43) p = nI l) (il : i < l) {B : Nat} (b1 : B < 100) (t4 : hI h (ad 30) 31 = nI B) {a : Int32} (t5 : hI h (ad 44) (16 * p + i) = 9) (t6 : hI h (ad 45) (16 * p + i) = a) 
    (C1 : EV (d) 211 [.ref (ad 30), .int 9, .int a] (sI (sI h (ad 30) 31 (nI (B + 1))) (ad 49) k (nI (i + 1))) (fun v_ h_ => WR (d) cd_215 156 [some (.ref (ad 30)), some (.int (nI k)), some (.int (nI p)), some (.int (nI (16 * p + i))), some (.int 9), none] (v_.toList ++ []) h_ Q)) : EV (d + 1) 215 [.ref (ad 30)] h Q := by
  have fx0 := fx
  refine in_215 (Nat.le_of_ble_eq_true rfl) ?_
  show WR _ cd_215 0 [some (.ref (ad 30)), none, none, none, none, none] [] h _
  refine r_aload rfl rfl ?_
  refine r_getI rfl ⟨rfl, rfl, rfl⟩ (fx_t30 fx) ?_
  refine WR_tI (y := nI (k + 1)) t0 ?_
  refine r_ic (x := 1) rfl rfl ?_
  refine r_isub rfl ?_
  refine WR_tI (y := nI k) (Eq.trans (pk_sub (a := k + 1) (b := 1) (by omega)) (congrArg nI (by omega))) ?_
  refine r_istore (lv' := [some (.ref (ad 30)), some (.int (nI k)), none, none, none, none]) rfl (Nat.le_of_ble_eq_true rfl) rfl ?_
  refine r_aload rfl rfl ?_
  refine r_getA (b := ad 48) rfl ⟨rfl, rfl, rfl⟩ (fx_t30 fx) (fx_r30_24 fx) ?_
  refine r_iload rfl rfl ?_
  refine r_iaload rfl (.inl (fx_t48 fx)) (vp_ct (fx_n48 fx) (vp_in_nI (by omega) (by omega))) ?_
  refine WR_tI (congrArg (hI h (ad 48)) ((nI_clamp (by omega)) : _ = k)) ?_
  refine WR_tI (y := nI p) t1 ?_
  refine r_istore (lv' := [some (.ref (ad 30)), some (.int (nI k)), some (.int (nI p)), none, none, none]) rfl (Nat.le_of_ble_eq_true rfl) rfl ?_
  refine r_aload rfl rfl ?_
  refine r_getA (b := ad 49) rfl ⟨rfl, rfl, rfl⟩ (fx_t30 fx) (fx_r30_25 fx) ?_
  refine r_iload rfl rfl ?_
  refine r_iaload rfl (.inl (fx_t49 fx)) (vp_ct (fx_n49 fx) (vp_in_nI (by omega) (by omega))) ?_
  refine WR_tI (congrArg (hI h (ad 49)) ((nI_clamp (by omega)) : _ = k)) ?_
  refine WR_tI (y := nI i) t2 ?_
  refine r_aload rfl rfl ?_
  refine r_getA (b := ad 43) rfl ⟨rfl, rfl, rfl⟩ (fx_t30 fx) (fx_r30_18 fx) ?_
  refine r_iload rfl rfl ?_
  refine r_iaload rfl (.inl (fx_t43 fx)) (vp_ct (fx_n43 fx) (vp_in_nI (by omega) (by omega))) ?_
  refine WR_tI (congrArg (hI h (ad 43)) ((nI_clamp (by omega)) : _ = p)) ?_
  refine WR_tI (y := nI l) t3 ?_
  refine r_icmp_ne (tg := 36) rfl rfl (fun _ => ?_) (fun q => False.elim (by have : (nI i).toInt = ((i : Nat) : Int) := nI_toInt (by omega); have : (nI l).toInt = ((l : Nat) : Int) := nI_toInt (by omega); have := i_eq q; omega))
  refine r_aload rfl rfl ?_
  refine r_getI rfl ⟨rfl, rfl, rfl⟩ (fx_t30 fx) ?_
  refine WR_tI (y := nI B) t4 ?_
  refine r_ic (x := 100) rfl rfl ?_
  refine r_icmp_ne (tg := 53) rfl rfl (fun _ => ?_) (fun q => False.elim (by have : (nI B).toInt = ((B : Nat) : Int) := nI_toInt (by omega); have : (100 : Int32).toInt = 100 := rfl; have := i_eq q; omega))
  refine r_aload rfl rfl ?_
  refine r_dup rfl rfl ?_
  refine r_getI rfl ⟨rfl, rfl, rfl⟩ (fx_t30 fx) ?_
  refine WR_tI (y := nI B) t4 ?_
  refine r_ic (x := 1) rfl rfl ?_
  refine r_iadd rfl ?_
  refine WR_tI (y := nI (B + 1)) (Eq.trans (nI_add B 1) (congrArg nI (by omega))) ?_
  refine r_putI rfl ⟨rfl, rfl, rfl⟩ (fx_t30 fx) ?_
  have fx : FX n ad sa z0 (sI h (ad 30) 31 (nI (B + 1))) := (FX.sI fx)
  refine r_ic (x := 16) rfl rfl ?_
  refine r_iload rfl rfl ?_
  refine r_imul rfl ?_
  refine WR_tI (y := nI (16 * p)) (Eq.trans (pk_mul 16 p) (congrArg nI (by omega))) ?_
  refine r_aload rfl rfl ?_
  refine r_getA (b := ad 49) rfl ⟨rfl, rfl, rfl⟩ (fx_t30 fx) (fx_r30_25 fx) ?_
  refine r_iload rfl rfl ?_
  refine r_iaload rfl (.inl (fx_t49 fx)) (vp_ct (fx_n49 fx) (vp_in_nI (by omega) (by omega))) ?_
  refine WR_tI (congrArg (hI (sI h (ad 30) 31 (nI (B + 1))) (ad 49)) ((nI_clamp (by omega)) : _ = k)) ?_
  refine WR_tI (y := nI i) (Eq.trans (I_ne (fx_ne fx (by decide))) t2) ?_
  refine r_iadd rfl ?_
  refine WR_tI (y := nI (16 * p + i)) (Eq.trans (nI_add (16 * p) i) (congrArg nI (by omega))) ?_
  refine r_istore (lv' := [some (.ref (ad 30)), some (.int (nI k)), some (.int (nI p)), some (.int (nI (16 * p + i))), none, none]) rfl (Nat.le_of_ble_eq_true rfl) rfl ?_
  refine r_aload rfl rfl ?_
  refine r_getA (b := ad 49) rfl ⟨rfl, rfl, rfl⟩ (fx_t30 fx) (fx_r30_25 fx) ?_
  refine r_iload rfl rfl ?_
  refine r_dup2 rfl rfl rfl ?_
  refine r_iaload rfl (.inl (fx_t49 fx)) (vp_ct (fx_n49 fx) (vp_in_nI (by omega) (by omega))) ?_
  refine WR_tI (congrArg (hI (sI h (ad 30) 31 (nI (B + 1))) (ad 49)) ((nI_clamp (by omega)) : _ = k)) ?_
  refine WR_tI (y := nI i) (Eq.trans (I_ne (fx_ne fx (by decide))) t2) ?_
  refine r_ic (x := 1) rfl rfl ?_
  refine r_iadd rfl ?_
  refine WR_tI (y := nI (i + 1)) (Eq.trans (nI_add i 1) (congrArg nI (by omega))) ?_
  refine r_iastore rfl (fx_t49 fx) (vp_ct (fx_n49 fx) (vp_in_nI (by omega) (by omega))) ?_
  refine WR_h (h2 := sI (sI h (ad 30) 31 (nI (B + 1))) (ad 49) k (nI (i + 1))) (congrArg (fun z => sI (sI h (ad 30) 31 (nI (B + 1))) (ad 49) z (nI (i + 1))) ((nI_clamp (by omega)) : _ = k)) ?_
  have fx : FX n ad sa z0 (sI (sI h (ad 30) 31 (nI (B + 1))) (ad 49) k (nI (i + 1))) := (FX.sI fx)
  refine r_aload rfl rfl ?_
  refine r_getA (b := ad 44) rfl ⟨rfl, rfl, rfl⟩ (fx_t30 fx) (fx_r30_19 fx) ?_
  refine r_iload rfl rfl ?_
  refine r_iaload rfl (.inl (fx_t44 fx)) (vp_ct (fx_n44 fx) (vp_in_nI (by omega) (by omega))) ?_
  refine WR_tI (congrArg (hI (sI (sI h (ad 30) 31 (nI (B + 1))) (ad 49) k (nI (i + 1))) (ad 44)) ((nI_clamp (by omega)) : _ = 16 * p + i)) ?_
  refine WR_tI (y := 9) (Eq.trans (I_ne (fx_ne fx (by decide))) (Eq.trans (I_ne (fx_ne fx (by decide))) t5)) ?_
  refine r_istore (lv' := [some (.ref (ad 30)), some (.int (nI k)), some (.int (nI p)), some (.int (nI (16 * p + i))), some (.int 9), none]) rfl (Nat.le_of_ble_eq_true rfl) rfl ?_
  refine r_iload rfl rfl ?_
  refine r_ic (x := 10) rfl rfl ?_
  refine r_icmp_ne (tg := 130) rfl rfl (fun _ => ?_) (fun q => absurd q (by decide))
  refine r_iload rfl rfl ?_
  refine r_ic (x := 6) rfl rfl ?_
  refine r_icmp_le (tg := 159) rfl rfl (fun q => absurd q (by decide)) (fun _ => ?_)
  refine r_iload rfl rfl ?_
  refine r_ic (x := 10) rfl rfl ?_
  refine r_icmp_ge (tg := 159) rfl rfl (fun q => absurd q (by decide)) (fun _ => ?_)
  refine r_aload rfl rfl ?_
  refine r_iload rfl rfl ?_
  refine r_aload rfl rfl ?_
  refine r_getA (b := ad 45) rfl ⟨rfl, rfl, rfl⟩ (fx_t30 fx) (fx_r30_20 fx) ?_
  refine r_iload rfl rfl ?_
  refine r_iaload rfl (.inl (fx_t45 fx)) (vp_ct (fx_n45 fx) (vp_in_nI (by omega) (by omega))) ?_
  refine WR_tI (congrArg (hI (sI (sI h (ad 30) 31 (nI (B + 1))) (ad 49) k (nI (i + 1))) (ad 45)) ((nI_clamp (by omega)) : _ = 16 * p + i)) ?_
  refine WR_tI (y := a) (Eq.trans (I_ne (fx_ne fx (by decide))) (Eq.trans (I_ne (fx_ne fx (by decide))) t6)) ?_
  refine r_cv (y := 211) (ra := [.int a, .int 9]) (rest := []) rfl ⟨⟨rfl, rfl⟩, rfl, by decide⟩ (fx_t30 fx) rfl rfl (Nat.le_of_ble_eq_true rfl) ?_
  exact (C1)

set_option maxHeartbeats 2000000 in
theorem w_gs10 {d : Nat} {Q : mQ} {n : Nat} {ad sa : Nat → Nat} {z0 : Nat} {h : mH} (fx : FX n ad sa z0 h) {k p i l : Nat} (k8 : k < 8) (p10 : p < 10) (l16 : l ≤ 16) (t0 : hI h (ad 30) 23 = nI (k + 1)) (t1 : hI h (ad 48) k = nI p) (t2 : hI h (ad 49) k = nI i) (t3 : hI h (ad 43) p = nI l) (il : i < l) {B : Nat} (b1 : B < 100) (t4 : hI h (ad 30) 31 = nI B) {a : Nat} (a6 : a < 6) {b : Int32} (t5 : hI h (ad 44) (16 * p + i) = 10) (t6 : hI h (ad 45) (16 * p + i) = nI a) (t7 : hI h (ad 46) (16 * p + i) = b) 
    (C1 : EV (d) 211 [.ref (ad 30), .int 10, .int b] (sI (sI (sI h (ad 30) 31 (nI (B + 1))) (ad 49) k (nI (i + 1))) (ad 56) a ((hI h (ad 56) a) + 1)) (fun v_ h_ => WR (d) cd_215 127 [some (.ref (ad 30)), some (.int (nI k)), some (.int (nI p)), some (.int (nI (16 * p + i))), some (.int 10), none] (v_.toList ++ []) h_ Q)) : EV (d + 1) 215 [.ref (ad 30)] h Q := by
  have fx0 := fx
  refine in_215 (Nat.le_of_ble_eq_true rfl) ?_
  show WR _ cd_215 0 [some (.ref (ad 30)), none, none, none, none, none] [] h _
  refine r_aload rfl rfl ?_
  refine r_getI rfl ⟨rfl, rfl, rfl⟩ (fx_t30 fx) ?_
  refine WR_tI (y := nI (k + 1)) t0 ?_
  refine r_ic (x := 1) rfl rfl ?_
  refine r_isub rfl ?_
  refine WR_tI (y := nI k) (Eq.trans (pk_sub (a := k + 1) (b := 1) (by omega)) (congrArg nI (by omega))) ?_
  refine r_istore (lv' := [some (.ref (ad 30)), some (.int (nI k)), none, none, none, none]) rfl (Nat.le_of_ble_eq_true rfl) rfl ?_
  refine r_aload rfl rfl ?_
  refine r_getA (b := ad 48) rfl ⟨rfl, rfl, rfl⟩ (fx_t30 fx) (fx_r30_24 fx) ?_
  refine r_iload rfl rfl ?_
  refine r_iaload rfl (.inl (fx_t48 fx)) (vp_ct (fx_n48 fx) (vp_in_nI (by omega) (by omega))) ?_
  refine WR_tI (congrArg (hI h (ad 48)) ((nI_clamp (by omega)) : _ = k)) ?_
  refine WR_tI (y := nI p) t1 ?_
  refine r_istore (lv' := [some (.ref (ad 30)), some (.int (nI k)), some (.int (nI p)), none, none, none]) rfl (Nat.le_of_ble_eq_true rfl) rfl ?_
  refine r_aload rfl rfl ?_
  refine r_getA (b := ad 49) rfl ⟨rfl, rfl, rfl⟩ (fx_t30 fx) (fx_r30_25 fx) ?_
  refine r_iload rfl rfl ?_
  refine r_iaload rfl (.inl (fx_t49 fx)) (vp_ct (fx_n49 fx) (vp_in_nI (by omega) (by omega))) ?_
  refine WR_tI (congrArg (hI h (ad 49)) ((nI_clamp (by omega)) : _ = k)) ?_
  refine WR_tI (y := nI i) t2 ?_
  refine r_aload rfl rfl ?_
  refine r_getA (b := ad 43) rfl ⟨rfl, rfl, rfl⟩ (fx_t30 fx) (fx_r30_18 fx) ?_
  refine r_iload rfl rfl ?_
  refine r_iaload rfl (.inl (fx_t43 fx)) (vp_ct (fx_n43 fx) (vp_in_nI (by omega) (by omega))) ?_
  refine WR_tI (congrArg (hI h (ad 43)) ((nI_clamp (by omega)) : _ = p)) ?_
  refine WR_tI (y := nI l) t3 ?_
  refine r_icmp_ne (tg := 36) rfl rfl (fun _ => ?_) (fun q => False.elim (by have : (nI i).toInt = ((i : Nat) : Int) := nI_toInt (by omega); have : (nI l).toInt = ((l : Nat) : Int) := nI_toInt (by omega); have := i_eq q; omega))
  refine r_aload rfl rfl ?_
  refine r_getI rfl ⟨rfl, rfl, rfl⟩ (fx_t30 fx) ?_
  refine WR_tI (y := nI B) t4 ?_
  refine r_ic (x := 100) rfl rfl ?_
  refine r_icmp_ne (tg := 53) rfl rfl (fun _ => ?_) (fun q => False.elim (by have : (nI B).toInt = ((B : Nat) : Int) := nI_toInt (by omega); have : (100 : Int32).toInt = 100 := rfl; have := i_eq q; omega))
  refine r_aload rfl rfl ?_
  refine r_dup rfl rfl ?_
  refine r_getI rfl ⟨rfl, rfl, rfl⟩ (fx_t30 fx) ?_
  refine WR_tI (y := nI B) t4 ?_
  refine r_ic (x := 1) rfl rfl ?_
  refine r_iadd rfl ?_
  refine WR_tI (y := nI (B + 1)) (Eq.trans (nI_add B 1) (congrArg nI (by omega))) ?_
  refine r_putI rfl ⟨rfl, rfl, rfl⟩ (fx_t30 fx) ?_
  have fx : FX n ad sa z0 (sI h (ad 30) 31 (nI (B + 1))) := (FX.sI fx)
  refine r_ic (x := 16) rfl rfl ?_
  refine r_iload rfl rfl ?_
  refine r_imul rfl ?_
  refine WR_tI (y := nI (16 * p)) (Eq.trans (pk_mul 16 p) (congrArg nI (by omega))) ?_
  refine r_aload rfl rfl ?_
  refine r_getA (b := ad 49) rfl ⟨rfl, rfl, rfl⟩ (fx_t30 fx) (fx_r30_25 fx) ?_
  refine r_iload rfl rfl ?_
  refine r_iaload rfl (.inl (fx_t49 fx)) (vp_ct (fx_n49 fx) (vp_in_nI (by omega) (by omega))) ?_
  refine WR_tI (congrArg (hI (sI h (ad 30) 31 (nI (B + 1))) (ad 49)) ((nI_clamp (by omega)) : _ = k)) ?_
  refine WR_tI (y := nI i) (Eq.trans (I_ne (fx_ne fx (by decide))) t2) ?_
  refine r_iadd rfl ?_
  refine WR_tI (y := nI (16 * p + i)) (Eq.trans (nI_add (16 * p) i) (congrArg nI (by omega))) ?_
  refine r_istore (lv' := [some (.ref (ad 30)), some (.int (nI k)), some (.int (nI p)), some (.int (nI (16 * p + i))), none, none]) rfl (Nat.le_of_ble_eq_true rfl) rfl ?_
  refine r_aload rfl rfl ?_
  refine r_getA (b := ad 49) rfl ⟨rfl, rfl, rfl⟩ (fx_t30 fx) (fx_r30_25 fx) ?_
  refine r_iload rfl rfl ?_
  refine r_dup2 rfl rfl rfl ?_
  refine r_iaload rfl (.inl (fx_t49 fx)) (vp_ct (fx_n49 fx) (vp_in_nI (by omega) (by omega))) ?_
  refine WR_tI (congrArg (hI (sI h (ad 30) 31 (nI (B + 1))) (ad 49)) ((nI_clamp (by omega)) : _ = k)) ?_
  refine WR_tI (y := nI i) (Eq.trans (I_ne (fx_ne fx (by decide))) t2) ?_
  refine r_ic (x := 1) rfl rfl ?_
  refine r_iadd rfl ?_
  refine WR_tI (y := nI (i + 1)) (Eq.trans (nI_add i 1) (congrArg nI (by omega))) ?_
  refine r_iastore rfl (fx_t49 fx) (vp_ct (fx_n49 fx) (vp_in_nI (by omega) (by omega))) ?_
  refine WR_h (h2 := sI (sI h (ad 30) 31 (nI (B + 1))) (ad 49) k (nI (i + 1))) (congrArg (fun z => sI (sI h (ad 30) 31 (nI (B + 1))) (ad 49) z (nI (i + 1))) ((nI_clamp (by omega)) : _ = k)) ?_
  have fx : FX n ad sa z0 (sI (sI h (ad 30) 31 (nI (B + 1))) (ad 49) k (nI (i + 1))) := (FX.sI fx)
  refine r_aload rfl rfl ?_
  refine r_getA (b := ad 44) rfl ⟨rfl, rfl, rfl⟩ (fx_t30 fx) (fx_r30_19 fx) ?_
  refine r_iload rfl rfl ?_
  refine r_iaload rfl (.inl (fx_t44 fx)) (vp_ct (fx_n44 fx) (vp_in_nI (by omega) (by omega))) ?_
  refine WR_tI (congrArg (hI (sI (sI h (ad 30) 31 (nI (B + 1))) (ad 49) k (nI (i + 1))) (ad 44)) ((nI_clamp (by omega)) : _ = 16 * p + i)) ?_
  refine WR_tI (y := 10) (Eq.trans (I_ne (fx_ne fx (by decide))) (Eq.trans (I_ne (fx_ne fx (by decide))) t5)) ?_
  refine r_istore (lv' := [some (.ref (ad 30)), some (.int (nI k)), some (.int (nI p)), some (.int (nI (16 * p + i))), some (.int 10), none]) rfl (Nat.le_of_ble_eq_true rfl) rfl ?_
  refine r_iload rfl rfl ?_
  refine r_ic (x := 10) rfl rfl ?_
  refine r_icmp_ne (tg := 130) rfl rfl (fun q => absurd q (by decide)) (fun _ => ?_)
  refine r_aload rfl rfl ?_
  refine r_getA (b := ad 56) rfl ⟨rfl, rfl, rfl⟩ (fx_t30 fx) (fx_r30_40 fx) ?_
  refine r_aload rfl rfl ?_
  refine r_getA (b := ad 45) rfl ⟨rfl, rfl, rfl⟩ (fx_t30 fx) (fx_r30_20 fx) ?_
  refine r_iload rfl rfl ?_
  refine r_iaload rfl (.inl (fx_t45 fx)) (vp_ct (fx_n45 fx) (vp_in_nI (by omega) (by omega))) ?_
  refine WR_tI (congrArg (hI (sI (sI h (ad 30) 31 (nI (B + 1))) (ad 49) k (nI (i + 1))) (ad 45)) ((nI_clamp (by omega)) : _ = 16 * p + i)) ?_
  refine WR_tI (y := nI a) (Eq.trans (I_ne (fx_ne fx (by decide))) (Eq.trans (I_ne (fx_ne fx (by decide))) t6)) ?_
  refine r_dup2 rfl rfl rfl ?_
  refine r_iaload rfl (.inl (fx_t56 fx)) (vp_ct (fx_n56 fx) (vp_in_nI (by omega) (by omega))) ?_
  refine WR_tI (congrArg (hI (sI (sI h (ad 30) 31 (nI (B + 1))) (ad 49) k (nI (i + 1))) (ad 56)) ((nI_clamp (by omega)) : _ = a)) ?_
  refine WR_tI (y := hI h (ad 56) a) (Eq.trans (I_ne (fx_ne fx (by decide))) (I_ne (fx_ne fx (by decide)))) ?_
  refine r_ic (x := 1) rfl rfl ?_
  refine r_iadd rfl ?_
  refine r_iastore rfl (fx_t56 fx) (vp_ct (fx_n56 fx) (vp_in_nI (by omega) (by omega))) ?_
  refine WR_h (h2 := sI (sI (sI h (ad 30) 31 (nI (B + 1))) (ad 49) k (nI (i + 1))) (ad 56) a ((hI h (ad 56) a) + 1)) (congrArg (fun z => sI (sI (sI h (ad 30) 31 (nI (B + 1))) (ad 49) k (nI (i + 1))) (ad 56) z ((hI h (ad 56) a) + 1)) ((nI_clamp (by omega)) : _ = a)) ?_
  have fx : FX n ad sa z0 (sI (sI (sI h (ad 30) 31 (nI (B + 1))) (ad 49) k (nI (i + 1))) (ad 56) a ((hI h (ad 56) a) + 1)) := (FX.sI fx)
  refine r_aload rfl rfl ?_
  refine r_ic (x := 10) rfl rfl ?_
  refine r_aload rfl rfl ?_
  refine r_getA (b := ad 46) rfl ⟨rfl, rfl, rfl⟩ (fx_t30 fx) (fx_r30_21 fx) ?_
  refine r_iload rfl rfl ?_
  refine r_iaload rfl (.inl (fx_t46 fx)) (vp_ct (fx_n46 fx) (vp_in_nI (by omega) (by omega))) ?_
  refine WR_tI (congrArg (hI (sI (sI (sI h (ad 30) 31 (nI (B + 1))) (ad 49) k (nI (i + 1))) (ad 56) a ((hI h (ad 56) a) + 1)) (ad 46)) ((nI_clamp (by omega)) : _ = 16 * p + i)) ?_
  refine WR_tI (y := b) (Eq.trans (I_ne (fx_ne fx (by decide))) (Eq.trans (I_ne (fx_ne fx (by decide))) (Eq.trans (I_ne (fx_ne fx (by decide))) t7))) ?_
  refine r_cv (y := 211) (ra := [.int b, .int 10]) (rest := []) rfl ⟨⟨rfl, rfl⟩, rfl, by decide⟩ (fx_t30 fx) rfl rfl (Nat.le_of_ble_eq_true rfl) ?_
  exact (C1)

set_option maxHeartbeats 2000000 in
theorem w_gsr {d : Nat} {Q : mQ} {n : Nat} {ad sa : Nat → Nat} {z0 : Nat} {h : mH} (fx : FX n ad sa z0 h) (o1 o2 o3 o4 o5 : Option Value) 
    (L1 : Q none h) : WR (d) cd_215 156 [some (.ref (ad 30)), o1, o2, o3, o4, o5] [] h Q := by
  have fx0 := fx
  refine r_goto (tg := 197) rfl rfl ?_
  refine r_vret rfl ?_
  exact (L1)

set_option maxHeartbeats 2000000 in
theorem w_gsr10 {d : Nat} {Q : mQ} {n : Nat} {ad sa : Nat → Nat} {z0 : Nat} {h : mH} (fx : FX n ad sa z0 h) (o1 o2 o3 o4 o5 : Option Value) 
    (L1 : Q none h) : WR (d) cd_215 127 [some (.ref (ad 30)), o1, o2, o3, o4, o5] [] h Q := by
  have fx0 := fx
  refine r_goto (tg := 197) rfl rfl ?_
  refine r_vret rfl ?_
  exact (L1)

set_option maxHeartbeats 2000000 in
theorem w_gsdl {d : Nat} {Q : mQ} {n : Nat} {ad sa : Nat → Nat} {z0 : Nat} {h : mH} (fx : FX n ad sa z0 h) {k p i l : Nat} (k8 : k < 8) (p10 : p < 10) (l16 : l ≤ 16) (t0 : hI h (ad 30) 23 = nI (k + 1)) (t1 : hI h (ad 48) k = nI p) (t2 : hI h (ad 49) k = nI i) (t3 : hI h (ad 43) p = nI l) (il : i < l) {B : Nat} (b1 : B < 100) (t4 : hI h (ad 30) 31 = nI B) {u : Nat} (o6 : u ≤ 6) {a b c : Int32} (t5 : hI h (ad 44) (16 * p + i) = nI u) (t6 : hI h (ad 45) (16 * p + i) = a) (t7 : hI h (ad 46) (16 * p + i) = b) (t8 : hI h (ad 47) (16 * p + i) = c) 
    (C1 : EV (d) 216 [.ref (ad 30), .int (nI u), .int a, .int b, .int c] (sI (sI h (ad 30) 31 (nI (B + 1))) (ad 49) k (nI (i + 1))) (fun v_ h_ => WR (d) cd_215 183 [some (.ref (ad 30)), some (.int (nI k)), some (.int (nI p)), some (.int (nI (16 * p + i))), some (.int (nI u)), none] (v_.toList ++ []) h_ Q)) : EV (d + 1) 215 [.ref (ad 30)] h Q := by
  have fx0 := fx
  refine in_215 (Nat.le_of_ble_eq_true rfl) ?_
  show WR _ cd_215 0 [some (.ref (ad 30)), none, none, none, none, none] [] h _
  refine r_aload rfl rfl ?_
  refine r_getI rfl ⟨rfl, rfl, rfl⟩ (fx_t30 fx) ?_
  refine WR_tI (y := nI (k + 1)) t0 ?_
  refine r_ic (x := 1) rfl rfl ?_
  refine r_isub rfl ?_
  refine WR_tI (y := nI k) (Eq.trans (pk_sub (a := k + 1) (b := 1) (by omega)) (congrArg nI (by omega))) ?_
  refine r_istore (lv' := [some (.ref (ad 30)), some (.int (nI k)), none, none, none, none]) rfl (Nat.le_of_ble_eq_true rfl) rfl ?_
  refine r_aload rfl rfl ?_
  refine r_getA (b := ad 48) rfl ⟨rfl, rfl, rfl⟩ (fx_t30 fx) (fx_r30_24 fx) ?_
  refine r_iload rfl rfl ?_
  refine r_iaload rfl (.inl (fx_t48 fx)) (vp_ct (fx_n48 fx) (vp_in_nI (by omega) (by omega))) ?_
  refine WR_tI (congrArg (hI h (ad 48)) ((nI_clamp (by omega)) : _ = k)) ?_
  refine WR_tI (y := nI p) t1 ?_
  refine r_istore (lv' := [some (.ref (ad 30)), some (.int (nI k)), some (.int (nI p)), none, none, none]) rfl (Nat.le_of_ble_eq_true rfl) rfl ?_
  refine r_aload rfl rfl ?_
  refine r_getA (b := ad 49) rfl ⟨rfl, rfl, rfl⟩ (fx_t30 fx) (fx_r30_25 fx) ?_
  refine r_iload rfl rfl ?_
  refine r_iaload rfl (.inl (fx_t49 fx)) (vp_ct (fx_n49 fx) (vp_in_nI (by omega) (by omega))) ?_
  refine WR_tI (congrArg (hI h (ad 49)) ((nI_clamp (by omega)) : _ = k)) ?_
  refine WR_tI (y := nI i) t2 ?_
  refine r_aload rfl rfl ?_
  refine r_getA (b := ad 43) rfl ⟨rfl, rfl, rfl⟩ (fx_t30 fx) (fx_r30_18 fx) ?_
  refine r_iload rfl rfl ?_
  refine r_iaload rfl (.inl (fx_t43 fx)) (vp_ct (fx_n43 fx) (vp_in_nI (by omega) (by omega))) ?_
  refine WR_tI (congrArg (hI h (ad 43)) ((nI_clamp (by omega)) : _ = p)) ?_
  refine WR_tI (y := nI l) t3 ?_
  refine r_icmp_ne (tg := 36) rfl rfl (fun _ => ?_) (fun q => False.elim (by have : (nI i).toInt = ((i : Nat) : Int) := nI_toInt (by omega); have : (nI l).toInt = ((l : Nat) : Int) := nI_toInt (by omega); have := i_eq q; omega))
  refine r_aload rfl rfl ?_
  refine r_getI rfl ⟨rfl, rfl, rfl⟩ (fx_t30 fx) ?_
  refine WR_tI (y := nI B) t4 ?_
  refine r_ic (x := 100) rfl rfl ?_
  refine r_icmp_ne (tg := 53) rfl rfl (fun _ => ?_) (fun q => False.elim (by have : (nI B).toInt = ((B : Nat) : Int) := nI_toInt (by omega); have : (100 : Int32).toInt = 100 := rfl; have := i_eq q; omega))
  refine r_aload rfl rfl ?_
  refine r_dup rfl rfl ?_
  refine r_getI rfl ⟨rfl, rfl, rfl⟩ (fx_t30 fx) ?_
  refine WR_tI (y := nI B) t4 ?_
  refine r_ic (x := 1) rfl rfl ?_
  refine r_iadd rfl ?_
  refine WR_tI (y := nI (B + 1)) (Eq.trans (nI_add B 1) (congrArg nI (by omega))) ?_
  refine r_putI rfl ⟨rfl, rfl, rfl⟩ (fx_t30 fx) ?_
  have fx : FX n ad sa z0 (sI h (ad 30) 31 (nI (B + 1))) := (FX.sI fx)
  refine r_ic (x := 16) rfl rfl ?_
  refine r_iload rfl rfl ?_
  refine r_imul rfl ?_
  refine WR_tI (y := nI (16 * p)) (Eq.trans (pk_mul 16 p) (congrArg nI (by omega))) ?_
  refine r_aload rfl rfl ?_
  refine r_getA (b := ad 49) rfl ⟨rfl, rfl, rfl⟩ (fx_t30 fx) (fx_r30_25 fx) ?_
  refine r_iload rfl rfl ?_
  refine r_iaload rfl (.inl (fx_t49 fx)) (vp_ct (fx_n49 fx) (vp_in_nI (by omega) (by omega))) ?_
  refine WR_tI (congrArg (hI (sI h (ad 30) 31 (nI (B + 1))) (ad 49)) ((nI_clamp (by omega)) : _ = k)) ?_
  refine WR_tI (y := nI i) (Eq.trans (I_ne (fx_ne fx (by decide))) t2) ?_
  refine r_iadd rfl ?_
  refine WR_tI (y := nI (16 * p + i)) (Eq.trans (nI_add (16 * p) i) (congrArg nI (by omega))) ?_
  refine r_istore (lv' := [some (.ref (ad 30)), some (.int (nI k)), some (.int (nI p)), some (.int (nI (16 * p + i))), none, none]) rfl (Nat.le_of_ble_eq_true rfl) rfl ?_
  refine r_aload rfl rfl ?_
  refine r_getA (b := ad 49) rfl ⟨rfl, rfl, rfl⟩ (fx_t30 fx) (fx_r30_25 fx) ?_
  refine r_iload rfl rfl ?_
  refine r_dup2 rfl rfl rfl ?_
  refine r_iaload rfl (.inl (fx_t49 fx)) (vp_ct (fx_n49 fx) (vp_in_nI (by omega) (by omega))) ?_
  refine WR_tI (congrArg (hI (sI h (ad 30) 31 (nI (B + 1))) (ad 49)) ((nI_clamp (by omega)) : _ = k)) ?_
  refine WR_tI (y := nI i) (Eq.trans (I_ne (fx_ne fx (by decide))) t2) ?_
  refine r_ic (x := 1) rfl rfl ?_
  refine r_iadd rfl ?_
  refine WR_tI (y := nI (i + 1)) (Eq.trans (nI_add i 1) (congrArg nI (by omega))) ?_
  refine r_iastore rfl (fx_t49 fx) (vp_ct (fx_n49 fx) (vp_in_nI (by omega) (by omega))) ?_
  refine WR_h (h2 := sI (sI h (ad 30) 31 (nI (B + 1))) (ad 49) k (nI (i + 1))) (congrArg (fun z => sI (sI h (ad 30) 31 (nI (B + 1))) (ad 49) z (nI (i + 1))) ((nI_clamp (by omega)) : _ = k)) ?_
  have fx : FX n ad sa z0 (sI (sI h (ad 30) 31 (nI (B + 1))) (ad 49) k (nI (i + 1))) := (FX.sI fx)
  refine r_aload rfl rfl ?_
  refine r_getA (b := ad 44) rfl ⟨rfl, rfl, rfl⟩ (fx_t30 fx) (fx_r30_19 fx) ?_
  refine r_iload rfl rfl ?_
  refine r_iaload rfl (.inl (fx_t44 fx)) (vp_ct (fx_n44 fx) (vp_in_nI (by omega) (by omega))) ?_
  refine WR_tI (congrArg (hI (sI (sI h (ad 30) 31 (nI (B + 1))) (ad 49) k (nI (i + 1))) (ad 44)) ((nI_clamp (by omega)) : _ = 16 * p + i)) ?_
  refine WR_tI (y := nI u) (Eq.trans (I_ne (fx_ne fx (by decide))) (Eq.trans (I_ne (fx_ne fx (by decide))) t5)) ?_
  refine r_istore (lv' := [some (.ref (ad 30)), some (.int (nI k)), some (.int (nI p)), some (.int (nI (16 * p + i))), some (.int (nI u)), none]) rfl (Nat.le_of_ble_eq_true rfl) rfl ?_
  refine r_iload rfl rfl ?_
  refine r_ic (x := 10) rfl rfl ?_
  refine r_icmp_ne (tg := 130) rfl rfl (fun _ => ?_) (fun q => False.elim (by have : (nI u).toInt = ((u : Nat) : Int) := nI_toInt (by omega); have : (10 : Int32).toInt = 10 := rfl; have := i_eq q; omega))
  refine r_iload rfl rfl ?_
  refine r_ic (x := 6) rfl rfl ?_
  refine r_icmp_le (tg := 159) rfl rfl (fun _ => ?_) (fun q => False.elim (by have : (nI u).toInt = ((u : Nat) : Int) := nI_toInt (by omega); have : (6 : Int32).toInt = 6 := rfl; have := i_nle q; omega))
  refine r_aload rfl rfl ?_
  refine r_iload rfl rfl ?_
  refine r_aload rfl rfl ?_
  refine r_getA (b := ad 45) rfl ⟨rfl, rfl, rfl⟩ (fx_t30 fx) (fx_r30_20 fx) ?_
  refine r_iload rfl rfl ?_
  refine r_iaload rfl (.inl (fx_t45 fx)) (vp_ct (fx_n45 fx) (vp_in_nI (by omega) (by omega))) ?_
  refine WR_tI (congrArg (hI (sI (sI h (ad 30) 31 (nI (B + 1))) (ad 49) k (nI (i + 1))) (ad 45)) ((nI_clamp (by omega)) : _ = 16 * p + i)) ?_
  refine WR_tI (y := a) (Eq.trans (I_ne (fx_ne fx (by decide))) (Eq.trans (I_ne (fx_ne fx (by decide))) t6)) ?_
  refine r_aload rfl rfl ?_
  refine r_getA (b := ad 46) rfl ⟨rfl, rfl, rfl⟩ (fx_t30 fx) (fx_r30_21 fx) ?_
  refine r_iload rfl rfl ?_
  refine r_iaload rfl (.inl (fx_t46 fx)) (vp_ct (fx_n46 fx) (vp_in_nI (by omega) (by omega))) ?_
  refine WR_tI (congrArg (hI (sI (sI h (ad 30) 31 (nI (B + 1))) (ad 49) k (nI (i + 1))) (ad 46)) ((nI_clamp (by omega)) : _ = 16 * p + i)) ?_
  refine WR_tI (y := b) (Eq.trans (I_ne (fx_ne fx (by decide))) (Eq.trans (I_ne (fx_ne fx (by decide))) t7)) ?_
  refine r_aload rfl rfl ?_
  refine r_getA (b := ad 47) rfl ⟨rfl, rfl, rfl⟩ (fx_t30 fx) (fx_r30_22 fx) ?_
  refine r_iload rfl rfl ?_
  refine r_iaload rfl (.inl (fx_t47 fx)) (vp_ct (fx_n47 fx) (vp_in_nI (by omega) (by omega))) ?_
  refine WR_tI (congrArg (hI (sI (sI h (ad 30) 31 (nI (B + 1))) (ad 49) k (nI (i + 1))) (ad 47)) ((nI_clamp (by omega)) : _ = 16 * p + i)) ?_
  refine WR_tI (y := c) (Eq.trans (I_ne (fx_ne fx (by decide))) (Eq.trans (I_ne (fx_ne fx (by decide))) t8)) ?_
  refine r_cv (y := 216) (ra := [.int c, .int b, .int a, .int (nI u)]) (rest := []) rfl ⟨⟨rfl, rfl⟩, rfl, by decide⟩ (fx_t30 fx) rfl rfl (Nat.le_of_ble_eq_true rfl) ?_
  exact (C1)

set_option maxHeartbeats 2000000 in
theorem w_gsdh {d : Nat} {Q : mQ} {n : Nat} {ad sa : Nat → Nat} {z0 : Nat} {h : mH} (fx : FX n ad sa z0 h) {k p i l : Nat} (k8 : k < 8) (p10 : p < 10) (l16 : l ≤ 16) (t0 : hI h (ad 30) 23 = nI (k + 1)) (t1 : hI h (ad 48) k = nI p) (t2 : hI h (ad 49) k = nI i) (t3 : hI h (ad 43) p = nI l) (il : i < l) {B : Nat} (b1 : B < 100) (t4 : hI h (ad 30) 31 = nI B) {u : Nat} (o6 : 11 ≤ u) (o13 : u ≤ 13) {a b c : Int32} (t5 : hI h (ad 44) (16 * p + i) = nI u) (t6 : hI h (ad 45) (16 * p + i) = a) (t7 : hI h (ad 46) (16 * p + i) = b) (t8 : hI h (ad 47) (16 * p + i) = c) 
    (C1 : EV (d) 216 [.ref (ad 30), .int (nI u), .int a, .int b, .int c] (sI (sI h (ad 30) 31 (nI (B + 1))) (ad 49) k (nI (i + 1))) (fun v_ h_ => WR (d) cd_215 183 [some (.ref (ad 30)), some (.int (nI k)), some (.int (nI p)), some (.int (nI (16 * p + i))), some (.int (nI u)), none] (v_.toList ++ []) h_ Q)) : EV (d + 1) 215 [.ref (ad 30)] h Q := by
  have fx0 := fx
  refine in_215 (Nat.le_of_ble_eq_true rfl) ?_
  show WR _ cd_215 0 [some (.ref (ad 30)), none, none, none, none, none] [] h _
  refine r_aload rfl rfl ?_
  refine r_getI rfl ⟨rfl, rfl, rfl⟩ (fx_t30 fx) ?_
  refine WR_tI (y := nI (k + 1)) t0 ?_
  refine r_ic (x := 1) rfl rfl ?_
  refine r_isub rfl ?_
  refine WR_tI (y := nI k) (Eq.trans (pk_sub (a := k + 1) (b := 1) (by omega)) (congrArg nI (by omega))) ?_
  refine r_istore (lv' := [some (.ref (ad 30)), some (.int (nI k)), none, none, none, none]) rfl (Nat.le_of_ble_eq_true rfl) rfl ?_
  refine r_aload rfl rfl ?_
  refine r_getA (b := ad 48) rfl ⟨rfl, rfl, rfl⟩ (fx_t30 fx) (fx_r30_24 fx) ?_
  refine r_iload rfl rfl ?_
  refine r_iaload rfl (.inl (fx_t48 fx)) (vp_ct (fx_n48 fx) (vp_in_nI (by omega) (by omega))) ?_
  refine WR_tI (congrArg (hI h (ad 48)) ((nI_clamp (by omega)) : _ = k)) ?_
  refine WR_tI (y := nI p) t1 ?_
  refine r_istore (lv' := [some (.ref (ad 30)), some (.int (nI k)), some (.int (nI p)), none, none, none]) rfl (Nat.le_of_ble_eq_true rfl) rfl ?_
  refine r_aload rfl rfl ?_
  refine r_getA (b := ad 49) rfl ⟨rfl, rfl, rfl⟩ (fx_t30 fx) (fx_r30_25 fx) ?_
  refine r_iload rfl rfl ?_
  refine r_iaload rfl (.inl (fx_t49 fx)) (vp_ct (fx_n49 fx) (vp_in_nI (by omega) (by omega))) ?_
  refine WR_tI (congrArg (hI h (ad 49)) ((nI_clamp (by omega)) : _ = k)) ?_
  refine WR_tI (y := nI i) t2 ?_
  refine r_aload rfl rfl ?_
  refine r_getA (b := ad 43) rfl ⟨rfl, rfl, rfl⟩ (fx_t30 fx) (fx_r30_18 fx) ?_
  refine r_iload rfl rfl ?_
  refine r_iaload rfl (.inl (fx_t43 fx)) (vp_ct (fx_n43 fx) (vp_in_nI (by omega) (by omega))) ?_
  refine WR_tI (congrArg (hI h (ad 43)) ((nI_clamp (by omega)) : _ = p)) ?_
  refine WR_tI (y := nI l) t3 ?_
  refine r_icmp_ne (tg := 36) rfl rfl (fun _ => ?_) (fun q => False.elim (by have : (nI i).toInt = ((i : Nat) : Int) := nI_toInt (by omega); have : (nI l).toInt = ((l : Nat) : Int) := nI_toInt (by omega); have := i_eq q; omega))
  refine r_aload rfl rfl ?_
  refine r_getI rfl ⟨rfl, rfl, rfl⟩ (fx_t30 fx) ?_
  refine WR_tI (y := nI B) t4 ?_
  refine r_ic (x := 100) rfl rfl ?_
  refine r_icmp_ne (tg := 53) rfl rfl (fun _ => ?_) (fun q => False.elim (by have : (nI B).toInt = ((B : Nat) : Int) := nI_toInt (by omega); have : (100 : Int32).toInt = 100 := rfl; have := i_eq q; omega))
  refine r_aload rfl rfl ?_
  refine r_dup rfl rfl ?_
  refine r_getI rfl ⟨rfl, rfl, rfl⟩ (fx_t30 fx) ?_
  refine WR_tI (y := nI B) t4 ?_
  refine r_ic (x := 1) rfl rfl ?_
  refine r_iadd rfl ?_
  refine WR_tI (y := nI (B + 1)) (Eq.trans (nI_add B 1) (congrArg nI (by omega))) ?_
  refine r_putI rfl ⟨rfl, rfl, rfl⟩ (fx_t30 fx) ?_
  have fx : FX n ad sa z0 (sI h (ad 30) 31 (nI (B + 1))) := (FX.sI fx)
  refine r_ic (x := 16) rfl rfl ?_
  refine r_iload rfl rfl ?_
  refine r_imul rfl ?_
  refine WR_tI (y := nI (16 * p)) (Eq.trans (pk_mul 16 p) (congrArg nI (by omega))) ?_
  refine r_aload rfl rfl ?_
  refine r_getA (b := ad 49) rfl ⟨rfl, rfl, rfl⟩ (fx_t30 fx) (fx_r30_25 fx) ?_
  refine r_iload rfl rfl ?_
  refine r_iaload rfl (.inl (fx_t49 fx)) (vp_ct (fx_n49 fx) (vp_in_nI (by omega) (by omega))) ?_
  refine WR_tI (congrArg (hI (sI h (ad 30) 31 (nI (B + 1))) (ad 49)) ((nI_clamp (by omega)) : _ = k)) ?_
  refine WR_tI (y := nI i) (Eq.trans (I_ne (fx_ne fx (by decide))) t2) ?_
  refine r_iadd rfl ?_
  refine WR_tI (y := nI (16 * p + i)) (Eq.trans (nI_add (16 * p) i) (congrArg nI (by omega))) ?_
  refine r_istore (lv' := [some (.ref (ad 30)), some (.int (nI k)), some (.int (nI p)), some (.int (nI (16 * p + i))), none, none]) rfl (Nat.le_of_ble_eq_true rfl) rfl ?_
  refine r_aload rfl rfl ?_
  refine r_getA (b := ad 49) rfl ⟨rfl, rfl, rfl⟩ (fx_t30 fx) (fx_r30_25 fx) ?_
  refine r_iload rfl rfl ?_
  refine r_dup2 rfl rfl rfl ?_
  refine r_iaload rfl (.inl (fx_t49 fx)) (vp_ct (fx_n49 fx) (vp_in_nI (by omega) (by omega))) ?_
  refine WR_tI (congrArg (hI (sI h (ad 30) 31 (nI (B + 1))) (ad 49)) ((nI_clamp (by omega)) : _ = k)) ?_
  refine WR_tI (y := nI i) (Eq.trans (I_ne (fx_ne fx (by decide))) t2) ?_
  refine r_ic (x := 1) rfl rfl ?_
  refine r_iadd rfl ?_
  refine WR_tI (y := nI (i + 1)) (Eq.trans (nI_add i 1) (congrArg nI (by omega))) ?_
  refine r_iastore rfl (fx_t49 fx) (vp_ct (fx_n49 fx) (vp_in_nI (by omega) (by omega))) ?_
  refine WR_h (h2 := sI (sI h (ad 30) 31 (nI (B + 1))) (ad 49) k (nI (i + 1))) (congrArg (fun z => sI (sI h (ad 30) 31 (nI (B + 1))) (ad 49) z (nI (i + 1))) ((nI_clamp (by omega)) : _ = k)) ?_
  have fx : FX n ad sa z0 (sI (sI h (ad 30) 31 (nI (B + 1))) (ad 49) k (nI (i + 1))) := (FX.sI fx)
  refine r_aload rfl rfl ?_
  refine r_getA (b := ad 44) rfl ⟨rfl, rfl, rfl⟩ (fx_t30 fx) (fx_r30_19 fx) ?_
  refine r_iload rfl rfl ?_
  refine r_iaload rfl (.inl (fx_t44 fx)) (vp_ct (fx_n44 fx) (vp_in_nI (by omega) (by omega))) ?_
  refine WR_tI (congrArg (hI (sI (sI h (ad 30) 31 (nI (B + 1))) (ad 49) k (nI (i + 1))) (ad 44)) ((nI_clamp (by omega)) : _ = 16 * p + i)) ?_
  refine WR_tI (y := nI u) (Eq.trans (I_ne (fx_ne fx (by decide))) (Eq.trans (I_ne (fx_ne fx (by decide))) t5)) ?_
  refine r_istore (lv' := [some (.ref (ad 30)), some (.int (nI k)), some (.int (nI p)), some (.int (nI (16 * p + i))), some (.int (nI u)), none]) rfl (Nat.le_of_ble_eq_true rfl) rfl ?_
  refine r_iload rfl rfl ?_
  refine r_ic (x := 10) rfl rfl ?_
  refine r_icmp_ne (tg := 130) rfl rfl (fun _ => ?_) (fun q => False.elim (by have : (nI u).toInt = ((u : Nat) : Int) := nI_toInt (by omega); have : (10 : Int32).toInt = 10 := rfl; have := i_eq q; omega))
  refine r_iload rfl rfl ?_
  refine r_ic (x := 6) rfl rfl ?_
  refine r_icmp_le (tg := 159) rfl rfl (fun q => False.elim (by have : (nI u).toInt = ((u : Nat) : Int) := nI_toInt (by omega); have : (6 : Int32).toInt = 6 := rfl; have := i_le q; omega)) (fun _ => ?_)
  refine r_iload rfl rfl ?_
  refine r_ic (x := 10) rfl rfl ?_
  refine r_icmp_ge (tg := 159) rfl rfl (fun _ => ?_) (fun q => False.elim (by have : (nI u).toInt = ((u : Nat) : Int) := nI_toInt (by omega); have : (10 : Int32).toInt = 10 := rfl; have := i_nle q; omega))
  refine r_aload rfl rfl ?_
  refine r_iload rfl rfl ?_
  refine r_aload rfl rfl ?_
  refine r_getA (b := ad 45) rfl ⟨rfl, rfl, rfl⟩ (fx_t30 fx) (fx_r30_20 fx) ?_
  refine r_iload rfl rfl ?_
  refine r_iaload rfl (.inl (fx_t45 fx)) (vp_ct (fx_n45 fx) (vp_in_nI (by omega) (by omega))) ?_
  refine WR_tI (congrArg (hI (sI (sI h (ad 30) 31 (nI (B + 1))) (ad 49) k (nI (i + 1))) (ad 45)) ((nI_clamp (by omega)) : _ = 16 * p + i)) ?_
  refine WR_tI (y := a) (Eq.trans (I_ne (fx_ne fx (by decide))) (Eq.trans (I_ne (fx_ne fx (by decide))) t6)) ?_
  refine r_aload rfl rfl ?_
  refine r_getA (b := ad 46) rfl ⟨rfl, rfl, rfl⟩ (fx_t30 fx) (fx_r30_21 fx) ?_
  refine r_iload rfl rfl ?_
  refine r_iaload rfl (.inl (fx_t46 fx)) (vp_ct (fx_n46 fx) (vp_in_nI (by omega) (by omega))) ?_
  refine WR_tI (congrArg (hI (sI (sI h (ad 30) 31 (nI (B + 1))) (ad 49) k (nI (i + 1))) (ad 46)) ((nI_clamp (by omega)) : _ = 16 * p + i)) ?_
  refine WR_tI (y := b) (Eq.trans (I_ne (fx_ne fx (by decide))) (Eq.trans (I_ne (fx_ne fx (by decide))) t7)) ?_
  refine r_aload rfl rfl ?_
  refine r_getA (b := ad 47) rfl ⟨rfl, rfl, rfl⟩ (fx_t30 fx) (fx_r30_22 fx) ?_
  refine r_iload rfl rfl ?_
  refine r_iaload rfl (.inl (fx_t47 fx)) (vp_ct (fx_n47 fx) (vp_in_nI (by omega) (by omega))) ?_
  refine WR_tI (congrArg (hI (sI (sI h (ad 30) 31 (nI (B + 1))) (ad 49) k (nI (i + 1))) (ad 47)) ((nI_clamp (by omega)) : _ = 16 * p + i)) ?_
  refine WR_tI (y := c) (Eq.trans (I_ne (fx_ne fx (by decide))) (Eq.trans (I_ne (fx_ne fx (by decide))) t8)) ?_
  refine r_cv (y := 216) (ra := [.int c, .int b, .int a, .int (nI u)]) (rest := []) rfl ⟨⟨rfl, rfl⟩, rfl, by decide⟩ (fx_t30 fx) rfl rfl (Nat.le_of_ble_eq_true rfl) ?_
  exact (C1)

set_option maxHeartbeats 2000000 in
theorem w_gsf0 {d : Nat} {Q : mQ} {n : Nat} {ad sa : Nat → Nat} {z0 : Nat} {h : mH} (fx : FX n ad sa z0 h) (o1 o2 o3 o5 : Option Value) (x4 : Int32) 
    (L1 : Q none h) : WR (d) cd_215 183 [some (.ref (ad 30)), o1, o2, o3, some (.int x4), o5] [.int 0] h Q := by
  have fx0 := fx
  refine r_istore (lv' := [some (.ref (ad 30)), o1, o2, o3, some (.int x4), some (.int 0)]) rfl (Nat.le_of_ble_eq_true rfl) rfl ?_
  refine r_iload rfl rfl ?_
  refine r_if_le (tg := 197) rfl rfl (fun _ => ?_) (fun q => absurd q (by decide))
  refine r_vret rfl ?_
  exact (L1)

set_option maxHeartbeats 2000000 in
theorem w_gsf {d : Nat} {Q : mQ} {n : Nat} {ad sa : Nat → Nat} {z0 : Nat} {h : mH} (fx : FX n ad sa z0 h) {f : Nat} (f1 : 1 ≤ f) (f9 : f ≤ 9) (o1 o2 o3 o5 : Option Value) (x4 : Int32) 
    (L1 : Q none (sI (sI h (ad 30) 29 3) (ad 30) 30 (nI f))) : WR (d + 1) cd_215 183 [some (.ref (ad 30)), o1, o2, o3, some (.int x4), o5] [.int (nI f)] h Q := by
  have fx0 := fx
  refine r_istore (lv' := [some (.ref (ad 30)), o1, o2, o3, some (.int x4), some (.int (nI f))]) rfl (Nat.le_of_ble_eq_true rfl) rfl ?_
  refine r_iload rfl rfl ?_
  refine r_if_le (tg := 197) rfl rfl (fun q => False.elim (by have : (nI f).toInt = ((f : Nat) : Int) := nI_toInt (by omega); have : (0 : Int32).toInt = 0 := rfl; have := i_le q; omega)) (fun _ => ?_)
  refine r_aload rfl rfl ?_
  refine r_ic (x := 3) rfl rfl ?_
  refine r_iload rfl rfl ?_
  refine r_cv (y := 212) (ra := [.int (nI f), .int 3]) (rest := []) rfl ⟨⟨rfl, rfl⟩, rfl, by decide⟩ (fx_t30 fx) rfl rfl (Nat.le_of_ble_eq_true rfl) ?_
  refine in_212 (Nat.le_of_ble_eq_true rfl) ?_
  show WR _ cd_212 0 [some (.ref (ad 30)), some (.int 3), some (.int (nI f))] [] h _
  refine r_aload rfl rfl ?_
  refine r_iload rfl rfl ?_
  refine r_putI rfl ⟨rfl, rfl, rfl⟩ (fx_t30 fx) ?_
  have fx : FX n ad sa z0 (sI h (ad 30) 29 3) := (FX.sI fx)
  refine r_aload rfl rfl ?_
  refine r_iload rfl rfl ?_
  refine r_putI rfl ⟨rfl, rfl, rfl⟩ (fx_t30 fx) ?_
  have fx : FX n ad sa z0 (sI (sI h (ad 30) 29 3) (ad 30) 30 (nI f)) := (FX.sI fx)
  refine r_vret rfl ?_
  show WR _ cd_215 197 [some (.ref (ad 30)), o1, o2, o3, some (.int x4), some (.int (nI f))] [] (sI (sI h (ad 30) 29 3) (ad 30) 30 (nI f)) _
  refine r_vret rfl ?_
  exact (L1)

set_option maxHeartbeats 2000000 in
theorem w_b7_1 {d : Nat} {Q : mQ} {n : Nat} {ad sa : Nat → Nat} {z0 : Nat} {h : mH} (fx : FX n ad sa z0 h) {k p i : Nat} (k8 : k < 8) (p10 : p < 10) (i16 : i < 16) {a b : Int32} (t0 : hI h (ad 30) 23 = nI (k + 1)) (t1 : hI h (ad 48) k = nI p) (t2 : hI h (ad 49) k = nI (i + 1)) (t5 : hI h (ad 45) (16 * p + i) = a) (t6 : hI h (ad 46) (16 * p + i) = b) (t7 : hI h (ad 50) k = 7) (t8 : hI h (ad 30) 29 = 1) {v : Int32} (t9 : hI h (ad 30) 30 = v) 
    (L1 : Q none (sI (sI h (ad 30) 47 0) (ad 30) 29 0)) : EV (d + 2) 213 [.ref (ad 30)] h Q := by
  have fx0 := fx
  refine in_213 (Nat.le_of_ble_eq_true rfl) ?_
  show WR _ cd_213 0 [some (.ref (ad 30)), none, none, none, none] [] h _
  refine r_aload rfl rfl ?_
  refine r_getI rfl ⟨rfl, rfl, rfl⟩ (fx_t30 fx) ?_
  refine WR_tI (y := nI (k + 1)) t0 ?_
  refine r_ic (x := 1) rfl rfl ?_
  refine r_isub rfl ?_
  refine WR_tI (y := nI k) (Eq.trans (pk_sub (a := k + 1) (b := 1) (by omega)) (congrArg nI (by omega))) ?_
  refine r_istore (lv' := [some (.ref (ad 30)), some (.int (nI k)), none, none, none]) rfl (Nat.le_of_ble_eq_true rfl) rfl ?_
  refine r_ic (x := 16) rfl rfl ?_
  refine r_aload rfl rfl ?_
  refine r_getA (b := ad 48) rfl ⟨rfl, rfl, rfl⟩ (fx_t30 fx) (fx_r30_24 fx) ?_
  refine r_iload rfl rfl ?_
  refine r_iaload rfl (.inl (fx_t48 fx)) (vp_ct (fx_n48 fx) (vp_in_nI (by omega) (by omega))) ?_
  refine WR_tI (congrArg (hI h (ad 48)) ((nI_clamp (by omega)) : _ = k)) ?_
  refine WR_tI (y := nI p) t1 ?_
  refine r_imul rfl ?_
  refine WR_tI (y := nI (16 * p)) (Eq.trans (pk_mul 16 p) (congrArg nI (by omega))) ?_
  refine r_aload rfl rfl ?_
  refine r_getA (b := ad 49) rfl ⟨rfl, rfl, rfl⟩ (fx_t30 fx) (fx_r30_25 fx) ?_
  refine r_iload rfl rfl ?_
  refine r_iaload rfl (.inl (fx_t49 fx)) (vp_ct (fx_n49 fx) (vp_in_nI (by omega) (by omega))) ?_
  refine WR_tI (congrArg (hI h (ad 49)) ((nI_clamp (by omega)) : _ = k)) ?_
  refine WR_tI (y := nI (i + 1)) t2 ?_
  refine r_iadd rfl ?_
  refine WR_tI (y := nI (16 * p + i + 1)) (Eq.trans (nI_add (16 * p) (i + 1)) (congrArg nI (by omega))) ?_
  refine r_ic (x := 1) rfl rfl ?_
  refine r_isub rfl ?_
  refine WR_tI (y := nI (16 * p + i)) (Eq.trans (pk_sub (a := 16 * p + i + 1) (b := 1) (by omega)) (congrArg nI (by omega))) ?_
  refine r_istore (lv' := [some (.ref (ad 30)), some (.int (nI k)), some (.int (nI (16 * p + i))), none, none]) rfl (Nat.le_of_ble_eq_true rfl) rfl ?_
  refine r_aload rfl rfl ?_
  refine r_getA (b := ad 45) rfl ⟨rfl, rfl, rfl⟩ (fx_t30 fx) (fx_r30_20 fx) ?_
  refine r_iload rfl rfl ?_
  refine r_iaload rfl (.inl (fx_t45 fx)) (vp_ct (fx_n45 fx) (vp_in_nI (by omega) (by omega))) ?_
  refine WR_tI (congrArg (hI h (ad 45)) ((nI_clamp (by omega)) : _ = 16 * p + i)) ?_
  refine WR_tI (y := a) t5 ?_
  refine r_istore (lv' := [some (.ref (ad 30)), some (.int (nI k)), some (.int (nI (16 * p + i))), some (.int a), none]) rfl (Nat.le_of_ble_eq_true rfl) rfl ?_
  refine r_aload rfl rfl ?_
  refine r_getA (b := ad 46) rfl ⟨rfl, rfl, rfl⟩ (fx_t30 fx) (fx_r30_21 fx) ?_
  refine r_iload rfl rfl ?_
  refine r_iaload rfl (.inl (fx_t46 fx)) (vp_ct (fx_n46 fx) (vp_in_nI (by omega) (by omega))) ?_
  refine WR_tI (congrArg (hI h (ad 46)) ((nI_clamp (by omega)) : _ = 16 * p + i)) ?_
  refine WR_tI (y := b) t6 ?_
  refine r_istore (lv' := [some (.ref (ad 30)), some (.int (nI k)), some (.int (nI (16 * p + i))), some (.int a), some (.int b)]) rfl (Nat.le_of_ble_eq_true rfl) rfl ?_
  refine r_aload rfl rfl ?_
  refine r_ic (x := 0) rfl rfl ?_
  refine r_putZ rfl ⟨rfl, rfl, rfl⟩ (fx_t30 fx) (.inl rfl) ?_
  have fx : FX n ad sa z0 (sI h (ad 30) 47 0) := (FX.sI fx)
  refine r_aload rfl rfl ?_
  refine r_getA (b := ad 50) rfl ⟨rfl, rfl, rfl⟩ (fx_t30 fx) (fx_r30_26 fx) ?_
  refine r_iload rfl rfl ?_
  refine r_iaload rfl (.inl (fx_t50 fx)) (vp_ct (fx_n50 fx) (vp_in_nI (by omega) (by omega))) ?_
  refine WR_tI (congrArg (hI (sI h (ad 30) 47 0) (ad 50)) ((nI_clamp (by omega)) : _ = k)) ?_
  refine WR_tI (y := 7) (Eq.trans (I_ne (fx_ne fx (by decide))) t7) ?_
  refine r_tswL (tg := 128) rfl (by decide) ?_
  refine r_aload rfl rfl ?_
  refine r_getI rfl ⟨rfl, rfl, rfl⟩ (fx_t30 fx) ?_
  refine WR_tI (y := 1) (Eq.trans (I_nk (by decide)) t8) ?_
  refine r_ic (x := 2) rfl rfl ?_
  refine r_icmp_ne (tg := 149) rfl rfl (fun _ => ?_) (fun q => absurd q (by decide))
  refine r_aload rfl rfl ?_
  refine r_cv (y := 214) (ra := []) (rest := []) rfl ⟨⟨rfl, rfl⟩, rfl, by decide⟩ (fx_t30 fx) rfl rfl (Nat.le_of_ble_eq_true rfl) ?_
  refine in_214 (Nat.le_of_ble_eq_true rfl) ?_
  show WR _ cd_214 0 [some (.ref (ad 30))] [] (sI h (ad 30) 47 0) _
  refine r_aload rfl rfl ?_
  refine r_aload rfl rfl ?_
  refine r_getI rfl ⟨rfl, rfl, rfl⟩ (fx_t30 fx) ?_
  refine WR_tI (y := 1) (Eq.trans (I_nk (by decide)) t8) ?_
  refine r_ic (x := 1) rfl rfl ?_
  refine r_icmp_ne (tg := 13) rfl rfl (fun q => absurd q (by decide)) (fun _ => ?_)
  refine r_ic (x := 0) rfl rfl ?_
  refine r_goto (tg := 17) rfl rfl ?_
  refine r_putI rfl ⟨rfl, rfl, rfl⟩ (fx_t30 fx) ?_
  have fx : FX n ad sa z0 (sI (sI h (ad 30) 47 0) (ad 30) 29 0) := (FX.sI fx)
  refine r_vret rfl ?_
  show WR _ cd_213 153 [some (.ref (ad 30)), some (.int (nI k)), some (.int (nI (16 * p + i))), some (.int a), some (.int b)] [] (sI (sI h (ad 30) 47 0) (ad 30) 29 0) _
  refine r_goto (tg := 332) rfl rfl ?_
  refine r_vret rfl ?_
  exact (L1)

set_option maxHeartbeats 2000000 in
theorem w_b7_2 {d : Nat} {Q : mQ} {n : Nat} {ad sa : Nat → Nat} {z0 : Nat} {h : mH} (fx : FX n ad sa z0 h) {k p i : Nat} (k8 : k < 8) (p10 : p < 10) (i16 : i < 16) {a b : Int32} (t0 : hI h (ad 30) 23 = nI (k + 1)) (t1 : hI h (ad 48) k = nI p) (t2 : hI h (ad 49) k = nI (i + 1)) (t5 : hI h (ad 45) (16 * p + i) = a) (t6 : hI h (ad 46) (16 * p + i) = b) (t7 : hI h (ad 50) k = 7) (t8 : hI h (ad 30) 29 = 2) {v : Int32} (t9 : hI h (ad 30) 30 = v) 
    (L1 : Q none (sI (sI (sI (sI h (ad 30) 47 0) (ad 30) 33 v) (ad 30) 29 0) (ad 30) 29 0)) : EV (d + 2) 213 [.ref (ad 30)] h Q := by
  have fx0 := fx
  refine in_213 (Nat.le_of_ble_eq_true rfl) ?_
  show WR _ cd_213 0 [some (.ref (ad 30)), none, none, none, none] [] h _
  refine r_aload rfl rfl ?_
  refine r_getI rfl ⟨rfl, rfl, rfl⟩ (fx_t30 fx) ?_
  refine WR_tI (y := nI (k + 1)) t0 ?_
  refine r_ic (x := 1) rfl rfl ?_
  refine r_isub rfl ?_
  refine WR_tI (y := nI k) (Eq.trans (pk_sub (a := k + 1) (b := 1) (by omega)) (congrArg nI (by omega))) ?_
  refine r_istore (lv' := [some (.ref (ad 30)), some (.int (nI k)), none, none, none]) rfl (Nat.le_of_ble_eq_true rfl) rfl ?_
  refine r_ic (x := 16) rfl rfl ?_
  refine r_aload rfl rfl ?_
  refine r_getA (b := ad 48) rfl ⟨rfl, rfl, rfl⟩ (fx_t30 fx) (fx_r30_24 fx) ?_
  refine r_iload rfl rfl ?_
  refine r_iaload rfl (.inl (fx_t48 fx)) (vp_ct (fx_n48 fx) (vp_in_nI (by omega) (by omega))) ?_
  refine WR_tI (congrArg (hI h (ad 48)) ((nI_clamp (by omega)) : _ = k)) ?_
  refine WR_tI (y := nI p) t1 ?_
  refine r_imul rfl ?_
  refine WR_tI (y := nI (16 * p)) (Eq.trans (pk_mul 16 p) (congrArg nI (by omega))) ?_
  refine r_aload rfl rfl ?_
  refine r_getA (b := ad 49) rfl ⟨rfl, rfl, rfl⟩ (fx_t30 fx) (fx_r30_25 fx) ?_
  refine r_iload rfl rfl ?_
  refine r_iaload rfl (.inl (fx_t49 fx)) (vp_ct (fx_n49 fx) (vp_in_nI (by omega) (by omega))) ?_
  refine WR_tI (congrArg (hI h (ad 49)) ((nI_clamp (by omega)) : _ = k)) ?_
  refine WR_tI (y := nI (i + 1)) t2 ?_
  refine r_iadd rfl ?_
  refine WR_tI (y := nI (16 * p + i + 1)) (Eq.trans (nI_add (16 * p) (i + 1)) (congrArg nI (by omega))) ?_
  refine r_ic (x := 1) rfl rfl ?_
  refine r_isub rfl ?_
  refine WR_tI (y := nI (16 * p + i)) (Eq.trans (pk_sub (a := 16 * p + i + 1) (b := 1) (by omega)) (congrArg nI (by omega))) ?_
  refine r_istore (lv' := [some (.ref (ad 30)), some (.int (nI k)), some (.int (nI (16 * p + i))), none, none]) rfl (Nat.le_of_ble_eq_true rfl) rfl ?_
  refine r_aload rfl rfl ?_
  refine r_getA (b := ad 45) rfl ⟨rfl, rfl, rfl⟩ (fx_t30 fx) (fx_r30_20 fx) ?_
  refine r_iload rfl rfl ?_
  refine r_iaload rfl (.inl (fx_t45 fx)) (vp_ct (fx_n45 fx) (vp_in_nI (by omega) (by omega))) ?_
  refine WR_tI (congrArg (hI h (ad 45)) ((nI_clamp (by omega)) : _ = 16 * p + i)) ?_
  refine WR_tI (y := a) t5 ?_
  refine r_istore (lv' := [some (.ref (ad 30)), some (.int (nI k)), some (.int (nI (16 * p + i))), some (.int a), none]) rfl (Nat.le_of_ble_eq_true rfl) rfl ?_
  refine r_aload rfl rfl ?_
  refine r_getA (b := ad 46) rfl ⟨rfl, rfl, rfl⟩ (fx_t30 fx) (fx_r30_21 fx) ?_
  refine r_iload rfl rfl ?_
  refine r_iaload rfl (.inl (fx_t46 fx)) (vp_ct (fx_n46 fx) (vp_in_nI (by omega) (by omega))) ?_
  refine WR_tI (congrArg (hI h (ad 46)) ((nI_clamp (by omega)) : _ = 16 * p + i)) ?_
  refine WR_tI (y := b) t6 ?_
  refine r_istore (lv' := [some (.ref (ad 30)), some (.int (nI k)), some (.int (nI (16 * p + i))), some (.int a), some (.int b)]) rfl (Nat.le_of_ble_eq_true rfl) rfl ?_
  refine r_aload rfl rfl ?_
  refine r_ic (x := 0) rfl rfl ?_
  refine r_putZ rfl ⟨rfl, rfl, rfl⟩ (fx_t30 fx) (.inl rfl) ?_
  have fx : FX n ad sa z0 (sI h (ad 30) 47 0) := (FX.sI fx)
  refine r_aload rfl rfl ?_
  refine r_getA (b := ad 50) rfl ⟨rfl, rfl, rfl⟩ (fx_t30 fx) (fx_r30_26 fx) ?_
  refine r_iload rfl rfl ?_
  refine r_iaload rfl (.inl (fx_t50 fx)) (vp_ct (fx_n50 fx) (vp_in_nI (by omega) (by omega))) ?_
  refine WR_tI (congrArg (hI (sI h (ad 30) 47 0) (ad 50)) ((nI_clamp (by omega)) : _ = k)) ?_
  refine WR_tI (y := 7) (Eq.trans (I_ne (fx_ne fx (by decide))) t7) ?_
  refine r_tswL (tg := 128) rfl (by decide) ?_
  refine r_aload rfl rfl ?_
  refine r_getI rfl ⟨rfl, rfl, rfl⟩ (fx_t30 fx) ?_
  refine WR_tI (y := 2) (Eq.trans (I_nk (by decide)) t8) ?_
  refine r_ic (x := 2) rfl rfl ?_
  refine r_icmp_ne (tg := 149) rfl rfl (fun q => absurd q (by decide)) (fun _ => ?_)
  refine r_aload rfl rfl ?_
  refine r_aload rfl rfl ?_
  refine r_getI rfl ⟨rfl, rfl, rfl⟩ (fx_t30 fx) ?_
  refine WR_tI (y := v) (Eq.trans (I_nk (by decide)) t9) ?_
  refine r_putI rfl ⟨rfl, rfl, rfl⟩ (fx_t30 fx) ?_
  have fx : FX n ad sa z0 (sI (sI h (ad 30) 47 0) (ad 30) 33 v) := (FX.sI fx)
  refine r_aload rfl rfl ?_
  refine r_ic (x := 0) rfl rfl ?_
  refine r_putI rfl ⟨rfl, rfl, rfl⟩ (fx_t30 fx) ?_
  have fx : FX n ad sa z0 (sI (sI (sI h (ad 30) 47 0) (ad 30) 33 v) (ad 30) 29 0) := (FX.sI fx)
  refine r_aload rfl rfl ?_
  refine r_cv (y := 214) (ra := []) (rest := []) rfl ⟨⟨rfl, rfl⟩, rfl, by decide⟩ (fx_t30 fx) rfl rfl (Nat.le_of_ble_eq_true rfl) ?_
  refine in_214 (Nat.le_of_ble_eq_true rfl) ?_
  show WR _ cd_214 0 [some (.ref (ad 30))] [] (sI (sI (sI h (ad 30) 47 0) (ad 30) 33 v) (ad 30) 29 0) _
  refine r_aload rfl rfl ?_
  refine r_aload rfl rfl ?_
  refine r_getI rfl ⟨rfl, rfl, rfl⟩ (fx_t30 fx) ?_
  refine WR_tI (y := 0) I_eq ?_
  refine r_ic (x := 1) rfl rfl ?_
  refine r_icmp_ne (tg := 13) rfl rfl (fun _ => ?_) (fun q => absurd q (by decide))
  refine r_aload rfl rfl ?_
  refine r_getI rfl ⟨rfl, rfl, rfl⟩ (fx_t30 fx) ?_
  refine WR_tI (y := 0) I_eq ?_
  refine r_putI rfl ⟨rfl, rfl, rfl⟩ (fx_t30 fx) ?_
  have fx : FX n ad sa z0 (sI (sI (sI (sI h (ad 30) 47 0) (ad 30) 33 v) (ad 30) 29 0) (ad 30) 29 0) := (FX.sI fx)
  refine r_vret rfl ?_
  show WR _ cd_213 153 [some (.ref (ad 30)), some (.int (nI k)), some (.int (nI (16 * p + i))), some (.int a), some (.int b)] [] (sI (sI (sI (sI h (ad 30) 47 0) (ad 30) 33 v) (ad 30) 29 0) (ad 30) 29 0) _
  refine r_goto (tg := 332) rfl rfl ?_
  refine r_vret rfl ?_
  exact (L1)

set_option maxHeartbeats 2000000 in
theorem w_b7_3 {d : Nat} {Q : mQ} {n : Nat} {ad sa : Nat → Nat} {z0 : Nat} {h : mH} (fx : FX n ad sa z0 h) {k p i : Nat} (k8 : k < 8) (p10 : p < 10) (i16 : i < 16) {a b : Int32} (t0 : hI h (ad 30) 23 = nI (k + 1)) (t1 : hI h (ad 48) k = nI p) (t2 : hI h (ad 49) k = nI (i + 1)) (t5 : hI h (ad 45) (16 * p + i) = a) (t6 : hI h (ad 46) (16 * p + i) = b) (t7 : hI h (ad 50) k = 7) (t8 : hI h (ad 30) 29 = 3) {v : Int32} (t9 : hI h (ad 30) 30 = v) 
    (L1 : Q none (sI (sI h (ad 30) 47 0) (ad 30) 29 3)) : EV (d + 2) 213 [.ref (ad 30)] h Q := by
  have fx0 := fx
  refine in_213 (Nat.le_of_ble_eq_true rfl) ?_
  show WR _ cd_213 0 [some (.ref (ad 30)), none, none, none, none] [] h _
  refine r_aload rfl rfl ?_
  refine r_getI rfl ⟨rfl, rfl, rfl⟩ (fx_t30 fx) ?_
  refine WR_tI (y := nI (k + 1)) t0 ?_
  refine r_ic (x := 1) rfl rfl ?_
  refine r_isub rfl ?_
  refine WR_tI (y := nI k) (Eq.trans (pk_sub (a := k + 1) (b := 1) (by omega)) (congrArg nI (by omega))) ?_
  refine r_istore (lv' := [some (.ref (ad 30)), some (.int (nI k)), none, none, none]) rfl (Nat.le_of_ble_eq_true rfl) rfl ?_
  refine r_ic (x := 16) rfl rfl ?_
  refine r_aload rfl rfl ?_
  refine r_getA (b := ad 48) rfl ⟨rfl, rfl, rfl⟩ (fx_t30 fx) (fx_r30_24 fx) ?_
  refine r_iload rfl rfl ?_
  refine r_iaload rfl (.inl (fx_t48 fx)) (vp_ct (fx_n48 fx) (vp_in_nI (by omega) (by omega))) ?_
  refine WR_tI (congrArg (hI h (ad 48)) ((nI_clamp (by omega)) : _ = k)) ?_
  refine WR_tI (y := nI p) t1 ?_
  refine r_imul rfl ?_
  refine WR_tI (y := nI (16 * p)) (Eq.trans (pk_mul 16 p) (congrArg nI (by omega))) ?_
  refine r_aload rfl rfl ?_
  refine r_getA (b := ad 49) rfl ⟨rfl, rfl, rfl⟩ (fx_t30 fx) (fx_r30_25 fx) ?_
  refine r_iload rfl rfl ?_
  refine r_iaload rfl (.inl (fx_t49 fx)) (vp_ct (fx_n49 fx) (vp_in_nI (by omega) (by omega))) ?_
  refine WR_tI (congrArg (hI h (ad 49)) ((nI_clamp (by omega)) : _ = k)) ?_
  refine WR_tI (y := nI (i + 1)) t2 ?_
  refine r_iadd rfl ?_
  refine WR_tI (y := nI (16 * p + i + 1)) (Eq.trans (nI_add (16 * p) (i + 1)) (congrArg nI (by omega))) ?_
  refine r_ic (x := 1) rfl rfl ?_
  refine r_isub rfl ?_
  refine WR_tI (y := nI (16 * p + i)) (Eq.trans (pk_sub (a := 16 * p + i + 1) (b := 1) (by omega)) (congrArg nI (by omega))) ?_
  refine r_istore (lv' := [some (.ref (ad 30)), some (.int (nI k)), some (.int (nI (16 * p + i))), none, none]) rfl (Nat.le_of_ble_eq_true rfl) rfl ?_
  refine r_aload rfl rfl ?_
  refine r_getA (b := ad 45) rfl ⟨rfl, rfl, rfl⟩ (fx_t30 fx) (fx_r30_20 fx) ?_
  refine r_iload rfl rfl ?_
  refine r_iaload rfl (.inl (fx_t45 fx)) (vp_ct (fx_n45 fx) (vp_in_nI (by omega) (by omega))) ?_
  refine WR_tI (congrArg (hI h (ad 45)) ((nI_clamp (by omega)) : _ = 16 * p + i)) ?_
  refine WR_tI (y := a) t5 ?_
  refine r_istore (lv' := [some (.ref (ad 30)), some (.int (nI k)), some (.int (nI (16 * p + i))), some (.int a), none]) rfl (Nat.le_of_ble_eq_true rfl) rfl ?_
  refine r_aload rfl rfl ?_
  refine r_getA (b := ad 46) rfl ⟨rfl, rfl, rfl⟩ (fx_t30 fx) (fx_r30_21 fx) ?_
  refine r_iload rfl rfl ?_
  refine r_iaload rfl (.inl (fx_t46 fx)) (vp_ct (fx_n46 fx) (vp_in_nI (by omega) (by omega))) ?_
  refine WR_tI (congrArg (hI h (ad 46)) ((nI_clamp (by omega)) : _ = 16 * p + i)) ?_
  refine WR_tI (y := b) t6 ?_
  refine r_istore (lv' := [some (.ref (ad 30)), some (.int (nI k)), some (.int (nI (16 * p + i))), some (.int a), some (.int b)]) rfl (Nat.le_of_ble_eq_true rfl) rfl ?_
  refine r_aload rfl rfl ?_
  refine r_ic (x := 0) rfl rfl ?_
  refine r_putZ rfl ⟨rfl, rfl, rfl⟩ (fx_t30 fx) (.inl rfl) ?_
  have fx : FX n ad sa z0 (sI h (ad 30) 47 0) := (FX.sI fx)
  refine r_aload rfl rfl ?_
  refine r_getA (b := ad 50) rfl ⟨rfl, rfl, rfl⟩ (fx_t30 fx) (fx_r30_26 fx) ?_
  refine r_iload rfl rfl ?_
  refine r_iaload rfl (.inl (fx_t50 fx)) (vp_ct (fx_n50 fx) (vp_in_nI (by omega) (by omega))) ?_
  refine WR_tI (congrArg (hI (sI h (ad 30) 47 0) (ad 50)) ((nI_clamp (by omega)) : _ = k)) ?_
  refine WR_tI (y := 7) (Eq.trans (I_ne (fx_ne fx (by decide))) t7) ?_
  refine r_tswL (tg := 128) rfl (by decide) ?_
  refine r_aload rfl rfl ?_
  refine r_getI rfl ⟨rfl, rfl, rfl⟩ (fx_t30 fx) ?_
  refine WR_tI (y := 3) (Eq.trans (I_nk (by decide)) t8) ?_
  refine r_ic (x := 2) rfl rfl ?_
  refine r_icmp_ne (tg := 149) rfl rfl (fun _ => ?_) (fun q => absurd q (by decide))
  refine r_aload rfl rfl ?_
  refine r_cv (y := 214) (ra := []) (rest := []) rfl ⟨⟨rfl, rfl⟩, rfl, by decide⟩ (fx_t30 fx) rfl rfl (Nat.le_of_ble_eq_true rfl) ?_
  refine in_214 (Nat.le_of_ble_eq_true rfl) ?_
  show WR _ cd_214 0 [some (.ref (ad 30))] [] (sI h (ad 30) 47 0) _
  refine r_aload rfl rfl ?_
  refine r_aload rfl rfl ?_
  refine r_getI rfl ⟨rfl, rfl, rfl⟩ (fx_t30 fx) ?_
  refine WR_tI (y := 3) (Eq.trans (I_nk (by decide)) t8) ?_
  refine r_ic (x := 1) rfl rfl ?_
  refine r_icmp_ne (tg := 13) rfl rfl (fun _ => ?_) (fun q => absurd q (by decide))
  refine r_aload rfl rfl ?_
  refine r_getI rfl ⟨rfl, rfl, rfl⟩ (fx_t30 fx) ?_
  refine WR_tI (y := 3) (Eq.trans (I_nk (by decide)) t8) ?_
  refine r_putI rfl ⟨rfl, rfl, rfl⟩ (fx_t30 fx) ?_
  have fx : FX n ad sa z0 (sI (sI h (ad 30) 47 0) (ad 30) 29 3) := (FX.sI fx)
  refine r_vret rfl ?_
  show WR _ cd_213 153 [some (.ref (ad 30)), some (.int (nI k)), some (.int (nI (16 * p + i))), some (.int a), some (.int b)] [] (sI (sI h (ad 30) 47 0) (ad 30) 29 3) _
  refine r_goto (tg := 332) rfl rfl ?_
  refine r_vret rfl ?_
  exact (L1)

set_option maxHeartbeats 2000000 in
theorem w_b8_1 {d : Nat} {Q : mQ} {n : Nat} {ad sa : Nat → Nat} {z0 : Nat} {h : mH} (fx : FX n ad sa z0 h) {k p i : Nat} (k8 : k < 8) (p10 : p < 10) (i16 : i < 16) {a b : Int32} (t0 : hI h (ad 30) 23 = nI (k + 1)) (t1 : hI h (ad 48) k = nI p) (t2 : hI h (ad 49) k = nI (i + 1)) (t5 : hI h (ad 45) (16 * p + i) = a) (t6 : hI h (ad 46) (16 * p + i) = b) (t7 : hI h (ad 50) k = 8) (t8 : hI h (ad 30) 29 = 1) {v : Int32} (t9 : hI h (ad 30) 30 = v) 
    (L1 : Q none (sI (sI h (ad 30) 47 0) (ad 30) 29 0)) : EV (d + 2) 213 [.ref (ad 30)] h Q := by
  have fx0 := fx
  refine in_213 (Nat.le_of_ble_eq_true rfl) ?_
  show WR _ cd_213 0 [some (.ref (ad 30)), none, none, none, none] [] h _
  refine r_aload rfl rfl ?_
  refine r_getI rfl ⟨rfl, rfl, rfl⟩ (fx_t30 fx) ?_
  refine WR_tI (y := nI (k + 1)) t0 ?_
  refine r_ic (x := 1) rfl rfl ?_
  refine r_isub rfl ?_
  refine WR_tI (y := nI k) (Eq.trans (pk_sub (a := k + 1) (b := 1) (by omega)) (congrArg nI (by omega))) ?_
  refine r_istore (lv' := [some (.ref (ad 30)), some (.int (nI k)), none, none, none]) rfl (Nat.le_of_ble_eq_true rfl) rfl ?_
  refine r_ic (x := 16) rfl rfl ?_
  refine r_aload rfl rfl ?_
  refine r_getA (b := ad 48) rfl ⟨rfl, rfl, rfl⟩ (fx_t30 fx) (fx_r30_24 fx) ?_
  refine r_iload rfl rfl ?_
  refine r_iaload rfl (.inl (fx_t48 fx)) (vp_ct (fx_n48 fx) (vp_in_nI (by omega) (by omega))) ?_
  refine WR_tI (congrArg (hI h (ad 48)) ((nI_clamp (by omega)) : _ = k)) ?_
  refine WR_tI (y := nI p) t1 ?_
  refine r_imul rfl ?_
  refine WR_tI (y := nI (16 * p)) (Eq.trans (pk_mul 16 p) (congrArg nI (by omega))) ?_
  refine r_aload rfl rfl ?_
  refine r_getA (b := ad 49) rfl ⟨rfl, rfl, rfl⟩ (fx_t30 fx) (fx_r30_25 fx) ?_
  refine r_iload rfl rfl ?_
  refine r_iaload rfl (.inl (fx_t49 fx)) (vp_ct (fx_n49 fx) (vp_in_nI (by omega) (by omega))) ?_
  refine WR_tI (congrArg (hI h (ad 49)) ((nI_clamp (by omega)) : _ = k)) ?_
  refine WR_tI (y := nI (i + 1)) t2 ?_
  refine r_iadd rfl ?_
  refine WR_tI (y := nI (16 * p + i + 1)) (Eq.trans (nI_add (16 * p) (i + 1)) (congrArg nI (by omega))) ?_
  refine r_ic (x := 1) rfl rfl ?_
  refine r_isub rfl ?_
  refine WR_tI (y := nI (16 * p + i)) (Eq.trans (pk_sub (a := 16 * p + i + 1) (b := 1) (by omega)) (congrArg nI (by omega))) ?_
  refine r_istore (lv' := [some (.ref (ad 30)), some (.int (nI k)), some (.int (nI (16 * p + i))), none, none]) rfl (Nat.le_of_ble_eq_true rfl) rfl ?_
  refine r_aload rfl rfl ?_
  refine r_getA (b := ad 45) rfl ⟨rfl, rfl, rfl⟩ (fx_t30 fx) (fx_r30_20 fx) ?_
  refine r_iload rfl rfl ?_
  refine r_iaload rfl (.inl (fx_t45 fx)) (vp_ct (fx_n45 fx) (vp_in_nI (by omega) (by omega))) ?_
  refine WR_tI (congrArg (hI h (ad 45)) ((nI_clamp (by omega)) : _ = 16 * p + i)) ?_
  refine WR_tI (y := a) t5 ?_
  refine r_istore (lv' := [some (.ref (ad 30)), some (.int (nI k)), some (.int (nI (16 * p + i))), some (.int a), none]) rfl (Nat.le_of_ble_eq_true rfl) rfl ?_
  refine r_aload rfl rfl ?_
  refine r_getA (b := ad 46) rfl ⟨rfl, rfl, rfl⟩ (fx_t30 fx) (fx_r30_21 fx) ?_
  refine r_iload rfl rfl ?_
  refine r_iaload rfl (.inl (fx_t46 fx)) (vp_ct (fx_n46 fx) (vp_in_nI (by omega) (by omega))) ?_
  refine WR_tI (congrArg (hI h (ad 46)) ((nI_clamp (by omega)) : _ = 16 * p + i)) ?_
  refine WR_tI (y := b) t6 ?_
  refine r_istore (lv' := [some (.ref (ad 30)), some (.int (nI k)), some (.int (nI (16 * p + i))), some (.int a), some (.int b)]) rfl (Nat.le_of_ble_eq_true rfl) rfl ?_
  refine r_aload rfl rfl ?_
  refine r_ic (x := 0) rfl rfl ?_
  refine r_putZ rfl ⟨rfl, rfl, rfl⟩ (fx_t30 fx) (.inl rfl) ?_
  have fx : FX n ad sa z0 (sI h (ad 30) 47 0) := (FX.sI fx)
  refine r_aload rfl rfl ?_
  refine r_getA (b := ad 50) rfl ⟨rfl, rfl, rfl⟩ (fx_t30 fx) (fx_r30_26 fx) ?_
  refine r_iload rfl rfl ?_
  refine r_iaload rfl (.inl (fx_t50 fx)) (vp_ct (fx_n50 fx) (vp_in_nI (by omega) (by omega))) ?_
  refine WR_tI (congrArg (hI (sI h (ad 30) 47 0) (ad 50)) ((nI_clamp (by omega)) : _ = k)) ?_
  refine WR_tI (y := 8) (Eq.trans (I_ne (fx_ne fx (by decide))) t7) ?_
  refine r_tswL (tg := 156) rfl (by decide) ?_
  refine r_aload rfl rfl ?_
  refine r_getI rfl ⟨rfl, rfl, rfl⟩ (fx_t30 fx) ?_
  refine WR_tI (y := 1) (Eq.trans (I_nk (by decide)) t8) ?_
  refine r_ic (x := 3) rfl rfl ?_
  refine r_icmp_ne (tg := 202) rfl rfl (fun _ => ?_) (fun q => absurd q (by decide))
  refine r_aload rfl rfl ?_
  refine r_cv (y := 214) (ra := []) (rest := []) rfl ⟨⟨rfl, rfl⟩, rfl, by decide⟩ (fx_t30 fx) rfl rfl (Nat.le_of_ble_eq_true rfl) ?_
  refine in_214 (Nat.le_of_ble_eq_true rfl) ?_
  show WR _ cd_214 0 [some (.ref (ad 30))] [] (sI h (ad 30) 47 0) _
  refine r_aload rfl rfl ?_
  refine r_aload rfl rfl ?_
  refine r_getI rfl ⟨rfl, rfl, rfl⟩ (fx_t30 fx) ?_
  refine WR_tI (y := 1) (Eq.trans (I_nk (by decide)) t8) ?_
  refine r_ic (x := 1) rfl rfl ?_
  refine r_icmp_ne (tg := 13) rfl rfl (fun q => absurd q (by decide)) (fun _ => ?_)
  refine r_ic (x := 0) rfl rfl ?_
  refine r_goto (tg := 17) rfl rfl ?_
  refine r_putI rfl ⟨rfl, rfl, rfl⟩ (fx_t30 fx) ?_
  have fx : FX n ad sa z0 (sI (sI h (ad 30) 47 0) (ad 30) 29 0) := (FX.sI fx)
  refine r_vret rfl ?_
  show WR _ cd_213 206 [some (.ref (ad 30)), some (.int (nI k)), some (.int (nI (16 * p + i))), some (.int a), some (.int b)] [] (sI (sI h (ad 30) 47 0) (ad 30) 29 0) _
  refine r_goto (tg := 332) rfl rfl ?_
  refine r_vret rfl ?_
  exact (L1)

set_option maxHeartbeats 2000000 in
theorem w_b8_2 {d : Nat} {Q : mQ} {n : Nat} {ad sa : Nat → Nat} {z0 : Nat} {h : mH} (fx : FX n ad sa z0 h) {k p i : Nat} (k8 : k < 8) (p10 : p < 10) (i16 : i < 16) {a b : Int32} (t0 : hI h (ad 30) 23 = nI (k + 1)) (t1 : hI h (ad 48) k = nI p) (t2 : hI h (ad 49) k = nI (i + 1)) (t5 : hI h (ad 45) (16 * p + i) = a) (t6 : hI h (ad 46) (16 * p + i) = b) (t7 : hI h (ad 50) k = 8) (t8 : hI h (ad 30) 29 = 2) {v : Int32} (t9 : hI h (ad 30) 30 = v) 
    (L1 : Q none (sI (sI h (ad 30) 47 0) (ad 30) 29 2)) : EV (d + 2) 213 [.ref (ad 30)] h Q := by
  have fx0 := fx
  refine in_213 (Nat.le_of_ble_eq_true rfl) ?_
  show WR _ cd_213 0 [some (.ref (ad 30)), none, none, none, none] [] h _
  refine r_aload rfl rfl ?_
  refine r_getI rfl ⟨rfl, rfl, rfl⟩ (fx_t30 fx) ?_
  refine WR_tI (y := nI (k + 1)) t0 ?_
  refine r_ic (x := 1) rfl rfl ?_
  refine r_isub rfl ?_
  refine WR_tI (y := nI k) (Eq.trans (pk_sub (a := k + 1) (b := 1) (by omega)) (congrArg nI (by omega))) ?_
  refine r_istore (lv' := [some (.ref (ad 30)), some (.int (nI k)), none, none, none]) rfl (Nat.le_of_ble_eq_true rfl) rfl ?_
  refine r_ic (x := 16) rfl rfl ?_
  refine r_aload rfl rfl ?_
  refine r_getA (b := ad 48) rfl ⟨rfl, rfl, rfl⟩ (fx_t30 fx) (fx_r30_24 fx) ?_
  refine r_iload rfl rfl ?_
  refine r_iaload rfl (.inl (fx_t48 fx)) (vp_ct (fx_n48 fx) (vp_in_nI (by omega) (by omega))) ?_
  refine WR_tI (congrArg (hI h (ad 48)) ((nI_clamp (by omega)) : _ = k)) ?_
  refine WR_tI (y := nI p) t1 ?_
  refine r_imul rfl ?_
  refine WR_tI (y := nI (16 * p)) (Eq.trans (pk_mul 16 p) (congrArg nI (by omega))) ?_
  refine r_aload rfl rfl ?_
  refine r_getA (b := ad 49) rfl ⟨rfl, rfl, rfl⟩ (fx_t30 fx) (fx_r30_25 fx) ?_
  refine r_iload rfl rfl ?_
  refine r_iaload rfl (.inl (fx_t49 fx)) (vp_ct (fx_n49 fx) (vp_in_nI (by omega) (by omega))) ?_
  refine WR_tI (congrArg (hI h (ad 49)) ((nI_clamp (by omega)) : _ = k)) ?_
  refine WR_tI (y := nI (i + 1)) t2 ?_
  refine r_iadd rfl ?_
  refine WR_tI (y := nI (16 * p + i + 1)) (Eq.trans (nI_add (16 * p) (i + 1)) (congrArg nI (by omega))) ?_
  refine r_ic (x := 1) rfl rfl ?_
  refine r_isub rfl ?_
  refine WR_tI (y := nI (16 * p + i)) (Eq.trans (pk_sub (a := 16 * p + i + 1) (b := 1) (by omega)) (congrArg nI (by omega))) ?_
  refine r_istore (lv' := [some (.ref (ad 30)), some (.int (nI k)), some (.int (nI (16 * p + i))), none, none]) rfl (Nat.le_of_ble_eq_true rfl) rfl ?_
  refine r_aload rfl rfl ?_
  refine r_getA (b := ad 45) rfl ⟨rfl, rfl, rfl⟩ (fx_t30 fx) (fx_r30_20 fx) ?_
  refine r_iload rfl rfl ?_
  refine r_iaload rfl (.inl (fx_t45 fx)) (vp_ct (fx_n45 fx) (vp_in_nI (by omega) (by omega))) ?_
  refine WR_tI (congrArg (hI h (ad 45)) ((nI_clamp (by omega)) : _ = 16 * p + i)) ?_
  refine WR_tI (y := a) t5 ?_
  refine r_istore (lv' := [some (.ref (ad 30)), some (.int (nI k)), some (.int (nI (16 * p + i))), some (.int a), none]) rfl (Nat.le_of_ble_eq_true rfl) rfl ?_
  refine r_aload rfl rfl ?_
  refine r_getA (b := ad 46) rfl ⟨rfl, rfl, rfl⟩ (fx_t30 fx) (fx_r30_21 fx) ?_
  refine r_iload rfl rfl ?_
  refine r_iaload rfl (.inl (fx_t46 fx)) (vp_ct (fx_n46 fx) (vp_in_nI (by omega) (by omega))) ?_
  refine WR_tI (congrArg (hI h (ad 46)) ((nI_clamp (by omega)) : _ = 16 * p + i)) ?_
  refine WR_tI (y := b) t6 ?_
  refine r_istore (lv' := [some (.ref (ad 30)), some (.int (nI k)), some (.int (nI (16 * p + i))), some (.int a), some (.int b)]) rfl (Nat.le_of_ble_eq_true rfl) rfl ?_
  refine r_aload rfl rfl ?_
  refine r_ic (x := 0) rfl rfl ?_
  refine r_putZ rfl ⟨rfl, rfl, rfl⟩ (fx_t30 fx) (.inl rfl) ?_
  have fx : FX n ad sa z0 (sI h (ad 30) 47 0) := (FX.sI fx)
  refine r_aload rfl rfl ?_
  refine r_getA (b := ad 50) rfl ⟨rfl, rfl, rfl⟩ (fx_t30 fx) (fx_r30_26 fx) ?_
  refine r_iload rfl rfl ?_
  refine r_iaload rfl (.inl (fx_t50 fx)) (vp_ct (fx_n50 fx) (vp_in_nI (by omega) (by omega))) ?_
  refine WR_tI (congrArg (hI (sI h (ad 30) 47 0) (ad 50)) ((nI_clamp (by omega)) : _ = k)) ?_
  refine WR_tI (y := 8) (Eq.trans (I_ne (fx_ne fx (by decide))) t7) ?_
  refine r_tswL (tg := 156) rfl (by decide) ?_
  refine r_aload rfl rfl ?_
  refine r_getI rfl ⟨rfl, rfl, rfl⟩ (fx_t30 fx) ?_
  refine WR_tI (y := 2) (Eq.trans (I_nk (by decide)) t8) ?_
  refine r_ic (x := 3) rfl rfl ?_
  refine r_icmp_ne (tg := 202) rfl rfl (fun _ => ?_) (fun q => absurd q (by decide))
  refine r_aload rfl rfl ?_
  refine r_cv (y := 214) (ra := []) (rest := []) rfl ⟨⟨rfl, rfl⟩, rfl, by decide⟩ (fx_t30 fx) rfl rfl (Nat.le_of_ble_eq_true rfl) ?_
  refine in_214 (Nat.le_of_ble_eq_true rfl) ?_
  show WR _ cd_214 0 [some (.ref (ad 30))] [] (sI h (ad 30) 47 0) _
  refine r_aload rfl rfl ?_
  refine r_aload rfl rfl ?_
  refine r_getI rfl ⟨rfl, rfl, rfl⟩ (fx_t30 fx) ?_
  refine WR_tI (y := 2) (Eq.trans (I_nk (by decide)) t8) ?_
  refine r_ic (x := 1) rfl rfl ?_
  refine r_icmp_ne (tg := 13) rfl rfl (fun _ => ?_) (fun q => absurd q (by decide))
  refine r_aload rfl rfl ?_
  refine r_getI rfl ⟨rfl, rfl, rfl⟩ (fx_t30 fx) ?_
  refine WR_tI (y := 2) (Eq.trans (I_nk (by decide)) t8) ?_
  refine r_putI rfl ⟨rfl, rfl, rfl⟩ (fx_t30 fx) ?_
  have fx : FX n ad sa z0 (sI (sI h (ad 30) 47 0) (ad 30) 29 2) := (FX.sI fx)
  refine r_vret rfl ?_
  show WR _ cd_213 206 [some (.ref (ad 30)), some (.int (nI k)), some (.int (nI (16 * p + i))), some (.int a), some (.int b)] [] (sI (sI h (ad 30) 47 0) (ad 30) 29 2) _
  refine r_goto (tg := 332) rfl rfl ?_
  refine r_vret rfl ?_
  exact (L1)

set_option maxHeartbeats 2000000 in
theorem w_b8_3 {d : Nat} {Q : mQ} {n : Nat} {ad sa : Nat → Nat} {z0 : Nat} {h : mH} (fx : FX n ad sa z0 h) {k p i : Nat} (k8 : k < 8) (p10 : p < 10) (i16 : i < 16) {a : Int32} {b : Nat} (t0 : hI h (ad 30) 23 = nI (k + 1)) (t1 : hI h (ad 48) k = nI p) (t2 : hI h (ad 49) k = nI (i + 1)) (t5 : hI h (ad 45) (16 * p + i) = a) (t6 : hI h (ad 46) (16 * p + i) = nI b) (t7 : hI h (ad 50) k = 8) (t8 : hI h (ad 30) 29 = 3) (b8 : b ≤ 8) {c : Int32} (ta : hI h (ad 47) (16 * p + i) = c) {f : Nat} (f1 : 1 ≤ f) (f9 : f ≤ 9) (t9 : hI h (ad 30) 30 = nI f) 
    (L1 : (nI f) = 9 → Q none (sI (sI h (ad 30) 47 0) (ad 30) 29 3))
    (C1 : ¬ (nI f) = 9 → (nI b) = 0 → EV (d + 1) 211 [.ref (ad 30), .int 20, .int c] (sI h (ad 30) 47 0) (fun v_ h_ => WR (d + 1) cd_213 199 [some (.ref (ad 30)), some (.int (nI k)), some (.int (nI (16 * p + i))), some (.int a), some (.int (nI b))] (v_.toList ++ []) h_ Q))
    (L2 : ¬ (nI f) = 9 → ¬ (nI b) = 0 → ¬ (nI b) = (nI f) → Q none (sI (sI h (ad 30) 47 0) (ad 30) 29 3))
    (C2 : ¬ (nI f) = 9 → ¬ (nI b) = 0 → (nI b) = (nI f) → EV (d + 1) 211 [.ref (ad 30), .int 20, .int c] (sI h (ad 30) 47 0) (fun v_ h_ => WR (d + 1) cd_213 199 [some (.ref (ad 30)), some (.int (nI k)), some (.int (nI (16 * p + i))), some (.int a), some (.int (nI b))] (v_.toList ++ []) h_ Q)) : EV (d + 2) 213 [.ref (ad 30)] h Q := by
  have fx0 := fx
  refine in_213 (Nat.le_of_ble_eq_true rfl) ?_
  show WR _ cd_213 0 [some (.ref (ad 30)), none, none, none, none] [] h _
  refine r_aload rfl rfl ?_
  refine r_getI rfl ⟨rfl, rfl, rfl⟩ (fx_t30 fx) ?_
  refine WR_tI (y := nI (k + 1)) t0 ?_
  refine r_ic (x := 1) rfl rfl ?_
  refine r_isub rfl ?_
  refine WR_tI (y := nI k) (Eq.trans (pk_sub (a := k + 1) (b := 1) (by omega)) (congrArg nI (by omega))) ?_
  refine r_istore (lv' := [some (.ref (ad 30)), some (.int (nI k)), none, none, none]) rfl (Nat.le_of_ble_eq_true rfl) rfl ?_
  refine r_ic (x := 16) rfl rfl ?_
  refine r_aload rfl rfl ?_
  refine r_getA (b := ad 48) rfl ⟨rfl, rfl, rfl⟩ (fx_t30 fx) (fx_r30_24 fx) ?_
  refine r_iload rfl rfl ?_
  refine r_iaload rfl (.inl (fx_t48 fx)) (vp_ct (fx_n48 fx) (vp_in_nI (by omega) (by omega))) ?_
  refine WR_tI (congrArg (hI h (ad 48)) ((nI_clamp (by omega)) : _ = k)) ?_
  refine WR_tI (y := nI p) t1 ?_
  refine r_imul rfl ?_
  refine WR_tI (y := nI (16 * p)) (Eq.trans (pk_mul 16 p) (congrArg nI (by omega))) ?_
  refine r_aload rfl rfl ?_
  refine r_getA (b := ad 49) rfl ⟨rfl, rfl, rfl⟩ (fx_t30 fx) (fx_r30_25 fx) ?_
  refine r_iload rfl rfl ?_
  refine r_iaload rfl (.inl (fx_t49 fx)) (vp_ct (fx_n49 fx) (vp_in_nI (by omega) (by omega))) ?_
  refine WR_tI (congrArg (hI h (ad 49)) ((nI_clamp (by omega)) : _ = k)) ?_
  refine WR_tI (y := nI (i + 1)) t2 ?_
  refine r_iadd rfl ?_
  refine WR_tI (y := nI (16 * p + i + 1)) (Eq.trans (nI_add (16 * p) (i + 1)) (congrArg nI (by omega))) ?_
  refine r_ic (x := 1) rfl rfl ?_
  refine r_isub rfl ?_
  refine WR_tI (y := nI (16 * p + i)) (Eq.trans (pk_sub (a := 16 * p + i + 1) (b := 1) (by omega)) (congrArg nI (by omega))) ?_
  refine r_istore (lv' := [some (.ref (ad 30)), some (.int (nI k)), some (.int (nI (16 * p + i))), none, none]) rfl (Nat.le_of_ble_eq_true rfl) rfl ?_
  refine r_aload rfl rfl ?_
  refine r_getA (b := ad 45) rfl ⟨rfl, rfl, rfl⟩ (fx_t30 fx) (fx_r30_20 fx) ?_
  refine r_iload rfl rfl ?_
  refine r_iaload rfl (.inl (fx_t45 fx)) (vp_ct (fx_n45 fx) (vp_in_nI (by omega) (by omega))) ?_
  refine WR_tI (congrArg (hI h (ad 45)) ((nI_clamp (by omega)) : _ = 16 * p + i)) ?_
  refine WR_tI (y := a) t5 ?_
  refine r_istore (lv' := [some (.ref (ad 30)), some (.int (nI k)), some (.int (nI (16 * p + i))), some (.int a), none]) rfl (Nat.le_of_ble_eq_true rfl) rfl ?_
  refine r_aload rfl rfl ?_
  refine r_getA (b := ad 46) rfl ⟨rfl, rfl, rfl⟩ (fx_t30 fx) (fx_r30_21 fx) ?_
  refine r_iload rfl rfl ?_
  refine r_iaload rfl (.inl (fx_t46 fx)) (vp_ct (fx_n46 fx) (vp_in_nI (by omega) (by omega))) ?_
  refine WR_tI (congrArg (hI h (ad 46)) ((nI_clamp (by omega)) : _ = 16 * p + i)) ?_
  refine WR_tI (y := nI b) t6 ?_
  refine r_istore (lv' := [some (.ref (ad 30)), some (.int (nI k)), some (.int (nI (16 * p + i))), some (.int a), some (.int (nI b))]) rfl (Nat.le_of_ble_eq_true rfl) rfl ?_
  refine r_aload rfl rfl ?_
  refine r_ic (x := 0) rfl rfl ?_
  refine r_putZ rfl ⟨rfl, rfl, rfl⟩ (fx_t30 fx) (.inl rfl) ?_
  have fx : FX n ad sa z0 (sI h (ad 30) 47 0) := (FX.sI fx)
  refine r_aload rfl rfl ?_
  refine r_getA (b := ad 50) rfl ⟨rfl, rfl, rfl⟩ (fx_t30 fx) (fx_r30_26 fx) ?_
  refine r_iload rfl rfl ?_
  refine r_iaload rfl (.inl (fx_t50 fx)) (vp_ct (fx_n50 fx) (vp_in_nI (by omega) (by omega))) ?_
  refine WR_tI (congrArg (hI (sI h (ad 30) 47 0) (ad 50)) ((nI_clamp (by omega)) : _ = k)) ?_
  refine WR_tI (y := 8) (Eq.trans (I_ne (fx_ne fx (by decide))) t7) ?_
  refine r_tswL (tg := 156) rfl (by decide) ?_
  refine r_aload rfl rfl ?_
  refine r_getI rfl ⟨rfl, rfl, rfl⟩ (fx_t30 fx) ?_
  refine WR_tI (y := 3) (Eq.trans (I_nk (by decide)) t8) ?_
  refine r_ic (x := 3) rfl rfl ?_
  refine r_icmp_ne (tg := 202) rfl rfl (fun q => absurd q (by decide)) (fun _ => ?_)
  refine r_aload rfl rfl ?_
  refine r_getI rfl ⟨rfl, rfl, rfl⟩ (fx_t30 fx) ?_
  refine WR_tI (y := nI f) (Eq.trans (I_nk (by decide)) t9) ?_
  refine r_ic (x := 9) rfl rfl ?_
  refine r_icmp_eq (tg := 202) rfl rfl (fun c1 => ?_) (fun c1 => ?_)
  · refine r_aload rfl rfl ?_
    refine r_cv (y := 214) (ra := []) (rest := []) rfl ⟨⟨rfl, rfl⟩, rfl, by decide⟩ (fx_t30 fx) rfl rfl (Nat.le_of_ble_eq_true rfl) ?_
    refine in_214 (Nat.le_of_ble_eq_true rfl) ?_
    show WR _ cd_214 0 [some (.ref (ad 30))] [] (sI h (ad 30) 47 0) _
    refine r_aload rfl rfl ?_
    refine r_aload rfl rfl ?_
    refine r_getI rfl ⟨rfl, rfl, rfl⟩ (fx_t30 fx) ?_
    refine WR_tI (y := 3) (Eq.trans (I_nk (by decide)) t8) ?_
    refine r_ic (x := 1) rfl rfl ?_
    refine r_icmp_ne (tg := 13) rfl rfl (fun _ => ?_) (fun q => absurd q (by decide))
    refine r_aload rfl rfl ?_
    refine r_getI rfl ⟨rfl, rfl, rfl⟩ (fx_t30 fx) ?_
    refine WR_tI (y := 3) (Eq.trans (I_nk (by decide)) t8) ?_
    refine r_putI rfl ⟨rfl, rfl, rfl⟩ (fx_t30 fx) ?_
    have fx : FX n ad sa z0 (sI (sI h (ad 30) 47 0) (ad 30) 29 3) := (FX.sI fx)
    refine r_vret rfl ?_
    show WR _ cd_213 206 [some (.ref (ad 30)), some (.int (nI k)), some (.int (nI (16 * p + i))), some (.int a), some (.int (nI b))] [] (sI (sI h (ad 30) 47 0) (ad 30) 29 3) _
    refine r_goto (tg := 332) rfl rfl ?_
    refine r_vret rfl ?_
    exact (L1 c1)
  · refine r_iload rfl rfl ?_
    refine r_if_eq (tg := 187) rfl rfl (fun c2 => ?_) (fun c2 => ?_)
    · refine r_aload rfl rfl ?_
      refine r_ic (x := 20) rfl rfl ?_
      refine r_aload rfl rfl ?_
      refine r_getA (b := ad 47) rfl ⟨rfl, rfl, rfl⟩ (fx_t30 fx) (fx_r30_22 fx) ?_
      refine r_iload rfl rfl ?_
      refine r_iaload rfl (.inl (fx_t47 fx)) (vp_ct (fx_n47 fx) (vp_in_nI (by omega) (by omega))) ?_
      refine WR_tI (congrArg (hI (sI h (ad 30) 47 0) (ad 47)) ((nI_clamp (by omega)) : _ = 16 * p + i)) ?_
      refine WR_tI (y := c) (Eq.trans (I_ne (fx_ne fx (by decide))) ta) ?_
      refine r_cv (y := 211) (ra := [.int c, .int 20]) (rest := []) rfl ⟨⟨rfl, rfl⟩, rfl, by decide⟩ (fx_t30 fx) rfl rfl (Nat.le_of_ble_eq_true rfl) ?_
      exact (C1 c1 c2)
    · refine r_iload rfl rfl ?_
      refine r_aload rfl rfl ?_
      refine r_getI rfl ⟨rfl, rfl, rfl⟩ (fx_t30 fx) ?_
      refine WR_tI (y := nI f) (Eq.trans (I_nk (by decide)) t9) ?_
      refine r_icmp_ne (tg := 202) rfl rfl (fun c3 => ?_) (fun c3 => ?_)
      · refine r_aload rfl rfl ?_
        refine r_cv (y := 214) (ra := []) (rest := []) rfl ⟨⟨rfl, rfl⟩, rfl, by decide⟩ (fx_t30 fx) rfl rfl (Nat.le_of_ble_eq_true rfl) ?_
        refine in_214 (Nat.le_of_ble_eq_true rfl) ?_
        show WR _ cd_214 0 [some (.ref (ad 30))] [] (sI h (ad 30) 47 0) _
        refine r_aload rfl rfl ?_
        refine r_aload rfl rfl ?_
        refine r_getI rfl ⟨rfl, rfl, rfl⟩ (fx_t30 fx) ?_
        refine WR_tI (y := 3) (Eq.trans (I_nk (by decide)) t8) ?_
        refine r_ic (x := 1) rfl rfl ?_
        refine r_icmp_ne (tg := 13) rfl rfl (fun _ => ?_) (fun q => absurd q (by decide))
        refine r_aload rfl rfl ?_
        refine r_getI rfl ⟨rfl, rfl, rfl⟩ (fx_t30 fx) ?_
        refine WR_tI (y := 3) (Eq.trans (I_nk (by decide)) t8) ?_
        refine r_putI rfl ⟨rfl, rfl, rfl⟩ (fx_t30 fx) ?_
        have fx : FX n ad sa z0 (sI (sI h (ad 30) 47 0) (ad 30) 29 3) := (FX.sI fx)
        refine r_vret rfl ?_
        show WR _ cd_213 206 [some (.ref (ad 30)), some (.int (nI k)), some (.int (nI (16 * p + i))), some (.int a), some (.int (nI b))] [] (sI (sI h (ad 30) 47 0) (ad 30) 29 3) _
        refine r_goto (tg := 332) rfl rfl ?_
        refine r_vret rfl ?_
        exact (L2 c1 c2 c3)
      · refine r_aload rfl rfl ?_
        refine r_ic (x := 20) rfl rfl ?_
        refine r_aload rfl rfl ?_
        refine r_getA (b := ad 47) rfl ⟨rfl, rfl, rfl⟩ (fx_t30 fx) (fx_r30_22 fx) ?_
        refine r_iload rfl rfl ?_
        refine r_iaload rfl (.inl (fx_t47 fx)) (vp_ct (fx_n47 fx) (vp_in_nI (by omega) (by omega))) ?_
        refine WR_tI (congrArg (hI (sI h (ad 30) 47 0) (ad 47)) ((nI_clamp (by omega)) : _ = 16 * p + i)) ?_
        refine WR_tI (y := c) (Eq.trans (I_ne (fx_ne fx (by decide))) ta) ?_
        refine r_cv (y := 211) (ra := [.int c, .int 20]) (rest := []) rfl ⟨⟨rfl, rfl⟩, rfl, by decide⟩ (fx_t30 fx) rfl rfl (Nat.le_of_ble_eq_true rfl) ?_
        exact (C2 c1 c2 c3)

set_option maxHeartbeats 2000000 in
theorem w_b9_1 {d : Nat} {Q : mQ} {n : Nat} {ad sa : Nat → Nat} {z0 : Nat} {h : mH} (fx : FX n ad sa z0 h) {k p i : Nat} (k8 : k < 8) (p10 : p < 10) (i16 : i < 16) {a b : Int32} (t0 : hI h (ad 30) 23 = nI (k + 1)) (t1 : hI h (ad 48) k = nI p) (t2 : hI h (ad 49) k = nI (i + 1)) (t5 : hI h (ad 45) (16 * p + i) = a) (t6 : hI h (ad 46) (16 * p + i) = b) (t7 : hI h (ad 50) k = 9) (t8 : hI h (ad 30) 29 = 1) {v : Int32} (t9 : hI h (ad 30) 30 = v) 
    (C1 : EV (d) 211 [.ref (ad 30), .int 21, .int b] (sI (sI (sI h (ad 30) 47 0) (ad 51) k 1) (ad 52) k v) (fun v_ h_ => WR (d) cd_213 254 [some (.ref (ad 30)), some (.int (nI k)), some (.int (nI (16 * p + i))), some (.int a), some (.int b)] (v_.toList ++ []) h_ Q)) : EV (d + 1) 213 [.ref (ad 30)] h Q := by
  have fx0 := fx
  refine in_213 (Nat.le_of_ble_eq_true rfl) ?_
  show WR _ cd_213 0 [some (.ref (ad 30)), none, none, none, none] [] h _
  refine r_aload rfl rfl ?_
  refine r_getI rfl ⟨rfl, rfl, rfl⟩ (fx_t30 fx) ?_
  refine WR_tI (y := nI (k + 1)) t0 ?_
  refine r_ic (x := 1) rfl rfl ?_
  refine r_isub rfl ?_
  refine WR_tI (y := nI k) (Eq.trans (pk_sub (a := k + 1) (b := 1) (by omega)) (congrArg nI (by omega))) ?_
  refine r_istore (lv' := [some (.ref (ad 30)), some (.int (nI k)), none, none, none]) rfl (Nat.le_of_ble_eq_true rfl) rfl ?_
  refine r_ic (x := 16) rfl rfl ?_
  refine r_aload rfl rfl ?_
  refine r_getA (b := ad 48) rfl ⟨rfl, rfl, rfl⟩ (fx_t30 fx) (fx_r30_24 fx) ?_
  refine r_iload rfl rfl ?_
  refine r_iaload rfl (.inl (fx_t48 fx)) (vp_ct (fx_n48 fx) (vp_in_nI (by omega) (by omega))) ?_
  refine WR_tI (congrArg (hI h (ad 48)) ((nI_clamp (by omega)) : _ = k)) ?_
  refine WR_tI (y := nI p) t1 ?_
  refine r_imul rfl ?_
  refine WR_tI (y := nI (16 * p)) (Eq.trans (pk_mul 16 p) (congrArg nI (by omega))) ?_
  refine r_aload rfl rfl ?_
  refine r_getA (b := ad 49) rfl ⟨rfl, rfl, rfl⟩ (fx_t30 fx) (fx_r30_25 fx) ?_
  refine r_iload rfl rfl ?_
  refine r_iaload rfl (.inl (fx_t49 fx)) (vp_ct (fx_n49 fx) (vp_in_nI (by omega) (by omega))) ?_
  refine WR_tI (congrArg (hI h (ad 49)) ((nI_clamp (by omega)) : _ = k)) ?_
  refine WR_tI (y := nI (i + 1)) t2 ?_
  refine r_iadd rfl ?_
  refine WR_tI (y := nI (16 * p + i + 1)) (Eq.trans (nI_add (16 * p) (i + 1)) (congrArg nI (by omega))) ?_
  refine r_ic (x := 1) rfl rfl ?_
  refine r_isub rfl ?_
  refine WR_tI (y := nI (16 * p + i)) (Eq.trans (pk_sub (a := 16 * p + i + 1) (b := 1) (by omega)) (congrArg nI (by omega))) ?_
  refine r_istore (lv' := [some (.ref (ad 30)), some (.int (nI k)), some (.int (nI (16 * p + i))), none, none]) rfl (Nat.le_of_ble_eq_true rfl) rfl ?_
  refine r_aload rfl rfl ?_
  refine r_getA (b := ad 45) rfl ⟨rfl, rfl, rfl⟩ (fx_t30 fx) (fx_r30_20 fx) ?_
  refine r_iload rfl rfl ?_
  refine r_iaload rfl (.inl (fx_t45 fx)) (vp_ct (fx_n45 fx) (vp_in_nI (by omega) (by omega))) ?_
  refine WR_tI (congrArg (hI h (ad 45)) ((nI_clamp (by omega)) : _ = 16 * p + i)) ?_
  refine WR_tI (y := a) t5 ?_
  refine r_istore (lv' := [some (.ref (ad 30)), some (.int (nI k)), some (.int (nI (16 * p + i))), some (.int a), none]) rfl (Nat.le_of_ble_eq_true rfl) rfl ?_
  refine r_aload rfl rfl ?_
  refine r_getA (b := ad 46) rfl ⟨rfl, rfl, rfl⟩ (fx_t30 fx) (fx_r30_21 fx) ?_
  refine r_iload rfl rfl ?_
  refine r_iaload rfl (.inl (fx_t46 fx)) (vp_ct (fx_n46 fx) (vp_in_nI (by omega) (by omega))) ?_
  refine WR_tI (congrArg (hI h (ad 46)) ((nI_clamp (by omega)) : _ = 16 * p + i)) ?_
  refine WR_tI (y := b) t6 ?_
  refine r_istore (lv' := [some (.ref (ad 30)), some (.int (nI k)), some (.int (nI (16 * p + i))), some (.int a), some (.int b)]) rfl (Nat.le_of_ble_eq_true rfl) rfl ?_
  refine r_aload rfl rfl ?_
  refine r_ic (x := 0) rfl rfl ?_
  refine r_putZ rfl ⟨rfl, rfl, rfl⟩ (fx_t30 fx) (.inl rfl) ?_
  have fx : FX n ad sa z0 (sI h (ad 30) 47 0) := (FX.sI fx)
  refine r_aload rfl rfl ?_
  refine r_getA (b := ad 50) rfl ⟨rfl, rfl, rfl⟩ (fx_t30 fx) (fx_r30_26 fx) ?_
  refine r_iload rfl rfl ?_
  refine r_iaload rfl (.inl (fx_t50 fx)) (vp_ct (fx_n50 fx) (vp_in_nI (by omega) (by omega))) ?_
  refine WR_tI (congrArg (hI (sI h (ad 30) 47 0) (ad 50)) ((nI_clamp (by omega)) : _ = k)) ?_
  refine WR_tI (y := 9) (Eq.trans (I_ne (fx_ne fx (by decide))) t7) ?_
  refine r_tswL (tg := 209) rfl (by decide) ?_
  refine r_aload rfl rfl ?_
  refine r_getI rfl ⟨rfl, rfl, rfl⟩ (fx_t30 fx) ?_
  refine WR_tI (y := 1) (Eq.trans (I_nk (by decide)) t8) ?_
  refine r_ic (x := 3) rfl rfl ?_
  refine r_icmp_ne (tg := 226) rfl rfl (fun _ => ?_) (fun q => absurd q (by decide))
  refine r_aload rfl rfl ?_
  refine r_getA (b := ad 51) rfl ⟨rfl, rfl, rfl⟩ (fx_t30 fx) (fx_r30_27 fx) ?_
  refine r_iload rfl rfl ?_
  refine r_aload rfl rfl ?_
  refine r_getI rfl ⟨rfl, rfl, rfl⟩ (fx_t30 fx) ?_
  refine WR_tI (y := 1) (Eq.trans (I_nk (by decide)) t8) ?_
  refine r_iastore rfl (fx_t51 fx) (vp_ct (fx_n51 fx) (vp_in_nI (by omega) (by omega))) ?_
  refine WR_h (h2 := sI (sI h (ad 30) 47 0) (ad 51) k 1) (congrArg (fun z => sI (sI h (ad 30) 47 0) (ad 51) z 1) ((nI_clamp (by omega)) : _ = k)) ?_
  have fx : FX n ad sa z0 (sI (sI h (ad 30) 47 0) (ad 51) k 1) := (FX.sI fx)
  refine r_aload rfl rfl ?_
  refine r_getA (b := ad 52) rfl ⟨rfl, rfl, rfl⟩ (fx_t30 fx) (fx_r30_28 fx) ?_
  refine r_iload rfl rfl ?_
  refine r_aload rfl rfl ?_
  refine r_getI rfl ⟨rfl, rfl, rfl⟩ (fx_t30 fx) ?_
  refine WR_tI (y := v) (Eq.trans (I_ne (fx_ne fx (by decide))) (Eq.trans (I_nk (by decide)) t9)) ?_
  refine r_iastore rfl (fx_t52 fx) (vp_ct (fx_n52 fx) (vp_in_nI (by omega) (by omega))) ?_
  refine WR_h (h2 := sI (sI (sI h (ad 30) 47 0) (ad 51) k 1) (ad 52) k v) (congrArg (fun z => sI (sI (sI h (ad 30) 47 0) (ad 51) k 1) (ad 52) z v) ((nI_clamp (by omega)) : _ = k)) ?_
  have fx : FX n ad sa z0 (sI (sI (sI h (ad 30) 47 0) (ad 51) k 1) (ad 52) k v) := (FX.sI fx)
  refine r_aload rfl rfl ?_
  refine r_ic (x := 21) rfl rfl ?_
  refine r_iload rfl rfl ?_
  refine r_cv (y := 211) (ra := [.int b, .int 21]) (rest := []) rfl ⟨⟨rfl, rfl⟩, rfl, by decide⟩ (fx_t30 fx) rfl rfl (Nat.le_of_ble_eq_true rfl) ?_
  exact (C1)

set_option maxHeartbeats 2000000 in
theorem w_b9_2 {d : Nat} {Q : mQ} {n : Nat} {ad sa : Nat → Nat} {z0 : Nat} {h : mH} (fx : FX n ad sa z0 h) {k p i : Nat} (k8 : k < 8) (p10 : p < 10) (i16 : i < 16) {a b : Int32} (t0 : hI h (ad 30) 23 = nI (k + 1)) (t1 : hI h (ad 48) k = nI p) (t2 : hI h (ad 49) k = nI (i + 1)) (t5 : hI h (ad 45) (16 * p + i) = a) (t6 : hI h (ad 46) (16 * p + i) = b) (t7 : hI h (ad 50) k = 9) (t8 : hI h (ad 30) 29 = 2) {v : Int32} (t9 : hI h (ad 30) 30 = v) 
    (C1 : EV (d) 211 [.ref (ad 30), .int 21, .int b] (sI (sI (sI h (ad 30) 47 0) (ad 51) k 2) (ad 52) k v) (fun v_ h_ => WR (d) cd_213 254 [some (.ref (ad 30)), some (.int (nI k)), some (.int (nI (16 * p + i))), some (.int a), some (.int b)] (v_.toList ++ []) h_ Q)) : EV (d + 1) 213 [.ref (ad 30)] h Q := by
  have fx0 := fx
  refine in_213 (Nat.le_of_ble_eq_true rfl) ?_
  show WR _ cd_213 0 [some (.ref (ad 30)), none, none, none, none] [] h _
  refine r_aload rfl rfl ?_
  refine r_getI rfl ⟨rfl, rfl, rfl⟩ (fx_t30 fx) ?_
  refine WR_tI (y := nI (k + 1)) t0 ?_
  refine r_ic (x := 1) rfl rfl ?_
  refine r_isub rfl ?_
  refine WR_tI (y := nI k) (Eq.trans (pk_sub (a := k + 1) (b := 1) (by omega)) (congrArg nI (by omega))) ?_
  refine r_istore (lv' := [some (.ref (ad 30)), some (.int (nI k)), none, none, none]) rfl (Nat.le_of_ble_eq_true rfl) rfl ?_
  refine r_ic (x := 16) rfl rfl ?_
  refine r_aload rfl rfl ?_
  refine r_getA (b := ad 48) rfl ⟨rfl, rfl, rfl⟩ (fx_t30 fx) (fx_r30_24 fx) ?_
  refine r_iload rfl rfl ?_
  refine r_iaload rfl (.inl (fx_t48 fx)) (vp_ct (fx_n48 fx) (vp_in_nI (by omega) (by omega))) ?_
  refine WR_tI (congrArg (hI h (ad 48)) ((nI_clamp (by omega)) : _ = k)) ?_
  refine WR_tI (y := nI p) t1 ?_
  refine r_imul rfl ?_
  refine WR_tI (y := nI (16 * p)) (Eq.trans (pk_mul 16 p) (congrArg nI (by omega))) ?_
  refine r_aload rfl rfl ?_
  refine r_getA (b := ad 49) rfl ⟨rfl, rfl, rfl⟩ (fx_t30 fx) (fx_r30_25 fx) ?_
  refine r_iload rfl rfl ?_
  refine r_iaload rfl (.inl (fx_t49 fx)) (vp_ct (fx_n49 fx) (vp_in_nI (by omega) (by omega))) ?_
  refine WR_tI (congrArg (hI h (ad 49)) ((nI_clamp (by omega)) : _ = k)) ?_
  refine WR_tI (y := nI (i + 1)) t2 ?_
  refine r_iadd rfl ?_
  refine WR_tI (y := nI (16 * p + i + 1)) (Eq.trans (nI_add (16 * p) (i + 1)) (congrArg nI (by omega))) ?_
  refine r_ic (x := 1) rfl rfl ?_
  refine r_isub rfl ?_
  refine WR_tI (y := nI (16 * p + i)) (Eq.trans (pk_sub (a := 16 * p + i + 1) (b := 1) (by omega)) (congrArg nI (by omega))) ?_
  refine r_istore (lv' := [some (.ref (ad 30)), some (.int (nI k)), some (.int (nI (16 * p + i))), none, none]) rfl (Nat.le_of_ble_eq_true rfl) rfl ?_
  refine r_aload rfl rfl ?_
  refine r_getA (b := ad 45) rfl ⟨rfl, rfl, rfl⟩ (fx_t30 fx) (fx_r30_20 fx) ?_
  refine r_iload rfl rfl ?_
  refine r_iaload rfl (.inl (fx_t45 fx)) (vp_ct (fx_n45 fx) (vp_in_nI (by omega) (by omega))) ?_
  refine WR_tI (congrArg (hI h (ad 45)) ((nI_clamp (by omega)) : _ = 16 * p + i)) ?_
  refine WR_tI (y := a) t5 ?_
  refine r_istore (lv' := [some (.ref (ad 30)), some (.int (nI k)), some (.int (nI (16 * p + i))), some (.int a), none]) rfl (Nat.le_of_ble_eq_true rfl) rfl ?_
  refine r_aload rfl rfl ?_
  refine r_getA (b := ad 46) rfl ⟨rfl, rfl, rfl⟩ (fx_t30 fx) (fx_r30_21 fx) ?_
  refine r_iload rfl rfl ?_
  refine r_iaload rfl (.inl (fx_t46 fx)) (vp_ct (fx_n46 fx) (vp_in_nI (by omega) (by omega))) ?_
  refine WR_tI (congrArg (hI h (ad 46)) ((nI_clamp (by omega)) : _ = 16 * p + i)) ?_
  refine WR_tI (y := b) t6 ?_
  refine r_istore (lv' := [some (.ref (ad 30)), some (.int (nI k)), some (.int (nI (16 * p + i))), some (.int a), some (.int b)]) rfl (Nat.le_of_ble_eq_true rfl) rfl ?_
  refine r_aload rfl rfl ?_
  refine r_ic (x := 0) rfl rfl ?_
  refine r_putZ rfl ⟨rfl, rfl, rfl⟩ (fx_t30 fx) (.inl rfl) ?_
  have fx : FX n ad sa z0 (sI h (ad 30) 47 0) := (FX.sI fx)
  refine r_aload rfl rfl ?_
  refine r_getA (b := ad 50) rfl ⟨rfl, rfl, rfl⟩ (fx_t30 fx) (fx_r30_26 fx) ?_
  refine r_iload rfl rfl ?_
  refine r_iaload rfl (.inl (fx_t50 fx)) (vp_ct (fx_n50 fx) (vp_in_nI (by omega) (by omega))) ?_
  refine WR_tI (congrArg (hI (sI h (ad 30) 47 0) (ad 50)) ((nI_clamp (by omega)) : _ = k)) ?_
  refine WR_tI (y := 9) (Eq.trans (I_ne (fx_ne fx (by decide))) t7) ?_
  refine r_tswL (tg := 209) rfl (by decide) ?_
  refine r_aload rfl rfl ?_
  refine r_getI rfl ⟨rfl, rfl, rfl⟩ (fx_t30 fx) ?_
  refine WR_tI (y := 2) (Eq.trans (I_nk (by decide)) t8) ?_
  refine r_ic (x := 3) rfl rfl ?_
  refine r_icmp_ne (tg := 226) rfl rfl (fun _ => ?_) (fun q => absurd q (by decide))
  refine r_aload rfl rfl ?_
  refine r_getA (b := ad 51) rfl ⟨rfl, rfl, rfl⟩ (fx_t30 fx) (fx_r30_27 fx) ?_
  refine r_iload rfl rfl ?_
  refine r_aload rfl rfl ?_
  refine r_getI rfl ⟨rfl, rfl, rfl⟩ (fx_t30 fx) ?_
  refine WR_tI (y := 2) (Eq.trans (I_nk (by decide)) t8) ?_
  refine r_iastore rfl (fx_t51 fx) (vp_ct (fx_n51 fx) (vp_in_nI (by omega) (by omega))) ?_
  refine WR_h (h2 := sI (sI h (ad 30) 47 0) (ad 51) k 2) (congrArg (fun z => sI (sI h (ad 30) 47 0) (ad 51) z 2) ((nI_clamp (by omega)) : _ = k)) ?_
  have fx : FX n ad sa z0 (sI (sI h (ad 30) 47 0) (ad 51) k 2) := (FX.sI fx)
  refine r_aload rfl rfl ?_
  refine r_getA (b := ad 52) rfl ⟨rfl, rfl, rfl⟩ (fx_t30 fx) (fx_r30_28 fx) ?_
  refine r_iload rfl rfl ?_
  refine r_aload rfl rfl ?_
  refine r_getI rfl ⟨rfl, rfl, rfl⟩ (fx_t30 fx) ?_
  refine WR_tI (y := v) (Eq.trans (I_ne (fx_ne fx (by decide))) (Eq.trans (I_nk (by decide)) t9)) ?_
  refine r_iastore rfl (fx_t52 fx) (vp_ct (fx_n52 fx) (vp_in_nI (by omega) (by omega))) ?_
  refine WR_h (h2 := sI (sI (sI h (ad 30) 47 0) (ad 51) k 2) (ad 52) k v) (congrArg (fun z => sI (sI (sI h (ad 30) 47 0) (ad 51) k 2) (ad 52) z v) ((nI_clamp (by omega)) : _ = k)) ?_
  have fx : FX n ad sa z0 (sI (sI (sI h (ad 30) 47 0) (ad 51) k 2) (ad 52) k v) := (FX.sI fx)
  refine r_aload rfl rfl ?_
  refine r_ic (x := 21) rfl rfl ?_
  refine r_iload rfl rfl ?_
  refine r_cv (y := 211) (ra := [.int b, .int 21]) (rest := []) rfl ⟨⟨rfl, rfl⟩, rfl, by decide⟩ (fx_t30 fx) rfl rfl (Nat.le_of_ble_eq_true rfl) ?_
  exact (C1)

set_option maxHeartbeats 2000000 in
theorem w_b9_3 {d : Nat} {Q : mQ} {n : Nat} {ad sa : Nat → Nat} {z0 : Nat} {h : mH} (fx : FX n ad sa z0 h) {k p i : Nat} (k8 : k < 8) (p10 : p < 10) (i16 : i < 16) {a b : Int32} (t0 : hI h (ad 30) 23 = nI (k + 1)) (t1 : hI h (ad 48) k = nI p) (t2 : hI h (ad 49) k = nI (i + 1)) (t5 : hI h (ad 45) (16 * p + i) = a) (t6 : hI h (ad 46) (16 * p + i) = b) (t7 : hI h (ad 50) k = 9) (t8 : hI h (ad 30) 29 = 3) {f : Nat} (f1 : 1 ≤ f) (f9 : f ≤ 9) (t9 : hI h (ad 30) 30 = nI f) 
    (L1 : (nI f) = 9 → Q none (sI h (ad 30) 47 0))
    (C1 : ¬ (nI f) = 9 → EV (d) 211 [.ref (ad 30), .int 21, .int b] (sI (sI (sI h (ad 30) 47 0) (ad 51) k 3) (ad 52) k (nI f)) (fun v_ h_ => WR (d) cd_213 254 [some (.ref (ad 30)), some (.int (nI k)), some (.int (nI (16 * p + i))), some (.int a), some (.int b)] (v_.toList ++ []) h_ Q)) : EV (d + 1) 213 [.ref (ad 30)] h Q := by
  have fx0 := fx
  refine in_213 (Nat.le_of_ble_eq_true rfl) ?_
  show WR _ cd_213 0 [some (.ref (ad 30)), none, none, none, none] [] h _
  refine r_aload rfl rfl ?_
  refine r_getI rfl ⟨rfl, rfl, rfl⟩ (fx_t30 fx) ?_
  refine WR_tI (y := nI (k + 1)) t0 ?_
  refine r_ic (x := 1) rfl rfl ?_
  refine r_isub rfl ?_
  refine WR_tI (y := nI k) (Eq.trans (pk_sub (a := k + 1) (b := 1) (by omega)) (congrArg nI (by omega))) ?_
  refine r_istore (lv' := [some (.ref (ad 30)), some (.int (nI k)), none, none, none]) rfl (Nat.le_of_ble_eq_true rfl) rfl ?_
  refine r_ic (x := 16) rfl rfl ?_
  refine r_aload rfl rfl ?_
  refine r_getA (b := ad 48) rfl ⟨rfl, rfl, rfl⟩ (fx_t30 fx) (fx_r30_24 fx) ?_
  refine r_iload rfl rfl ?_
  refine r_iaload rfl (.inl (fx_t48 fx)) (vp_ct (fx_n48 fx) (vp_in_nI (by omega) (by omega))) ?_
  refine WR_tI (congrArg (hI h (ad 48)) ((nI_clamp (by omega)) : _ = k)) ?_
  refine WR_tI (y := nI p) t1 ?_
  refine r_imul rfl ?_
  refine WR_tI (y := nI (16 * p)) (Eq.trans (pk_mul 16 p) (congrArg nI (by omega))) ?_
  refine r_aload rfl rfl ?_
  refine r_getA (b := ad 49) rfl ⟨rfl, rfl, rfl⟩ (fx_t30 fx) (fx_r30_25 fx) ?_
  refine r_iload rfl rfl ?_
  refine r_iaload rfl (.inl (fx_t49 fx)) (vp_ct (fx_n49 fx) (vp_in_nI (by omega) (by omega))) ?_
  refine WR_tI (congrArg (hI h (ad 49)) ((nI_clamp (by omega)) : _ = k)) ?_
  refine WR_tI (y := nI (i + 1)) t2 ?_
  refine r_iadd rfl ?_
  refine WR_tI (y := nI (16 * p + i + 1)) (Eq.trans (nI_add (16 * p) (i + 1)) (congrArg nI (by omega))) ?_
  refine r_ic (x := 1) rfl rfl ?_
  refine r_isub rfl ?_
  refine WR_tI (y := nI (16 * p + i)) (Eq.trans (pk_sub (a := 16 * p + i + 1) (b := 1) (by omega)) (congrArg nI (by omega))) ?_
  refine r_istore (lv' := [some (.ref (ad 30)), some (.int (nI k)), some (.int (nI (16 * p + i))), none, none]) rfl (Nat.le_of_ble_eq_true rfl) rfl ?_
  refine r_aload rfl rfl ?_
  refine r_getA (b := ad 45) rfl ⟨rfl, rfl, rfl⟩ (fx_t30 fx) (fx_r30_20 fx) ?_
  refine r_iload rfl rfl ?_
  refine r_iaload rfl (.inl (fx_t45 fx)) (vp_ct (fx_n45 fx) (vp_in_nI (by omega) (by omega))) ?_
  refine WR_tI (congrArg (hI h (ad 45)) ((nI_clamp (by omega)) : _ = 16 * p + i)) ?_
  refine WR_tI (y := a) t5 ?_
  refine r_istore (lv' := [some (.ref (ad 30)), some (.int (nI k)), some (.int (nI (16 * p + i))), some (.int a), none]) rfl (Nat.le_of_ble_eq_true rfl) rfl ?_
  refine r_aload rfl rfl ?_
  refine r_getA (b := ad 46) rfl ⟨rfl, rfl, rfl⟩ (fx_t30 fx) (fx_r30_21 fx) ?_
  refine r_iload rfl rfl ?_
  refine r_iaload rfl (.inl (fx_t46 fx)) (vp_ct (fx_n46 fx) (vp_in_nI (by omega) (by omega))) ?_
  refine WR_tI (congrArg (hI h (ad 46)) ((nI_clamp (by omega)) : _ = 16 * p + i)) ?_
  refine WR_tI (y := b) t6 ?_
  refine r_istore (lv' := [some (.ref (ad 30)), some (.int (nI k)), some (.int (nI (16 * p + i))), some (.int a), some (.int b)]) rfl (Nat.le_of_ble_eq_true rfl) rfl ?_
  refine r_aload rfl rfl ?_
  refine r_ic (x := 0) rfl rfl ?_
  refine r_putZ rfl ⟨rfl, rfl, rfl⟩ (fx_t30 fx) (.inl rfl) ?_
  have fx : FX n ad sa z0 (sI h (ad 30) 47 0) := (FX.sI fx)
  refine r_aload rfl rfl ?_
  refine r_getA (b := ad 50) rfl ⟨rfl, rfl, rfl⟩ (fx_t30 fx) (fx_r30_26 fx) ?_
  refine r_iload rfl rfl ?_
  refine r_iaload rfl (.inl (fx_t50 fx)) (vp_ct (fx_n50 fx) (vp_in_nI (by omega) (by omega))) ?_
  refine WR_tI (congrArg (hI (sI h (ad 30) 47 0) (ad 50)) ((nI_clamp (by omega)) : _ = k)) ?_
  refine WR_tI (y := 9) (Eq.trans (I_ne (fx_ne fx (by decide))) t7) ?_
  refine r_tswL (tg := 209) rfl (by decide) ?_
  refine r_aload rfl rfl ?_
  refine r_getI rfl ⟨rfl, rfl, rfl⟩ (fx_t30 fx) ?_
  refine WR_tI (y := 3) (Eq.trans (I_nk (by decide)) t8) ?_
  refine r_ic (x := 3) rfl rfl ?_
  refine r_icmp_ne (tg := 226) rfl rfl (fun q => absurd q (by decide)) (fun _ => ?_)
  refine r_aload rfl rfl ?_
  refine r_getI rfl ⟨rfl, rfl, rfl⟩ (fx_t30 fx) ?_
  refine WR_tI (y := nI f) (Eq.trans (I_nk (by decide)) t9) ?_
  refine r_ic (x := 9) rfl rfl ?_
  refine r_icmp_eq (tg := 332) rfl rfl (fun c1 => ?_) (fun c1 => ?_)
  · refine r_vret rfl ?_
    exact (L1 c1)
  · refine r_aload rfl rfl ?_
    refine r_getA (b := ad 51) rfl ⟨rfl, rfl, rfl⟩ (fx_t30 fx) (fx_r30_27 fx) ?_
    refine r_iload rfl rfl ?_
    refine r_aload rfl rfl ?_
    refine r_getI rfl ⟨rfl, rfl, rfl⟩ (fx_t30 fx) ?_
    refine WR_tI (y := 3) (Eq.trans (I_nk (by decide)) t8) ?_
    refine r_iastore rfl (fx_t51 fx) (vp_ct (fx_n51 fx) (vp_in_nI (by omega) (by omega))) ?_
    refine WR_h (h2 := sI (sI h (ad 30) 47 0) (ad 51) k 3) (congrArg (fun z => sI (sI h (ad 30) 47 0) (ad 51) z 3) ((nI_clamp (by omega)) : _ = k)) ?_
    have fx : FX n ad sa z0 (sI (sI h (ad 30) 47 0) (ad 51) k 3) := (FX.sI fx)
    refine r_aload rfl rfl ?_
    refine r_getA (b := ad 52) rfl ⟨rfl, rfl, rfl⟩ (fx_t30 fx) (fx_r30_28 fx) ?_
    refine r_iload rfl rfl ?_
    refine r_aload rfl rfl ?_
    refine r_getI rfl ⟨rfl, rfl, rfl⟩ (fx_t30 fx) ?_
    refine WR_tI (y := nI f) (Eq.trans (I_ne (fx_ne fx (by decide))) (Eq.trans (I_nk (by decide)) t9)) ?_
    refine r_iastore rfl (fx_t52 fx) (vp_ct (fx_n52 fx) (vp_in_nI (by omega) (by omega))) ?_
    refine WR_h (h2 := sI (sI (sI h (ad 30) 47 0) (ad 51) k 3) (ad 52) k (nI f)) (congrArg (fun z => sI (sI (sI h (ad 30) 47 0) (ad 51) k 3) (ad 52) z (nI f)) ((nI_clamp (by omega)) : _ = k)) ?_
    have fx : FX n ad sa z0 (sI (sI (sI h (ad 30) 47 0) (ad 51) k 3) (ad 52) k (nI f)) := (FX.sI fx)
    refine r_aload rfl rfl ?_
    refine r_ic (x := 21) rfl rfl ?_
    refine r_iload rfl rfl ?_
    refine r_cv (y := 211) (ra := [.int b, .int 21]) (rest := []) rfl ⟨⟨rfl, rfl⟩, rfl, by decide⟩ (fx_t30 fx) rfl rfl (Nat.le_of_ble_eq_true rfl) ?_
    exact (C1 c1)

set_option maxHeartbeats 2000000 in
theorem w_b10_1 {d : Nat} {Q : mQ} {n : Nat} {ad sa : Nat → Nat} {z0 : Nat} {h : mH} (fx : FX n ad sa z0 h) {k p i : Nat} (k8 : k < 8) (p10 : p < 10) (i16 : i < 16) {a : Nat} (a6 : a < 6) {b : Int32} (t0 : hI h (ad 30) 23 = nI (k + 1)) (t1 : hI h (ad 48) k = nI p) (t2 : hI h (ad 49) k = nI (i + 1)) (t5 : hI h (ad 45) (16 * p + i) = nI a) (t6 : hI h (ad 46) (16 * p + i) = b) (t7 : hI h (ad 50) k = 10) (t8 : hI h (ad 30) 29 = 1) {x : Int32} (tx : hI h (ad 56) a = x) 
    (L1 : Q none (sI (sI (sI h (ad 30) 47 0) (ad 56) a (x - 1)) (ad 30) 29 0)) : EV (d + 2) 213 [.ref (ad 30)] h Q := by
  have fx0 := fx
  refine in_213 (Nat.le_of_ble_eq_true rfl) ?_
  show WR _ cd_213 0 [some (.ref (ad 30)), none, none, none, none] [] h _
  refine r_aload rfl rfl ?_
  refine r_getI rfl ⟨rfl, rfl, rfl⟩ (fx_t30 fx) ?_
  refine WR_tI (y := nI (k + 1)) t0 ?_
  refine r_ic (x := 1) rfl rfl ?_
  refine r_isub rfl ?_
  refine WR_tI (y := nI k) (Eq.trans (pk_sub (a := k + 1) (b := 1) (by omega)) (congrArg nI (by omega))) ?_
  refine r_istore (lv' := [some (.ref (ad 30)), some (.int (nI k)), none, none, none]) rfl (Nat.le_of_ble_eq_true rfl) rfl ?_
  refine r_ic (x := 16) rfl rfl ?_
  refine r_aload rfl rfl ?_
  refine r_getA (b := ad 48) rfl ⟨rfl, rfl, rfl⟩ (fx_t30 fx) (fx_r30_24 fx) ?_
  refine r_iload rfl rfl ?_
  refine r_iaload rfl (.inl (fx_t48 fx)) (vp_ct (fx_n48 fx) (vp_in_nI (by omega) (by omega))) ?_
  refine WR_tI (congrArg (hI h (ad 48)) ((nI_clamp (by omega)) : _ = k)) ?_
  refine WR_tI (y := nI p) t1 ?_
  refine r_imul rfl ?_
  refine WR_tI (y := nI (16 * p)) (Eq.trans (pk_mul 16 p) (congrArg nI (by omega))) ?_
  refine r_aload rfl rfl ?_
  refine r_getA (b := ad 49) rfl ⟨rfl, rfl, rfl⟩ (fx_t30 fx) (fx_r30_25 fx) ?_
  refine r_iload rfl rfl ?_
  refine r_iaload rfl (.inl (fx_t49 fx)) (vp_ct (fx_n49 fx) (vp_in_nI (by omega) (by omega))) ?_
  refine WR_tI (congrArg (hI h (ad 49)) ((nI_clamp (by omega)) : _ = k)) ?_
  refine WR_tI (y := nI (i + 1)) t2 ?_
  refine r_iadd rfl ?_
  refine WR_tI (y := nI (16 * p + i + 1)) (Eq.trans (nI_add (16 * p) (i + 1)) (congrArg nI (by omega))) ?_
  refine r_ic (x := 1) rfl rfl ?_
  refine r_isub rfl ?_
  refine WR_tI (y := nI (16 * p + i)) (Eq.trans (pk_sub (a := 16 * p + i + 1) (b := 1) (by omega)) (congrArg nI (by omega))) ?_
  refine r_istore (lv' := [some (.ref (ad 30)), some (.int (nI k)), some (.int (nI (16 * p + i))), none, none]) rfl (Nat.le_of_ble_eq_true rfl) rfl ?_
  refine r_aload rfl rfl ?_
  refine r_getA (b := ad 45) rfl ⟨rfl, rfl, rfl⟩ (fx_t30 fx) (fx_r30_20 fx) ?_
  refine r_iload rfl rfl ?_
  refine r_iaload rfl (.inl (fx_t45 fx)) (vp_ct (fx_n45 fx) (vp_in_nI (by omega) (by omega))) ?_
  refine WR_tI (congrArg (hI h (ad 45)) ((nI_clamp (by omega)) : _ = 16 * p + i)) ?_
  refine WR_tI (y := nI a) t5 ?_
  refine r_istore (lv' := [some (.ref (ad 30)), some (.int (nI k)), some (.int (nI (16 * p + i))), some (.int (nI a)), none]) rfl (Nat.le_of_ble_eq_true rfl) rfl ?_
  refine r_aload rfl rfl ?_
  refine r_getA (b := ad 46) rfl ⟨rfl, rfl, rfl⟩ (fx_t30 fx) (fx_r30_21 fx) ?_
  refine r_iload rfl rfl ?_
  refine r_iaload rfl (.inl (fx_t46 fx)) (vp_ct (fx_n46 fx) (vp_in_nI (by omega) (by omega))) ?_
  refine WR_tI (congrArg (hI h (ad 46)) ((nI_clamp (by omega)) : _ = 16 * p + i)) ?_
  refine WR_tI (y := b) t6 ?_
  refine r_istore (lv' := [some (.ref (ad 30)), some (.int (nI k)), some (.int (nI (16 * p + i))), some (.int (nI a)), some (.int b)]) rfl (Nat.le_of_ble_eq_true rfl) rfl ?_
  refine r_aload rfl rfl ?_
  refine r_ic (x := 0) rfl rfl ?_
  refine r_putZ rfl ⟨rfl, rfl, rfl⟩ (fx_t30 fx) (.inl rfl) ?_
  have fx : FX n ad sa z0 (sI h (ad 30) 47 0) := (FX.sI fx)
  refine r_aload rfl rfl ?_
  refine r_getA (b := ad 50) rfl ⟨rfl, rfl, rfl⟩ (fx_t30 fx) (fx_r30_26 fx) ?_
  refine r_iload rfl rfl ?_
  refine r_iaload rfl (.inl (fx_t50 fx)) (vp_ct (fx_n50 fx) (vp_in_nI (by omega) (by omega))) ?_
  refine WR_tI (congrArg (hI (sI h (ad 30) 47 0) (ad 50)) ((nI_clamp (by omega)) : _ = k)) ?_
  refine WR_tI (y := 10) (Eq.trans (I_ne (fx_ne fx (by decide))) t7) ?_
  refine r_tswL (tg := 311) rfl (by decide) ?_
  refine r_aload rfl rfl ?_
  refine r_getA (b := ad 56) rfl ⟨rfl, rfl, rfl⟩ (fx_t30 fx) (fx_r30_40 fx) ?_
  refine r_iload rfl rfl ?_
  refine r_dup2 rfl rfl rfl ?_
  refine r_iaload rfl (.inl (fx_t56 fx)) (vp_ct (fx_n56 fx) (vp_in_nI (by omega) (by omega))) ?_
  refine WR_tI (congrArg (hI (sI h (ad 30) 47 0) (ad 56)) ((nI_clamp (by omega)) : _ = a)) ?_
  refine WR_tI (y := x) (Eq.trans (I_ne (fx_ne fx (by decide))) tx) ?_
  refine r_ic (x := 1) rfl rfl ?_
  refine r_isub rfl ?_
  refine r_iastore rfl (fx_t56 fx) (vp_ct (fx_n56 fx) (vp_in_nI (by omega) (by omega))) ?_
  refine WR_h (h2 := sI (sI h (ad 30) 47 0) (ad 56) a (x - 1)) (congrArg (fun z => sI (sI h (ad 30) 47 0) (ad 56) z (x - 1)) ((nI_clamp (by omega)) : _ = a)) ?_
  have fx : FX n ad sa z0 (sI (sI h (ad 30) 47 0) (ad 56) a (x - 1)) := (FX.sI fx)
  refine r_aload rfl rfl ?_
  refine r_cv (y := 214) (ra := []) (rest := []) rfl ⟨⟨rfl, rfl⟩, rfl, by decide⟩ (fx_t30 fx) rfl rfl (Nat.le_of_ble_eq_true rfl) ?_
  refine in_214 (Nat.le_of_ble_eq_true rfl) ?_
  show WR _ cd_214 0 [some (.ref (ad 30))] [] (sI (sI h (ad 30) 47 0) (ad 56) a (x - 1)) _
  refine r_aload rfl rfl ?_
  refine r_aload rfl rfl ?_
  refine r_getI rfl ⟨rfl, rfl, rfl⟩ (fx_t30 fx) ?_
  refine WR_tI (y := 1) (Eq.trans (I_ne (fx_ne fx (by decide))) (Eq.trans (I_nk (by decide)) t8)) ?_
  refine r_ic (x := 1) rfl rfl ?_
  refine r_icmp_ne (tg := 13) rfl rfl (fun q => absurd q (by decide)) (fun _ => ?_)
  refine r_ic (x := 0) rfl rfl ?_
  refine r_goto (tg := 17) rfl rfl ?_
  refine r_putI rfl ⟨rfl, rfl, rfl⟩ (fx_t30 fx) ?_
  have fx : FX n ad sa z0 (sI (sI (sI h (ad 30) 47 0) (ad 56) a (x - 1)) (ad 30) 29 0) := (FX.sI fx)
  refine r_vret rfl ?_
  show WR _ cd_213 325 [some (.ref (ad 30)), some (.int (nI k)), some (.int (nI (16 * p + i))), some (.int (nI a)), some (.int b)] [] (sI (sI (sI h (ad 30) 47 0) (ad 56) a (x - 1)) (ad 30) 29 0) _
  refine r_goto (tg := 332) rfl rfl ?_
  refine r_vret rfl ?_
  exact (L1)

set_option maxHeartbeats 2000000 in
theorem w_b10_2 {d : Nat} {Q : mQ} {n : Nat} {ad sa : Nat → Nat} {z0 : Nat} {h : mH} (fx : FX n ad sa z0 h) {k p i : Nat} (k8 : k < 8) (p10 : p < 10) (i16 : i < 16) {a : Nat} (a6 : a < 6) {b : Int32} (t0 : hI h (ad 30) 23 = nI (k + 1)) (t1 : hI h (ad 48) k = nI p) (t2 : hI h (ad 49) k = nI (i + 1)) (t5 : hI h (ad 45) (16 * p + i) = nI a) (t6 : hI h (ad 46) (16 * p + i) = b) (t7 : hI h (ad 50) k = 10) (t8 : hI h (ad 30) 29 = 2) {x : Int32} (tx : hI h (ad 56) a = x) 
    (L1 : Q none (sI (sI (sI h (ad 30) 47 0) (ad 56) a (x - 1)) (ad 30) 29 2)) : EV (d + 2) 213 [.ref (ad 30)] h Q := by
  have fx0 := fx
  refine in_213 (Nat.le_of_ble_eq_true rfl) ?_
  show WR _ cd_213 0 [some (.ref (ad 30)), none, none, none, none] [] h _
  refine r_aload rfl rfl ?_
  refine r_getI rfl ⟨rfl, rfl, rfl⟩ (fx_t30 fx) ?_
  refine WR_tI (y := nI (k + 1)) t0 ?_
  refine r_ic (x := 1) rfl rfl ?_
  refine r_isub rfl ?_
  refine WR_tI (y := nI k) (Eq.trans (pk_sub (a := k + 1) (b := 1) (by omega)) (congrArg nI (by omega))) ?_
  refine r_istore (lv' := [some (.ref (ad 30)), some (.int (nI k)), none, none, none]) rfl (Nat.le_of_ble_eq_true rfl) rfl ?_
  refine r_ic (x := 16) rfl rfl ?_
  refine r_aload rfl rfl ?_
  refine r_getA (b := ad 48) rfl ⟨rfl, rfl, rfl⟩ (fx_t30 fx) (fx_r30_24 fx) ?_
  refine r_iload rfl rfl ?_
  refine r_iaload rfl (.inl (fx_t48 fx)) (vp_ct (fx_n48 fx) (vp_in_nI (by omega) (by omega))) ?_
  refine WR_tI (congrArg (hI h (ad 48)) ((nI_clamp (by omega)) : _ = k)) ?_
  refine WR_tI (y := nI p) t1 ?_
  refine r_imul rfl ?_
  refine WR_tI (y := nI (16 * p)) (Eq.trans (pk_mul 16 p) (congrArg nI (by omega))) ?_
  refine r_aload rfl rfl ?_
  refine r_getA (b := ad 49) rfl ⟨rfl, rfl, rfl⟩ (fx_t30 fx) (fx_r30_25 fx) ?_
  refine r_iload rfl rfl ?_
  refine r_iaload rfl (.inl (fx_t49 fx)) (vp_ct (fx_n49 fx) (vp_in_nI (by omega) (by omega))) ?_
  refine WR_tI (congrArg (hI h (ad 49)) ((nI_clamp (by omega)) : _ = k)) ?_
  refine WR_tI (y := nI (i + 1)) t2 ?_
  refine r_iadd rfl ?_
  refine WR_tI (y := nI (16 * p + i + 1)) (Eq.trans (nI_add (16 * p) (i + 1)) (congrArg nI (by omega))) ?_
  refine r_ic (x := 1) rfl rfl ?_
  refine r_isub rfl ?_
  refine WR_tI (y := nI (16 * p + i)) (Eq.trans (pk_sub (a := 16 * p + i + 1) (b := 1) (by omega)) (congrArg nI (by omega))) ?_
  refine r_istore (lv' := [some (.ref (ad 30)), some (.int (nI k)), some (.int (nI (16 * p + i))), none, none]) rfl (Nat.le_of_ble_eq_true rfl) rfl ?_
  refine r_aload rfl rfl ?_
  refine r_getA (b := ad 45) rfl ⟨rfl, rfl, rfl⟩ (fx_t30 fx) (fx_r30_20 fx) ?_
  refine r_iload rfl rfl ?_
  refine r_iaload rfl (.inl (fx_t45 fx)) (vp_ct (fx_n45 fx) (vp_in_nI (by omega) (by omega))) ?_
  refine WR_tI (congrArg (hI h (ad 45)) ((nI_clamp (by omega)) : _ = 16 * p + i)) ?_
  refine WR_tI (y := nI a) t5 ?_
  refine r_istore (lv' := [some (.ref (ad 30)), some (.int (nI k)), some (.int (nI (16 * p + i))), some (.int (nI a)), none]) rfl (Nat.le_of_ble_eq_true rfl) rfl ?_
  refine r_aload rfl rfl ?_
  refine r_getA (b := ad 46) rfl ⟨rfl, rfl, rfl⟩ (fx_t30 fx) (fx_r30_21 fx) ?_
  refine r_iload rfl rfl ?_
  refine r_iaload rfl (.inl (fx_t46 fx)) (vp_ct (fx_n46 fx) (vp_in_nI (by omega) (by omega))) ?_
  refine WR_tI (congrArg (hI h (ad 46)) ((nI_clamp (by omega)) : _ = 16 * p + i)) ?_
  refine WR_tI (y := b) t6 ?_
  refine r_istore (lv' := [some (.ref (ad 30)), some (.int (nI k)), some (.int (nI (16 * p + i))), some (.int (nI a)), some (.int b)]) rfl (Nat.le_of_ble_eq_true rfl) rfl ?_
  refine r_aload rfl rfl ?_
  refine r_ic (x := 0) rfl rfl ?_
  refine r_putZ rfl ⟨rfl, rfl, rfl⟩ (fx_t30 fx) (.inl rfl) ?_
  have fx : FX n ad sa z0 (sI h (ad 30) 47 0) := (FX.sI fx)
  refine r_aload rfl rfl ?_
  refine r_getA (b := ad 50) rfl ⟨rfl, rfl, rfl⟩ (fx_t30 fx) (fx_r30_26 fx) ?_
  refine r_iload rfl rfl ?_
  refine r_iaload rfl (.inl (fx_t50 fx)) (vp_ct (fx_n50 fx) (vp_in_nI (by omega) (by omega))) ?_
  refine WR_tI (congrArg (hI (sI h (ad 30) 47 0) (ad 50)) ((nI_clamp (by omega)) : _ = k)) ?_
  refine WR_tI (y := 10) (Eq.trans (I_ne (fx_ne fx (by decide))) t7) ?_
  refine r_tswL (tg := 311) rfl (by decide) ?_
  refine r_aload rfl rfl ?_
  refine r_getA (b := ad 56) rfl ⟨rfl, rfl, rfl⟩ (fx_t30 fx) (fx_r30_40 fx) ?_
  refine r_iload rfl rfl ?_
  refine r_dup2 rfl rfl rfl ?_
  refine r_iaload rfl (.inl (fx_t56 fx)) (vp_ct (fx_n56 fx) (vp_in_nI (by omega) (by omega))) ?_
  refine WR_tI (congrArg (hI (sI h (ad 30) 47 0) (ad 56)) ((nI_clamp (by omega)) : _ = a)) ?_
  refine WR_tI (y := x) (Eq.trans (I_ne (fx_ne fx (by decide))) tx) ?_
  refine r_ic (x := 1) rfl rfl ?_
  refine r_isub rfl ?_
  refine r_iastore rfl (fx_t56 fx) (vp_ct (fx_n56 fx) (vp_in_nI (by omega) (by omega))) ?_
  refine WR_h (h2 := sI (sI h (ad 30) 47 0) (ad 56) a (x - 1)) (congrArg (fun z => sI (sI h (ad 30) 47 0) (ad 56) z (x - 1)) ((nI_clamp (by omega)) : _ = a)) ?_
  have fx : FX n ad sa z0 (sI (sI h (ad 30) 47 0) (ad 56) a (x - 1)) := (FX.sI fx)
  refine r_aload rfl rfl ?_
  refine r_cv (y := 214) (ra := []) (rest := []) rfl ⟨⟨rfl, rfl⟩, rfl, by decide⟩ (fx_t30 fx) rfl rfl (Nat.le_of_ble_eq_true rfl) ?_
  refine in_214 (Nat.le_of_ble_eq_true rfl) ?_
  show WR _ cd_214 0 [some (.ref (ad 30))] [] (sI (sI h (ad 30) 47 0) (ad 56) a (x - 1)) _
  refine r_aload rfl rfl ?_
  refine r_aload rfl rfl ?_
  refine r_getI rfl ⟨rfl, rfl, rfl⟩ (fx_t30 fx) ?_
  refine WR_tI (y := 2) (Eq.trans (I_ne (fx_ne fx (by decide))) (Eq.trans (I_nk (by decide)) t8)) ?_
  refine r_ic (x := 1) rfl rfl ?_
  refine r_icmp_ne (tg := 13) rfl rfl (fun _ => ?_) (fun q => absurd q (by decide))
  refine r_aload rfl rfl ?_
  refine r_getI rfl ⟨rfl, rfl, rfl⟩ (fx_t30 fx) ?_
  refine WR_tI (y := 2) (Eq.trans (I_ne (fx_ne fx (by decide))) (Eq.trans (I_nk (by decide)) t8)) ?_
  refine r_putI rfl ⟨rfl, rfl, rfl⟩ (fx_t30 fx) ?_
  have fx : FX n ad sa z0 (sI (sI (sI h (ad 30) 47 0) (ad 56) a (x - 1)) (ad 30) 29 2) := (FX.sI fx)
  refine r_vret rfl ?_
  show WR _ cd_213 325 [some (.ref (ad 30)), some (.int (nI k)), some (.int (nI (16 * p + i))), some (.int (nI a)), some (.int b)] [] (sI (sI (sI h (ad 30) 47 0) (ad 56) a (x - 1)) (ad 30) 29 2) _
  refine r_goto (tg := 332) rfl rfl ?_
  refine r_vret rfl ?_
  exact (L1)

set_option maxHeartbeats 2000000 in
theorem w_b10_3 {d : Nat} {Q : mQ} {n : Nat} {ad sa : Nat → Nat} {z0 : Nat} {h : mH} (fx : FX n ad sa z0 h) {k p i : Nat} (k8 : k < 8) (p10 : p < 10) (i16 : i < 16) {a : Nat} (a6 : a < 6) {b : Int32} (t0 : hI h (ad 30) 23 = nI (k + 1)) (t1 : hI h (ad 48) k = nI p) (t2 : hI h (ad 49) k = nI (i + 1)) (t5 : hI h (ad 45) (16 * p + i) = nI a) (t6 : hI h (ad 46) (16 * p + i) = b) (t7 : hI h (ad 50) k = 10) (t8 : hI h (ad 30) 29 = 3) {x : Int32} (tx : hI h (ad 56) a = x) 
    (L1 : Q none (sI (sI (sI h (ad 30) 47 0) (ad 56) a (x - 1)) (ad 30) 29 3)) : EV (d + 2) 213 [.ref (ad 30)] h Q := by
  have fx0 := fx
  refine in_213 (Nat.le_of_ble_eq_true rfl) ?_
  show WR _ cd_213 0 [some (.ref (ad 30)), none, none, none, none] [] h _
  refine r_aload rfl rfl ?_
  refine r_getI rfl ⟨rfl, rfl, rfl⟩ (fx_t30 fx) ?_
  refine WR_tI (y := nI (k + 1)) t0 ?_
  refine r_ic (x := 1) rfl rfl ?_
  refine r_isub rfl ?_
  refine WR_tI (y := nI k) (Eq.trans (pk_sub (a := k + 1) (b := 1) (by omega)) (congrArg nI (by omega))) ?_
  refine r_istore (lv' := [some (.ref (ad 30)), some (.int (nI k)), none, none, none]) rfl (Nat.le_of_ble_eq_true rfl) rfl ?_
  refine r_ic (x := 16) rfl rfl ?_
  refine r_aload rfl rfl ?_
  refine r_getA (b := ad 48) rfl ⟨rfl, rfl, rfl⟩ (fx_t30 fx) (fx_r30_24 fx) ?_
  refine r_iload rfl rfl ?_
  refine r_iaload rfl (.inl (fx_t48 fx)) (vp_ct (fx_n48 fx) (vp_in_nI (by omega) (by omega))) ?_
  refine WR_tI (congrArg (hI h (ad 48)) ((nI_clamp (by omega)) : _ = k)) ?_
  refine WR_tI (y := nI p) t1 ?_
  refine r_imul rfl ?_
  refine WR_tI (y := nI (16 * p)) (Eq.trans (pk_mul 16 p) (congrArg nI (by omega))) ?_
  refine r_aload rfl rfl ?_
  refine r_getA (b := ad 49) rfl ⟨rfl, rfl, rfl⟩ (fx_t30 fx) (fx_r30_25 fx) ?_
  refine r_iload rfl rfl ?_
  refine r_iaload rfl (.inl (fx_t49 fx)) (vp_ct (fx_n49 fx) (vp_in_nI (by omega) (by omega))) ?_
  refine WR_tI (congrArg (hI h (ad 49)) ((nI_clamp (by omega)) : _ = k)) ?_
  refine WR_tI (y := nI (i + 1)) t2 ?_
  refine r_iadd rfl ?_
  refine WR_tI (y := nI (16 * p + i + 1)) (Eq.trans (nI_add (16 * p) (i + 1)) (congrArg nI (by omega))) ?_
  refine r_ic (x := 1) rfl rfl ?_
  refine r_isub rfl ?_
  refine WR_tI (y := nI (16 * p + i)) (Eq.trans (pk_sub (a := 16 * p + i + 1) (b := 1) (by omega)) (congrArg nI (by omega))) ?_
  refine r_istore (lv' := [some (.ref (ad 30)), some (.int (nI k)), some (.int (nI (16 * p + i))), none, none]) rfl (Nat.le_of_ble_eq_true rfl) rfl ?_
  refine r_aload rfl rfl ?_
  refine r_getA (b := ad 45) rfl ⟨rfl, rfl, rfl⟩ (fx_t30 fx) (fx_r30_20 fx) ?_
  refine r_iload rfl rfl ?_
  refine r_iaload rfl (.inl (fx_t45 fx)) (vp_ct (fx_n45 fx) (vp_in_nI (by omega) (by omega))) ?_
  refine WR_tI (congrArg (hI h (ad 45)) ((nI_clamp (by omega)) : _ = 16 * p + i)) ?_
  refine WR_tI (y := nI a) t5 ?_
  refine r_istore (lv' := [some (.ref (ad 30)), some (.int (nI k)), some (.int (nI (16 * p + i))), some (.int (nI a)), none]) rfl (Nat.le_of_ble_eq_true rfl) rfl ?_
  refine r_aload rfl rfl ?_
  refine r_getA (b := ad 46) rfl ⟨rfl, rfl, rfl⟩ (fx_t30 fx) (fx_r30_21 fx) ?_
  refine r_iload rfl rfl ?_
  refine r_iaload rfl (.inl (fx_t46 fx)) (vp_ct (fx_n46 fx) (vp_in_nI (by omega) (by omega))) ?_
  refine WR_tI (congrArg (hI h (ad 46)) ((nI_clamp (by omega)) : _ = 16 * p + i)) ?_
  refine WR_tI (y := b) t6 ?_
  refine r_istore (lv' := [some (.ref (ad 30)), some (.int (nI k)), some (.int (nI (16 * p + i))), some (.int (nI a)), some (.int b)]) rfl (Nat.le_of_ble_eq_true rfl) rfl ?_
  refine r_aload rfl rfl ?_
  refine r_ic (x := 0) rfl rfl ?_
  refine r_putZ rfl ⟨rfl, rfl, rfl⟩ (fx_t30 fx) (.inl rfl) ?_
  have fx : FX n ad sa z0 (sI h (ad 30) 47 0) := (FX.sI fx)
  refine r_aload rfl rfl ?_
  refine r_getA (b := ad 50) rfl ⟨rfl, rfl, rfl⟩ (fx_t30 fx) (fx_r30_26 fx) ?_
  refine r_iload rfl rfl ?_
  refine r_iaload rfl (.inl (fx_t50 fx)) (vp_ct (fx_n50 fx) (vp_in_nI (by omega) (by omega))) ?_
  refine WR_tI (congrArg (hI (sI h (ad 30) 47 0) (ad 50)) ((nI_clamp (by omega)) : _ = k)) ?_
  refine WR_tI (y := 10) (Eq.trans (I_ne (fx_ne fx (by decide))) t7) ?_
  refine r_tswL (tg := 311) rfl (by decide) ?_
  refine r_aload rfl rfl ?_
  refine r_getA (b := ad 56) rfl ⟨rfl, rfl, rfl⟩ (fx_t30 fx) (fx_r30_40 fx) ?_
  refine r_iload rfl rfl ?_
  refine r_dup2 rfl rfl rfl ?_
  refine r_iaload rfl (.inl (fx_t56 fx)) (vp_ct (fx_n56 fx) (vp_in_nI (by omega) (by omega))) ?_
  refine WR_tI (congrArg (hI (sI h (ad 30) 47 0) (ad 56)) ((nI_clamp (by omega)) : _ = a)) ?_
  refine WR_tI (y := x) (Eq.trans (I_ne (fx_ne fx (by decide))) tx) ?_
  refine r_ic (x := 1) rfl rfl ?_
  refine r_isub rfl ?_
  refine r_iastore rfl (fx_t56 fx) (vp_ct (fx_n56 fx) (vp_in_nI (by omega) (by omega))) ?_
  refine WR_h (h2 := sI (sI h (ad 30) 47 0) (ad 56) a (x - 1)) (congrArg (fun z => sI (sI h (ad 30) 47 0) (ad 56) z (x - 1)) ((nI_clamp (by omega)) : _ = a)) ?_
  have fx : FX n ad sa z0 (sI (sI h (ad 30) 47 0) (ad 56) a (x - 1)) := (FX.sI fx)
  refine r_aload rfl rfl ?_
  refine r_cv (y := 214) (ra := []) (rest := []) rfl ⟨⟨rfl, rfl⟩, rfl, by decide⟩ (fx_t30 fx) rfl rfl (Nat.le_of_ble_eq_true rfl) ?_
  refine in_214 (Nat.le_of_ble_eq_true rfl) ?_
  show WR _ cd_214 0 [some (.ref (ad 30))] [] (sI (sI h (ad 30) 47 0) (ad 56) a (x - 1)) _
  refine r_aload rfl rfl ?_
  refine r_aload rfl rfl ?_
  refine r_getI rfl ⟨rfl, rfl, rfl⟩ (fx_t30 fx) ?_
  refine WR_tI (y := 3) (Eq.trans (I_ne (fx_ne fx (by decide))) (Eq.trans (I_nk (by decide)) t8)) ?_
  refine r_ic (x := 1) rfl rfl ?_
  refine r_icmp_ne (tg := 13) rfl rfl (fun _ => ?_) (fun q => absurd q (by decide))
  refine r_aload rfl rfl ?_
  refine r_getI rfl ⟨rfl, rfl, rfl⟩ (fx_t30 fx) ?_
  refine WR_tI (y := 3) (Eq.trans (I_ne (fx_ne fx (by decide))) (Eq.trans (I_nk (by decide)) t8)) ?_
  refine r_putI rfl ⟨rfl, rfl, rfl⟩ (fx_t30 fx) ?_
  have fx : FX n ad sa z0 (sI (sI (sI h (ad 30) 47 0) (ad 56) a (x - 1)) (ad 30) 29 3) := (FX.sI fx)
  refine r_vret rfl ?_
  show WR _ cd_213 325 [some (.ref (ad 30)), some (.int (nI k)), some (.int (nI (16 * p + i))), some (.int (nI a)), some (.int b)] [] (sI (sI (sI h (ad 30) 47 0) (ad 56) a (x - 1)) (ad 30) 29 3) _
  refine r_goto (tg := 332) rfl rfl ?_
  refine r_vret rfl ?_
  exact (L1)

set_option maxHeartbeats 2000000 in
theorem w_b20_1 {d : Nat} {Q : mQ} {n : Nat} {ad sa : Nat → Nat} {z0 : Nat} {h : mH} (fx : FX n ad sa z0 h) {k p i : Nat} (k8 : k < 8) (p10 : p < 10) (i16 : i < 16) {a b : Int32} (t0 : hI h (ad 30) 23 = nI (k + 1)) (t1 : hI h (ad 48) k = nI p) (t2 : hI h (ad 49) k = nI (i + 1)) (t5 : hI h (ad 45) (16 * p + i) = a) (t6 : hI h (ad 46) (16 * p + i) = b) (t7 : hI h (ad 50) k = 20) (t8 : hI h (ad 30) 29 = 1) 
    (L1 : Q none (sI (sI h (ad 30) 47 0) (ad 30) 29 0)) : EV (d + 2) 213 [.ref (ad 30)] h Q := by
  have fx0 := fx
  refine in_213 (Nat.le_of_ble_eq_true rfl) ?_
  show WR _ cd_213 0 [some (.ref (ad 30)), none, none, none, none] [] h _
  refine r_aload rfl rfl ?_
  refine r_getI rfl ⟨rfl, rfl, rfl⟩ (fx_t30 fx) ?_
  refine WR_tI (y := nI (k + 1)) t0 ?_
  refine r_ic (x := 1) rfl rfl ?_
  refine r_isub rfl ?_
  refine WR_tI (y := nI k) (Eq.trans (pk_sub (a := k + 1) (b := 1) (by omega)) (congrArg nI (by omega))) ?_
  refine r_istore (lv' := [some (.ref (ad 30)), some (.int (nI k)), none, none, none]) rfl (Nat.le_of_ble_eq_true rfl) rfl ?_
  refine r_ic (x := 16) rfl rfl ?_
  refine r_aload rfl rfl ?_
  refine r_getA (b := ad 48) rfl ⟨rfl, rfl, rfl⟩ (fx_t30 fx) (fx_r30_24 fx) ?_
  refine r_iload rfl rfl ?_
  refine r_iaload rfl (.inl (fx_t48 fx)) (vp_ct (fx_n48 fx) (vp_in_nI (by omega) (by omega))) ?_
  refine WR_tI (congrArg (hI h (ad 48)) ((nI_clamp (by omega)) : _ = k)) ?_
  refine WR_tI (y := nI p) t1 ?_
  refine r_imul rfl ?_
  refine WR_tI (y := nI (16 * p)) (Eq.trans (pk_mul 16 p) (congrArg nI (by omega))) ?_
  refine r_aload rfl rfl ?_
  refine r_getA (b := ad 49) rfl ⟨rfl, rfl, rfl⟩ (fx_t30 fx) (fx_r30_25 fx) ?_
  refine r_iload rfl rfl ?_
  refine r_iaload rfl (.inl (fx_t49 fx)) (vp_ct (fx_n49 fx) (vp_in_nI (by omega) (by omega))) ?_
  refine WR_tI (congrArg (hI h (ad 49)) ((nI_clamp (by omega)) : _ = k)) ?_
  refine WR_tI (y := nI (i + 1)) t2 ?_
  refine r_iadd rfl ?_
  refine WR_tI (y := nI (16 * p + i + 1)) (Eq.trans (nI_add (16 * p) (i + 1)) (congrArg nI (by omega))) ?_
  refine r_ic (x := 1) rfl rfl ?_
  refine r_isub rfl ?_
  refine WR_tI (y := nI (16 * p + i)) (Eq.trans (pk_sub (a := 16 * p + i + 1) (b := 1) (by omega)) (congrArg nI (by omega))) ?_
  refine r_istore (lv' := [some (.ref (ad 30)), some (.int (nI k)), some (.int (nI (16 * p + i))), none, none]) rfl (Nat.le_of_ble_eq_true rfl) rfl ?_
  refine r_aload rfl rfl ?_
  refine r_getA (b := ad 45) rfl ⟨rfl, rfl, rfl⟩ (fx_t30 fx) (fx_r30_20 fx) ?_
  refine r_iload rfl rfl ?_
  refine r_iaload rfl (.inl (fx_t45 fx)) (vp_ct (fx_n45 fx) (vp_in_nI (by omega) (by omega))) ?_
  refine WR_tI (congrArg (hI h (ad 45)) ((nI_clamp (by omega)) : _ = 16 * p + i)) ?_
  refine WR_tI (y := a) t5 ?_
  refine r_istore (lv' := [some (.ref (ad 30)), some (.int (nI k)), some (.int (nI (16 * p + i))), some (.int a), none]) rfl (Nat.le_of_ble_eq_true rfl) rfl ?_
  refine r_aload rfl rfl ?_
  refine r_getA (b := ad 46) rfl ⟨rfl, rfl, rfl⟩ (fx_t30 fx) (fx_r30_21 fx) ?_
  refine r_iload rfl rfl ?_
  refine r_iaload rfl (.inl (fx_t46 fx)) (vp_ct (fx_n46 fx) (vp_in_nI (by omega) (by omega))) ?_
  refine WR_tI (congrArg (hI h (ad 46)) ((nI_clamp (by omega)) : _ = 16 * p + i)) ?_
  refine WR_tI (y := b) t6 ?_
  refine r_istore (lv' := [some (.ref (ad 30)), some (.int (nI k)), some (.int (nI (16 * p + i))), some (.int a), some (.int b)]) rfl (Nat.le_of_ble_eq_true rfl) rfl ?_
  refine r_aload rfl rfl ?_
  refine r_ic (x := 0) rfl rfl ?_
  refine r_putZ rfl ⟨rfl, rfl, rfl⟩ (fx_t30 fx) (.inl rfl) ?_
  have fx : FX n ad sa z0 (sI h (ad 30) 47 0) := (FX.sI fx)
  refine r_aload rfl rfl ?_
  refine r_getA (b := ad 50) rfl ⟨rfl, rfl, rfl⟩ (fx_t30 fx) (fx_r30_26 fx) ?_
  refine r_iload rfl rfl ?_
  refine r_iaload rfl (.inl (fx_t50 fx)) (vp_ct (fx_n50 fx) (vp_in_nI (by omega) (by omega))) ?_
  refine WR_tI (congrArg (hI (sI h (ad 30) 47 0) (ad 50)) ((nI_clamp (by omega)) : _ = k)) ?_
  refine WR_tI (y := 20) (Eq.trans (I_ne (fx_ne fx (by decide))) t7) ?_
  refine r_tswL (tg := 328) rfl (by decide) ?_
  refine r_aload rfl rfl ?_
  refine r_cv (y := 214) (ra := []) (rest := []) rfl ⟨⟨rfl, rfl⟩, rfl, by decide⟩ (fx_t30 fx) rfl rfl (Nat.le_of_ble_eq_true rfl) ?_
  refine in_214 (Nat.le_of_ble_eq_true rfl) ?_
  show WR _ cd_214 0 [some (.ref (ad 30))] [] (sI h (ad 30) 47 0) _
  refine r_aload rfl rfl ?_
  refine r_aload rfl rfl ?_
  refine r_getI rfl ⟨rfl, rfl, rfl⟩ (fx_t30 fx) ?_
  refine WR_tI (y := 1) (Eq.trans (I_nk (by decide)) t8) ?_
  refine r_ic (x := 1) rfl rfl ?_
  refine r_icmp_ne (tg := 13) rfl rfl (fun q => absurd q (by decide)) (fun _ => ?_)
  refine r_ic (x := 0) rfl rfl ?_
  refine r_goto (tg := 17) rfl rfl ?_
  refine r_putI rfl ⟨rfl, rfl, rfl⟩ (fx_t30 fx) ?_
  have fx : FX n ad sa z0 (sI (sI h (ad 30) 47 0) (ad 30) 29 0) := (FX.sI fx)
  refine r_vret rfl ?_
  show WR _ cd_213 332 [some (.ref (ad 30)), some (.int (nI k)), some (.int (nI (16 * p + i))), some (.int a), some (.int b)] [] (sI (sI h (ad 30) 47 0) (ad 30) 29 0) _
  refine r_vret rfl ?_
  exact (L1)

set_option maxHeartbeats 2000000 in
theorem w_b20_2 {d : Nat} {Q : mQ} {n : Nat} {ad sa : Nat → Nat} {z0 : Nat} {h : mH} (fx : FX n ad sa z0 h) {k p i : Nat} (k8 : k < 8) (p10 : p < 10) (i16 : i < 16) {a b : Int32} (t0 : hI h (ad 30) 23 = nI (k + 1)) (t1 : hI h (ad 48) k = nI p) (t2 : hI h (ad 49) k = nI (i + 1)) (t5 : hI h (ad 45) (16 * p + i) = a) (t6 : hI h (ad 46) (16 * p + i) = b) (t7 : hI h (ad 50) k = 20) (t8 : hI h (ad 30) 29 = 2) 
    (L1 : Q none (sI (sI h (ad 30) 47 0) (ad 30) 29 2)) : EV (d + 2) 213 [.ref (ad 30)] h Q := by
  have fx0 := fx
  refine in_213 (Nat.le_of_ble_eq_true rfl) ?_
  show WR _ cd_213 0 [some (.ref (ad 30)), none, none, none, none] [] h _
  refine r_aload rfl rfl ?_
  refine r_getI rfl ⟨rfl, rfl, rfl⟩ (fx_t30 fx) ?_
  refine WR_tI (y := nI (k + 1)) t0 ?_
  refine r_ic (x := 1) rfl rfl ?_
  refine r_isub rfl ?_
  refine WR_tI (y := nI k) (Eq.trans (pk_sub (a := k + 1) (b := 1) (by omega)) (congrArg nI (by omega))) ?_
  refine r_istore (lv' := [some (.ref (ad 30)), some (.int (nI k)), none, none, none]) rfl (Nat.le_of_ble_eq_true rfl) rfl ?_
  refine r_ic (x := 16) rfl rfl ?_
  refine r_aload rfl rfl ?_
  refine r_getA (b := ad 48) rfl ⟨rfl, rfl, rfl⟩ (fx_t30 fx) (fx_r30_24 fx) ?_
  refine r_iload rfl rfl ?_
  refine r_iaload rfl (.inl (fx_t48 fx)) (vp_ct (fx_n48 fx) (vp_in_nI (by omega) (by omega))) ?_
  refine WR_tI (congrArg (hI h (ad 48)) ((nI_clamp (by omega)) : _ = k)) ?_
  refine WR_tI (y := nI p) t1 ?_
  refine r_imul rfl ?_
  refine WR_tI (y := nI (16 * p)) (Eq.trans (pk_mul 16 p) (congrArg nI (by omega))) ?_
  refine r_aload rfl rfl ?_
  refine r_getA (b := ad 49) rfl ⟨rfl, rfl, rfl⟩ (fx_t30 fx) (fx_r30_25 fx) ?_
  refine r_iload rfl rfl ?_
  refine r_iaload rfl (.inl (fx_t49 fx)) (vp_ct (fx_n49 fx) (vp_in_nI (by omega) (by omega))) ?_
  refine WR_tI (congrArg (hI h (ad 49)) ((nI_clamp (by omega)) : _ = k)) ?_
  refine WR_tI (y := nI (i + 1)) t2 ?_
  refine r_iadd rfl ?_
  refine WR_tI (y := nI (16 * p + i + 1)) (Eq.trans (nI_add (16 * p) (i + 1)) (congrArg nI (by omega))) ?_
  refine r_ic (x := 1) rfl rfl ?_
  refine r_isub rfl ?_
  refine WR_tI (y := nI (16 * p + i)) (Eq.trans (pk_sub (a := 16 * p + i + 1) (b := 1) (by omega)) (congrArg nI (by omega))) ?_
  refine r_istore (lv' := [some (.ref (ad 30)), some (.int (nI k)), some (.int (nI (16 * p + i))), none, none]) rfl (Nat.le_of_ble_eq_true rfl) rfl ?_
  refine r_aload rfl rfl ?_
  refine r_getA (b := ad 45) rfl ⟨rfl, rfl, rfl⟩ (fx_t30 fx) (fx_r30_20 fx) ?_
  refine r_iload rfl rfl ?_
  refine r_iaload rfl (.inl (fx_t45 fx)) (vp_ct (fx_n45 fx) (vp_in_nI (by omega) (by omega))) ?_
  refine WR_tI (congrArg (hI h (ad 45)) ((nI_clamp (by omega)) : _ = 16 * p + i)) ?_
  refine WR_tI (y := a) t5 ?_
  refine r_istore (lv' := [some (.ref (ad 30)), some (.int (nI k)), some (.int (nI (16 * p + i))), some (.int a), none]) rfl (Nat.le_of_ble_eq_true rfl) rfl ?_
  refine r_aload rfl rfl ?_
  refine r_getA (b := ad 46) rfl ⟨rfl, rfl, rfl⟩ (fx_t30 fx) (fx_r30_21 fx) ?_
  refine r_iload rfl rfl ?_
  refine r_iaload rfl (.inl (fx_t46 fx)) (vp_ct (fx_n46 fx) (vp_in_nI (by omega) (by omega))) ?_
  refine WR_tI (congrArg (hI h (ad 46)) ((nI_clamp (by omega)) : _ = 16 * p + i)) ?_
  refine WR_tI (y := b) t6 ?_
  refine r_istore (lv' := [some (.ref (ad 30)), some (.int (nI k)), some (.int (nI (16 * p + i))), some (.int a), some (.int b)]) rfl (Nat.le_of_ble_eq_true rfl) rfl ?_
  refine r_aload rfl rfl ?_
  refine r_ic (x := 0) rfl rfl ?_
  refine r_putZ rfl ⟨rfl, rfl, rfl⟩ (fx_t30 fx) (.inl rfl) ?_
  have fx : FX n ad sa z0 (sI h (ad 30) 47 0) := (FX.sI fx)
  refine r_aload rfl rfl ?_
  refine r_getA (b := ad 50) rfl ⟨rfl, rfl, rfl⟩ (fx_t30 fx) (fx_r30_26 fx) ?_
  refine r_iload rfl rfl ?_
  refine r_iaload rfl (.inl (fx_t50 fx)) (vp_ct (fx_n50 fx) (vp_in_nI (by omega) (by omega))) ?_
  refine WR_tI (congrArg (hI (sI h (ad 30) 47 0) (ad 50)) ((nI_clamp (by omega)) : _ = k)) ?_
  refine WR_tI (y := 20) (Eq.trans (I_ne (fx_ne fx (by decide))) t7) ?_
  refine r_tswL (tg := 328) rfl (by decide) ?_
  refine r_aload rfl rfl ?_
  refine r_cv (y := 214) (ra := []) (rest := []) rfl ⟨⟨rfl, rfl⟩, rfl, by decide⟩ (fx_t30 fx) rfl rfl (Nat.le_of_ble_eq_true rfl) ?_
  refine in_214 (Nat.le_of_ble_eq_true rfl) ?_
  show WR _ cd_214 0 [some (.ref (ad 30))] [] (sI h (ad 30) 47 0) _
  refine r_aload rfl rfl ?_
  refine r_aload rfl rfl ?_
  refine r_getI rfl ⟨rfl, rfl, rfl⟩ (fx_t30 fx) ?_
  refine WR_tI (y := 2) (Eq.trans (I_nk (by decide)) t8) ?_
  refine r_ic (x := 1) rfl rfl ?_
  refine r_icmp_ne (tg := 13) rfl rfl (fun _ => ?_) (fun q => absurd q (by decide))
  refine r_aload rfl rfl ?_
  refine r_getI rfl ⟨rfl, rfl, rfl⟩ (fx_t30 fx) ?_
  refine WR_tI (y := 2) (Eq.trans (I_nk (by decide)) t8) ?_
  refine r_putI rfl ⟨rfl, rfl, rfl⟩ (fx_t30 fx) ?_
  have fx : FX n ad sa z0 (sI (sI h (ad 30) 47 0) (ad 30) 29 2) := (FX.sI fx)
  refine r_vret rfl ?_
  show WR _ cd_213 332 [some (.ref (ad 30)), some (.int (nI k)), some (.int (nI (16 * p + i))), some (.int a), some (.int b)] [] (sI (sI h (ad 30) 47 0) (ad 30) 29 2) _
  refine r_vret rfl ?_
  exact (L1)

set_option maxHeartbeats 2000000 in
theorem w_b20_3 {d : Nat} {Q : mQ} {n : Nat} {ad sa : Nat → Nat} {z0 : Nat} {h : mH} (fx : FX n ad sa z0 h) {k p i : Nat} (k8 : k < 8) (p10 : p < 10) (i16 : i < 16) {a b : Int32} (t0 : hI h (ad 30) 23 = nI (k + 1)) (t1 : hI h (ad 48) k = nI p) (t2 : hI h (ad 49) k = nI (i + 1)) (t5 : hI h (ad 45) (16 * p + i) = a) (t6 : hI h (ad 46) (16 * p + i) = b) (t7 : hI h (ad 50) k = 20) (t8 : hI h (ad 30) 29 = 3) 
    (L1 : Q none (sI (sI h (ad 30) 47 0) (ad 30) 29 3)) : EV (d + 2) 213 [.ref (ad 30)] h Q := by
  have fx0 := fx
  refine in_213 (Nat.le_of_ble_eq_true rfl) ?_
  show WR _ cd_213 0 [some (.ref (ad 30)), none, none, none, none] [] h _
  refine r_aload rfl rfl ?_
  refine r_getI rfl ⟨rfl, rfl, rfl⟩ (fx_t30 fx) ?_
  refine WR_tI (y := nI (k + 1)) t0 ?_
  refine r_ic (x := 1) rfl rfl ?_
  refine r_isub rfl ?_
  refine WR_tI (y := nI k) (Eq.trans (pk_sub (a := k + 1) (b := 1) (by omega)) (congrArg nI (by omega))) ?_
  refine r_istore (lv' := [some (.ref (ad 30)), some (.int (nI k)), none, none, none]) rfl (Nat.le_of_ble_eq_true rfl) rfl ?_
  refine r_ic (x := 16) rfl rfl ?_
  refine r_aload rfl rfl ?_
  refine r_getA (b := ad 48) rfl ⟨rfl, rfl, rfl⟩ (fx_t30 fx) (fx_r30_24 fx) ?_
  refine r_iload rfl rfl ?_
  refine r_iaload rfl (.inl (fx_t48 fx)) (vp_ct (fx_n48 fx) (vp_in_nI (by omega) (by omega))) ?_
  refine WR_tI (congrArg (hI h (ad 48)) ((nI_clamp (by omega)) : _ = k)) ?_
  refine WR_tI (y := nI p) t1 ?_
  refine r_imul rfl ?_
  refine WR_tI (y := nI (16 * p)) (Eq.trans (pk_mul 16 p) (congrArg nI (by omega))) ?_
  refine r_aload rfl rfl ?_
  refine r_getA (b := ad 49) rfl ⟨rfl, rfl, rfl⟩ (fx_t30 fx) (fx_r30_25 fx) ?_
  refine r_iload rfl rfl ?_
  refine r_iaload rfl (.inl (fx_t49 fx)) (vp_ct (fx_n49 fx) (vp_in_nI (by omega) (by omega))) ?_
  refine WR_tI (congrArg (hI h (ad 49)) ((nI_clamp (by omega)) : _ = k)) ?_
  refine WR_tI (y := nI (i + 1)) t2 ?_
  refine r_iadd rfl ?_
  refine WR_tI (y := nI (16 * p + i + 1)) (Eq.trans (nI_add (16 * p) (i + 1)) (congrArg nI (by omega))) ?_
  refine r_ic (x := 1) rfl rfl ?_
  refine r_isub rfl ?_
  refine WR_tI (y := nI (16 * p + i)) (Eq.trans (pk_sub (a := 16 * p + i + 1) (b := 1) (by omega)) (congrArg nI (by omega))) ?_
  refine r_istore (lv' := [some (.ref (ad 30)), some (.int (nI k)), some (.int (nI (16 * p + i))), none, none]) rfl (Nat.le_of_ble_eq_true rfl) rfl ?_
  refine r_aload rfl rfl ?_
  refine r_getA (b := ad 45) rfl ⟨rfl, rfl, rfl⟩ (fx_t30 fx) (fx_r30_20 fx) ?_
  refine r_iload rfl rfl ?_
  refine r_iaload rfl (.inl (fx_t45 fx)) (vp_ct (fx_n45 fx) (vp_in_nI (by omega) (by omega))) ?_
  refine WR_tI (congrArg (hI h (ad 45)) ((nI_clamp (by omega)) : _ = 16 * p + i)) ?_
  refine WR_tI (y := a) t5 ?_
  refine r_istore (lv' := [some (.ref (ad 30)), some (.int (nI k)), some (.int (nI (16 * p + i))), some (.int a), none]) rfl (Nat.le_of_ble_eq_true rfl) rfl ?_
  refine r_aload rfl rfl ?_
  refine r_getA (b := ad 46) rfl ⟨rfl, rfl, rfl⟩ (fx_t30 fx) (fx_r30_21 fx) ?_
  refine r_iload rfl rfl ?_
  refine r_iaload rfl (.inl (fx_t46 fx)) (vp_ct (fx_n46 fx) (vp_in_nI (by omega) (by omega))) ?_
  refine WR_tI (congrArg (hI h (ad 46)) ((nI_clamp (by omega)) : _ = 16 * p + i)) ?_
  refine WR_tI (y := b) t6 ?_
  refine r_istore (lv' := [some (.ref (ad 30)), some (.int (nI k)), some (.int (nI (16 * p + i))), some (.int a), some (.int b)]) rfl (Nat.le_of_ble_eq_true rfl) rfl ?_
  refine r_aload rfl rfl ?_
  refine r_ic (x := 0) rfl rfl ?_
  refine r_putZ rfl ⟨rfl, rfl, rfl⟩ (fx_t30 fx) (.inl rfl) ?_
  have fx : FX n ad sa z0 (sI h (ad 30) 47 0) := (FX.sI fx)
  refine r_aload rfl rfl ?_
  refine r_getA (b := ad 50) rfl ⟨rfl, rfl, rfl⟩ (fx_t30 fx) (fx_r30_26 fx) ?_
  refine r_iload rfl rfl ?_
  refine r_iaload rfl (.inl (fx_t50 fx)) (vp_ct (fx_n50 fx) (vp_in_nI (by omega) (by omega))) ?_
  refine WR_tI (congrArg (hI (sI h (ad 30) 47 0) (ad 50)) ((nI_clamp (by omega)) : _ = k)) ?_
  refine WR_tI (y := 20) (Eq.trans (I_ne (fx_ne fx (by decide))) t7) ?_
  refine r_tswL (tg := 328) rfl (by decide) ?_
  refine r_aload rfl rfl ?_
  refine r_cv (y := 214) (ra := []) (rest := []) rfl ⟨⟨rfl, rfl⟩, rfl, by decide⟩ (fx_t30 fx) rfl rfl (Nat.le_of_ble_eq_true rfl) ?_
  refine in_214 (Nat.le_of_ble_eq_true rfl) ?_
  show WR _ cd_214 0 [some (.ref (ad 30))] [] (sI h (ad 30) 47 0) _
  refine r_aload rfl rfl ?_
  refine r_aload rfl rfl ?_
  refine r_getI rfl ⟨rfl, rfl, rfl⟩ (fx_t30 fx) ?_
  refine WR_tI (y := 3) (Eq.trans (I_nk (by decide)) t8) ?_
  refine r_ic (x := 1) rfl rfl ?_
  refine r_icmp_ne (tg := 13) rfl rfl (fun _ => ?_) (fun q => absurd q (by decide))
  refine r_aload rfl rfl ?_
  refine r_getI rfl ⟨rfl, rfl, rfl⟩ (fx_t30 fx) ?_
  refine WR_tI (y := 3) (Eq.trans (I_nk (by decide)) t8) ?_
  refine r_putI rfl ⟨rfl, rfl, rfl⟩ (fx_t30 fx) ?_
  have fx : FX n ad sa z0 (sI (sI h (ad 30) 47 0) (ad 30) 29 3) := (FX.sI fx)
  refine r_vret rfl ?_
  show WR _ cd_213 332 [some (.ref (ad 30)), some (.int (nI k)), some (.int (nI (16 * p + i))), some (.int a), some (.int b)] [] (sI (sI h (ad 30) 47 0) (ad 30) 29 3) _
  refine r_vret rfl ?_
  exact (L1)

set_option maxHeartbeats 2000000 in
theorem w_b21_1 {d : Nat} {Q : mQ} {n : Nat} {ad sa : Nat → Nat} {z0 : Nat} {h : mH} (fx : FX n ad sa z0 h) {k p i : Nat} (k8 : k < 8) (p10 : p < 10) (i16 : i < 16) {a b : Int32} (t0 : hI h (ad 30) 23 = nI (k + 1)) (t1 : hI h (ad 48) k = nI p) (t2 : hI h (ad 49) k = nI (i + 1)) (t5 : hI h (ad 45) (16 * p + i) = a) (t6 : hI h (ad 46) (16 * p + i) = b) (t7 : hI h (ad 50) k = 21) (t8 : hI h (ad 30) 29 = 1) {kw kv : Int32} (tk : hI h (ad 51) k = kw) (tv : hI h (ad 52) k = kv) 
    (L1 : ¬ kw = 1 → Q none (sI (sI (sI (sI h (ad 30) 47 0) (ad 30) 29 kw) (ad 30) 30 kv) (ad 30) 29 kw))
    (L2 : kw = 1 → Q none (sI (sI (sI (sI h (ad 30) 47 0) (ad 30) 29 kw) (ad 30) 30 kv) (ad 30) 29 0)) : EV (d + 2) 213 [.ref (ad 30)] h Q := by
  have fx0 := fx
  refine in_213 (Nat.le_of_ble_eq_true rfl) ?_
  show WR _ cd_213 0 [some (.ref (ad 30)), none, none, none, none] [] h _
  refine r_aload rfl rfl ?_
  refine r_getI rfl ⟨rfl, rfl, rfl⟩ (fx_t30 fx) ?_
  refine WR_tI (y := nI (k + 1)) t0 ?_
  refine r_ic (x := 1) rfl rfl ?_
  refine r_isub rfl ?_
  refine WR_tI (y := nI k) (Eq.trans (pk_sub (a := k + 1) (b := 1) (by omega)) (congrArg nI (by omega))) ?_
  refine r_istore (lv' := [some (.ref (ad 30)), some (.int (nI k)), none, none, none]) rfl (Nat.le_of_ble_eq_true rfl) rfl ?_
  refine r_ic (x := 16) rfl rfl ?_
  refine r_aload rfl rfl ?_
  refine r_getA (b := ad 48) rfl ⟨rfl, rfl, rfl⟩ (fx_t30 fx) (fx_r30_24 fx) ?_
  refine r_iload rfl rfl ?_
  refine r_iaload rfl (.inl (fx_t48 fx)) (vp_ct (fx_n48 fx) (vp_in_nI (by omega) (by omega))) ?_
  refine WR_tI (congrArg (hI h (ad 48)) ((nI_clamp (by omega)) : _ = k)) ?_
  refine WR_tI (y := nI p) t1 ?_
  refine r_imul rfl ?_
  refine WR_tI (y := nI (16 * p)) (Eq.trans (pk_mul 16 p) (congrArg nI (by omega))) ?_
  refine r_aload rfl rfl ?_
  refine r_getA (b := ad 49) rfl ⟨rfl, rfl, rfl⟩ (fx_t30 fx) (fx_r30_25 fx) ?_
  refine r_iload rfl rfl ?_
  refine r_iaload rfl (.inl (fx_t49 fx)) (vp_ct (fx_n49 fx) (vp_in_nI (by omega) (by omega))) ?_
  refine WR_tI (congrArg (hI h (ad 49)) ((nI_clamp (by omega)) : _ = k)) ?_
  refine WR_tI (y := nI (i + 1)) t2 ?_
  refine r_iadd rfl ?_
  refine WR_tI (y := nI (16 * p + i + 1)) (Eq.trans (nI_add (16 * p) (i + 1)) (congrArg nI (by omega))) ?_
  refine r_ic (x := 1) rfl rfl ?_
  refine r_isub rfl ?_
  refine WR_tI (y := nI (16 * p + i)) (Eq.trans (pk_sub (a := 16 * p + i + 1) (b := 1) (by omega)) (congrArg nI (by omega))) ?_
  refine r_istore (lv' := [some (.ref (ad 30)), some (.int (nI k)), some (.int (nI (16 * p + i))), none, none]) rfl (Nat.le_of_ble_eq_true rfl) rfl ?_
  refine r_aload rfl rfl ?_
  refine r_getA (b := ad 45) rfl ⟨rfl, rfl, rfl⟩ (fx_t30 fx) (fx_r30_20 fx) ?_
  refine r_iload rfl rfl ?_
  refine r_iaload rfl (.inl (fx_t45 fx)) (vp_ct (fx_n45 fx) (vp_in_nI (by omega) (by omega))) ?_
  refine WR_tI (congrArg (hI h (ad 45)) ((nI_clamp (by omega)) : _ = 16 * p + i)) ?_
  refine WR_tI (y := a) t5 ?_
  refine r_istore (lv' := [some (.ref (ad 30)), some (.int (nI k)), some (.int (nI (16 * p + i))), some (.int a), none]) rfl (Nat.le_of_ble_eq_true rfl) rfl ?_
  refine r_aload rfl rfl ?_
  refine r_getA (b := ad 46) rfl ⟨rfl, rfl, rfl⟩ (fx_t30 fx) (fx_r30_21 fx) ?_
  refine r_iload rfl rfl ?_
  refine r_iaload rfl (.inl (fx_t46 fx)) (vp_ct (fx_n46 fx) (vp_in_nI (by omega) (by omega))) ?_
  refine WR_tI (congrArg (hI h (ad 46)) ((nI_clamp (by omega)) : _ = 16 * p + i)) ?_
  refine WR_tI (y := b) t6 ?_
  refine r_istore (lv' := [some (.ref (ad 30)), some (.int (nI k)), some (.int (nI (16 * p + i))), some (.int a), some (.int b)]) rfl (Nat.le_of_ble_eq_true rfl) rfl ?_
  refine r_aload rfl rfl ?_
  refine r_ic (x := 0) rfl rfl ?_
  refine r_putZ rfl ⟨rfl, rfl, rfl⟩ (fx_t30 fx) (.inl rfl) ?_
  have fx : FX n ad sa z0 (sI h (ad 30) 47 0) := (FX.sI fx)
  refine r_aload rfl rfl ?_
  refine r_getA (b := ad 50) rfl ⟨rfl, rfl, rfl⟩ (fx_t30 fx) (fx_r30_26 fx) ?_
  refine r_iload rfl rfl ?_
  refine r_iaload rfl (.inl (fx_t50 fx)) (vp_ct (fx_n50 fx) (vp_in_nI (by omega) (by omega))) ?_
  refine WR_tI (congrArg (hI (sI h (ad 30) 47 0) (ad 50)) ((nI_clamp (by omega)) : _ = k)) ?_
  refine WR_tI (y := 21) (Eq.trans (I_ne (fx_ne fx (by decide))) t7) ?_
  refine r_tswL (tg := 257) rfl (by decide) ?_
  refine r_aload rfl rfl ?_
  refine r_getI rfl ⟨rfl, rfl, rfl⟩ (fx_t30 fx) ?_
  refine WR_tI (y := 1) (Eq.trans (I_nk (by decide)) t8) ?_
  refine r_ic (x := 1) rfl rfl ?_
  refine r_icmp_ne (tg := 288) rfl rfl (fun q => absurd q (by decide)) (fun _ => ?_)
  refine r_aload rfl rfl ?_
  refine r_aload rfl rfl ?_
  refine r_getA (b := ad 51) rfl ⟨rfl, rfl, rfl⟩ (fx_t30 fx) (fx_r30_27 fx) ?_
  refine r_iload rfl rfl ?_
  refine r_iaload rfl (.inl (fx_t51 fx)) (vp_ct (fx_n51 fx) (vp_in_nI (by omega) (by omega))) ?_
  refine WR_tI (congrArg (hI (sI h (ad 30) 47 0) (ad 51)) ((nI_clamp (by omega)) : _ = k)) ?_
  refine WR_tI (y := kw) (Eq.trans (I_ne (fx_ne fx (by decide))) tk) ?_
  refine r_aload rfl rfl ?_
  refine r_getA (b := ad 52) rfl ⟨rfl, rfl, rfl⟩ (fx_t30 fx) (fx_r30_28 fx) ?_
  refine r_iload rfl rfl ?_
  refine r_iaload rfl (.inl (fx_t52 fx)) (vp_ct (fx_n52 fx) (vp_in_nI (by omega) (by omega))) ?_
  refine WR_tI (congrArg (hI (sI h (ad 30) 47 0) (ad 52)) ((nI_clamp (by omega)) : _ = k)) ?_
  refine WR_tI (y := kv) (Eq.trans (I_ne (fx_ne fx (by decide))) tv) ?_
  refine r_cv (y := 212) (ra := [.int kv, .int kw]) (rest := []) rfl ⟨⟨rfl, rfl⟩, rfl, by decide⟩ (fx_t30 fx) rfl rfl (Nat.le_of_ble_eq_true rfl) ?_
  refine in_212 (Nat.le_of_ble_eq_true rfl) ?_
  show WR _ cd_212 0 [some (.ref (ad 30)), some (.int kw), some (.int kv)] [] (sI h (ad 30) 47 0) _
  refine r_aload rfl rfl ?_
  refine r_iload rfl rfl ?_
  refine r_putI rfl ⟨rfl, rfl, rfl⟩ (fx_t30 fx) ?_
  have fx : FX n ad sa z0 (sI (sI h (ad 30) 47 0) (ad 30) 29 kw) := (FX.sI fx)
  refine r_aload rfl rfl ?_
  refine r_iload rfl rfl ?_
  refine r_putI rfl ⟨rfl, rfl, rfl⟩ (fx_t30 fx) ?_
  have fx : FX n ad sa z0 (sI (sI (sI h (ad 30) 47 0) (ad 30) 29 kw) (ad 30) 30 kv) := (FX.sI fx)
  refine r_vret rfl ?_
  show WR _ cd_213 281 [some (.ref (ad 30)), some (.int (nI k)), some (.int (nI (16 * p + i))), some (.int a), some (.int b)] [] (sI (sI (sI h (ad 30) 47 0) (ad 30) 29 kw) (ad 30) 30 kv) _
  refine r_aload rfl rfl ?_
  refine r_cv (y := 214) (ra := []) (rest := []) rfl ⟨⟨rfl, rfl⟩, rfl, by decide⟩ (fx_t30 fx) rfl rfl (Nat.le_of_ble_eq_true rfl) ?_
  refine in_214 (Nat.le_of_ble_eq_true rfl) ?_
  show WR _ cd_214 0 [some (.ref (ad 30))] [] (sI (sI (sI h (ad 30) 47 0) (ad 30) 29 kw) (ad 30) 30 kv) _
  refine r_aload rfl rfl ?_
  refine r_aload rfl rfl ?_
  refine r_getI rfl ⟨rfl, rfl, rfl⟩ (fx_t30 fx) ?_
  refine WR_tI (y := kw) (Eq.trans (I_nk (by decide)) I_eq) ?_
  refine r_ic (x := 1) rfl rfl ?_
  refine r_icmp_ne (tg := 13) rfl rfl (fun c1 => ?_) (fun c1 => ?_)
  · refine r_aload rfl rfl ?_
    refine r_getI rfl ⟨rfl, rfl, rfl⟩ (fx_t30 fx) ?_
    refine WR_tI (y := kw) (Eq.trans (I_nk (by decide)) I_eq) ?_
    refine r_putI rfl ⟨rfl, rfl, rfl⟩ (fx_t30 fx) ?_
    have fx : FX n ad sa z0 (sI (sI (sI (sI h (ad 30) 47 0) (ad 30) 29 kw) (ad 30) 30 kv) (ad 30) 29 kw) := (FX.sI fx)
    refine r_vret rfl ?_
    show WR _ cd_213 285 [some (.ref (ad 30)), some (.int (nI k)), some (.int (nI (16 * p + i))), some (.int a), some (.int b)] [] (sI (sI (sI (sI h (ad 30) 47 0) (ad 30) 29 kw) (ad 30) 30 kv) (ad 30) 29 kw) _
    refine r_goto (tg := 332) rfl rfl ?_
    refine r_vret rfl ?_
    exact (L1 c1)
  · refine r_ic (x := 0) rfl rfl ?_
    refine r_goto (tg := 17) rfl rfl ?_
    refine r_putI rfl ⟨rfl, rfl, rfl⟩ (fx_t30 fx) ?_
    have fx : FX n ad sa z0 (sI (sI (sI (sI h (ad 30) 47 0) (ad 30) 29 kw) (ad 30) 30 kv) (ad 30) 29 0) := (FX.sI fx)
    refine r_vret rfl ?_
    show WR _ cd_213 285 [some (.ref (ad 30)), some (.int (nI k)), some (.int (nI (16 * p + i))), some (.int a), some (.int b)] [] (sI (sI (sI (sI h (ad 30) 47 0) (ad 30) 29 kw) (ad 30) 30 kv) (ad 30) 29 0) _
    refine r_goto (tg := 332) rfl rfl ?_
    refine r_vret rfl ?_
    exact (L2 c1)

set_option maxHeartbeats 2000000 in
theorem w_b21_2 {d : Nat} {Q : mQ} {n : Nat} {ad sa : Nat → Nat} {z0 : Nat} {h : mH} (fx : FX n ad sa z0 h) {k p i : Nat} (k8 : k < 8) (p10 : p < 10) (i16 : i < 16) {a b : Int32} (t0 : hI h (ad 30) 23 = nI (k + 1)) (t1 : hI h (ad 48) k = nI p) (t2 : hI h (ad 49) k = nI (i + 1)) (t5 : hI h (ad 45) (16 * p + i) = a) (t6 : hI h (ad 46) (16 * p + i) = b) (t7 : hI h (ad 50) k = 21) (t8 : hI h (ad 30) 29 = 2) {kw kv : Int32} (tk : hI h (ad 51) k = kw) (tv : hI h (ad 52) k = kv) 
    (L1 : ¬ kw = 3 → Q none (sI h (ad 30) 47 0))
    (L2 : kw = 3 → Q none (sI (sI h (ad 30) 47 0) (ad 30) 34 kv)) : EV (d + 1) 213 [.ref (ad 30)] h Q := by
  have fx0 := fx
  refine in_213 (Nat.le_of_ble_eq_true rfl) ?_
  show WR _ cd_213 0 [some (.ref (ad 30)), none, none, none, none] [] h _
  refine r_aload rfl rfl ?_
  refine r_getI rfl ⟨rfl, rfl, rfl⟩ (fx_t30 fx) ?_
  refine WR_tI (y := nI (k + 1)) t0 ?_
  refine r_ic (x := 1) rfl rfl ?_
  refine r_isub rfl ?_
  refine WR_tI (y := nI k) (Eq.trans (pk_sub (a := k + 1) (b := 1) (by omega)) (congrArg nI (by omega))) ?_
  refine r_istore (lv' := [some (.ref (ad 30)), some (.int (nI k)), none, none, none]) rfl (Nat.le_of_ble_eq_true rfl) rfl ?_
  refine r_ic (x := 16) rfl rfl ?_
  refine r_aload rfl rfl ?_
  refine r_getA (b := ad 48) rfl ⟨rfl, rfl, rfl⟩ (fx_t30 fx) (fx_r30_24 fx) ?_
  refine r_iload rfl rfl ?_
  refine r_iaload rfl (.inl (fx_t48 fx)) (vp_ct (fx_n48 fx) (vp_in_nI (by omega) (by omega))) ?_
  refine WR_tI (congrArg (hI h (ad 48)) ((nI_clamp (by omega)) : _ = k)) ?_
  refine WR_tI (y := nI p) t1 ?_
  refine r_imul rfl ?_
  refine WR_tI (y := nI (16 * p)) (Eq.trans (pk_mul 16 p) (congrArg nI (by omega))) ?_
  refine r_aload rfl rfl ?_
  refine r_getA (b := ad 49) rfl ⟨rfl, rfl, rfl⟩ (fx_t30 fx) (fx_r30_25 fx) ?_
  refine r_iload rfl rfl ?_
  refine r_iaload rfl (.inl (fx_t49 fx)) (vp_ct (fx_n49 fx) (vp_in_nI (by omega) (by omega))) ?_
  refine WR_tI (congrArg (hI h (ad 49)) ((nI_clamp (by omega)) : _ = k)) ?_
  refine WR_tI (y := nI (i + 1)) t2 ?_
  refine r_iadd rfl ?_
  refine WR_tI (y := nI (16 * p + i + 1)) (Eq.trans (nI_add (16 * p) (i + 1)) (congrArg nI (by omega))) ?_
  refine r_ic (x := 1) rfl rfl ?_
  refine r_isub rfl ?_
  refine WR_tI (y := nI (16 * p + i)) (Eq.trans (pk_sub (a := 16 * p + i + 1) (b := 1) (by omega)) (congrArg nI (by omega))) ?_
  refine r_istore (lv' := [some (.ref (ad 30)), some (.int (nI k)), some (.int (nI (16 * p + i))), none, none]) rfl (Nat.le_of_ble_eq_true rfl) rfl ?_
  refine r_aload rfl rfl ?_
  refine r_getA (b := ad 45) rfl ⟨rfl, rfl, rfl⟩ (fx_t30 fx) (fx_r30_20 fx) ?_
  refine r_iload rfl rfl ?_
  refine r_iaload rfl (.inl (fx_t45 fx)) (vp_ct (fx_n45 fx) (vp_in_nI (by omega) (by omega))) ?_
  refine WR_tI (congrArg (hI h (ad 45)) ((nI_clamp (by omega)) : _ = 16 * p + i)) ?_
  refine WR_tI (y := a) t5 ?_
  refine r_istore (lv' := [some (.ref (ad 30)), some (.int (nI k)), some (.int (nI (16 * p + i))), some (.int a), none]) rfl (Nat.le_of_ble_eq_true rfl) rfl ?_
  refine r_aload rfl rfl ?_
  refine r_getA (b := ad 46) rfl ⟨rfl, rfl, rfl⟩ (fx_t30 fx) (fx_r30_21 fx) ?_
  refine r_iload rfl rfl ?_
  refine r_iaload rfl (.inl (fx_t46 fx)) (vp_ct (fx_n46 fx) (vp_in_nI (by omega) (by omega))) ?_
  refine WR_tI (congrArg (hI h (ad 46)) ((nI_clamp (by omega)) : _ = 16 * p + i)) ?_
  refine WR_tI (y := b) t6 ?_
  refine r_istore (lv' := [some (.ref (ad 30)), some (.int (nI k)), some (.int (nI (16 * p + i))), some (.int a), some (.int b)]) rfl (Nat.le_of_ble_eq_true rfl) rfl ?_
  refine r_aload rfl rfl ?_
  refine r_ic (x := 0) rfl rfl ?_
  refine r_putZ rfl ⟨rfl, rfl, rfl⟩ (fx_t30 fx) (.inl rfl) ?_
  have fx : FX n ad sa z0 (sI h (ad 30) 47 0) := (FX.sI fx)
  refine r_aload rfl rfl ?_
  refine r_getA (b := ad 50) rfl ⟨rfl, rfl, rfl⟩ (fx_t30 fx) (fx_r30_26 fx) ?_
  refine r_iload rfl rfl ?_
  refine r_iaload rfl (.inl (fx_t50 fx)) (vp_ct (fx_n50 fx) (vp_in_nI (by omega) (by omega))) ?_
  refine WR_tI (congrArg (hI (sI h (ad 30) 47 0) (ad 50)) ((nI_clamp (by omega)) : _ = k)) ?_
  refine WR_tI (y := 21) (Eq.trans (I_ne (fx_ne fx (by decide))) t7) ?_
  refine r_tswL (tg := 257) rfl (by decide) ?_
  refine r_aload rfl rfl ?_
  refine r_getI rfl ⟨rfl, rfl, rfl⟩ (fx_t30 fx) ?_
  refine WR_tI (y := 2) (Eq.trans (I_nk (by decide)) t8) ?_
  refine r_ic (x := 1) rfl rfl ?_
  refine r_icmp_ne (tg := 288) rfl rfl (fun _ => ?_) (fun q => absurd q (by decide))
  refine r_aload rfl rfl ?_
  refine r_getA (b := ad 51) rfl ⟨rfl, rfl, rfl⟩ (fx_t30 fx) (fx_r30_27 fx) ?_
  refine r_iload rfl rfl ?_
  refine r_iaload rfl (.inl (fx_t51 fx)) (vp_ct (fx_n51 fx) (vp_in_nI (by omega) (by omega))) ?_
  refine WR_tI (congrArg (hI (sI h (ad 30) 47 0) (ad 51)) ((nI_clamp (by omega)) : _ = k)) ?_
  refine WR_tI (y := kw) (Eq.trans (I_ne (fx_ne fx (by decide))) tk) ?_
  refine r_ic (x := 3) rfl rfl ?_
  refine r_icmp_ne (tg := 332) rfl rfl (fun c1 => ?_) (fun c1 => ?_)
  · refine r_vret rfl ?_
    exact (L1 c1)
  · refine r_aload rfl rfl ?_
    refine r_aload rfl rfl ?_
    refine r_getA (b := ad 52) rfl ⟨rfl, rfl, rfl⟩ (fx_t30 fx) (fx_r30_28 fx) ?_
    refine r_iload rfl rfl ?_
    refine r_iaload rfl (.inl (fx_t52 fx)) (vp_ct (fx_n52 fx) (vp_in_nI (by omega) (by omega))) ?_
    refine WR_tI (congrArg (hI (sI h (ad 30) 47 0) (ad 52)) ((nI_clamp (by omega)) : _ = k)) ?_
    refine WR_tI (y := kv) (Eq.trans (I_ne (fx_ne fx (by decide))) tv) ?_
    refine r_putI rfl ⟨rfl, rfl, rfl⟩ (fx_t30 fx) ?_
    have fx : FX n ad sa z0 (sI (sI h (ad 30) 47 0) (ad 30) 34 kv) := (FX.sI fx)
    refine r_goto (tg := 332) rfl rfl ?_
    refine r_vret rfl ?_
    exact (L2 c1)

set_option maxHeartbeats 2000000 in
theorem w_b21_3 {d : Nat} {Q : mQ} {n : Nat} {ad sa : Nat → Nat} {z0 : Nat} {h : mH} (fx : FX n ad sa z0 h) {k p i : Nat} (k8 : k < 8) (p10 : p < 10) (i16 : i < 16) {a b : Int32} (t0 : hI h (ad 30) 23 = nI (k + 1)) (t1 : hI h (ad 48) k = nI p) (t2 : hI h (ad 49) k = nI (i + 1)) (t5 : hI h (ad 45) (16 * p + i) = a) (t6 : hI h (ad 46) (16 * p + i) = b) (t7 : hI h (ad 50) k = 21) (t8 : hI h (ad 30) 29 = 3) {kw kv : Int32} (tk : hI h (ad 51) k = kw) (tv : hI h (ad 52) k = kv) 
    (L1 : ¬ kw = 3 → Q none (sI h (ad 30) 47 0))
    (L2 : kw = 3 → Q none (sI (sI h (ad 30) 47 0) (ad 30) 34 kv)) : EV (d + 1) 213 [.ref (ad 30)] h Q := by
  have fx0 := fx
  refine in_213 (Nat.le_of_ble_eq_true rfl) ?_
  show WR _ cd_213 0 [some (.ref (ad 30)), none, none, none, none] [] h _
  refine r_aload rfl rfl ?_
  refine r_getI rfl ⟨rfl, rfl, rfl⟩ (fx_t30 fx) ?_
  refine WR_tI (y := nI (k + 1)) t0 ?_
  refine r_ic (x := 1) rfl rfl ?_
  refine r_isub rfl ?_
  refine WR_tI (y := nI k) (Eq.trans (pk_sub (a := k + 1) (b := 1) (by omega)) (congrArg nI (by omega))) ?_
  refine r_istore (lv' := [some (.ref (ad 30)), some (.int (nI k)), none, none, none]) rfl (Nat.le_of_ble_eq_true rfl) rfl ?_
  refine r_ic (x := 16) rfl rfl ?_
  refine r_aload rfl rfl ?_
  refine r_getA (b := ad 48) rfl ⟨rfl, rfl, rfl⟩ (fx_t30 fx) (fx_r30_24 fx) ?_
  refine r_iload rfl rfl ?_
  refine r_iaload rfl (.inl (fx_t48 fx)) (vp_ct (fx_n48 fx) (vp_in_nI (by omega) (by omega))) ?_
  refine WR_tI (congrArg (hI h (ad 48)) ((nI_clamp (by omega)) : _ = k)) ?_
  refine WR_tI (y := nI p) t1 ?_
  refine r_imul rfl ?_
  refine WR_tI (y := nI (16 * p)) (Eq.trans (pk_mul 16 p) (congrArg nI (by omega))) ?_
  refine r_aload rfl rfl ?_
  refine r_getA (b := ad 49) rfl ⟨rfl, rfl, rfl⟩ (fx_t30 fx) (fx_r30_25 fx) ?_
  refine r_iload rfl rfl ?_
  refine r_iaload rfl (.inl (fx_t49 fx)) (vp_ct (fx_n49 fx) (vp_in_nI (by omega) (by omega))) ?_
  refine WR_tI (congrArg (hI h (ad 49)) ((nI_clamp (by omega)) : _ = k)) ?_
  refine WR_tI (y := nI (i + 1)) t2 ?_
  refine r_iadd rfl ?_
  refine WR_tI (y := nI (16 * p + i + 1)) (Eq.trans (nI_add (16 * p) (i + 1)) (congrArg nI (by omega))) ?_
  refine r_ic (x := 1) rfl rfl ?_
  refine r_isub rfl ?_
  refine WR_tI (y := nI (16 * p + i)) (Eq.trans (pk_sub (a := 16 * p + i + 1) (b := 1) (by omega)) (congrArg nI (by omega))) ?_
  refine r_istore (lv' := [some (.ref (ad 30)), some (.int (nI k)), some (.int (nI (16 * p + i))), none, none]) rfl (Nat.le_of_ble_eq_true rfl) rfl ?_
  refine r_aload rfl rfl ?_
  refine r_getA (b := ad 45) rfl ⟨rfl, rfl, rfl⟩ (fx_t30 fx) (fx_r30_20 fx) ?_
  refine r_iload rfl rfl ?_
  refine r_iaload rfl (.inl (fx_t45 fx)) (vp_ct (fx_n45 fx) (vp_in_nI (by omega) (by omega))) ?_
  refine WR_tI (congrArg (hI h (ad 45)) ((nI_clamp (by omega)) : _ = 16 * p + i)) ?_
  refine WR_tI (y := a) t5 ?_
  refine r_istore (lv' := [some (.ref (ad 30)), some (.int (nI k)), some (.int (nI (16 * p + i))), some (.int a), none]) rfl (Nat.le_of_ble_eq_true rfl) rfl ?_
  refine r_aload rfl rfl ?_
  refine r_getA (b := ad 46) rfl ⟨rfl, rfl, rfl⟩ (fx_t30 fx) (fx_r30_21 fx) ?_
  refine r_iload rfl rfl ?_
  refine r_iaload rfl (.inl (fx_t46 fx)) (vp_ct (fx_n46 fx) (vp_in_nI (by omega) (by omega))) ?_
  refine WR_tI (congrArg (hI h (ad 46)) ((nI_clamp (by omega)) : _ = 16 * p + i)) ?_
  refine WR_tI (y := b) t6 ?_
  refine r_istore (lv' := [some (.ref (ad 30)), some (.int (nI k)), some (.int (nI (16 * p + i))), some (.int a), some (.int b)]) rfl (Nat.le_of_ble_eq_true rfl) rfl ?_
  refine r_aload rfl rfl ?_
  refine r_ic (x := 0) rfl rfl ?_
  refine r_putZ rfl ⟨rfl, rfl, rfl⟩ (fx_t30 fx) (.inl rfl) ?_
  have fx : FX n ad sa z0 (sI h (ad 30) 47 0) := (FX.sI fx)
  refine r_aload rfl rfl ?_
  refine r_getA (b := ad 50) rfl ⟨rfl, rfl, rfl⟩ (fx_t30 fx) (fx_r30_26 fx) ?_
  refine r_iload rfl rfl ?_
  refine r_iaload rfl (.inl (fx_t50 fx)) (vp_ct (fx_n50 fx) (vp_in_nI (by omega) (by omega))) ?_
  refine WR_tI (congrArg (hI (sI h (ad 30) 47 0) (ad 50)) ((nI_clamp (by omega)) : _ = k)) ?_
  refine WR_tI (y := 21) (Eq.trans (I_ne (fx_ne fx (by decide))) t7) ?_
  refine r_tswL (tg := 257) rfl (by decide) ?_
  refine r_aload rfl rfl ?_
  refine r_getI rfl ⟨rfl, rfl, rfl⟩ (fx_t30 fx) ?_
  refine WR_tI (y := 3) (Eq.trans (I_nk (by decide)) t8) ?_
  refine r_ic (x := 1) rfl rfl ?_
  refine r_icmp_ne (tg := 288) rfl rfl (fun _ => ?_) (fun q => absurd q (by decide))
  refine r_aload rfl rfl ?_
  refine r_getA (b := ad 51) rfl ⟨rfl, rfl, rfl⟩ (fx_t30 fx) (fx_r30_27 fx) ?_
  refine r_iload rfl rfl ?_
  refine r_iaload rfl (.inl (fx_t51 fx)) (vp_ct (fx_n51 fx) (vp_in_nI (by omega) (by omega))) ?_
  refine WR_tI (congrArg (hI (sI h (ad 30) 47 0) (ad 51)) ((nI_clamp (by omega)) : _ = k)) ?_
  refine WR_tI (y := kw) (Eq.trans (I_ne (fx_ne fx (by decide))) tk) ?_
  refine r_ic (x := 3) rfl rfl ?_
  refine r_icmp_ne (tg := 332) rfl rfl (fun c1 => ?_) (fun c1 => ?_)
  · refine r_vret rfl ?_
    exact (L1 c1)
  · refine r_aload rfl rfl ?_
    refine r_aload rfl rfl ?_
    refine r_getA (b := ad 52) rfl ⟨rfl, rfl, rfl⟩ (fx_t30 fx) (fx_r30_28 fx) ?_
    refine r_iload rfl rfl ?_
    refine r_iaload rfl (.inl (fx_t52 fx)) (vp_ct (fx_n52 fx) (vp_in_nI (by omega) (by omega))) ?_
    refine WR_tI (congrArg (hI (sI h (ad 30) 47 0) (ad 52)) ((nI_clamp (by omega)) : _ = k)) ?_
    refine WR_tI (y := kv) (Eq.trans (I_ne (fx_ne fx (by decide))) tv) ?_
    refine r_putI rfl ⟨rfl, rfl, rfl⟩ (fx_t30 fx) ?_
    have fx : FX n ad sa z0 (sI (sI h (ad 30) 47 0) (ad 30) 34 kv) := (FX.sI fx)
    refine r_goto (tg := 332) rfl rfl ?_
    refine r_vret rfl ?_
    exact (L2 c1)

set_option maxHeartbeats 2000000 in
theorem w_br199 {d : Nat} {Q : mQ} {n : Nat} {ad sa : Nat → Nat} {z0 : Nat} {h : mH} (fx : FX n ad sa z0 h) (o1 o2 o3 o4 : Option Value) 
    (L1 : Q none h) : WR (d) cd_213 199 [some (.ref (ad 30)), o1, o2, o3, o4] [] h Q := by
  have fx0 := fx
  refine r_goto (tg := 332) rfl rfl ?_
  refine r_vret rfl ?_
  exact (L1)

set_option maxHeartbeats 2000000 in
theorem w_br254 {d : Nat} {Q : mQ} {n : Nat} {ad sa : Nat → Nat} {z0 : Nat} {h : mH} (fx : FX n ad sa z0 h) (o1 o2 o3 o4 : Option Value) 
    (L1 : Q none h) : WR (d) cd_213 254 [some (.ref (ad 30)), o1, o2, o3, o4] [] h Q := by
  have fx0 := fx
  refine r_goto (tg := 332) rfl rfl ?_
  refine r_vret rfl ?_
  exact (L1)

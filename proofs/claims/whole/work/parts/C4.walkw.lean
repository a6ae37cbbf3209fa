/-! ===== walks of run: the wakes; printed ===== -/
set_option maxHeartbeats 2000000 in
theorem w_wk0 {d : Nat} {Q : mQ} {n : Nat} {ad sa : Nat → Nat} {z0 : Nat} {h : mH} (fx : FX n ad sa z0 h) {t k : Nat} (ha : t < n) (n6 : n ≤ 6) (tu2 : hT h (ad (100 + 5 * t)) = 8) (k6 : k < n) (ek : hR h (ad 8) k = some (ad (100 + 5 * t))) 
    (K1 : WR (d) cd_133 12 [some (.ref (ad 4)), some (.int (nI k)), some (.ref (ad (100 + 5 * t))), some (.double 0), none, some (.int 0), none, none, none, none, none, none] [] h Q) : EV (d + 1) 133 [.ref (ad 4), .int (nI k)] h Q := by
  have fx0 := fx
  refine in_133 (Nat.le_of_ble_eq_true rfl) ?_
  show WR _ cd_133 0 [some (.ref (ad 4)), some (.int (nI k)), none, none, none, none, none, none, none, none, none, none] [] h _
  refine r_aload rfl rfl ?_
  refine r_getA (b := ad 8) rfl ⟨rfl, rfl, rfl⟩ (fx_t4 fx) (fx_r4_6 fx) ?_
  refine r_iload rfl rfl ?_
  refine r_aaloadA (b := ad (100 + 5 * t)) rfl (isQ_of (fx_t8 fx) (by decide)) (vp_ct (fx_n8 fx) (vp_in_nI (by omega) (by omega))) (Eq.trans (congrArg (hR h (ad 8)) ((nI_clamp (by omega)) : _ = k)) ek) ?_
  refine r_astore (lv' := [some (.ref (ad 4)), some (.int (nI k)), some (.ref (ad (100 + 5 * t))), none, none, none, none, none, none, none, none, none]) rfl (Nat.le_of_ble_eq_true rfl) rfl ?_
  refine r_dc (x := 0) rfl rfl ?_
  refine r_dstore (lv' := [some (.ref (ad 4)), some (.int (nI k)), some (.ref (ad (100 + 5 * t))), some (.double 0), none, none, none, none, none, none, none, none]) rfl (Nat.le_of_ble_eq_true rfl) rfl ?_
  refine r_ic (x := 0) rfl rfl ?_
  refine r_istore (lv' := [some (.ref (ad 4)), some (.int (nI k)), some (.ref (ad (100 + 5 * t))), some (.double 0), none, some (.int 0), none, none, none, none, none, none]) rfl (Nat.le_of_ble_eq_true rfl) rfl ?_
  exact (K1)

set_option maxHeartbeats 2000000 in
theorem w_wki {d : Nat} {Q : mQ} {n : Nat} {ad sa : Nat → Nat} {z0 : Nat} {h : mH} (fx : FX n ad sa z0 h) {t u k i : Nat} (ha : t < n) (n6 : n ≤ 6) (tu2 : hT h (ad (100 + 5 * t)) = 8) (hu : u < n) (uu2 : hT h (ad (100 + 5 * u)) = 8) (k6 : k ≤ n) (ik : i < k) (ei : hR h (ad 8) i = some (ad (100 + 5 * u))) {d0 : UInt64} {lt lu ct cu su : Int32} (e1 : hI h (ad (100 + 5 * t)) 3 = lt) (e2 : hI h (ad (100 + 5 * u)) 3 = lu) (e3 : hI h (ad (100 + 5 * t)) 4 = ct) (e4 : hI h (ad (100 + 5 * u)) 4 = cu) (e5 : hI h (ad (100 + 5 * u)) 10 = su) {o6 o7 o8 o9 o10 o11 : Option Value} 
    (K1 : ¬ su = 2 → WR (d) cd_133 12 [some (.ref (ad 4)), some (.int (nI k)), some (.ref (ad (100 + 5 * t))), some (.double d0), none, some (.int (nI (i + 1))), some (.ref (ad (100 + 5 * u))), some (.int (lt - lu)), o8, o9, o10, o11] [] h Q)
    (K2 : su = 2 → (lt - lu) ≤ 0 → WR (d) cd_133 12 [some (.ref (ad 4)), some (.int (nI k)), some (.ref (ad (100 + 5 * t))), some (.double d0), none, some (.int (nI (i + 1))), some (.ref (ad (100 + 5 * u))), some (.int (lt - lu)), o8, o9, o10, o11] [] h Q)
    (K3 : su = 2 → ¬ (lt - lu) ≤ 0 → (3 + ((lt - lu) / 4)) < (if 0 ≤ (ct - cu) then (ct - cu) else 0 - (ct - cu)) → WR (d) cd_133 12 [some (.ref (ad 4)), some (.int (nI k)), some (.ref (ad (100 + 5 * t))), some (.double d0), none, some (.int (nI (i + 1))), some (.ref (ad (100 + 5 * u))), some (.int (lt - lu)), o8, o9, o10, o11] [] h Q)
    (B1 : su = 2 → ¬ (lt - lu) ≤ 0 → ¬ (3 + ((lt - lu) / 4)) < (if 0 ≤ (ct - cu) then (ct - cu) else 0 - (ct - cu)) → vf_n64 (FP.dmul (FP.i2d (lt - lu)) 4591870180066957722))
    (B2 : su = 2 → ¬ (lt - lu) ≤ 0 → ¬ (3 + ((lt - lu) / 4)) < (if 0 ≤ (ct - cu) then (ct - cu) else 0 - (ct - cu)) → vf_n64 (FP.dadd 4607182418800017408 (FP.dmul (FP.i2d (lt - lu)) 4591870180066957722)))
    (B3 : su = 2 → ¬ (lt - lu) ≤ 0 → ¬ (3 + ((lt - lu) / 4)) < (if 0 ≤ (ct - cu) then (ct - cu) else 0 - (ct - cu)) → vf_n64 (FP.dmul (FP.dadd 4607182418800017408 (FP.dmul (FP.i2d (lt - lu)) 4591870180066957722)) (FP.dadd 4607182418800017408 (FP.dmul (FP.i2d (lt - lu)) 4591870180066957722))))
    (B4 : su = 2 → ¬ (lt - lu) ≤ 0 → ¬ (3 + ((lt - lu) / 4)) < (if 0 ≤ (ct - cu) then (ct - cu) else 0 - (ct - cu)) → vf_n64 (FP.ddiv 4603579539098121011 (FP.dmul (FP.dadd 4607182418800017408 (FP.dmul (FP.i2d (lt - lu)) 4591870180066957722)) (FP.dadd 4607182418800017408 (FP.dmul (FP.i2d (lt - lu)) 4591870180066957722)))))
    (B5 : su = 2 → ¬ (lt - lu) ≤ 0 → ¬ (3 + ((lt - lu) / 4)) < (if 0 ≤ (ct - cu) then (ct - cu) else 0 - (ct - cu)) → vf_n64 (FP.dmul (FP.ddiv 4603579539098121011 (FP.dmul (FP.dadd 4607182418800017408 (FP.dmul (FP.i2d (lt - lu)) 4591870180066957722)) (FP.dadd 4607182418800017408 (FP.dmul (FP.i2d (lt - lu)) 4591870180066957722)))) (FP.ddiv 4603579539098121011 (FP.dmul (FP.dadd 4607182418800017408 (FP.dmul (FP.i2d (lt - lu)) 4591870180066957722)) (FP.dadd 4607182418800017408 (FP.dmul (FP.i2d (lt - lu)) 4591870180066957722))))))
    (B6 : su = 2 → ¬ (lt - lu) ≤ 0 → ¬ (3 + ((lt - lu) / 4)) < (if 0 ≤ (ct - cu) then (ct - cu) else 0 - (ct - cu)) → vf_n64 (FP.dadd d0 (FP.dmul (FP.ddiv 4603579539098121011 (FP.dmul (FP.dadd 4607182418800017408 (FP.dmul (FP.i2d (lt - lu)) 4591870180066957722)) (FP.dadd 4607182418800017408 (FP.dmul (FP.i2d (lt - lu)) 4591870180066957722)))) (FP.ddiv 4603579539098121011 (FP.dmul (FP.dadd 4607182418800017408 (FP.dmul (FP.i2d (lt - lu)) 4591870180066957722)) (FP.dadd 4607182418800017408 (FP.dmul (FP.i2d (lt - lu)) 4591870180066957722)))))))
    (K4 : su = 2 → ¬ (lt - lu) ≤ 0 → ¬ (3 + ((lt - lu) / 4)) < (if 0 ≤ (ct - cu) then (ct - cu) else 0 - (ct - cu)) → WR (d) cd_133 12 [some (.ref (ad 4)), some (.int (nI k)), some (.ref (ad (100 + 5 * t))), some (.double (FP.dadd d0 (FP.dmul (FP.ddiv 4603579539098121011 (FP.dmul (FP.dadd 4607182418800017408 (FP.dmul (FP.i2d (lt - lu)) 4591870180066957722)) (FP.dadd 4607182418800017408 (FP.dmul (FP.i2d (lt - lu)) 4591870180066957722)))) (FP.ddiv 4603579539098121011 (FP.dmul (FP.dadd 4607182418800017408 (FP.dmul (FP.i2d (lt - lu)) 4591870180066957722)) (FP.dadd 4607182418800017408 (FP.dmul (FP.i2d (lt - lu)) 4591870180066957722))))))), none, some (.int (nI (i + 1))), some (.ref (ad (100 + 5 * u))), some (.int (lt - lu)), some (.double (FP.dadd 4607182418800017408 (FP.dmul (FP.i2d (lt - lu)) 4591870180066957722))), none, some (.double (FP.ddiv 4603579539098121011 (FP.dmul (FP.dadd 4607182418800017408 (FP.dmul (FP.i2d (lt - lu)) 4591870180066957722)) (FP.dadd 4607182418800017408 (FP.dmul (FP.i2d (lt - lu)) 4591870180066957722))))), none] [] h Q) : WR (d) cd_133 12 [some (.ref (ad 4)), some (.int (nI k)), some (.ref (ad (100 + 5 * t))), some (.double d0), none, some (.int (nI i)), o6, o7, o8, o9, o10, o11] [] h Q := by
  have fx0 := fx
  refine r_iload rfl rfl ?_
  refine r_iload rfl rfl ?_
  refine r_icmp_ge (tg := 111) rfl rfl (fun q => False.elim (by have : (nI i).toInt = ((i : Nat) : Int) := nI_toInt (by omega); have : (nI k).toInt = ((k : Nat) : Int) := nI_toInt (by omega); have := i_le q; omega)) (fun _ => ?_)
  refine r_aload rfl rfl ?_
  refine r_getA (b := ad 8) rfl ⟨rfl, rfl, rfl⟩ (fx_t4 fx) (fx_r4_6 fx) ?_
  refine r_iload rfl rfl ?_
  refine r_aaloadA (b := ad (100 + 5 * u)) rfl (isQ_of (fx_t8 fx) (by decide)) (vp_ct (fx_n8 fx) (vp_in_nI (by omega) (by omega))) (Eq.trans (congrArg (hR h (ad 8)) ((nI_clamp (by omega)) : _ = i)) ei) ?_
  refine r_astore (lv' := [some (.ref (ad 4)), some (.int (nI k)), some (.ref (ad (100 + 5 * t))), some (.double d0), none, some (.int (nI i)), some (.ref (ad (100 + 5 * u))), o7, o8, o9, o10, o11]) rfl (Nat.le_of_ble_eq_true rfl) rfl ?_
  refine r_aload rfl rfl ?_
  refine r_getI rfl ⟨rfl, rfl, rfl⟩ tu2 ?_
  refine WR_tI (y := lt) e1 ?_
  refine r_aload rfl rfl ?_
  refine r_getI rfl ⟨rfl, rfl, rfl⟩ uu2 ?_
  refine WR_tI (y := lu) e2 ?_
  refine r_isub rfl ?_
  refine r_istore (lv' := [some (.ref (ad 4)), some (.int (nI k)), some (.ref (ad (100 + 5 * t))), some (.double d0), none, some (.int (nI i)), some (.ref (ad (100 + 5 * u))), some (.int (lt - lu)), o8, o9, o10, o11]) rfl (Nat.le_of_ble_eq_true rfl) rfl ?_
  refine r_aload rfl rfl ?_
  refine r_getI rfl ⟨rfl, rfl, rfl⟩ uu2 ?_
  refine WR_tI (y := su) e5 ?_
  refine r_ic (x := 2) rfl rfl ?_
  refine r_icmp_ne (tg := 105) rfl rfl (fun c1 => ?_) (fun c1 => ?_)
  · refine r_iinc (y := nI (i + 1)) (lv' := [some (.ref (ad 4)), some (.int (nI k)), some (.ref (ad (100 + 5 * t))), some (.double d0), none, some (.int (nI (i + 1))), some (.ref (ad (100 + 5 * u))), some (.int (lt - lu)), o8, o9, o10, o11]) rfl rfl (nI_1 _) rfl ?_
    refine r_goto (tg := 12) rfl rfl ?_
    exact (K1 c1)
  · refine r_iload rfl rfl ?_
    refine r_if_le (tg := 105) rfl rfl (fun c2 => ?_) (fun c2 => ?_)
    · refine r_iinc (y := nI (i + 1)) (lv' := [some (.ref (ad 4)), some (.int (nI k)), some (.ref (ad (100 + 5 * t))), some (.double d0), none, some (.int (nI (i + 1))), some (.ref (ad (100 + 5 * u))), some (.int (lt - lu)), o8, o9, o10, o11]) rfl rfl (nI_1 _) rfl ?_
      refine r_goto (tg := 12) rfl rfl ?_
      exact (K2 c1 c2)
    · refine r_aload rfl rfl ?_
      refine r_getI rfl ⟨rfl, rfl, rfl⟩ tu2 ?_
      refine WR_tI (y := ct) e3 ?_
      refine r_aload rfl rfl ?_
      refine r_getI rfl ⟨rfl, rfl, rfl⟩ uu2 ?_
      refine WR_tI (y := cu) e4 ?_
      refine r_isub rfl ?_
      refine r_abs rfl (Nat.le_of_ble_eq_true rfl) ?_
      refine r_ic (x := 3) rfl rfl ?_
      refine r_iload rfl rfl ?_
      refine r_ic (x := 4) rfl rfl ?_
      refine r_idiv rfl (by decide) ?_
      refine r_iadd rfl ?_
      refine r_icmp_gt (tg := 105) rfl rfl (fun c3 => ?_) (fun c3 => ?_)
      · refine r_iinc (y := nI (i + 1)) (lv' := [some (.ref (ad 4)), some (.int (nI k)), some (.ref (ad (100 + 5 * t))), some (.double d0), none, some (.int (nI (i + 1))), some (.ref (ad (100 + 5 * u))), some (.int (lt - lu)), o8, o9, o10, o11]) rfl rfl (nI_1 _) rfl ?_
        refine r_goto (tg := 12) rfl rfl ?_
        exact (K3 c1 c2 c3)
      · refine r_dc (x := 4607182418800017408) rfl rfl ?_
        refine r_iload rfl rfl ?_
        refine r_i2d rfl ?_
        refine r_ldc (x := .double 4591870180066957722) rfl rfl ?_
        refine r_dmul rfl (B1 c1 c2 c3) ?_
        refine r_dadd rfl (B2 c1 c2 c3) ?_
        refine r_dstore (lv' := [some (.ref (ad 4)), some (.int (nI k)), some (.ref (ad (100 + 5 * t))), some (.double d0), none, some (.int (nI i)), some (.ref (ad (100 + 5 * u))), some (.int (lt - lu)), some (.double (FP.dadd 4607182418800017408 (FP.dmul (FP.i2d (lt - lu)) 4591870180066957722))), none, o10, o11]) rfl (Nat.le_of_ble_eq_true rfl) rfl ?_
        refine r_ldc (x := .double 4603579539098121011) rfl rfl ?_
        refine r_dload rfl rfl ?_
        refine r_dload rfl rfl ?_
        refine r_dmul rfl (B3 c1 c2 c3) ?_
        refine r_ddiv rfl (B4 c1 c2 c3) ?_
        refine r_dstore (lv' := [some (.ref (ad 4)), some (.int (nI k)), some (.ref (ad (100 + 5 * t))), some (.double d0), none, some (.int (nI i)), some (.ref (ad (100 + 5 * u))), some (.int (lt - lu)), some (.double (FP.dadd 4607182418800017408 (FP.dmul (FP.i2d (lt - lu)) 4591870180066957722))), none, some (.double (FP.ddiv 4603579539098121011 (FP.dmul (FP.dadd 4607182418800017408 (FP.dmul (FP.i2d (lt - lu)) 4591870180066957722)) (FP.dadd 4607182418800017408 (FP.dmul (FP.i2d (lt - lu)) 4591870180066957722))))), none]) rfl (Nat.le_of_ble_eq_true rfl) rfl ?_
        refine r_dload rfl rfl ?_
        refine r_dload rfl rfl ?_
        refine r_dload rfl rfl ?_
        refine r_dmul rfl (B5 c1 c2 c3) ?_
        refine r_dadd rfl (B6 c1 c2 c3) ?_
        refine r_dstore (lv' := [some (.ref (ad 4)), some (.int (nI k)), some (.ref (ad (100 + 5 * t))), some (.double (FP.dadd d0 (FP.dmul (FP.ddiv 4603579539098121011 (FP.dmul (FP.dadd 4607182418800017408 (FP.dmul (FP.i2d (lt - lu)) 4591870180066957722)) (FP.dadd 4607182418800017408 (FP.dmul (FP.i2d (lt - lu)) 4591870180066957722)))) (FP.ddiv 4603579539098121011 (FP.dmul (FP.dadd 4607182418800017408 (FP.dmul (FP.i2d (lt - lu)) 4591870180066957722)) (FP.dadd 4607182418800017408 (FP.dmul (FP.i2d (lt - lu)) 4591870180066957722))))))), none, some (.int (nI i)), some (.ref (ad (100 + 5 * u))), some (.int (lt - lu)), some (.double (FP.dadd 4607182418800017408 (FP.dmul (FP.i2d (lt - lu)) 4591870180066957722))), none, some (.double (FP.ddiv 4603579539098121011 (FP.dmul (FP.dadd 4607182418800017408 (FP.dmul (FP.i2d (lt - lu)) 4591870180066957722)) (FP.dadd 4607182418800017408 (FP.dmul (FP.i2d (lt - lu)) 4591870180066957722))))), none]) rfl (Nat.le_of_ble_eq_true rfl) rfl ?_
        refine r_iinc (y := nI (i + 1)) (lv' := [some (.ref (ad 4)), some (.int (nI k)), some (.ref (ad (100 + 5 * t))), some (.double (FP.dadd d0 (FP.dmul (FP.ddiv 4603579539098121011 (FP.dmul (FP.dadd 4607182418800017408 (FP.dmul (FP.i2d (lt - lu)) 4591870180066957722)) (FP.dadd 4607182418800017408 (FP.dmul (FP.i2d (lt - lu)) 4591870180066957722)))) (FP.ddiv 4603579539098121011 (FP.dmul (FP.dadd 4607182418800017408 (FP.dmul (FP.i2d (lt - lu)) 4591870180066957722)) (FP.dadd 4607182418800017408 (FP.dmul (FP.i2d (lt - lu)) 4591870180066957722))))))), none, some (.int (nI (i + 1))), some (.ref (ad (100 + 5 * u))), some (.int (lt - lu)), some (.double (FP.dadd 4607182418800017408 (FP.dmul (FP.i2d (lt - lu)) 4591870180066957722))), none, some (.double (FP.ddiv 4603579539098121011 (FP.dmul (FP.dadd 4607182418800017408 (FP.dmul (FP.i2d (lt - lu)) 4591870180066957722)) (FP.dadd 4607182418800017408 (FP.dmul (FP.i2d (lt - lu)) 4591870180066957722))))), none]) rfl rfl (nI_1 _) rfl ?_
        refine r_goto (tg := 12) rfl rfl ?_
        exact (K4 c1 c2 c3)

set_option maxHeartbeats 2000000 in
theorem w_wke {d : Nat} {Q : mQ} {n : Nat} {ad sa : Nat → Nat} {z0 : Nat} {h : mH} (fx : FX n ad sa z0 h) {t k i : Nat} (ik : i = k) (k6 : k ≤ 6) {d0 : UInt64} {o6 o7 o8 o9 o10 o11 : Option Value} 
    (C1 : EV (d) 134 [.double d0] h (fun v_ h_ => WR (d) cd_133 115 [some (.ref (ad 4)), some (.int (nI k)), some (.ref (ad (100 + 5 * t))), some (.double d0), none, some (.int (nI i)), o6, o7, o8, o9, o10, o11] (v_.toList ++ []) h_ Q)) : WR (d) cd_133 12 [some (.ref (ad 4)), some (.int (nI k)), some (.ref (ad (100 + 5 * t))), some (.double d0), none, some (.int (nI i)), o6, o7, o8, o9, o10, o11] [] h Q := by
  have fx0 := fx
  refine r_iload rfl rfl ?_
  refine r_iload rfl rfl ?_
  refine r_icmp_ge (tg := 111) rfl rfl (fun _ => ?_) (fun q => False.elim (by have : (nI i).toInt = ((i : Nat) : Int) := nI_toInt (by omega); have : (nI k).toInt = ((k : Nat) : Int) := nI_toInt (by omega); have := i_nle q; omega))
  refine r_dload rfl rfl ?_
  refine r_cs (y := 134) (ra := [.double d0]) (rest := []) rfl ⟨⟨rfl, rfl⟩, by decide⟩ rfl rfl (Nat.le_of_ble_eq_true rfl) ?_
  exact (C1)

set_option maxHeartbeats 2000000 in
theorem w_wkr {d : Nat} {Q : mQ} {n : Nat} {ad sa : Nat → Nat} {z0 : Nat} {h : mH} (fx : FX n ad sa z0 h) {t : Nat} {d0 r : UInt64} {o1 o5 o6 o7 o8 o9 o10 o11 : Option Value} 
    (L1 : ¬ dgt r 4607182418800017408 → Q (some (.double r)) h)
    (L2 : dgt r 4607182418800017408 → Q (some (.double 4607182418800017408)) h) : WR (d) cd_133 115 [some (.ref (ad 4)), o1, some (.ref (ad (100 + 5 * t))), some (.double d0), none, o5, o6, o7, o8, o9, o10, o11] [.double r] h Q := by
  have fx0 := fx
  refine r_dstore (lv' := [some (.ref (ad 4)), o1, some (.ref (ad (100 + 5 * t))), some (.double d0), none, some (.double r), none, o7, o8, o9, o10, o11]) rfl (Nat.le_of_ble_eq_true rfl) rfl ?_
  refine r_dload rfl rfl ?_
  refine r_dc (x := 4607182418800017408) rfl rfl ?_
  refine r_dlif_le (tg := 128) rfl rfl rfl (fun c1 => ?_) (fun c1 => ?_)
  · refine r_dload rfl rfl ?_
    refine r_dret rfl ?_
    exact (L1 c1)
  · refine r_dc (x := 4607182418800017408) rfl rfl ?_
    refine r_goto (tg := 130) rfl rfl ?_
    refine r_dret rfl ?_
    exact (L2 c1)

set_option maxHeartbeats 2000000 in
theorem w_mw0 {d : Nat} {Q : mQ} {n : Nat} {ad sa : Nat → Nat} {z0 : Nat} {h : mH} (fx : FX n ad sa z0 h) {t k : Nat} (t6 : t < 6) {v : UInt64} (ev : hD h (ad 72) t = v) 
    (K1 : deq v v → WR (d) cd_237 21 [some (.ref (ad 30)), some (.int (nI k)), some (.int (nI t)), some (.double v), none, some (.double 0), none, some (.int 0), none, none, none, none, none, none, none] [] h Q)
    (L1 : ¬ deq v v → Q (some (.double 0)) h) : EV (d + 1) 237 [.ref (ad 30), .int (nI k), .int (nI t)] h Q := by
  have fx0 := fx
  refine in_237 (Nat.le_of_ble_eq_true rfl) ?_
  show WR _ cd_237 0 [some (.ref (ad 30)), some (.int (nI k)), some (.int (nI t)), none, none, none, none, none, none, none, none, none, none, none, none] [] h _
  refine r_aload rfl rfl ?_
  refine r_getA (b := ad 72) rfl ⟨rfl, rfl, rfl⟩ (fx_t30 fx) (fx_r30_59 fx) ?_
  refine r_iload rfl rfl ?_
  refine r_daload rfl (fx_t72 fx) (vp_ct (fx_n72 fx) (vp_in_nI (by omega) (by omega))) ?_
  refine WR_tD (congrArg (hD h (ad 72)) ((nI_clamp (by omega)) : _ = t)) ?_
  refine WR_tD (y := v) ev ?_
  refine r_dstore (lv' := [some (.ref (ad 30)), some (.int (nI k)), some (.int (nI t)), some (.double v), none, none, none, none, none, none, none, none, none, none, none]) rfl (Nat.le_of_ble_eq_true rfl) rfl ?_
  refine r_dload rfl rfl ?_
  refine r_dload rfl rfl ?_
  refine r_dlif_eq (tg := 15) rfl rfl rfl (fun c1 => ?_) (fun c1 => ?_)
  · refine r_dc (x := 0) rfl rfl ?_
    refine r_dstore (lv' := [some (.ref (ad 30)), some (.int (nI k)), some (.int (nI t)), some (.double v), none, some (.double 0), none, none, none, none, none, none, none, none, none]) rfl (Nat.le_of_ble_eq_true rfl) rfl ?_
    refine r_ic (x := 0) rfl rfl ?_
    refine r_istore (lv' := [some (.ref (ad 30)), some (.int (nI k)), some (.int (nI t)), some (.double v), none, some (.double 0), none, some (.int 0), none, none, none, none, none, none, none]) rfl (Nat.le_of_ble_eq_true rfl) rfl ?_
    exact (K1 c1)
  · refine r_dc (x := 0) rfl rfl ?_
    refine r_dret rfl ?_
    exact (L1 c1)

set_option maxHeartbeats 2000000 in
theorem w_mwi {d : Nat} {Q : mQ} {n : Nat} {ad sa : Nat → Nat} {z0 : Nat} {h : mH} (fx : FX n ad sa z0 h) {t k : Nat} (t6 : t < 6) {i u : Nat} (u6 : u < 6) (k6 : k ≤ 6) (ik : i < k) {v d0 : UInt64} (eu : hI h (ad 75) i = nI u) {o8 o9 o10 o11 o12 o13 o14 : Option Value} 
    (C1 : EV (d) 232 [.ref (ad 30), .int (nI t)] h (fun v_ h_ => WR (d) cd_237 41 [some (.ref (ad 30)), some (.int (nI k)), some (.int (nI t)), some (.double v), none, some (.double d0), none, some (.int (nI i)), some (.int (nI u)), o9, o10, o11, o12, o13, o14] (v_.toList ++ []) h_ Q)) : WR (d) cd_237 21 [some (.ref (ad 30)), some (.int (nI k)), some (.int (nI t)), some (.double v), none, some (.double d0), none, some (.int (nI i)), o8, o9, o10, o11, o12, o13, o14] [] h Q := by
  have fx0 := fx
  refine r_iload rfl rfl ?_
  refine r_iload rfl rfl ?_
  refine r_icmp_ge (tg := 144) rfl rfl (fun q => False.elim (by have : (nI i).toInt = ((i : Nat) : Int) := nI_toInt (by omega); have : (nI k).toInt = ((k : Nat) : Int) := nI_toInt (by omega); have := i_le q; omega)) (fun _ => ?_)
  refine r_aload rfl rfl ?_
  refine r_getA (b := ad 75) rfl ⟨rfl, rfl, rfl⟩ (fx_t30 fx) (fx_r30_67 fx) ?_
  refine r_iload rfl rfl ?_
  refine r_iaload rfl (.inl (fx_t75 fx)) (vp_ct (fx_n75 fx) (vp_in_nI (by omega) (by omega))) ?_
  refine WR_tI (congrArg (hI h (ad 75)) ((nI_clamp (by omega)) : _ = i)) ?_
  refine WR_tI (y := nI u) eu ?_
  refine r_istore (lv' := [some (.ref (ad 30)), some (.int (nI k)), some (.int (nI t)), some (.double v), none, some (.double d0), none, some (.int (nI i)), some (.int (nI u)), o9, o10, o11, o12, o13, o14]) rfl (Nat.le_of_ble_eq_true rfl) rfl ?_
  refine r_aload rfl rfl ?_
  refine r_iload rfl rfl ?_
  refine r_cv (y := 232) (ra := [.int (nI t)]) (rest := []) rfl ⟨⟨rfl, rfl⟩, rfl, by decide⟩ (fx_t30 fx) rfl rfl (Nat.le_of_ble_eq_true rfl) ?_
  exact (C1)

set_option maxHeartbeats 2000000 in
theorem w_mwj {d : Nat} {Q : mQ} {n : Nat} {ad sa : Nat → Nat} {z0 : Nat} {h : mH} (fx : FX n ad sa z0 h) {t k i u : Nat} {v d0 : UInt64} {a : Int32} {o9 o10 o11 o12 o13 o14 : Option Value} 
    (C1 : EV (d) 232 [.ref (ad 30), .int (nI u)] h (fun v_ h_ => WR (d) cd_237 47 [some (.ref (ad 30)), some (.int (nI k)), some (.int (nI t)), some (.double v), none, some (.double d0), none, some (.int (nI i)), some (.int (nI u)), o9, o10, o11, o12, o13, o14] (v_.toList ++ [.int a]) h_ Q)) : WR (d) cd_237 41 [some (.ref (ad 30)), some (.int (nI k)), some (.int (nI t)), some (.double v), none, some (.double d0), none, some (.int (nI i)), some (.int (nI u)), o9, o10, o11, o12, o13, o14] [.int a] h Q := by
  have fx0 := fx
  refine r_aload rfl rfl ?_
  refine r_iload rfl rfl ?_
  refine r_cv (y := 232) (ra := [.int (nI u)]) (rest := [.int a]) rfl ⟨⟨rfl, rfl⟩, rfl, by decide⟩ (fx_t30 fx) rfl rfl (Nat.le_of_ble_eq_true rfl) ?_
  exact (C1)

set_option maxHeartbeats 2000000 in
theorem w_mwk {d : Nat} {Q : mQ} {n : Nat} {ad sa : Nat → Nat} {z0 : Nat} {h : mH} (fx : FX n ad sa z0 h) {t k i u : Nat} {v d0 : UInt64} {a b : Int32} {o9 o10 o11 o12 o13 o14 : Option Value} 
    (C1 : EV (d) 238 [.ref (ad 30), .int (nI t)] h (fun v_ h_ => WR (d) cd_237 55 [some (.ref (ad 30)), some (.int (nI k)), some (.int (nI t)), some (.double v), none, some (.double d0), none, some (.int (nI i)), some (.int (nI u)), some (.int (a - b)), o10, o11, o12, o13, o14] (v_.toList ++ []) h_ Q)) : WR (d) cd_237 47 [some (.ref (ad 30)), some (.int (nI k)), some (.int (nI t)), some (.double v), none, some (.double d0), none, some (.int (nI i)), some (.int (nI u)), o9, o10, o11, o12, o13, o14] [.int b, .int a] h Q := by
  have fx0 := fx
  refine r_isub rfl ?_
  refine r_istore (lv' := [some (.ref (ad 30)), some (.int (nI k)), some (.int (nI t)), some (.double v), none, some (.double d0), none, some (.int (nI i)), some (.int (nI u)), some (.int (a - b)), o10, o11, o12, o13, o14]) rfl (Nat.le_of_ble_eq_true rfl) rfl ?_
  refine r_aload rfl rfl ?_
  refine r_iload rfl rfl ?_
  refine r_cv (y := 238) (ra := [.int (nI t)]) (rest := []) rfl ⟨⟨rfl, rfl⟩, rfl, by decide⟩ (fx_t30 fx) rfl rfl (Nat.le_of_ble_eq_true rfl) ?_
  exact (C1)

set_option maxHeartbeats 2000000 in
theorem w_mwl {d : Nat} {Q : mQ} {n : Nat} {ad sa : Nat → Nat} {z0 : Nat} {h : mH} (fx : FX n ad sa z0 h) {t k i u : Nat} {v d0 : UInt64} {p a : Int32} {o10 o11 o12 o13 o14 : Option Value} 
    (C1 : EV (d) 238 [.ref (ad 30), .int (nI u)] h (fun v_ h_ => WR (d) cd_237 61 [some (.ref (ad 30)), some (.int (nI k)), some (.int (nI t)), some (.double v), none, some (.double d0), none, some (.int (nI i)), some (.int (nI u)), some (.int p), o10, o11, o12, o13, o14] (v_.toList ++ [.int a]) h_ Q)) : WR (d) cd_237 55 [some (.ref (ad 30)), some (.int (nI k)), some (.int (nI t)), some (.double v), none, some (.double d0), none, some (.int (nI i)), some (.int (nI u)), some (.int p), o10, o11, o12, o13, o14] [.int a] h Q := by
  have fx0 := fx
  refine r_aload rfl rfl ?_
  refine r_iload rfl rfl ?_
  refine r_cv (y := 238) (ra := [.int (nI u)]) (rest := [.int a]) rfl ⟨⟨rfl, rfl⟩, rfl, by decide⟩ (fx_t30 fx) rfl rfl (Nat.le_of_ble_eq_true rfl) ?_
  exact (C1)

set_option maxHeartbeats 2000000 in
theorem w_mwm {d : Nat} {Q : mQ} {n : Nat} {ad sa : Nat → Nat} {z0 : Nat} {h : mH} (fx : FX n ad sa z0 h) {t k i u : Nat} {v d0 : UInt64} (u6 : u < 6) (i6 : i < 6) {p a b su : Int32} (es : hI h (ad 66) u = su) {o10 o11 o12 o13 o14 : Option Value} 
    (K1 : 0 ≤ (a - b) → ¬ su = 2 → WR (d) cd_237 21 [some (.ref (ad 30)), some (.int (nI k)), some (.int (nI t)), some (.double v), none, some (.double d0), none, some (.int (nI (i + 1))), some (.int (nI u)), some (.int p), some (.int (a - b)), o11, o12, o13, o14] [] h Q)
    (K2 : 0 ≤ (a - b) → su = 2 → p ≤ 0 → WR (d) cd_237 21 [some (.ref (ad 30)), some (.int (nI k)), some (.int (nI t)), some (.double v), none, some (.double d0), none, some (.int (nI (i + 1))), some (.int (nI u)), some (.int p), some (.int (a - b)), o11, o12, o13, o14] [] h Q)
    (K3 : 0 ≤ (a - b) → su = 2 → ¬ p ≤ 0 → (3 + (p / 4)) < (a - b) → WR (d) cd_237 21 [some (.ref (ad 30)), some (.int (nI k)), some (.int (nI t)), some (.double v), none, some (.double d0), none, some (.int (nI (i + 1))), some (.int (nI u)), some (.int p), some (.int (a - b)), o11, o12, o13, o14] [] h Q)
    (B1 : 0 ≤ (a - b) → su = 2 → ¬ p ≤ 0 → ¬ (3 + (p / 4)) < (a - b) → vf_n64 (FP.dmul (FP.i2d p) 4591870180066957722))
    (B2 : 0 ≤ (a - b) → su = 2 → ¬ p ≤ 0 → ¬ (3 + (p / 4)) < (a - b) → vf_n64 (FP.dadd 4607182418800017408 (FP.dmul (FP.i2d p) 4591870180066957722)))
    (B3 : 0 ≤ (a - b) → su = 2 → ¬ p ≤ 0 → ¬ (3 + (p / 4)) < (a - b) → vf_n64 (FP.dmul (FP.dadd 4607182418800017408 (FP.dmul (FP.i2d p) 4591870180066957722)) (FP.dadd 4607182418800017408 (FP.dmul (FP.i2d p) 4591870180066957722))))
    (B4 : 0 ≤ (a - b) → su = 2 → ¬ p ≤ 0 → ¬ (3 + (p / 4)) < (a - b) → vf_n64 (FP.ddiv 4603579539098121011 (FP.dmul (FP.dadd 4607182418800017408 (FP.dmul (FP.i2d p) 4591870180066957722)) (FP.dadd 4607182418800017408 (FP.dmul (FP.i2d p) 4591870180066957722)))))
    (B5 : 0 ≤ (a - b) → su = 2 → ¬ p ≤ 0 → ¬ (3 + (p / 4)) < (a - b) → vf_n64 (FP.dmul (FP.ddiv 4603579539098121011 (FP.dmul (FP.dadd 4607182418800017408 (FP.dmul (FP.i2d p) 4591870180066957722)) (FP.dadd 4607182418800017408 (FP.dmul (FP.i2d p) 4591870180066957722)))) (FP.ddiv 4603579539098121011 (FP.dmul (FP.dadd 4607182418800017408 (FP.dmul (FP.i2d p) 4591870180066957722)) (FP.dadd 4607182418800017408 (FP.dmul (FP.i2d p) 4591870180066957722))))))
    (B6 : 0 ≤ (a - b) → su = 2 → ¬ p ≤ 0 → ¬ (3 + (p / 4)) < (a - b) → vf_n64 (FP.dadd d0 (FP.dmul (FP.ddiv 4603579539098121011 (FP.dmul (FP.dadd 4607182418800017408 (FP.dmul (FP.i2d p) 4591870180066957722)) (FP.dadd 4607182418800017408 (FP.dmul (FP.i2d p) 4591870180066957722)))) (FP.ddiv 4603579539098121011 (FP.dmul (FP.dadd 4607182418800017408 (FP.dmul (FP.i2d p) 4591870180066957722)) (FP.dadd 4607182418800017408 (FP.dmul (FP.i2d p) 4591870180066957722)))))))
    (K4 : 0 ≤ (a - b) → su = 2 → ¬ p ≤ 0 → ¬ (3 + (p / 4)) < (a - b) → WR (d) cd_237 21 [some (.ref (ad 30)), some (.int (nI k)), some (.int (nI t)), some (.double v), none, some (.double (FP.dadd d0 (FP.dmul (FP.ddiv 4603579539098121011 (FP.dmul (FP.dadd 4607182418800017408 (FP.dmul (FP.i2d p) 4591870180066957722)) (FP.dadd 4607182418800017408 (FP.dmul (FP.i2d p) 4591870180066957722)))) (FP.ddiv 4603579539098121011 (FP.dmul (FP.dadd 4607182418800017408 (FP.dmul (FP.i2d p) 4591870180066957722)) (FP.dadd 4607182418800017408 (FP.dmul (FP.i2d p) 4591870180066957722))))))), none, some (.int (nI (i + 1))), some (.int (nI u)), some (.int p), some (.int (a - b)), some (.double (FP.dadd 4607182418800017408 (FP.dmul (FP.i2d p) 4591870180066957722))), none, some (.double (FP.ddiv 4603579539098121011 (FP.dmul (FP.dadd 4607182418800017408 (FP.dmul (FP.i2d p) 4591870180066957722)) (FP.dadd 4607182418800017408 (FP.dmul (FP.i2d p) 4591870180066957722))))), none] [] h Q)
    (K5 : ¬ 0 ≤ (a - b) → ¬ su = 2 → WR (d) cd_237 21 [some (.ref (ad 30)), some (.int (nI k)), some (.int (nI t)), some (.double v), none, some (.double d0), none, some (.int (nI (i + 1))), some (.int (nI u)), some (.int p), some (.int (-(a - b))), o11, o12, o13, o14] [] h Q)
    (K6 : ¬ 0 ≤ (a - b) → su = 2 → p ≤ 0 → WR (d) cd_237 21 [some (.ref (ad 30)), some (.int (nI k)), some (.int (nI t)), some (.double v), none, some (.double d0), none, some (.int (nI (i + 1))), some (.int (nI u)), some (.int p), some (.int (-(a - b))), o11, o12, o13, o14] [] h Q)
    (K7 : ¬ 0 ≤ (a - b) → su = 2 → ¬ p ≤ 0 → (3 + (p / 4)) < (-(a - b)) → WR (d) cd_237 21 [some (.ref (ad 30)), some (.int (nI k)), some (.int (nI t)), some (.double v), none, some (.double d0), none, some (.int (nI (i + 1))), some (.int (nI u)), some (.int p), some (.int (-(a - b))), o11, o12, o13, o14] [] h Q)
    (B7 : ¬ 0 ≤ (a - b) → su = 2 → ¬ p ≤ 0 → ¬ (3 + (p / 4)) < (-(a - b)) → vf_n64 (FP.dmul (FP.i2d p) 4591870180066957722))
    (B8 : ¬ 0 ≤ (a - b) → su = 2 → ¬ p ≤ 0 → ¬ (3 + (p / 4)) < (-(a - b)) → vf_n64 (FP.dadd 4607182418800017408 (FP.dmul (FP.i2d p) 4591870180066957722)))
    (B9 : ¬ 0 ≤ (a - b) → su = 2 → ¬ p ≤ 0 → ¬ (3 + (p / 4)) < (-(a - b)) → vf_n64 (FP.dmul (FP.dadd 4607182418800017408 (FP.dmul (FP.i2d p) 4591870180066957722)) (FP.dadd 4607182418800017408 (FP.dmul (FP.i2d p) 4591870180066957722))))
    (B10 : ¬ 0 ≤ (a - b) → su = 2 → ¬ p ≤ 0 → ¬ (3 + (p / 4)) < (-(a - b)) → vf_n64 (FP.ddiv 4603579539098121011 (FP.dmul (FP.dadd 4607182418800017408 (FP.dmul (FP.i2d p) 4591870180066957722)) (FP.dadd 4607182418800017408 (FP.dmul (FP.i2d p) 4591870180066957722)))))
    (B11 : ¬ 0 ≤ (a - b) → su = 2 → ¬ p ≤ 0 → ¬ (3 + (p / 4)) < (-(a - b)) → vf_n64 (FP.dmul (FP.ddiv 4603579539098121011 (FP.dmul (FP.dadd 4607182418800017408 (FP.dmul (FP.i2d p) 4591870180066957722)) (FP.dadd 4607182418800017408 (FP.dmul (FP.i2d p) 4591870180066957722)))) (FP.ddiv 4603579539098121011 (FP.dmul (FP.dadd 4607182418800017408 (FP.dmul (FP.i2d p) 4591870180066957722)) (FP.dadd 4607182418800017408 (FP.dmul (FP.i2d p) 4591870180066957722))))))
    (B12 : ¬ 0 ≤ (a - b) → su = 2 → ¬ p ≤ 0 → ¬ (3 + (p / 4)) < (-(a - b)) → vf_n64 (FP.dadd d0 (FP.dmul (FP.ddiv 4603579539098121011 (FP.dmul (FP.dadd 4607182418800017408 (FP.dmul (FP.i2d p) 4591870180066957722)) (FP.dadd 4607182418800017408 (FP.dmul (FP.i2d p) 4591870180066957722)))) (FP.ddiv 4603579539098121011 (FP.dmul (FP.dadd 4607182418800017408 (FP.dmul (FP.i2d p) 4591870180066957722)) (FP.dadd 4607182418800017408 (FP.dmul (FP.i2d p) 4591870180066957722)))))))
    (K8 : ¬ 0 ≤ (a - b) → su = 2 → ¬ p ≤ 0 → ¬ (3 + (p / 4)) < (-(a - b)) → WR (d) cd_237 21 [some (.ref (ad 30)), some (.int (nI k)), some (.int (nI t)), some (.double v), none, some (.double (FP.dadd d0 (FP.dmul (FP.ddiv 4603579539098121011 (FP.dmul (FP.dadd 4607182418800017408 (FP.dmul (FP.i2d p) 4591870180066957722)) (FP.dadd 4607182418800017408 (FP.dmul (FP.i2d p) 4591870180066957722)))) (FP.ddiv 4603579539098121011 (FP.dmul (FP.dadd 4607182418800017408 (FP.dmul (FP.i2d p) 4591870180066957722)) (FP.dadd 4607182418800017408 (FP.dmul (FP.i2d p) 4591870180066957722))))))), none, some (.int (nI (i + 1))), some (.int (nI u)), some (.int p), some (.int (-(a - b))), some (.double (FP.dadd 4607182418800017408 (FP.dmul (FP.i2d p) 4591870180066957722))), none, some (.double (FP.ddiv 4603579539098121011 (FP.dmul (FP.dadd 4607182418800017408 (FP.dmul (FP.i2d p) 4591870180066957722)) (FP.dadd 4607182418800017408 (FP.dmul (FP.i2d p) 4591870180066957722))))), none] [] h Q) : WR (d) cd_237 61 [some (.ref (ad 30)), some (.int (nI k)), some (.int (nI t)), some (.double v), none, some (.double d0), none, some (.int (nI i)), some (.int (nI u)), some (.int p), o10, o11, o12, o13, o14] [.int b, .int a] h Q := by
  have fx0 := fx
  refine r_isub rfl ?_
  refine r_istore (lv' := [some (.ref (ad 30)), some (.int (nI k)), some (.int (nI t)), some (.double v), none, some (.double d0), none, some (.int (nI i)), some (.int (nI u)), some (.int p), some (.int (a - b)), o11, o12, o13, o14]) rfl (Nat.le_of_ble_eq_true rfl) rfl ?_
  refine r_iload rfl rfl ?_
  refine r_if_ge (tg := 75) rfl rfl (fun c1 => ?_) (fun c1 => ?_)
  · refine r_iload rfl rfl ?_
    refine r_istore (lv' := [some (.ref (ad 30)), some (.int (nI k)), some (.int (nI t)), some (.double v), none, some (.double d0), none, some (.int (nI i)), some (.int (nI u)), some (.int p), some (.int (a - b)), o11, o12, o13, o14]) rfl (Nat.le_of_ble_eq_true rfl) rfl ?_
    refine r_aload rfl rfl ?_
    refine r_getA (b := ad 66) rfl ⟨rfl, rfl, rfl⟩ (fx_t30 fx) (fx_r30_53 fx) ?_
    refine r_iload rfl rfl ?_
    refine r_iaload rfl (.inl (fx_t66 fx)) (vp_ct (fx_n66 fx) (vp_in_nI (by omega) (by omega))) ?_
    refine WR_tI (congrArg (hI h (ad 66)) ((nI_clamp (by omega)) : _ = u)) ?_
    refine WR_tI (y := su) es ?_
    refine r_ic (x := 2) rfl rfl ?_
    refine r_icmp_ne (tg := 138) rfl rfl (fun c2 => ?_) (fun c2 => ?_)
    · refine r_iinc (y := nI (i + 1)) (lv' := [some (.ref (ad 30)), some (.int (nI k)), some (.int (nI t)), some (.double v), none, some (.double d0), none, some (.int (nI (i + 1))), some (.int (nI u)), some (.int p), some (.int (a - b)), o11, o12, o13, o14]) rfl rfl (nI_1 _) rfl ?_
      refine r_goto (tg := 21) rfl rfl ?_
      exact (K1 c1 c2)
    · refine r_iload rfl rfl ?_
      refine r_if_le (tg := 138) rfl rfl (fun c3 => ?_) (fun c3 => ?_)
      · refine r_iinc (y := nI (i + 1)) (lv' := [some (.ref (ad 30)), some (.int (nI k)), some (.int (nI t)), some (.double v), none, some (.double d0), none, some (.int (nI (i + 1))), some (.int (nI u)), some (.int p), some (.int (a - b)), o11, o12, o13, o14]) rfl rfl (nI_1 _) rfl ?_
        refine r_goto (tg := 21) rfl rfl ?_
        exact (K2 c1 c2 c3)
      · refine r_iload rfl rfl ?_
        refine r_ic (x := 3) rfl rfl ?_
        refine r_iload rfl rfl ?_
        refine r_ic (x := 4) rfl rfl ?_
        refine r_idiv rfl (by decide) ?_
        refine r_iadd rfl ?_
        refine r_icmp_gt (tg := 138) rfl rfl (fun c4 => ?_) (fun c4 => ?_)
        · refine r_iinc (y := nI (i + 1)) (lv' := [some (.ref (ad 30)), some (.int (nI k)), some (.int (nI t)), some (.double v), none, some (.double d0), none, some (.int (nI (i + 1))), some (.int (nI u)), some (.int p), some (.int (a - b)), o11, o12, o13, o14]) rfl rfl (nI_1 _) rfl ?_
          refine r_goto (tg := 21) rfl rfl ?_
          exact (K3 c1 c2 c3 c4)
        · refine r_dc (x := 4607182418800017408) rfl rfl ?_
          refine r_iload rfl rfl ?_
          refine r_i2d rfl ?_
          refine r_ldc (x := .double 4591870180066957722) rfl rfl ?_
          refine r_dmul rfl (B1 c1 c2 c3 c4) ?_
          refine r_dadd rfl (B2 c1 c2 c3 c4) ?_
          refine r_dstore (lv' := [some (.ref (ad 30)), some (.int (nI k)), some (.int (nI t)), some (.double v), none, some (.double d0), none, some (.int (nI i)), some (.int (nI u)), some (.int p), some (.int (a - b)), some (.double (FP.dadd 4607182418800017408 (FP.dmul (FP.i2d p) 4591870180066957722))), none, o13, o14]) rfl (Nat.le_of_ble_eq_true rfl) rfl ?_
          refine r_ldc (x := .double 4603579539098121011) rfl rfl ?_
          refine r_dload rfl rfl ?_
          refine r_dload rfl rfl ?_
          refine r_dmul rfl (B3 c1 c2 c3 c4) ?_
          refine r_ddiv rfl (B4 c1 c2 c3 c4) ?_
          refine r_dstore (lv' := [some (.ref (ad 30)), some (.int (nI k)), some (.int (nI t)), some (.double v), none, some (.double d0), none, some (.int (nI i)), some (.int (nI u)), some (.int p), some (.int (a - b)), some (.double (FP.dadd 4607182418800017408 (FP.dmul (FP.i2d p) 4591870180066957722))), none, some (.double (FP.ddiv 4603579539098121011 (FP.dmul (FP.dadd 4607182418800017408 (FP.dmul (FP.i2d p) 4591870180066957722)) (FP.dadd 4607182418800017408 (FP.dmul (FP.i2d p) 4591870180066957722))))), none]) rfl (Nat.le_of_ble_eq_true rfl) rfl ?_
          refine r_dload rfl rfl ?_
          refine r_dload rfl rfl ?_
          refine r_dload rfl rfl ?_
          refine r_dmul rfl (B5 c1 c2 c3 c4) ?_
          refine r_dadd rfl (B6 c1 c2 c3 c4) ?_
          refine r_dstore (lv' := [some (.ref (ad 30)), some (.int (nI k)), some (.int (nI t)), some (.double v), none, some (.double (FP.dadd d0 (FP.dmul (FP.ddiv 4603579539098121011 (FP.dmul (FP.dadd 4607182418800017408 (FP.dmul (FP.i2d p) 4591870180066957722)) (FP.dadd 4607182418800017408 (FP.dmul (FP.i2d p) 4591870180066957722)))) (FP.ddiv 4603579539098121011 (FP.dmul (FP.dadd 4607182418800017408 (FP.dmul (FP.i2d p) 4591870180066957722)) (FP.dadd 4607182418800017408 (FP.dmul (FP.i2d p) 4591870180066957722))))))), none, some (.int (nI i)), some (.int (nI u)), some (.int p), some (.int (a - b)), some (.double (FP.dadd 4607182418800017408 (FP.dmul (FP.i2d p) 4591870180066957722))), none, some (.double (FP.ddiv 4603579539098121011 (FP.dmul (FP.dadd 4607182418800017408 (FP.dmul (FP.i2d p) 4591870180066957722)) (FP.dadd 4607182418800017408 (FP.dmul (FP.i2d p) 4591870180066957722))))), none]) rfl (Nat.le_of_ble_eq_true rfl) rfl ?_
          refine r_iinc (y := nI (i + 1)) (lv' := [some (.ref (ad 30)), some (.int (nI k)), some (.int (nI t)), some (.double v), none, some (.double (FP.dadd d0 (FP.dmul (FP.ddiv 4603579539098121011 (FP.dmul (FP.dadd 4607182418800017408 (FP.dmul (FP.i2d p) 4591870180066957722)) (FP.dadd 4607182418800017408 (FP.dmul (FP.i2d p) 4591870180066957722)))) (FP.ddiv 4603579539098121011 (FP.dmul (FP.dadd 4607182418800017408 (FP.dmul (FP.i2d p) 4591870180066957722)) (FP.dadd 4607182418800017408 (FP.dmul (FP.i2d p) 4591870180066957722))))))), none, some (.int (nI (i + 1))), some (.int (nI u)), some (.int p), some (.int (a - b)), some (.double (FP.dadd 4607182418800017408 (FP.dmul (FP.i2d p) 4591870180066957722))), none, some (.double (FP.ddiv 4603579539098121011 (FP.dmul (FP.dadd 4607182418800017408 (FP.dmul (FP.i2d p) 4591870180066957722)) (FP.dadd 4607182418800017408 (FP.dmul (FP.i2d p) 4591870180066957722))))), none]) rfl rfl (nI_1 _) rfl ?_
          refine r_goto (tg := 21) rfl rfl ?_
          exact (K4 c1 c2 c3 c4)
  · refine r_iload rfl rfl ?_
    refine r_ineg rfl ?_
    refine r_goto (tg := 77) rfl rfl ?_
    refine r_istore (lv' := [some (.ref (ad 30)), some (.int (nI k)), some (.int (nI t)), some (.double v), none, some (.double d0), none, some (.int (nI i)), some (.int (nI u)), some (.int p), some (.int (-(a - b))), o11, o12, o13, o14]) rfl (Nat.le_of_ble_eq_true rfl) rfl ?_
    refine r_aload rfl rfl ?_
    refine r_getA (b := ad 66) rfl ⟨rfl, rfl, rfl⟩ (fx_t30 fx) (fx_r30_53 fx) ?_
    refine r_iload rfl rfl ?_
    refine r_iaload rfl (.inl (fx_t66 fx)) (vp_ct (fx_n66 fx) (vp_in_nI (by omega) (by omega))) ?_
    refine WR_tI (congrArg (hI h (ad 66)) ((nI_clamp (by omega)) : _ = u)) ?_
    refine WR_tI (y := su) es ?_
    refine r_ic (x := 2) rfl rfl ?_
    refine r_icmp_ne (tg := 138) rfl rfl (fun c5 => ?_) (fun c5 => ?_)
    · refine r_iinc (y := nI (i + 1)) (lv' := [some (.ref (ad 30)), some (.int (nI k)), some (.int (nI t)), some (.double v), none, some (.double d0), none, some (.int (nI (i + 1))), some (.int (nI u)), some (.int p), some (.int (-(a - b))), o11, o12, o13, o14]) rfl rfl (nI_1 _) rfl ?_
      refine r_goto (tg := 21) rfl rfl ?_
      exact (K5 c1 c5)
    · refine r_iload rfl rfl ?_
      refine r_if_le (tg := 138) rfl rfl (fun c6 => ?_) (fun c6 => ?_)
      · refine r_iinc (y := nI (i + 1)) (lv' := [some (.ref (ad 30)), some (.int (nI k)), some (.int (nI t)), some (.double v), none, some (.double d0), none, some (.int (nI (i + 1))), some (.int (nI u)), some (.int p), some (.int (-(a - b))), o11, o12, o13, o14]) rfl rfl (nI_1 _) rfl ?_
        refine r_goto (tg := 21) rfl rfl ?_
        exact (K6 c1 c5 c6)
      · refine r_iload rfl rfl ?_
        refine r_ic (x := 3) rfl rfl ?_
        refine r_iload rfl rfl ?_
        refine r_ic (x := 4) rfl rfl ?_
        refine r_idiv rfl (by decide) ?_
        refine r_iadd rfl ?_
        refine r_icmp_gt (tg := 138) rfl rfl (fun c7 => ?_) (fun c7 => ?_)
        · refine r_iinc (y := nI (i + 1)) (lv' := [some (.ref (ad 30)), some (.int (nI k)), some (.int (nI t)), some (.double v), none, some (.double d0), none, some (.int (nI (i + 1))), some (.int (nI u)), some (.int p), some (.int (-(a - b))), o11, o12, o13, o14]) rfl rfl (nI_1 _) rfl ?_
          refine r_goto (tg := 21) rfl rfl ?_
          exact (K7 c1 c5 c6 c7)
        · refine r_dc (x := 4607182418800017408) rfl rfl ?_
          refine r_iload rfl rfl ?_
          refine r_i2d rfl ?_
          refine r_ldc (x := .double 4591870180066957722) rfl rfl ?_
          refine r_dmul rfl (B7 c1 c5 c6 c7) ?_
          refine r_dadd rfl (B8 c1 c5 c6 c7) ?_
          refine r_dstore (lv' := [some (.ref (ad 30)), some (.int (nI k)), some (.int (nI t)), some (.double v), none, some (.double d0), none, some (.int (nI i)), some (.int (nI u)), some (.int p), some (.int (-(a - b))), some (.double (FP.dadd 4607182418800017408 (FP.dmul (FP.i2d p) 4591870180066957722))), none, o13, o14]) rfl (Nat.le_of_ble_eq_true rfl) rfl ?_
          refine r_ldc (x := .double 4603579539098121011) rfl rfl ?_
          refine r_dload rfl rfl ?_
          refine r_dload rfl rfl ?_
          refine r_dmul rfl (B9 c1 c5 c6 c7) ?_
          refine r_ddiv rfl (B10 c1 c5 c6 c7) ?_
          refine r_dstore (lv' := [some (.ref (ad 30)), some (.int (nI k)), some (.int (nI t)), some (.double v), none, some (.double d0), none, some (.int (nI i)), some (.int (nI u)), some (.int p), some (.int (-(a - b))), some (.double (FP.dadd 4607182418800017408 (FP.dmul (FP.i2d p) 4591870180066957722))), none, some (.double (FP.ddiv 4603579539098121011 (FP.dmul (FP.dadd 4607182418800017408 (FP.dmul (FP.i2d p) 4591870180066957722)) (FP.dadd 4607182418800017408 (FP.dmul (FP.i2d p) 4591870180066957722))))), none]) rfl (Nat.le_of_ble_eq_true rfl) rfl ?_
          refine r_dload rfl rfl ?_
          refine r_dload rfl rfl ?_
          refine r_dload rfl rfl ?_
          refine r_dmul rfl (B11 c1 c5 c6 c7) ?_
          refine r_dadd rfl (B12 c1 c5 c6 c7) ?_
          refine r_dstore (lv' := [some (.ref (ad 30)), some (.int (nI k)), some (.int (nI t)), some (.double v), none, some (.double (FP.dadd d0 (FP.dmul (FP.ddiv 4603579539098121011 (FP.dmul (FP.dadd 4607182418800017408 (FP.dmul (FP.i2d p) 4591870180066957722)) (FP.dadd 4607182418800017408 (FP.dmul (FP.i2d p) 4591870180066957722)))) (FP.ddiv 4603579539098121011 (FP.dmul (FP.dadd 4607182418800017408 (FP.dmul (FP.i2d p) 4591870180066957722)) (FP.dadd 4607182418800017408 (FP.dmul (FP.i2d p) 4591870180066957722))))))), none, some (.int (nI i)), some (.int (nI u)), some (.int p), some (.int (-(a - b))), some (.double (FP.dadd 4607182418800017408 (FP.dmul (FP.i2d p) 4591870180066957722))), none, some (.double (FP.ddiv 4603579539098121011 (FP.dmul (FP.dadd 4607182418800017408 (FP.dmul (FP.i2d p) 4591870180066957722)) (FP.dadd 4607182418800017408 (FP.dmul (FP.i2d p) 4591870180066957722))))), none]) rfl (Nat.le_of_ble_eq_true rfl) rfl ?_
          refine r_iinc (y := nI (i + 1)) (lv' := [some (.ref (ad 30)), some (.int (nI k)), some (.int (nI t)), some (.double v), none, some (.double (FP.dadd d0 (FP.dmul (FP.ddiv 4603579539098121011 (FP.dmul (FP.dadd 4607182418800017408 (FP.dmul (FP.i2d p) 4591870180066957722)) (FP.dadd 4607182418800017408 (FP.dmul (FP.i2d p) 4591870180066957722)))) (FP.ddiv 4603579539098121011 (FP.dmul (FP.dadd 4607182418800017408 (FP.dmul (FP.i2d p) 4591870180066957722)) (FP.dadd 4607182418800017408 (FP.dmul (FP.i2d p) 4591870180066957722))))))), none, some (.int (nI (i + 1))), some (.int (nI u)), some (.int p), some (.int (-(a - b))), some (.double (FP.dadd 4607182418800017408 (FP.dmul (FP.i2d p) 4591870180066957722))), none, some (.double (FP.ddiv 4603579539098121011 (FP.dmul (FP.dadd 4607182418800017408 (FP.dmul (FP.i2d p) 4591870180066957722)) (FP.dadd 4607182418800017408 (FP.dmul (FP.i2d p) 4591870180066957722))))), none]) rfl rfl (nI_1 _) rfl ?_
          refine r_goto (tg := 21) rfl rfl ?_
          exact (K8 c1 c5 c6 c7)

set_option maxHeartbeats 2000000 in
theorem w_mwe {d : Nat} {Q : mQ} {n : Nat} {ad sa : Nat → Nat} {z0 : Nat} {h : mH} (fx : FX n ad sa z0 h) {t k i : Nat} (ik : i = k) (k6 : k ≤ 6) {v d0 : UInt64} {o8 o9 o10 o11 o12 o13 o14 : Option Value} 
    (C1 : EV (d) 239 [.double d0] h (fun v_ h_ => WR (d) cd_237 149 [some (.ref (ad 30)), some (.int (nI k)), some (.int (nI t)), some (.double v), none, some (.double d0), none, some (.int (nI i)), o8, o9, o10, o11, o12, o13, o14] (v_.toList ++ []) h_ Q)) : WR (d) cd_237 21 [some (.ref (ad 30)), some (.int (nI k)), some (.int (nI t)), some (.double v), none, some (.double d0), none, some (.int (nI i)), o8, o9, o10, o11, o12, o13, o14] [] h Q := by
  have fx0 := fx
  refine r_iload rfl rfl ?_
  refine r_iload rfl rfl ?_
  refine r_icmp_ge (tg := 144) rfl rfl (fun _ => ?_) (fun q => False.elim (by have : (nI i).toInt = ((i : Nat) : Int) := nI_toInt (by omega); have : (nI k).toInt = ((k : Nat) : Int) := nI_toInt (by omega); have := i_nle q; omega))
  refine r_dload rfl rfl ?_
  refine r_cs (y := 239) (ra := [.double d0]) (rest := []) rfl ⟨⟨rfl, rfl⟩, by decide⟩ rfl rfl (Nat.le_of_ble_eq_true rfl) ?_
  exact (C1)

set_option maxHeartbeats 2000000 in
theorem w_mwr {d : Nat} {Q : mQ} {n : Nat} {ad sa : Nat → Nat} {z0 : Nat} {h : mH} (fx : FX n ad sa z0 h) {t k : Nat} {v d0 r : UInt64} {o7 : Option Value} {o8 o9 o10 o11 o12 o13 o14 : Option Value} 
    (B1 : ¬ dgt r 4607182418800017408 → vf_n64 (FP.dsub 4607182418800017408 r))
    (B2 : ¬ dgt r 4607182418800017408 → vf_n64 (FP.dmul v (FP.dsub 4607182418800017408 r)))
    (L1 : ¬ dgt r 4607182418800017408 → Q (some (.double (FP.dmul v (FP.dsub 4607182418800017408 r)))) h)
    (B3 : dgt r 4607182418800017408 → vf_n64 (FP.dsub 4607182418800017408 4607182418800017408))
    (B4 : dgt r 4607182418800017408 → vf_n64 (FP.dmul v (FP.dsub 4607182418800017408 4607182418800017408)))
    (L2 : dgt r 4607182418800017408 → Q (some (.double (FP.dmul v (FP.dsub 4607182418800017408 4607182418800017408)))) h) : WR (d) cd_237 149 [some (.ref (ad 30)), some (.int (nI k)), some (.int (nI t)), some (.double v), none, some (.double d0), none, o7, o8, o9, o10, o11, o12, o13, o14] [.double r] h Q := by
  have fx0 := fx
  refine r_dstore (lv' := [some (.ref (ad 30)), some (.int (nI k)), some (.int (nI t)), some (.double v), none, some (.double r), none, o7, o8, o9, o10, o11, o12, o13, o14]) rfl (Nat.le_of_ble_eq_true rfl) rfl ?_
  refine r_dload rfl rfl ?_
  refine r_dc (x := 4607182418800017408) rfl rfl ?_
  refine r_dlif_le (tg := 162) rfl rfl rfl (fun c1 => ?_) (fun c1 => ?_)
  · refine r_dload rfl rfl ?_
    refine r_dstore (lv' := [some (.ref (ad 30)), some (.int (nI k)), some (.int (nI t)), some (.double v), none, some (.double r), none, o7, o8, o9, o10, o11, o12, o13, o14]) rfl (Nat.le_of_ble_eq_true rfl) rfl ?_
    refine r_dload rfl rfl ?_
    refine r_dc (x := 4607182418800017408) rfl rfl ?_
    refine r_dload rfl rfl ?_
    refine r_dsub rfl (B1 c1) ?_
    refine r_dmul rfl (B2 c1) ?_
    refine r_dret rfl ?_
    exact (L1 c1)
  · refine r_dc (x := 4607182418800017408) rfl rfl ?_
    refine r_goto (tg := 164) rfl rfl ?_
    refine r_dstore (lv' := [some (.ref (ad 30)), some (.int (nI k)), some (.int (nI t)), some (.double v), none, some (.double 4607182418800017408), none, o7, o8, o9, o10, o11, o12, o13, o14]) rfl (Nat.le_of_ble_eq_true rfl) rfl ?_
    refine r_dload rfl rfl ?_
    refine r_dc (x := 4607182418800017408) rfl rfl ?_
    refine r_dload rfl rfl ?_
    refine r_dsub rfl (B3 c1) ?_
    refine r_dmul rfl (B4 c1) ?_
    refine r_dret rfl ?_
    exact (L2 c1)

/-! ===== of read bound; printed ===== -/
set_option maxHeartbeats 2000000 in
theorem k_of {n : Nat} {ad sa : Nat → Nat} {z0 : Nat} {h : mH} (r : Rel n ad sa z0 h) (t : Int32) (w : Int32) : AP n ad sa z0 h 143 246 [.int t, .int w] := by
  obtain ⟨mid, pa, np, fx, ry, rt, ra, rp, rf, rst, ru, rs⟩ := id r
  have fx0 := fx
  have hn_ := fx_k fx
  unfold AP
  refine in_143 (Nat.le_of_ble_eq_true rfl) ?_
  show WR _ cd_143 0 [some (.ref (ad 0)), some (.int t), some (.int w)] [] h _
  refine r_aload rfl rfl ?_
  refine r_ic (x := 0) rfl rfl ?_
  refine r_putI rfl ⟨rfl, rfl, rfl⟩ (fx_t0 fx) ?_
  refine r_aload rfl rfl ?_
  refine r_iload rfl rfl ?_
  refine r_cv (y := 95) (ra := [.int t]) (rest := []) rfl ⟨⟨rfl, rfl⟩, rfl, by decide⟩ (fx_t0 fx) rfl rfl (Nat.le_of_ble_eq_true rfl) ?_
  refine in_95 (Nat.le_of_ble_eq_true rfl) ?_
  show WR _ cd_95 0 [some (.ref (ad 0)), some (.int t)] [] (sI h (ad 0) 6 0) _
  refine r_iload rfl rfl ?_
  refine r_if_lt (tg := 20) rfl rfl (fun c1 => ?_) (fun c1 => ?_)
  · refine r_ic (x := 0) rfl rfl ?_
    refine r_zret rfl (.inl rfl) ?_
    show WR _ cd_143 10 [some (.ref (ad 0)), some (.int t), some (.int w)] [.int 0] (sI h (ad 0) 6 0) _
    refine r_if_ne (tg := 20) rfl rfl (fun q => absurd q (by decide)) (fun _ => ?_)
    refine r_aload rfl rfl ?_
    refine r_ic (x := (-2)) rfl rfl ?_
    refine r_cv (y := 65) (ra := [.int (-2)]) (rest := []) rfl ⟨⟨rfl, rfl⟩, rfl, by decide⟩ (fx_t0 fx) rfl rfl (Nat.le_of_ble_eq_true rfl) ?_
    refine in_65 (Nat.le_of_ble_eq_true rfl) ?_
    show WR _ cd_65 0 [some (.ref (ad 0)), some (.int (-2))] [] (sI h (ad 0) 6 0) _
    refine r_aload rfl rfl ?_
    refine r_iload rfl rfl ?_
    refine r_putI rfl ⟨rfl, rfl, rfl⟩ (fx_t0 fx) ?_
    refine r_lc (x := 0) rfl rfl ?_
    refine r_lret rfl ?_
    show WR _ cd_143 19 [some (.ref (ad 0)), some (.int t), some (.int w)] [.long 0] (sI (sI h (ad 0) 6 0) (ad 0) 6 (-2)) _
    refine r_lret rfl ?_
    show EV _ 246 [.ref (ad 30), .int t, .int w] (sI (sI h (ad 0) 6 0) (ad 0) 6 (-2)) _
    refine in_246 (Nat.le_of_ble_eq_true rfl) ?_
    show WR _ cd_246 0 [some (.ref (ad 30)), some (.int t), some (.int w)] [] (sI (sI h (ad 0) 6 0) (ad 0) 6 (-2)) _
    refine r_aload rfl rfl ?_
    refine r_iload rfl rfl ?_
    refine r_cv (y := 206) (ra := [.int t]) (rest := []) rfl ⟨⟨rfl, rfl⟩, rfl, by decide⟩ (fx_t30 fx) rfl rfl (Nat.le_of_ble_eq_true rfl) ?_
    refine in_206 (Nat.le_of_ble_eq_true rfl) ?_
    show WR _ cd_206 0 [some (.ref (ad 30)), some (.int t)] [] (sI (sI h (ad 0) 6 0) (ad 0) 6 (-2)) _
    refine r_iload rfl rfl ?_
    refine r_if_lt (tg := 16) rfl rfl (fun _ => ?_) (fun q => False.elim (by have := i_lt c1; have := i_rg t; have : (0 : Int32).toInt = 0 := rfl; have := i_nlt q; omega))
    refine r_ic (x := 0) rfl rfl ?_
    refine r_zret rfl (.inl rfl) ?_
    show WR _ cd_246 5 [some (.ref (ad 30)), some (.int t), some (.int w)] [.int 0] (sI (sI h (ad 0) 6 0) (ad 0) 6 (-2)) _
    refine r_if_ne (tg := 15) rfl rfl (fun q => absurd q (by decide)) (fun _ => ?_)
    refine r_aload rfl rfl ?_
    refine r_ic (x := (-2)) rfl rfl ?_
    refine r_cv (y := 171) (ra := [.int (-2)]) (rest := []) rfl ⟨⟨rfl, rfl⟩, rfl, by decide⟩ (fx_t30 fx) rfl rfl (Nat.le_of_ble_eq_true rfl) ?_
    refine in_171 (Nat.le_of_ble_eq_true rfl) ?_
    show WR _ cd_171 0 [some (.ref (ad 30)), some (.int (-2))] [] (sI (sI h (ad 0) 6 0) (ad 0) 6 (-2)) _
    refine r_aload rfl rfl ?_
    refine r_iload rfl rfl ?_
    refine r_putI rfl ⟨rfl, rfl, rfl⟩ (fx_t30 fx) ?_
    refine r_lc (x := 0) rfl rfl ?_
    refine r_lret rfl ?_
    show WR _ cd_246 14 [some (.ref (ad 30)), some (.int t), some (.int w)] [.long 0] (sI (sI (sI h (ad 0) 6 0) (ad 0) 6 (-2)) (ad 30) 11 (-2)) _
    refine r_lret rfl ?_
    exact ⟨rfl, Rel.why r (((Chg.rf.sI (fx_j fx) (.inl (by decide))).sI (fx_j fx) (.inl (by decide))).sI (fx_j fx) (.inl (by decide))) ⟨rfl, by decide⟩ (Eq.trans (Eq.trans (I_ne (fx_ne fx (by decide))) I_eq) (Eq.symm I_eq)), Nat.le_add_right _ _, Nat.le_add_right _ _⟩
  · obtain ⟨k2, hk2, ek2⟩ := ix_of (x := t) (n := 2147483648) (by have := i_nlt c1; have := i_rg t; have : (0 : Int32).toInt = 0 := rfl; omega) (by have := i_nlt c1; have := i_rg t; have : (0 : Int32).toInt = 0 := rfl; omega)
    refine r_iload rfl rfl ?_
    refine WR_tI (y := nI k2) ek2 ?_
    refine r_aload rfl rfl ?_
    refine r_getA (b := ad 4) rfl ⟨rfl, rfl, rfl⟩ (fx_t0 fx) (fx_r0_2 fx) ?_
    refine r_getA (b := ad 7) rfl ⟨rfl, rfl, rfl⟩ (fx_t4 fx) (fx_r4_0 fx) ?_
    refine r_alen rfl (isA_of (fx_t7 fx) (by decide)) ?_
    refine WR_tI (y := nI n) (congrArg nI (fx_n7 fx)) ?_
    refine r_icmp_ge (tg := 20) rfl rfl (fun c3 => ?_) (fun c3 => ?_)
    · refine r_ic (x := 0) rfl rfl ?_
      refine r_zret rfl (.inl rfl) ?_
      show WR _ cd_143 10 [some (.ref (ad 0)), some (.int t), some (.int w)] [.int 0] (sI h (ad 0) 6 0) _
      refine r_if_ne (tg := 20) rfl rfl (fun q => absurd q (by decide)) (fun _ => ?_)
      refine r_aload rfl rfl ?_
      refine r_ic (x := (-2)) rfl rfl ?_
      refine r_cv (y := 65) (ra := [.int (-2)]) (rest := []) rfl ⟨⟨rfl, rfl⟩, rfl, by decide⟩ (fx_t0 fx) rfl rfl (Nat.le_of_ble_eq_true rfl) ?_
      refine in_65 (Nat.le_of_ble_eq_true rfl) ?_
      show WR _ cd_65 0 [some (.ref (ad 0)), some (.int (-2))] [] (sI h (ad 0) 6 0) _
      refine r_aload rfl rfl ?_
      refine r_iload rfl rfl ?_
      refine r_putI rfl ⟨rfl, rfl, rfl⟩ (fx_t0 fx) ?_
      refine r_lc (x := 0) rfl rfl ?_
      refine r_lret rfl ?_
      show WR _ cd_143 19 [some (.ref (ad 0)), some (.int t), some (.int w)] [.long 0] (sI (sI h (ad 0) 6 0) (ad 0) 6 (-2)) _
      refine r_lret rfl ?_
      show EV _ 246 [.ref (ad 30), .int t, .int w] (sI (sI h (ad 0) 6 0) (ad 0) 6 (-2)) _
      refine in_246 (Nat.le_of_ble_eq_true rfl) ?_
      show WR _ cd_246 0 [some (.ref (ad 30)), some (.int t), some (.int w)] [] (sI (sI h (ad 0) 6 0) (ad 0) 6 (-2)) _
      refine r_aload rfl rfl ?_
      refine r_iload rfl rfl ?_
      refine WR_tI (y := nI k2) ek2 ?_
      refine r_cv (y := 206) (ra := [.int (nI k2)]) (rest := []) rfl ⟨⟨rfl, rfl⟩, rfl, by decide⟩ (fx_t30 fx) rfl rfl (Nat.le_of_ble_eq_true rfl) ?_
      refine in_206 (Nat.le_of_ble_eq_true rfl) ?_
      show WR _ cd_206 0 [some (.ref (ad 30)), some (.int (nI k2))] [] (sI (sI h (ad 0) 6 0) (ad 0) 6 (-2)) _
      refine r_iload rfl rfl ?_
      refine r_if_lt (tg := 16) rfl rfl (fun q => False.elim (by have := i_nlt c1; have := i_rg t; have : (0 : Int32).toInt = 0 := rfl; have := i_eq ek2; have : (nI k2).toInt = ((k2 : Nat) : Int) := nI_toInt (by omega); have := i_le c3; have : (nI n).toInt = ((n : Nat) : Int) := nI_toInt (by omega); have := i_lt q; omega)) (fun _ => ?_)
      refine r_iload rfl rfl ?_
      refine r_aload rfl rfl ?_
      refine r_getI rfl ⟨rfl, rfl, rfl⟩ (fx_t30 fx) ?_
      refine WR_tI (y := nI n) (Eq.trans (I_ne (fx_ne fx (by decide))) (Eq.trans (I_ne (fx_ne fx (by decide))) ru.1)) ?_
      refine r_icmp_ge (tg := 16) rfl rfl (fun _ => ?_) (fun q => False.elim (by have := i_nlt c1; have := i_rg t; have : (0 : Int32).toInt = 0 := rfl; have := i_eq ek2; have : (nI k2).toInt = ((k2 : Nat) : Int) := nI_toInt (by omega); have := i_le c3; have : (nI n).toInt = ((n : Nat) : Int) := nI_toInt (by omega); have := i_nle q; omega))
      refine r_ic (x := 0) rfl rfl ?_
      refine r_zret rfl (.inl rfl) ?_
      show WR _ cd_246 5 [some (.ref (ad 30)), some (.int t), some (.int w)] [.int 0] (sI (sI h (ad 0) 6 0) (ad 0) 6 (-2)) _
      refine r_if_ne (tg := 15) rfl rfl (fun q => absurd q (by decide)) (fun _ => ?_)
      refine r_aload rfl rfl ?_
      refine r_ic (x := (-2)) rfl rfl ?_
      refine r_cv (y := 171) (ra := [.int (-2)]) (rest := []) rfl ⟨⟨rfl, rfl⟩, rfl, by decide⟩ (fx_t30 fx) rfl rfl (Nat.le_of_ble_eq_true rfl) ?_
      refine in_171 (Nat.le_of_ble_eq_true rfl) ?_
      show WR _ cd_171 0 [some (.ref (ad 30)), some (.int (-2))] [] (sI (sI h (ad 0) 6 0) (ad 0) 6 (-2)) _
      refine r_aload rfl rfl ?_
      refine r_iload rfl rfl ?_
      refine r_putI rfl ⟨rfl, rfl, rfl⟩ (fx_t30 fx) ?_
      refine r_lc (x := 0) rfl rfl ?_
      refine r_lret rfl ?_
      show WR _ cd_246 14 [some (.ref (ad 30)), some (.int t), some (.int w)] [.long 0] (sI (sI (sI h (ad 0) 6 0) (ad 0) 6 (-2)) (ad 30) 11 (-2)) _
      refine r_lret rfl ?_
      exact ⟨rfl, Rel.why r (((Chg.rf.sI (fx_j fx) (.inl (by decide))).sI (fx_j fx) (.inl (by decide))).sI (fx_j fx) (.inl (by decide))) ⟨rfl, by decide⟩ (Eq.trans (Eq.trans (I_ne (fx_ne fx (by decide))) I_eq) (Eq.symm I_eq)), Nat.le_add_right _ _, Nat.le_add_right _ _⟩
    · refine r_ic (x := 1) rfl rfl ?_
      refine r_goto (tg := 21) rfl rfl ?_
      refine r_zret rfl (.inr rfl) ?_
      show WR _ cd_143 10 [some (.ref (ad 0)), some (.int t), some (.int w)] [.int 1] (sI h (ad 0) 6 0) _
      refine r_if_ne (tg := 20) rfl rfl (fun _ => ?_) (fun q => absurd q (by decide))
      refine r_iload rfl rfl ?_
      refine r_if_lt (tg := 30) rfl rfl (fun c4 => ?_) (fun c4 => ?_)
      · refine r_aload rfl rfl ?_
        refine r_ic (x := (-3)) rfl rfl ?_
        refine r_cv (y := 65) (ra := [.int (-3)]) (rest := []) rfl ⟨⟨rfl, rfl⟩, rfl, by decide⟩ (fx_t0 fx) rfl rfl (Nat.le_of_ble_eq_true rfl) ?_
        refine in_65 (Nat.le_of_ble_eq_true rfl) ?_
        show WR _ cd_65 0 [some (.ref (ad 0)), some (.int (-3))] [] (sI h (ad 0) 6 0) _
        refine r_aload rfl rfl ?_
        refine r_iload rfl rfl ?_
        refine r_putI rfl ⟨rfl, rfl, rfl⟩ (fx_t0 fx) ?_
        refine r_lc (x := 0) rfl rfl ?_
        refine r_lret rfl ?_
        show WR _ cd_143 36 [some (.ref (ad 0)), some (.int t), some (.int w)] [.long 0] (sI (sI h (ad 0) 6 0) (ad 0) 6 (-3)) _
        refine r_lret rfl ?_
        show EV _ 246 [.ref (ad 30), .int t, .int w] (sI (sI h (ad 0) 6 0) (ad 0) 6 (-3)) _
        refine in_246 (Nat.le_of_ble_eq_true rfl) ?_
        show WR _ cd_246 0 [some (.ref (ad 30)), some (.int t), some (.int w)] [] (sI (sI h (ad 0) 6 0) (ad 0) 6 (-3)) _
        refine r_aload rfl rfl ?_
        refine r_iload rfl rfl ?_
        refine WR_tI (y := nI k2) ek2 ?_
        refine r_cv (y := 206) (ra := [.int (nI k2)]) (rest := []) rfl ⟨⟨rfl, rfl⟩, rfl, by decide⟩ (fx_t30 fx) rfl rfl (Nat.le_of_ble_eq_true rfl) ?_
        refine in_206 (Nat.le_of_ble_eq_true rfl) ?_
        show WR _ cd_206 0 [some (.ref (ad 30)), some (.int (nI k2))] [] (sI (sI h (ad 0) 6 0) (ad 0) 6 (-3)) _
        refine r_iload rfl rfl ?_
        refine r_if_lt (tg := 16) rfl rfl (fun q => False.elim (by have := i_nlt c1; have := i_rg t; have : (0 : Int32).toInt = 0 := rfl; have := i_eq ek2; have : (nI k2).toInt = ((k2 : Nat) : Int) := nI_toInt (by omega); have := i_nle c3; have : (nI n).toInt = ((n : Nat) : Int) := nI_toInt (by omega); have := i_lt q; omega)) (fun _ => ?_)
        refine r_iload rfl rfl ?_
        refine r_aload rfl rfl ?_
        refine r_getI rfl ⟨rfl, rfl, rfl⟩ (fx_t30 fx) ?_
        refine WR_tI (y := nI n) (Eq.trans (I_ne (fx_ne fx (by decide))) (Eq.trans (I_ne (fx_ne fx (by decide))) ru.1)) ?_
        refine r_icmp_ge (tg := 16) rfl rfl (fun q => False.elim (by have := i_nlt c1; have := i_rg t; have : (0 : Int32).toInt = 0 := rfl; have := i_eq ek2; have : (nI k2).toInt = ((k2 : Nat) : Int) := nI_toInt (by omega); have := i_nle c3; have : (nI n).toInt = ((n : Nat) : Int) := nI_toInt (by omega); have := i_le q; omega)) (fun _ => ?_)
        refine r_ic (x := 1) rfl rfl ?_
        refine r_goto (tg := 17) rfl rfl ?_
        refine r_zret rfl (.inr rfl) ?_
        show WR _ cd_246 5 [some (.ref (ad 30)), some (.int t), some (.int w)] [.int 1] (sI (sI h (ad 0) 6 0) (ad 0) 6 (-3)) _
        refine r_if_ne (tg := 15) rfl rfl (fun _ => ?_) (fun q => absurd q (by decide))
        refine r_iload rfl rfl ?_
        refine r_i2l rfl ?_
        refine r_lc (x := 0) rfl rfl ?_
        refine r_ldc (x := .long 12) rfl rfl ?_
        refine r_cs (y := 155) (ra := [.long 12, .long 0, .long w.toInt64]) (rest := []) rfl ⟨⟨rfl, rfl⟩, by decide⟩ rfl rfl (Nat.le_of_ble_eq_true rfl) ?_
        refine in_155 (Nat.le_of_ble_eq_true rfl) ?_
        show WR _ cd_155 0 [some (.long w.toInt64), none, some (.long 0), none, some (.long 12), none] [] (sI (sI h (ad 0) 6 0) (ad 0) 6 (-3)) _
        refine r_lload rfl rfl ?_
        refine r_lload rfl rfl ?_
        refine r_lif_lt (tg := 17) rfl rfl rfl (fun _ => ?_) (fun q => False.elim (by have := i_lt c4; have := i_rg w; have : (0 : Int32).toInt = 0 := rfl; have := w_t w; have : (0 : Int64).toInt = 0 := rfl; have := l_nlt q; omega))
        refine r_ic (x := 0) rfl rfl ?_
        refine r_zret rfl (.inl rfl) ?_
        show WR _ cd_246 24 [some (.ref (ad 30)), some (.int t), some (.int w)] [.int 0] (sI (sI h (ad 0) 6 0) (ad 0) 6 (-3)) _
        refine r_if_ne (tg := 34) rfl rfl (fun q => absurd q (by decide)) (fun _ => ?_)
        refine r_aload rfl rfl ?_
        refine r_ic (x := (-3)) rfl rfl ?_
        refine r_cv (y := 171) (ra := [.int (-3)]) (rest := []) rfl ⟨⟨rfl, rfl⟩, rfl, by decide⟩ (fx_t30 fx) rfl rfl (Nat.le_of_ble_eq_true rfl) ?_
        refine in_171 (Nat.le_of_ble_eq_true rfl) ?_
        show WR _ cd_171 0 [some (.ref (ad 30)), some (.int (-3))] [] (sI (sI h (ad 0) 6 0) (ad 0) 6 (-3)) _
        refine r_aload rfl rfl ?_
        refine r_iload rfl rfl ?_
        refine r_putI rfl ⟨rfl, rfl, rfl⟩ (fx_t30 fx) ?_
        refine r_lc (x := 0) rfl rfl ?_
        refine r_lret rfl ?_
        show WR _ cd_246 33 [some (.ref (ad 30)), some (.int t), some (.int w)] [.long 0] (sI (sI (sI h (ad 0) 6 0) (ad 0) 6 (-3)) (ad 30) 11 (-3)) _
        refine r_lret rfl ?_
        exact ⟨rfl, Rel.why r (((Chg.rf.sI (fx_j fx) (.inl (by decide))).sI (fx_j fx) (.inl (by decide))).sI (fx_j fx) (.inl (by decide))) ⟨rfl, by decide⟩ (Eq.trans (Eq.trans (I_ne (fx_ne fx (by decide))) I_eq) (Eq.symm I_eq)), Nat.le_add_right _ _, Nat.le_add_right _ _⟩
      · obtain ⟨k5, hk5, ek5⟩ := ix_of (x := w) (n := 2147483648) (by have := i_nlt c4; have := i_rg w; have : (0 : Int32).toInt = 0 := rfl; omega) (by have := i_nlt c4; have := i_rg w; have : (0 : Int32).toInt = 0 := rfl; omega)
        refine r_iload rfl rfl ?_
        refine WR_tI (y := nI k5) ek5 ?_
        refine r_ic (x := 13) rfl rfl ?_
        refine r_icmp_lt (tg := 37) rfl rfl (fun c6 => ?_) (fun c6 => ?_)
        · refine r_aload rfl rfl ?_
          refine r_getA (b := ad 4) rfl ⟨rfl, rfl, rfl⟩ (fx_t0 fx) (fx_r0_2 fx) ?_
          refine r_getA (b := ad 7) rfl ⟨rfl, rfl, rfl⟩ (fx_t4 fx) (fx_r4_0 fx) ?_
          refine r_iload rfl rfl ?_
          refine WR_tI (y := nI k2) ek2 ?_
          have hk7 : k2 < n := (by have := i_nlt c1; have := i_rg t; have : (0 : Int32).toInt = 0 := rfl; have := i_eq ek2; have : (nI k2).toInt = ((k2 : Nat) : Int) := nI_toInt (by omega); have := i_nle c3; have : (nI n).toInt = ((n : Nat) : Int) := nI_toInt (by omega); omega)
          have tb7 := fx_tb fx0 k2 hk7
          obtain ⟨⟨a1_7, a2_7, a3_7, a4_7⟩, ⟨b1_7, b2_7⟩, ⟨c1_7, c2_7⟩, ⟨d1_7, d2_7⟩, ⟨e1_7, e2_7, e3_7, e4_7, e5_7, e6_7, e7_7⟩, f_7, g_7⟩ := id (ru.2 k2 hk7)
          obtain ⟨ns7, nb1_7, nb2_7, nb3_7⟩ := e7_7
          obtain ⟨nn1_7, nn2_7, nn3_7, nn4_7, nn5_7, nn6_7⟩ := NB_nn nb3_7
          refine r_aaloadA (b := ad (100 + 5 * k2)) rfl (isQ_of (fx_t7 fx) (by decide)) (vp_ct (fx_n7 fx) (vp_in_nI (by have := i_nlt c1; have := i_rg t; have : (0 : Int32).toInt = 0 := rfl; have := i_eq ek2; have : (nI k2).toInt = ((k2 : Nat) : Int) := nI_toInt (by omega); have := i_nle c3; have : (nI n).toInt = ((n : Nat) : Int) := nI_toInt (by omega); omega) (by omega))) (Eq.trans (congrArg (hR (sI h (ad 0) 6 0) (ad 7)) ((nI_clamp (by have := i_nlt c1; have := i_rg t; have : (0 : Int32).toInt = 0 := rfl; have := i_eq ek2; have : (nI k2).toInt = ((k2 : Nat) : Int) := nI_toInt (by omega); have := i_nle c3; have : (nI n).toInt = ((n : Nat) : Int) := nI_toInt (by omega); omega)) : _ = k2)) (Eq.trans R_oI tb7.1)) ?_
          refine r_iload rfl rfl ?_
          refine WR_tI (y := nI k5) ek5 ?_
          refine r_cv (y := 144) (ra := [.int (nI k5)]) (rest := []) rfl ⟨⟨rfl, rfl⟩, rfl, by decide⟩ tb7.2.1 rfl rfl (Nat.le_of_ble_eq_true rfl) ?_
          refine in_144 (Nat.le_of_ble_eq_true rfl) ?_
          show WR _ cd_144 0 [some (.ref (ad (100 + 5 * k2))), some (.int (nI k5)), none] [] (sI h (ad 0) 6 0) _
          refine r_iload rfl rfl ?_
          refine r_tsw (tg := 107) rfl rfl (fun c8 => ?_) (fun c8 => ?_)
          · refine r_aload rfl rfl ?_
            refine r_getA (b := ad (101 + 5 * k2)) rfl ⟨rfl, rfl, rfl⟩ tb7.2.1 (Eq.trans R_oI tb7.2.2.2.2.2.2.1) ?_
            refine r_iload rfl rfl ?_
            refine r_ic (x := 8) rfl rfl ?_
            refine r_isub rfl ?_
            refine WR_tI (y := nI (k5 - 8)) (Eq.trans (pk_sub (a := k5) (b := 8) (by have := i_nlt c4; have := i_rg w; have : (0 : Int32).toInt = 0 := rfl; have := i_eq ek5; have : (nI k5).toInt = ((k5 : Nat) : Int) := nI_toInt (by omega); have := i_lt c6; have : (13 : Int32).toInt = 13 := rfl; have := c8; omega)) (congrArg nI (by have := i_nlt c4; have := i_rg w; have : (0 : Int32).toInt = 0 := rfl; have := i_eq ek5; have : (nI k5).toInt = ((k5 : Nat) : Int) := nI_toInt (by omega); have := i_lt c6; have : (13 : Int32).toInt = 13 := rfl; have := c8; omega))) ?_
            rcases g_7 (k5 - 8) (by have := i_nlt c4; have := i_rg w; have : (0 : Int32).toInt = 0 := rfl; have := i_eq ek5; have : (nI k5).toInt = ((k5 : Nat) : Int) := nI_toInt (by omega); have := i_lt c6; have : (13 : Int32).toInt = 13 := rfl; have := c8; omega) with ⟨v9, w9⟩ | ⟨q9, hq9, v9, w9⟩
            · refine r_aaload0 rfl (isQ_of tb7.2.2.1.1 (by decide)) (vp_ct tb7.2.2.1.2 (vp_in_nI (by have := i_nlt c4; have := i_rg w; have : (0 : Int32).toInt = 0 := rfl; have := i_eq ek5; have : (nI k5).toInt = ((k5 : Nat) : Int) := nI_toInt (by omega); have := i_lt c6; have : (13 : Int32).toInt = 13 := rfl; have := c8; omega) (by omega))) (Eq.trans (congrArg (hR (sI h (ad 0) 6 0) (ad (101 + 5 * k2))) ((nI_clamp (by have := i_nlt c4; have := i_rg w; have : (0 : Int32).toInt = 0 := rfl; have := i_eq ek5; have : (nI k5).toInt = ((k5 : Nat) : Int) := nI_toInt (by omega); have := i_lt c6; have : (13 : Int32).toInt = 13 := rfl; have := c8; omega)) : _ = k5 - 8)) (Eq.trans R_oI w9)) ?_
              refine r_astore0 (lv' := [some (.ref (ad (100 + 5 * k2))), some (.int (nI k5)), some (.null)]) rfl (Nat.le_of_ble_eq_true rfl) rfl ?_
              refine r_aload0 rfl rfl ?_
              refine r_ifnonnullN (tg := 127) rfl rfl ?_
              refine r_ldc (x := .long (-1)) rfl rfl ?_
              refine r_goto (tg := 132) rfl rfl ?_
              refine r_lret rfl ?_
              show WR _ cd_143 50 [some (.ref (ad 0)), some (.int t), some (.int w)] [.long (-1)] (sI h (ad 0) 6 0) _
              refine r_lret rfl ?_
              show EV _ 246 [.ref (ad 30), .int t, .int w] (sI h (ad 0) 6 0) _
              refine in_246 (Nat.le_of_ble_eq_true rfl) ?_
              show WR _ cd_246 0 [some (.ref (ad 30)), some (.int t), some (.int w)] [] (sI h (ad 0) 6 0) _
              refine r_aload rfl rfl ?_
              refine r_iload rfl rfl ?_
              refine WR_tI (y := nI k2) ek2 ?_
              refine r_cv (y := 206) (ra := [.int (nI k2)]) (rest := []) rfl ⟨⟨rfl, rfl⟩, rfl, by decide⟩ (fx_t30 fx) rfl rfl (Nat.le_of_ble_eq_true rfl) ?_
              refine in_206 (Nat.le_of_ble_eq_true rfl) ?_
              show WR _ cd_206 0 [some (.ref (ad 30)), some (.int (nI k2))] [] (sI h (ad 0) 6 0) _
              refine r_iload rfl rfl ?_
              refine r_if_lt (tg := 16) rfl rfl (fun q => False.elim (by have := i_nlt c1; have := i_rg t; have : (0 : Int32).toInt = 0 := rfl; have := i_eq ek2; have : (nI k2).toInt = ((k2 : Nat) : Int) := nI_toInt (by omega); have := i_nle c3; have : (nI n).toInt = ((n : Nat) : Int) := nI_toInt (by omega); have := i_lt q; omega)) (fun _ => ?_)
              refine r_iload rfl rfl ?_
              refine r_aload rfl rfl ?_
              refine r_getI rfl ⟨rfl, rfl, rfl⟩ (fx_t30 fx) ?_
              refine WR_tI (y := nI n) (Eq.trans (I_ne (fx_ne fx (by decide))) ru.1) ?_
              refine r_icmp_ge (tg := 16) rfl rfl (fun q => False.elim (by have := i_nlt c1; have := i_rg t; have : (0 : Int32).toInt = 0 := rfl; have := i_eq ek2; have : (nI k2).toInt = ((k2 : Nat) : Int) := nI_toInt (by omega); have := i_nle c3; have : (nI n).toInt = ((n : Nat) : Int) := nI_toInt (by omega); have := i_le q; omega)) (fun _ => ?_)
              refine r_ic (x := 1) rfl rfl ?_
              refine r_goto (tg := 17) rfl rfl ?_
              refine r_zret rfl (.inr rfl) ?_
              show WR _ cd_246 5 [some (.ref (ad 30)), some (.int t), some (.int w)] [.int 1] (sI h (ad 0) 6 0) _
              refine r_if_ne (tg := 15) rfl rfl (fun _ => ?_) (fun q => absurd q (by decide))
              refine r_iload rfl rfl ?_
              refine WR_tI (y := nI k5) ek5 ?_
              refine r_i2l rfl ?_
              refine WR_tL (y := lN k5) (nI_l (by have := i_nlt c4; have := i_rg w; have : (0 : Int32).toInt = 0 := rfl; have := i_eq ek5; have : (nI k5).toInt = ((k5 : Nat) : Int) := nI_toInt (by omega); have := i_lt c6; have : (13 : Int32).toInt = 13 := rfl; have := c8; omega)) ?_
              refine r_lc (x := 0) rfl rfl ?_
              refine r_ldc (x := .long 12) rfl rfl ?_
              refine r_cs (y := 155) (ra := [.long 12, .long 0, .long (lN k5)]) (rest := []) rfl ⟨⟨rfl, rfl⟩, by decide⟩ rfl rfl (Nat.le_of_ble_eq_true rfl) ?_
              refine in_155 (Nat.le_of_ble_eq_true rfl) ?_
              show WR _ cd_155 0 [some (.long (lN k5)), none, some (.long 0), none, some (.long 12), none] [] (sI h (ad 0) 6 0) _
              refine r_lload rfl rfl ?_
              refine r_lload rfl rfl ?_
              refine r_lif_lt (tg := 17) rfl rfl rfl (fun q => False.elim (by have := i_nlt c4; have := i_rg w; have : (0 : Int32).toInt = 0 := rfl; have := i_eq ek5; have : (nI k5).toInt = ((k5 : Nat) : Int) := nI_toInt (by omega); have := i_lt c6; have : (13 : Int32).toInt = 13 := rfl; have := c8; have : (lN k5).toInt = ((k5 : Nat) : Int) := lN_toInt (by omega); have : (0 : Int64).toInt = 0 := rfl; have := l_lt q; omega)) (fun _ => ?_)
              refine r_lload rfl rfl ?_
              refine r_lload rfl rfl ?_
              refine r_lif_gt (tg := 17) rfl rfl rfl (fun q => False.elim (by have := i_nlt c4; have := i_rg w; have : (0 : Int32).toInt = 0 := rfl; have := i_eq ek5; have : (nI k5).toInt = ((k5 : Nat) : Int) := nI_toInt (by omega); have := i_lt c6; have : (13 : Int32).toInt = 13 := rfl; have := c8; have : (lN k5).toInt = ((k5 : Nat) : Int) := lN_toInt (by omega); have : (12 : Int64).toInt = 12 := rfl; have := l_lt q; omega)) (fun _ => ?_)
              refine r_ic (x := 1) rfl rfl ?_
              refine r_goto (tg := 18) rfl rfl ?_
              refine r_zret rfl (.inr rfl) ?_
              show WR _ cd_246 24 [some (.ref (ad 30)), some (.int t), some (.int w)] [.int 1] (sI h (ad 0) 6 0) _
              refine r_if_ne (tg := 34) rfl rfl (fun _ => ?_) (fun q => absurd q (by decide))
              refine r_aload rfl rfl ?_
              refine r_ic (x := 0) rfl rfl ?_
              refine r_putI rfl ⟨rfl, rfl, rfl⟩ (fx_t30 fx) ?_
              refine r_iload rfl rfl ?_
              refine WR_tI (y := nI k5) ek5 ?_
              refine r_ic (x := 7) rfl rfl ?_
              refine r_icmp_le (tg := 60) rfl rfl (fun q => False.elim (by have := i_nlt c4; have := i_rg w; have : (0 : Int32).toInt = 0 := rfl; have := i_eq ek5; have : (nI k5).toInt = ((k5 : Nat) : Int) := nI_toInt (by omega); have := i_lt c6; have : (13 : Int32).toInt = 13 := rfl; have := c8; have : (7 : Int32).toInt = 7 := rfl; have := i_le q; omega)) (fun _ => ?_)
              refine r_aload rfl rfl ?_
              refine r_getA (b := ad 57) rfl ⟨rfl, rfl, rfl⟩ (fx_t30 fx) (fx_r30_41 fx) ?_
              refine r_ic (x := 5) rfl rfl ?_
              refine r_iload rfl rfl ?_
              refine WR_tI (y := nI k2) ek2 ?_
              refine r_imul rfl ?_
              refine WR_tI (y := nI (5 * k2)) (Eq.trans (pk_mul 5 k2) (congrArg nI (by have := i_nlt c1; have := i_rg t; have : (0 : Int32).toInt = 0 := rfl; have := i_eq ek2; have : (nI k2).toInt = ((k2 : Nat) : Int) := nI_toInt (by omega); have := i_nle c3; have : (nI n).toInt = ((n : Nat) : Int) := nI_toInt (by omega); omega))) ?_
              refine r_iload rfl rfl ?_
              refine WR_tI (y := nI k5) ek5 ?_
              refine r_iadd rfl ?_
              refine WR_tI (y := nI (5 * k2 + k5)) (Eq.trans (nI_add (5 * k2) k5) (congrArg nI (by have := i_nlt c1; have := i_rg t; have : (0 : Int32).toInt = 0 := rfl; have := i_eq ek2; have : (nI k2).toInt = ((k2 : Nat) : Int) := nI_toInt (by omega); have := i_nle c3; have : (nI n).toInt = ((n : Nat) : Int) := nI_toInt (by omega); have := i_nlt c4; have := i_rg w; have := i_eq ek5; have : (nI k5).toInt = ((k5 : Nat) : Int) := nI_toInt (by omega); have := i_lt c6; have : (13 : Int32).toInt = 13 := rfl; have := c8; omega))) ?_
              refine r_ic (x := 8) rfl rfl ?_
              refine r_isub rfl ?_
              refine WR_tI (y := nI (5 * k2 + k5 - 8)) (Eq.trans (pk_sub (a := 5 * k2 + k5) (b := 8) (by have := i_nlt c1; have := i_rg t; have : (0 : Int32).toInt = 0 := rfl; have := i_eq ek2; have : (nI k2).toInt = ((k2 : Nat) : Int) := nI_toInt (by omega); have := i_nle c3; have : (nI n).toInt = ((n : Nat) : Int) := nI_toInt (by omega); have := i_nlt c4; have := i_rg w; have := i_eq ek5; have : (nI k5).toInt = ((k5 : Nat) : Int) := nI_toInt (by omega); have := i_lt c6; have : (13 : Int32).toInt = 13 := rfl; have := c8; omega)) (congrArg nI (by have := i_nlt c1; have := i_rg t; have : (0 : Int32).toInt = 0 := rfl; have := i_eq ek2; have : (nI k2).toInt = ((k2 : Nat) : Int) := nI_toInt (by omega); have := i_nle c3; have : (nI n).toInt = ((n : Nat) : Int) := nI_toInt (by omega); have := i_nlt c4; have := i_rg w; have := i_eq ek5; have : (nI k5).toInt = ((k5 : Nat) : Int) := nI_toInt (by omega); have := i_lt c6; have : (13 : Int32).toInt = 13 := rfl; have := c8; omega))) ?_
              refine r_iaload rfl (.inl (fx_t57 fx)) (vp_ct (fx_n57 fx) (vp_in_nI (by have := i_nlt c1; have := i_rg t; have : (0 : Int32).toInt = 0 := rfl; have := i_eq ek2; have : (nI k2).toInt = ((k2 : Nat) : Int) := nI_toInt (by omega); have := i_nle c3; have : (nI n).toInt = ((n : Nat) : Int) := nI_toInt (by omega); have := i_nlt c4; have := i_rg w; have := i_eq ek5; have : (nI k5).toInt = ((k5 : Nat) : Int) := nI_toInt (by omega); have := i_lt c6; have : (13 : Int32).toInt = 13 := rfl; have := c8; omega) (by omega))) ?_
              refine WR_tI (congrArg (hI (sI (sI h (ad 0) 6 0) (ad 30) 11 0) (ad 57)) ((nI_clamp (by have := i_nlt c1; have := i_rg t; have : (0 : Int32).toInt = 0 := rfl; have := i_eq ek2; have : (nI k2).toInt = ((k2 : Nat) : Int) := nI_toInt (by omega); have := i_nle c3; have : (nI n).toInt = ((n : Nat) : Int) := nI_toInt (by omega); have := i_nlt c4; have := i_rg w; have := i_eq ek5; have : (nI k5).toInt = ((k5 : Nat) : Int) := nI_toInt (by omega); have := i_lt c6; have : (13 : Int32).toInt = 13 := rfl; have := c8; omega)) : _ = 5 * k2 + k5 - 8)) ?_
              refine WR_tI (y := (-1)) (Eq.trans (I_ne (fx_ne fx (by decide))) (Eq.trans (I_ne (fx_ne fx (by decide))) (Eq.trans (congrArg (hI h (ad 57)) (show 5 * k2 + k5 - 8 = 5 * k2 + (k5 - 8) from by have := i_nlt c4; have := i_rg w; have : (0 : Int32).toInt = 0 := rfl; have := i_eq ek5; have : (nI k5).toInt = ((k5 : Nat) : Int) := nI_toInt (by omega); have := i_lt c6; have : (13 : Int32).toInt = 13 := rfl; have := c8; omega)) v9))) ?_
              refine r_i2l rfl ?_
              refine WR_tL (y := (-1)) rfl ?_
              refine r_lret rfl ?_
              exact ⟨rfl, Rel.why r ((Chg.rf.sI (fx_j fx) (.inl (by decide))).sI (fx_j fx) (.inl (by decide))) ⟨rfl, by decide⟩ (Eq.trans (Eq.trans (I_ne (fx_ne fx (by decide))) I_eq) (Eq.symm I_eq)), Nat.le_add_right _ _, Nat.le_add_right _ _⟩
            · obtain ⟨tg9, dz9, s1_9, k1_9, xx9, we9⟩ := rs.1.2.2.2.1 q9 hq9
              have hn9 := rs.1.1
              refine r_aaloadA (b := pa q9) rfl (isQ_of tb7.2.2.1.1 (by decide)) (vp_ct tb7.2.2.1.2 (vp_in_nI (by have := i_nlt c4; have := i_rg w; have : (0 : Int32).toInt = 0 := rfl; have := i_eq ek5; have : (nI k5).toInt = ((k5 : Nat) : Int) := nI_toInt (by omega); have := i_lt c6; have : (13 : Int32).toInt = 13 := rfl; have := c8; omega) (by omega))) (Eq.trans (congrArg (hR (sI h (ad 0) 6 0) (ad (101 + 5 * k2))) ((nI_clamp (by have := i_nlt c4; have := i_rg w; have : (0 : Int32).toInt = 0 := rfl; have := i_eq ek5; have : (nI k5).toInt = ((k5 : Nat) : Int) := nI_toInt (by omega); have := i_lt c6; have : (13 : Int32).toInt = 13 := rfl; have := c8; omega)) : _ = k5 - 8)) (Eq.trans R_oI w9)) ?_
              refine r_astore (lv' := [some (.ref (ad (100 + 5 * k2))), some (.int (nI k5)), some (.ref (pa q9))]) rfl (Nat.le_of_ble_eq_true rfl) rfl ?_
              refine r_aload rfl rfl ?_
              refine r_ifnonnullA (tg := 127) rfl rfl ?_
              refine r_aload rfl rfl ?_
              refine r_getI rfl ⟨rfl, rfl, rfl⟩ tg9 ?_
              refine WR_tI (y := nI q9) (Eq.trans (I_ne (dy_ad fx (.inl (by decide)) dz9)) s1_9) ?_
              refine r_i2l rfl ?_
              refine WR_tL (y := lN q9) (nI_l (by omega)) ?_
              refine r_lret rfl ?_
              show WR _ cd_143 50 [some (.ref (ad 0)), some (.int t), some (.int w)] [.long (lN q9)] (sI h (ad 0) 6 0) _
              refine r_lret rfl ?_
              show EV _ 246 [.ref (ad 30), .int t, .int w] (sI h (ad 0) 6 0) _
              refine in_246 (Nat.le_of_ble_eq_true rfl) ?_
              show WR _ cd_246 0 [some (.ref (ad 30)), some (.int t), some (.int w)] [] (sI h (ad 0) 6 0) _
              refine r_aload rfl rfl ?_
              refine r_iload rfl rfl ?_
              refine WR_tI (y := nI k2) ek2 ?_
              refine r_cv (y := 206) (ra := [.int (nI k2)]) (rest := []) rfl ⟨⟨rfl, rfl⟩, rfl, by decide⟩ (fx_t30 fx) rfl rfl (Nat.le_of_ble_eq_true rfl) ?_
              refine in_206 (Nat.le_of_ble_eq_true rfl) ?_
              show WR _ cd_206 0 [some (.ref (ad 30)), some (.int (nI k2))] [] (sI h (ad 0) 6 0) _
              refine r_iload rfl rfl ?_
              refine r_if_lt (tg := 16) rfl rfl (fun q => False.elim (by have := i_nlt c1; have := i_rg t; have : (0 : Int32).toInt = 0 := rfl; have := i_eq ek2; have : (nI k2).toInt = ((k2 : Nat) : Int) := nI_toInt (by omega); have := i_nle c3; have : (nI n).toInt = ((n : Nat) : Int) := nI_toInt (by omega); have := i_lt q; omega)) (fun _ => ?_)
              refine r_iload rfl rfl ?_
              refine r_aload rfl rfl ?_
              refine r_getI rfl ⟨rfl, rfl, rfl⟩ (fx_t30 fx) ?_
              refine WR_tI (y := nI n) (Eq.trans (I_ne (fx_ne fx (by decide))) ru.1) ?_
              refine r_icmp_ge (tg := 16) rfl rfl (fun q => False.elim (by have := i_nlt c1; have := i_rg t; have : (0 : Int32).toInt = 0 := rfl; have := i_eq ek2; have : (nI k2).toInt = ((k2 : Nat) : Int) := nI_toInt (by omega); have := i_nle c3; have : (nI n).toInt = ((n : Nat) : Int) := nI_toInt (by omega); have := i_le q; omega)) (fun _ => ?_)
              refine r_ic (x := 1) rfl rfl ?_
              refine r_goto (tg := 17) rfl rfl ?_
              refine r_zret rfl (.inr rfl) ?_
              show WR _ cd_246 5 [some (.ref (ad 30)), some (.int t), some (.int w)] [.int 1] (sI h (ad 0) 6 0) _
              refine r_if_ne (tg := 15) rfl rfl (fun _ => ?_) (fun q => absurd q (by decide))
              refine r_iload rfl rfl ?_
              refine WR_tI (y := nI k5) ek5 ?_
              refine r_i2l rfl ?_
              refine WR_tL (y := lN k5) (nI_l (by have := i_nlt c4; have := i_rg w; have : (0 : Int32).toInt = 0 := rfl; have := i_eq ek5; have : (nI k5).toInt = ((k5 : Nat) : Int) := nI_toInt (by omega); have := i_lt c6; have : (13 : Int32).toInt = 13 := rfl; have := c8; omega)) ?_
              refine r_lc (x := 0) rfl rfl ?_
              refine r_ldc (x := .long 12) rfl rfl ?_
              refine r_cs (y := 155) (ra := [.long 12, .long 0, .long (lN k5)]) (rest := []) rfl ⟨⟨rfl, rfl⟩, by decide⟩ rfl rfl (Nat.le_of_ble_eq_true rfl) ?_
              refine in_155 (Nat.le_of_ble_eq_true rfl) ?_
              show WR _ cd_155 0 [some (.long (lN k5)), none, some (.long 0), none, some (.long 12), none] [] (sI h (ad 0) 6 0) _
              refine r_lload rfl rfl ?_
              refine r_lload rfl rfl ?_
              refine r_lif_lt (tg := 17) rfl rfl rfl (fun q => False.elim (by have := i_nlt c4; have := i_rg w; have : (0 : Int32).toInt = 0 := rfl; have := i_eq ek5; have : (nI k5).toInt = ((k5 : Nat) : Int) := nI_toInt (by omega); have := i_lt c6; have : (13 : Int32).toInt = 13 := rfl; have := c8; have : (lN k5).toInt = ((k5 : Nat) : Int) := lN_toInt (by omega); have : (0 : Int64).toInt = 0 := rfl; have := l_lt q; omega)) (fun _ => ?_)
              refine r_lload rfl rfl ?_
              refine r_lload rfl rfl ?_
              refine r_lif_gt (tg := 17) rfl rfl rfl (fun q => False.elim (by have := i_nlt c4; have := i_rg w; have : (0 : Int32).toInt = 0 := rfl; have := i_eq ek5; have : (nI k5).toInt = ((k5 : Nat) : Int) := nI_toInt (by omega); have := i_lt c6; have : (13 : Int32).toInt = 13 := rfl; have := c8; have : (lN k5).toInt = ((k5 : Nat) : Int) := lN_toInt (by omega); have : (12 : Int64).toInt = 12 := rfl; have := l_lt q; omega)) (fun _ => ?_)
              refine r_ic (x := 1) rfl rfl ?_
              refine r_goto (tg := 18) rfl rfl ?_
              refine r_zret rfl (.inr rfl) ?_
              show WR _ cd_246 24 [some (.ref (ad 30)), some (.int t), some (.int w)] [.int 1] (sI h (ad 0) 6 0) _
              refine r_if_ne (tg := 34) rfl rfl (fun _ => ?_) (fun q => absurd q (by decide))
              refine r_aload rfl rfl ?_
              refine r_ic (x := 0) rfl rfl ?_
              refine r_putI rfl ⟨rfl, rfl, rfl⟩ (fx_t30 fx) ?_
              refine r_iload rfl rfl ?_
              refine WR_tI (y := nI k5) ek5 ?_
              refine r_ic (x := 7) rfl rfl ?_
              refine r_icmp_le (tg := 60) rfl rfl (fun q => False.elim (by have := i_nlt c4; have := i_rg w; have : (0 : Int32).toInt = 0 := rfl; have := i_eq ek5; have : (nI k5).toInt = ((k5 : Nat) : Int) := nI_toInt (by omega); have := i_lt c6; have : (13 : Int32).toInt = 13 := rfl; have := c8; have : (7 : Int32).toInt = 7 := rfl; have := i_le q; omega)) (fun _ => ?_)
              refine r_aload rfl rfl ?_
              refine r_getA (b := ad 57) rfl ⟨rfl, rfl, rfl⟩ (fx_t30 fx) (fx_r30_41 fx) ?_
              refine r_ic (x := 5) rfl rfl ?_
              refine r_iload rfl rfl ?_
              refine WR_tI (y := nI k2) ek2 ?_
              refine r_imul rfl ?_
              refine WR_tI (y := nI (5 * k2)) (Eq.trans (pk_mul 5 k2) (congrArg nI (by have := i_nlt c1; have := i_rg t; have : (0 : Int32).toInt = 0 := rfl; have := i_eq ek2; have : (nI k2).toInt = ((k2 : Nat) : Int) := nI_toInt (by omega); have := i_nle c3; have : (nI n).toInt = ((n : Nat) : Int) := nI_toInt (by omega); omega))) ?_
              refine r_iload rfl rfl ?_
              refine WR_tI (y := nI k5) ek5 ?_
              refine r_iadd rfl ?_
              refine WR_tI (y := nI (5 * k2 + k5)) (Eq.trans (nI_add (5 * k2) k5) (congrArg nI (by have := i_nlt c1; have := i_rg t; have : (0 : Int32).toInt = 0 := rfl; have := i_eq ek2; have : (nI k2).toInt = ((k2 : Nat) : Int) := nI_toInt (by omega); have := i_nle c3; have : (nI n).toInt = ((n : Nat) : Int) := nI_toInt (by omega); have := i_nlt c4; have := i_rg w; have := i_eq ek5; have : (nI k5).toInt = ((k5 : Nat) : Int) := nI_toInt (by omega); have := i_lt c6; have : (13 : Int32).toInt = 13 := rfl; have := c8; omega))) ?_
              refine r_ic (x := 8) rfl rfl ?_
              refine r_isub rfl ?_
              refine WR_tI (y := nI (5 * k2 + k5 - 8)) (Eq.trans (pk_sub (a := 5 * k2 + k5) (b := 8) (by have := i_nlt c1; have := i_rg t; have : (0 : Int32).toInt = 0 := rfl; have := i_eq ek2; have : (nI k2).toInt = ((k2 : Nat) : Int) := nI_toInt (by omega); have := i_nle c3; have : (nI n).toInt = ((n : Nat) : Int) := nI_toInt (by omega); have := i_nlt c4; have := i_rg w; have := i_eq ek5; have : (nI k5).toInt = ((k5 : Nat) : Int) := nI_toInt (by omega); have := i_lt c6; have : (13 : Int32).toInt = 13 := rfl; have := c8; omega)) (congrArg nI (by have := i_nlt c1; have := i_rg t; have : (0 : Int32).toInt = 0 := rfl; have := i_eq ek2; have : (nI k2).toInt = ((k2 : Nat) : Int) := nI_toInt (by omega); have := i_nle c3; have : (nI n).toInt = ((n : Nat) : Int) := nI_toInt (by omega); have := i_nlt c4; have := i_rg w; have := i_eq ek5; have : (nI k5).toInt = ((k5 : Nat) : Int) := nI_toInt (by omega); have := i_lt c6; have : (13 : Int32).toInt = 13 := rfl; have := c8; omega))) ?_
              refine r_iaload rfl (.inl (fx_t57 fx)) (vp_ct (fx_n57 fx) (vp_in_nI (by have := i_nlt c1; have := i_rg t; have : (0 : Int32).toInt = 0 := rfl; have := i_eq ek2; have : (nI k2).toInt = ((k2 : Nat) : Int) := nI_toInt (by omega); have := i_nle c3; have : (nI n).toInt = ((n : Nat) : Int) := nI_toInt (by omega); have := i_nlt c4; have := i_rg w; have := i_eq ek5; have : (nI k5).toInt = ((k5 : Nat) : Int) := nI_toInt (by omega); have := i_lt c6; have : (13 : Int32).toInt = 13 := rfl; have := c8; omega) (by omega))) ?_
              refine WR_tI (congrArg (hI (sI (sI h (ad 0) 6 0) (ad 30) 11 0) (ad 57)) ((nI_clamp (by have := i_nlt c1; have := i_rg t; have : (0 : Int32).toInt = 0 := rfl; have := i_eq ek2; have : (nI k2).toInt = ((k2 : Nat) : Int) := nI_toInt (by omega); have := i_nle c3; have : (nI n).toInt = ((n : Nat) : Int) := nI_toInt (by omega); have := i_nlt c4; have := i_rg w; have := i_eq ek5; have : (nI k5).toInt = ((k5 : Nat) : Int) := nI_toInt (by omega); have := i_lt c6; have : (13 : Int32).toInt = 13 := rfl; have := c8; omega)) : _ = 5 * k2 + k5 - 8)) ?_
              refine WR_tI (y := nI q9) (Eq.trans (I_ne (fx_ne fx (by decide))) (Eq.trans (I_ne (fx_ne fx (by decide))) (Eq.trans (congrArg (hI h (ad 57)) (show 5 * k2 + k5 - 8 = 5 * k2 + (k5 - 8) from by have := i_nlt c4; have := i_rg w; have : (0 : Int32).toInt = 0 := rfl; have := i_eq ek5; have : (nI k5).toInt = ((k5 : Nat) : Int) := nI_toInt (by omega); have := i_lt c6; have : (13 : Int32).toInt = 13 := rfl; have := c8; omega)) v9))) ?_
              refine r_i2l rfl ?_
              refine WR_tL (y := lN q9) (nI_l (by omega)) ?_
              refine r_lret rfl ?_
              exact ⟨rfl, Rel.why r ((Chg.rf.sI (fx_j fx) (.inl (by decide))).sI (fx_j fx) (.inl (by decide))) ⟨rfl, by decide⟩ (Eq.trans (Eq.trans (I_ne (fx_ne fx (by decide))) I_eq) (Eq.symm I_eq)), Nat.le_add_right _ _, Nat.le_add_right _ _⟩
          · rcases tsw_0_7 c8 with e_ | e_ | e_ | e_ | e_ | e_ | e_ | e_
            · have c10 : (nI k5) = 0 := e_
              refine WR_pc (q := 48) (by rw [c10]; rfl) ?_
              refine r_aload rfl rfl ?_
              refine r_getI rfl ⟨rfl, rfl, rfl⟩ tb7.2.1 ?_
              refine WR_tI (y := hI h (ad (100 + 5 * k2)) 10) (I_ne (fx_ne fx (by omega))) ?_
              refine r_i2l rfl ?_
              refine r_lret rfl ?_
              show WR _ cd_143 50 [some (.ref (ad 0)), some (.int t), some (.int w)] [.long ((hI h (ad (100 + 5 * k2)) 10).toInt64)] (sI h (ad 0) 6 0) _
              refine r_lret rfl ?_
              show EV _ 246 [.ref (ad 30), .int t, .int w] (sI h (ad 0) 6 0) _
              refine in_246 (Nat.le_of_ble_eq_true rfl) ?_
              show WR _ cd_246 0 [some (.ref (ad 30)), some (.int t), some (.int w)] [] (sI h (ad 0) 6 0) _
              refine r_aload rfl rfl ?_
              refine r_iload rfl rfl ?_
              refine WR_tI (y := nI k2) ek2 ?_
              refine r_cv (y := 206) (ra := [.int (nI k2)]) (rest := []) rfl ⟨⟨rfl, rfl⟩, rfl, by decide⟩ (fx_t30 fx) rfl rfl (Nat.le_of_ble_eq_true rfl) ?_
              refine in_206 (Nat.le_of_ble_eq_true rfl) ?_
              show WR _ cd_206 0 [some (.ref (ad 30)), some (.int (nI k2))] [] (sI h (ad 0) 6 0) _
              refine r_iload rfl rfl ?_
              refine r_if_lt (tg := 16) rfl rfl (fun q => False.elim (by have := i_nlt c1; have := i_rg t; have : (0 : Int32).toInt = 0 := rfl; have := i_eq ek2; have : (nI k2).toInt = ((k2 : Nat) : Int) := nI_toInt (by omega); have := i_nle c3; have : (nI n).toInt = ((n : Nat) : Int) := nI_toInt (by omega); have := i_lt q; omega)) (fun _ => ?_)
              refine r_iload rfl rfl ?_
              refine r_aload rfl rfl ?_
              refine r_getI rfl ⟨rfl, rfl, rfl⟩ (fx_t30 fx) ?_
              refine WR_tI (y := nI n) (Eq.trans (I_ne (fx_ne fx (by decide))) ru.1) ?_
              refine r_icmp_ge (tg := 16) rfl rfl (fun q => False.elim (by have := i_nlt c1; have := i_rg t; have : (0 : Int32).toInt = 0 := rfl; have := i_eq ek2; have : (nI k2).toInt = ((k2 : Nat) : Int) := nI_toInt (by omega); have := i_nle c3; have : (nI n).toInt = ((n : Nat) : Int) := nI_toInt (by omega); have := i_le q; omega)) (fun _ => ?_)
              refine r_ic (x := 1) rfl rfl ?_
              refine r_goto (tg := 17) rfl rfl ?_
              refine r_zret rfl (.inr rfl) ?_
              show WR _ cd_246 5 [some (.ref (ad 30)), some (.int t), some (.int w)] [.int 1] (sI h (ad 0) 6 0) _
              refine r_if_ne (tg := 15) rfl rfl (fun _ => ?_) (fun q => absurd q (by decide))
              refine r_iload rfl rfl ?_
              refine WR_tI (y := nI k5) ek5 ?_
              refine r_i2l rfl ?_
              refine WR_tL (y := lN k5) (nI_l (by have := i_nlt c4; have := i_rg w; have : (0 : Int32).toInt = 0 := rfl; have := i_eq ek5; have : (nI k5).toInt = ((k5 : Nat) : Int) := nI_toInt (by omega); have := i_lt c6; have : (13 : Int32).toInt = 13 := rfl; have := i_eq c10; omega)) ?_
              refine r_lc (x := 0) rfl rfl ?_
              refine r_ldc (x := .long 12) rfl rfl ?_
              refine r_cs (y := 155) (ra := [.long 12, .long 0, .long (lN k5)]) (rest := []) rfl ⟨⟨rfl, rfl⟩, by decide⟩ rfl rfl (Nat.le_of_ble_eq_true rfl) ?_
              refine in_155 (Nat.le_of_ble_eq_true rfl) ?_
              show WR _ cd_155 0 [some (.long (lN k5)), none, some (.long 0), none, some (.long 12), none] [] (sI h (ad 0) 6 0) _
              refine r_lload rfl rfl ?_
              refine r_lload rfl rfl ?_
              refine r_lif_lt (tg := 17) rfl rfl rfl (fun q => False.elim (by have := i_nlt c4; have := i_rg w; have : (0 : Int32).toInt = 0 := rfl; have := i_eq ek5; have : (nI k5).toInt = ((k5 : Nat) : Int) := nI_toInt (by omega); have := i_lt c6; have : (13 : Int32).toInt = 13 := rfl; have := i_eq c10; have : (lN k5).toInt = ((k5 : Nat) : Int) := lN_toInt (by omega); have : (0 : Int64).toInt = 0 := rfl; have := l_lt q; omega)) (fun _ => ?_)
              refine r_lload rfl rfl ?_
              refine r_lload rfl rfl ?_
              refine r_lif_gt (tg := 17) rfl rfl rfl (fun q => False.elim (by have := i_nlt c4; have := i_rg w; have : (0 : Int32).toInt = 0 := rfl; have := i_eq ek5; have : (nI k5).toInt = ((k5 : Nat) : Int) := nI_toInt (by omega); have := i_lt c6; have : (13 : Int32).toInt = 13 := rfl; have := i_eq c10; have : (lN k5).toInt = ((k5 : Nat) : Int) := lN_toInt (by omega); have : (12 : Int64).toInt = 12 := rfl; have := l_lt q; omega)) (fun _ => ?_)
              refine r_ic (x := 1) rfl rfl ?_
              refine r_goto (tg := 18) rfl rfl ?_
              refine r_zret rfl (.inr rfl) ?_
              show WR _ cd_246 24 [some (.ref (ad 30)), some (.int t), some (.int w)] [.int 1] (sI h (ad 0) 6 0) _
              refine r_if_ne (tg := 34) rfl rfl (fun _ => ?_) (fun q => absurd q (by decide))
              refine r_aload rfl rfl ?_
              refine r_ic (x := 0) rfl rfl ?_
              refine r_putI rfl ⟨rfl, rfl, rfl⟩ (fx_t30 fx) ?_
              refine r_iload rfl rfl ?_
              refine WR_tI (y := nI k5) ek5 ?_
              refine r_ic (x := 7) rfl rfl ?_
              refine r_icmp_le (tg := 60) rfl rfl (fun _ => ?_) (fun q => False.elim (by have := i_nlt c4; have := i_rg w; have : (0 : Int32).toInt = 0 := rfl; have := i_eq ek5; have : (nI k5).toInt = ((k5 : Nat) : Int) := nI_toInt (by omega); have := i_lt c6; have : (13 : Int32).toInt = 13 := rfl; have := i_eq c10; have : (7 : Int32).toInt = 7 := rfl; have := i_nle q; omega))
              refine r_iload rfl rfl ?_
              refine WR_tI (y := nI k5) ek5 ?_
              refine r_tsw (tg := 172) rfl rfl (fun c11 => False.elim (by have := i_nlt c4; have := i_rg w; have : (0 : Int32).toInt = 0 := rfl; have := i_eq ek5; have : (nI k5).toInt = ((k5 : Nat) : Int) := nI_toInt (by omega); have := i_lt c6; have : (13 : Int32).toInt = 13 := rfl; have := i_eq c10; omega)) (fun c11 => ?_)
              rcases tsw_0_6 c11 with e_ | e_ | e_ | e_ | e_ | e_ | e_
              · have c12 : (nI k5) = 0 := e_
                refine WR_pc (q := 104) (by rw [c12]; rfl) ?_
                refine r_aload rfl rfl ?_
                refine r_getA (b := ad 66) rfl ⟨rfl, rfl, rfl⟩ (fx_t30 fx) (fx_r30_53 fx) ?_
                refine r_iload rfl rfl ?_
                refine WR_tI (y := nI k2) ek2 ?_
                refine r_iaload rfl (.inl (fx_t66 fx)) (vp_ct (fx_n66 fx) (vp_in_nI (by have := i_nlt c1; have := i_rg t; have : (0 : Int32).toInt = 0 := rfl; have := i_eq ek2; have : (nI k2).toInt = ((k2 : Nat) : Int) := nI_toInt (by omega); have := i_nle c3; have : (nI n).toInt = ((n : Nat) : Int) := nI_toInt (by omega); omega) (by omega))) ?_
                refine WR_tI (congrArg (hI (sI (sI h (ad 0) 6 0) (ad 30) 11 0) (ad 66)) ((nI_clamp (by have := i_nlt c1; have := i_rg t; have : (0 : Int32).toInt = 0 := rfl; have := i_eq ek2; have : (nI k2).toInt = ((k2 : Nat) : Int) := nI_toInt (by omega); have := i_nle c3; have : (nI n).toInt = ((n : Nat) : Int) := nI_toInt (by omega); omega)) : _ = k2)) ?_
                refine WR_tI (y := hI h (ad (100 + 5 * k2)) 10) (Eq.trans (I_ne (fx_ne fx (by decide))) (Eq.trans (I_ne (fx_ne fx (by decide))) c1_7.symm)) ?_
                refine r_i2l rfl ?_
                refine r_lret rfl ?_
                exact ⟨rfl, Rel.why r ((Chg.rf.sI (fx_j fx) (.inl (by decide))).sI (fx_j fx) (.inl (by decide))) ⟨rfl, by decide⟩ (Eq.trans (Eq.trans (I_ne (fx_ne fx (by decide))) I_eq) (Eq.symm I_eq)), Nat.le_add_right _ _, Nat.le_add_right _ _⟩
              · have c13 : (nI k5) = 1 := e_
                exfalso; have := i_nlt c4; have := i_rg w; have : (0 : Int32).toInt = 0 := rfl; have := i_eq ek5; have : (nI k5).toInt = ((k5 : Nat) : Int) := nI_toInt (by omega); have := i_lt c6; have : (13 : Int32).toInt = 13 := rfl; have := i_eq c10; have : (1 : Int32).toInt = 1 := rfl; have := i_eq c13; omega
              · have c14 : (nI k5) = 2 := e_
                exfalso; have := i_nlt c4; have := i_rg w; have : (0 : Int32).toInt = 0 := rfl; have := i_eq ek5; have : (nI k5).toInt = ((k5 : Nat) : Int) := nI_toInt (by omega); have := i_lt c6; have : (13 : Int32).toInt = 13 := rfl; have := i_eq c10; have : (2 : Int32).toInt = 2 := rfl; have := i_eq c14; omega
              · have c15 : (nI k5) = 3 := e_
                exfalso; have := i_nlt c4; have := i_rg w; have : (0 : Int32).toInt = 0 := rfl; have := i_eq ek5; have : (nI k5).toInt = ((k5 : Nat) : Int) := nI_toInt (by omega); have := i_lt c6; have : (13 : Int32).toInt = 13 := rfl; have := i_eq c10; have : (3 : Int32).toInt = 3 := rfl; have := i_eq c15; omega
              · have c16 : (nI k5) = 4 := e_
                exfalso; have := i_nlt c4; have := i_rg w; have : (0 : Int32).toInt = 0 := rfl; have := i_eq ek5; have : (nI k5).toInt = ((k5 : Nat) : Int) := nI_toInt (by omega); have := i_lt c6; have : (13 : Int32).toInt = 13 := rfl; have := i_eq c10; have : (4 : Int32).toInt = 4 := rfl; have := i_eq c16; omega
              · have c17 : (nI k5) = 5 := e_
                exfalso; have := i_nlt c4; have := i_rg w; have : (0 : Int32).toInt = 0 := rfl; have := i_eq ek5; have : (nI k5).toInt = ((k5 : Nat) : Int) := nI_toInt (by omega); have := i_lt c6; have : (13 : Int32).toInt = 13 := rfl; have := i_eq c10; have : (5 : Int32).toInt = 5 := rfl; have := i_eq c17; omega
              · have c18 : (nI k5) = 6 := e_
                exfalso; have := i_nlt c4; have := i_rg w; have : (0 : Int32).toInt = 0 := rfl; have := i_eq ek5; have : (nI k5).toInt = ((k5 : Nat) : Int) := nI_toInt (by omega); have := i_lt c6; have : (13 : Int32).toInt = 13 := rfl; have := i_eq c10; have : (6 : Int32).toInt = 6 := rfl; have := i_eq c18; omega
            · have c19 : (nI k5) = 1 := e_
              refine WR_pc (q := 54) (by rw [c19]; rfl) ?_
              refine r_aload rfl rfl ?_
              refine r_getD rfl ⟨rfl, rfl, rfl⟩ tb7.2.1 ?_
              refine WR_tD (y := hD h (ad 67) k2) (Eq.trans D_oI e2_7) ?_
              refine r_cs (y := 88) (ra := [.double (hD h (ad 67) k2)]) (rest := []) rfl ⟨⟨rfl, rfl⟩, by decide⟩ rfl rfl (Nat.le_of_ble_eq_true rfl) ?_
              refine c_bitsOf (h := sI h (ad 0) 6 0) nn2_7 ?_
              show WR _ cd_144 61 [some (.ref (ad (100 + 5 * k2))), some (.int (nI k5)), none] [.long ((hD h (ad 67) k2).toInt64)] (sI h (ad 0) 6 0) _
              refine r_lret rfl ?_
              show WR _ cd_143 50 [some (.ref (ad 0)), some (.int t), some (.int w)] [.long ((hD h (ad 67) k2).toInt64)] (sI h (ad 0) 6 0) _
              refine r_lret rfl ?_
              show EV _ 246 [.ref (ad 30), .int t, .int w] (sI h (ad 0) 6 0) _
              refine in_246 (Nat.le_of_ble_eq_true rfl) ?_
              show WR _ cd_246 0 [some (.ref (ad 30)), some (.int t), some (.int w)] [] (sI h (ad 0) 6 0) _
              refine r_aload rfl rfl ?_
              refine r_iload rfl rfl ?_
              refine WR_tI (y := nI k2) ek2 ?_
              refine r_cv (y := 206) (ra := [.int (nI k2)]) (rest := []) rfl ⟨⟨rfl, rfl⟩, rfl, by decide⟩ (fx_t30 fx) rfl rfl (Nat.le_of_ble_eq_true rfl) ?_
              refine in_206 (Nat.le_of_ble_eq_true rfl) ?_
              show WR _ cd_206 0 [some (.ref (ad 30)), some (.int (nI k2))] [] (sI h (ad 0) 6 0) _
              refine r_iload rfl rfl ?_
              refine r_if_lt (tg := 16) rfl rfl (fun q => False.elim (by have := i_nlt c1; have := i_rg t; have : (0 : Int32).toInt = 0 := rfl; have := i_eq ek2; have : (nI k2).toInt = ((k2 : Nat) : Int) := nI_toInt (by omega); have := i_nle c3; have : (nI n).toInt = ((n : Nat) : Int) := nI_toInt (by omega); have := i_lt q; omega)) (fun _ => ?_)
              refine r_iload rfl rfl ?_
              refine r_aload rfl rfl ?_
              refine r_getI rfl ⟨rfl, rfl, rfl⟩ (fx_t30 fx) ?_
              refine WR_tI (y := nI n) (Eq.trans (I_ne (fx_ne fx (by decide))) ru.1) ?_
              refine r_icmp_ge (tg := 16) rfl rfl (fun q => False.elim (by have := i_nlt c1; have := i_rg t; have : (0 : Int32).toInt = 0 := rfl; have := i_eq ek2; have : (nI k2).toInt = ((k2 : Nat) : Int) := nI_toInt (by omega); have := i_nle c3; have : (nI n).toInt = ((n : Nat) : Int) := nI_toInt (by omega); have := i_le q; omega)) (fun _ => ?_)
              refine r_ic (x := 1) rfl rfl ?_
              refine r_goto (tg := 17) rfl rfl ?_
              refine r_zret rfl (.inr rfl) ?_
              show WR _ cd_246 5 [some (.ref (ad 30)), some (.int t), some (.int w)] [.int 1] (sI h (ad 0) 6 0) _
              refine r_if_ne (tg := 15) rfl rfl (fun _ => ?_) (fun q => absurd q (by decide))
              refine r_iload rfl rfl ?_
              refine WR_tI (y := nI k5) ek5 ?_
              refine r_i2l rfl ?_
              refine WR_tL (y := lN k5) (nI_l (by have := i_nlt c4; have := i_rg w; have : (0 : Int32).toInt = 0 := rfl; have := i_eq ek5; have : (nI k5).toInt = ((k5 : Nat) : Int) := nI_toInt (by omega); have := i_lt c6; have : (13 : Int32).toInt = 13 := rfl; have := i_eq c19; have : (1 : Int32).toInt = 1 := rfl; omega)) ?_
              refine r_lc (x := 0) rfl rfl ?_
              refine r_ldc (x := .long 12) rfl rfl ?_
              refine r_cs (y := 155) (ra := [.long 12, .long 0, .long (lN k5)]) (rest := []) rfl ⟨⟨rfl, rfl⟩, by decide⟩ rfl rfl (Nat.le_of_ble_eq_true rfl) ?_
              refine in_155 (Nat.le_of_ble_eq_true rfl) ?_
              show WR _ cd_155 0 [some (.long (lN k5)), none, some (.long 0), none, some (.long 12), none] [] (sI h (ad 0) 6 0) _
              refine r_lload rfl rfl ?_
              refine r_lload rfl rfl ?_
              refine r_lif_lt (tg := 17) rfl rfl rfl (fun q => False.elim (by have := i_nlt c4; have := i_rg w; have : (0 : Int32).toInt = 0 := rfl; have := i_eq ek5; have : (nI k5).toInt = ((k5 : Nat) : Int) := nI_toInt (by omega); have := i_lt c6; have : (13 : Int32).toInt = 13 := rfl; have := i_eq c19; have : (1 : Int32).toInt = 1 := rfl; have : (lN k5).toInt = ((k5 : Nat) : Int) := lN_toInt (by omega); have : (0 : Int64).toInt = 0 := rfl; have := l_lt q; omega)) (fun _ => ?_)
              refine r_lload rfl rfl ?_
              refine r_lload rfl rfl ?_
              refine r_lif_gt (tg := 17) rfl rfl rfl (fun q => False.elim (by have := i_nlt c4; have := i_rg w; have : (0 : Int32).toInt = 0 := rfl; have := i_eq ek5; have : (nI k5).toInt = ((k5 : Nat) : Int) := nI_toInt (by omega); have := i_lt c6; have : (13 : Int32).toInt = 13 := rfl; have := i_eq c19; have : (1 : Int32).toInt = 1 := rfl; have : (lN k5).toInt = ((k5 : Nat) : Int) := lN_toInt (by omega); have : (12 : Int64).toInt = 12 := rfl; have := l_lt q; omega)) (fun _ => ?_)
              refine r_ic (x := 1) rfl rfl ?_
              refine r_goto (tg := 18) rfl rfl ?_
              refine r_zret rfl (.inr rfl) ?_
              show WR _ cd_246 24 [some (.ref (ad 30)), some (.int t), some (.int w)] [.int 1] (sI h (ad 0) 6 0) _
              refine r_if_ne (tg := 34) rfl rfl (fun _ => ?_) (fun q => absurd q (by decide))
              refine r_aload rfl rfl ?_
              refine r_ic (x := 0) rfl rfl ?_
              refine r_putI rfl ⟨rfl, rfl, rfl⟩ (fx_t30 fx) ?_
              refine r_iload rfl rfl ?_
              refine WR_tI (y := nI k5) ek5 ?_
              refine r_ic (x := 7) rfl rfl ?_
              refine r_icmp_le (tg := 60) rfl rfl (fun _ => ?_) (fun q => False.elim (by have := i_nlt c4; have := i_rg w; have : (0 : Int32).toInt = 0 := rfl; have := i_eq ek5; have : (nI k5).toInt = ((k5 : Nat) : Int) := nI_toInt (by omega); have := i_lt c6; have : (13 : Int32).toInt = 13 := rfl; have := i_eq c19; have : (1 : Int32).toInt = 1 := rfl; have : (7 : Int32).toInt = 7 := rfl; have := i_nle q; omega))
              refine r_iload rfl rfl ?_
              refine WR_tI (y := nI k5) ek5 ?_
              refine r_tsw (tg := 172) rfl rfl (fun c20 => False.elim (by have := i_nlt c4; have := i_rg w; have : (0 : Int32).toInt = 0 := rfl; have := i_eq ek5; have : (nI k5).toInt = ((k5 : Nat) : Int) := nI_toInt (by omega); have := i_lt c6; have : (13 : Int32).toInt = 13 := rfl; have := i_eq c19; have : (1 : Int32).toInt = 1 := rfl; omega)) (fun c20 => ?_)
              rcases tsw_0_6 c20 with e_ | e_ | e_ | e_ | e_ | e_ | e_
              · have c21 : (nI k5) = 0 := e_
                exfalso; have := i_nlt c4; have := i_rg w; have : (0 : Int32).toInt = 0 := rfl; have := i_eq ek5; have : (nI k5).toInt = ((k5 : Nat) : Int) := nI_toInt (by omega); have := i_lt c6; have : (13 : Int32).toInt = 13 := rfl; have := i_eq c19; have : (1 : Int32).toInt = 1 := rfl; have := i_eq c21; omega
              · have c22 : (nI k5) = 1 := e_
                refine WR_pc (q := 112) (by rw [c22]; rfl) ?_
                refine r_aload rfl rfl ?_
                refine r_getA (b := ad 67) rfl ⟨rfl, rfl, rfl⟩ (fx_t30 fx) (fx_r30_54 fx) ?_
                refine r_iload rfl rfl ?_
                refine WR_tI (y := nI k2) ek2 ?_
                refine r_daload rfl (fx_t67 fx) (vp_ct (fx_n67 fx) (vp_in_nI (by have := i_nlt c1; have := i_rg t; have : (0 : Int32).toInt = 0 := rfl; have := i_eq ek2; have : (nI k2).toInt = ((k2 : Nat) : Int) := nI_toInt (by omega); have := i_nle c3; have : (nI n).toInt = ((n : Nat) : Int) := nI_toInt (by omega); omega) (by omega))) ?_
                refine WR_tD (congrArg (hD (sI (sI h (ad 0) 6 0) (ad 30) 11 0) (ad 67)) ((nI_clamp (by have := i_nlt c1; have := i_rg t; have : (0 : Int32).toInt = 0 := rfl; have := i_eq ek2; have : (nI k2).toInt = ((k2 : Nat) : Int) := nI_toInt (by omega); have := i_nle c3; have : (nI n).toInt = ((n : Nat) : Int) := nI_toInt (by omega); omega)) : _ = k2)) ?_
                refine WR_tD (y := hD h (ad 67) k2) (Eq.trans D_oI D_oI) ?_
                refine r_cs (y := 198) (ra := [.double (hD h (ad 67) k2)]) (rest := []) rfl ⟨⟨rfl, rfl⟩, by decide⟩ rfl rfl (Nat.le_of_ble_eq_true rfl) ?_
                refine c_dl (h := sI (sI h (ad 0) 6 0) (ad 30) 11 0) (.inr nn2_7) ?_
                show WR _ cd_246 121 [some (.ref (ad 30)), some (.int t), some (.int w)] [.long ((hD h (ad 67) k2).toInt64)] (sI (sI h (ad 0) 6 0) (ad 30) 11 0) _
                refine r_lret rfl ?_
                exact ⟨rfl, Rel.why r ((Chg.rf.sI (fx_j fx) (.inl (by decide))).sI (fx_j fx) (.inl (by decide))) ⟨rfl, by decide⟩ (Eq.trans (Eq.trans (I_ne (fx_ne fx (by decide))) I_eq) (Eq.symm I_eq)), Nat.le_add_right _ _, Nat.le_add_right _ _⟩
              · have c23 : (nI k5) = 2 := e_
                exfalso; have := i_nlt c4; have := i_rg w; have : (0 : Int32).toInt = 0 := rfl; have := i_eq ek5; have : (nI k5).toInt = ((k5 : Nat) : Int) := nI_toInt (by omega); have := i_lt c6; have : (13 : Int32).toInt = 13 := rfl; have := i_eq c19; have : (1 : Int32).toInt = 1 := rfl; have : (2 : Int32).toInt = 2 := rfl; have := i_eq c23; omega
              · have c24 : (nI k5) = 3 := e_
                exfalso; have := i_nlt c4; have := i_rg w; have : (0 : Int32).toInt = 0 := rfl; have := i_eq ek5; have : (nI k5).toInt = ((k5 : Nat) : Int) := nI_toInt (by omega); have := i_lt c6; have : (13 : Int32).toInt = 13 := rfl; have := i_eq c19; have : (1 : Int32).toInt = 1 := rfl; have : (3 : Int32).toInt = 3 := rfl; have := i_eq c24; omega
              · have c25 : (nI k5) = 4 := e_
                exfalso; have := i_nlt c4; have := i_rg w; have : (0 : Int32).toInt = 0 := rfl; have := i_eq ek5; have : (nI k5).toInt = ((k5 : Nat) : Int) := nI_toInt (by omega); have := i_lt c6; have : (13 : Int32).toInt = 13 := rfl; have := i_eq c19; have : (1 : Int32).toInt = 1 := rfl; have : (4 : Int32).toInt = 4 := rfl; have := i_eq c25; omega
              · have c26 : (nI k5) = 5 := e_
                exfalso; have := i_nlt c4; have := i_rg w; have : (0 : Int32).toInt = 0 := rfl; have := i_eq ek5; have : (nI k5).toInt = ((k5 : Nat) : Int) := nI_toInt (by omega); have := i_lt c6; have : (13 : Int32).toInt = 13 := rfl; have := i_eq c19; have : (1 : Int32).toInt = 1 := rfl; have : (5 : Int32).toInt = 5 := rfl; have := i_eq c26; omega
              · have c27 : (nI k5) = 6 := e_
                exfalso; have := i_nlt c4; have := i_rg w; have : (0 : Int32).toInt = 0 := rfl; have := i_eq ek5; have : (nI k5).toInt = ((k5 : Nat) : Int) := nI_toInt (by omega); have := i_lt c6; have : (13 : Int32).toInt = 13 := rfl; have := i_eq c19; have : (1 : Int32).toInt = 1 := rfl; have : (6 : Int32).toInt = 6 := rfl; have := i_eq c27; omega
            · have c28 : (nI k5) = 2 := e_
              refine WR_pc (q := 62) (by rw [c28]; rfl) ?_
              refine r_aload rfl rfl ?_
              refine r_getD rfl ⟨rfl, rfl, rfl⟩ tb7.2.1 ?_
              refine WR_tD (y := hD h (ad 68) k2) (Eq.trans D_oI e3_7) ?_
              refine r_cs (y := 88) (ra := [.double (hD h (ad 68) k2)]) (rest := []) rfl ⟨⟨rfl, rfl⟩, by decide⟩ rfl rfl (Nat.le_of_ble_eq_true rfl) ?_
              refine c_bitsOf (h := sI h (ad 0) 6 0) nn3_7 ?_
              show WR _ cd_144 69 [some (.ref (ad (100 + 5 * k2))), some (.int (nI k5)), none] [.long ((hD h (ad 68) k2).toInt64)] (sI h (ad 0) 6 0) _
              refine r_lret rfl ?_
              show WR _ cd_143 50 [some (.ref (ad 0)), some (.int t), some (.int w)] [.long ((hD h (ad 68) k2).toInt64)] (sI h (ad 0) 6 0) _
              refine r_lret rfl ?_
              show EV _ 246 [.ref (ad 30), .int t, .int w] (sI h (ad 0) 6 0) _
              refine in_246 (Nat.le_of_ble_eq_true rfl) ?_
              show WR _ cd_246 0 [some (.ref (ad 30)), some (.int t), some (.int w)] [] (sI h (ad 0) 6 0) _
              refine r_aload rfl rfl ?_
              refine r_iload rfl rfl ?_
              refine WR_tI (y := nI k2) ek2 ?_
              refine r_cv (y := 206) (ra := [.int (nI k2)]) (rest := []) rfl ⟨⟨rfl, rfl⟩, rfl, by decide⟩ (fx_t30 fx) rfl rfl (Nat.le_of_ble_eq_true rfl) ?_
              refine in_206 (Nat.le_of_ble_eq_true rfl) ?_
              show WR _ cd_206 0 [some (.ref (ad 30)), some (.int (nI k2))] [] (sI h (ad 0) 6 0) _
              refine r_iload rfl rfl ?_
              refine r_if_lt (tg := 16) rfl rfl (fun q => False.elim (by have := i_nlt c1; have := i_rg t; have : (0 : Int32).toInt = 0 := rfl; have := i_eq ek2; have : (nI k2).toInt = ((k2 : Nat) : Int) := nI_toInt (by omega); have := i_nle c3; have : (nI n).toInt = ((n : Nat) : Int) := nI_toInt (by omega); have := i_lt q; omega)) (fun _ => ?_)
              refine r_iload rfl rfl ?_
              refine r_aload rfl rfl ?_
              refine r_getI rfl ⟨rfl, rfl, rfl⟩ (fx_t30 fx) ?_
              refine WR_tI (y := nI n) (Eq.trans (I_ne (fx_ne fx (by decide))) ru.1) ?_
              refine r_icmp_ge (tg := 16) rfl rfl (fun q => False.elim (by have := i_nlt c1; have := i_rg t; have : (0 : Int32).toInt = 0 := rfl; have := i_eq ek2; have : (nI k2).toInt = ((k2 : Nat) : Int) := nI_toInt (by omega); have := i_nle c3; have : (nI n).toInt = ((n : Nat) : Int) := nI_toInt (by omega); have := i_le q; omega)) (fun _ => ?_)
              refine r_ic (x := 1) rfl rfl ?_
              refine r_goto (tg := 17) rfl rfl ?_
              refine r_zret rfl (.inr rfl) ?_
              show WR _ cd_246 5 [some (.ref (ad 30)), some (.int t), some (.int w)] [.int 1] (sI h (ad 0) 6 0) _
              refine r_if_ne (tg := 15) rfl rfl (fun _ => ?_) (fun q => absurd q (by decide))
              refine r_iload rfl rfl ?_
              refine WR_tI (y := nI k5) ek5 ?_
              refine r_i2l rfl ?_
              refine WR_tL (y := lN k5) (nI_l (by have := i_nlt c4; have := i_rg w; have : (0 : Int32).toInt = 0 := rfl; have := i_eq ek5; have : (nI k5).toInt = ((k5 : Nat) : Int) := nI_toInt (by omega); have := i_lt c6; have : (13 : Int32).toInt = 13 := rfl; have := i_eq c28; have : (2 : Int32).toInt = 2 := rfl; omega)) ?_
              refine r_lc (x := 0) rfl rfl ?_
              refine r_ldc (x := .long 12) rfl rfl ?_
              refine r_cs (y := 155) (ra := [.long 12, .long 0, .long (lN k5)]) (rest := []) rfl ⟨⟨rfl, rfl⟩, by decide⟩ rfl rfl (Nat.le_of_ble_eq_true rfl) ?_
              refine in_155 (Nat.le_of_ble_eq_true rfl) ?_
              show WR _ cd_155 0 [some (.long (lN k5)), none, some (.long 0), none, some (.long 12), none] [] (sI h (ad 0) 6 0) _
              refine r_lload rfl rfl ?_
              refine r_lload rfl rfl ?_
              refine r_lif_lt (tg := 17) rfl rfl rfl (fun q => False.elim (by have := i_nlt c4; have := i_rg w; have : (0 : Int32).toInt = 0 := rfl; have := i_eq ek5; have : (nI k5).toInt = ((k5 : Nat) : Int) := nI_toInt (by omega); have := i_lt c6; have : (13 : Int32).toInt = 13 := rfl; have := i_eq c28; have : (2 : Int32).toInt = 2 := rfl; have : (lN k5).toInt = ((k5 : Nat) : Int) := lN_toInt (by omega); have : (0 : Int64).toInt = 0 := rfl; have := l_lt q; omega)) (fun _ => ?_)
              refine r_lload rfl rfl ?_
              refine r_lload rfl rfl ?_
              refine r_lif_gt (tg := 17) rfl rfl rfl (fun q => False.elim (by have := i_nlt c4; have := i_rg w; have : (0 : Int32).toInt = 0 := rfl; have := i_eq ek5; have : (nI k5).toInt = ((k5 : Nat) : Int) := nI_toInt (by omega); have := i_lt c6; have : (13 : Int32).toInt = 13 := rfl; have := i_eq c28; have : (2 : Int32).toInt = 2 := rfl; have : (lN k5).toInt = ((k5 : Nat) : Int) := lN_toInt (by omega); have : (12 : Int64).toInt = 12 := rfl; have := l_lt q; omega)) (fun _ => ?_)
              refine r_ic (x := 1) rfl rfl ?_
              refine r_goto (tg := 18) rfl rfl ?_
              refine r_zret rfl (.inr rfl) ?_
              show WR _ cd_246 24 [some (.ref (ad 30)), some (.int t), some (.int w)] [.int 1] (sI h (ad 0) 6 0) _
              refine r_if_ne (tg := 34) rfl rfl (fun _ => ?_) (fun q => absurd q (by decide))
              refine r_aload rfl rfl ?_
              refine r_ic (x := 0) rfl rfl ?_
              refine r_putI rfl ⟨rfl, rfl, rfl⟩ (fx_t30 fx) ?_
              refine r_iload rfl rfl ?_
              refine WR_tI (y := nI k5) ek5 ?_
              refine r_ic (x := 7) rfl rfl ?_
              refine r_icmp_le (tg := 60) rfl rfl (fun _ => ?_) (fun q => False.elim (by have := i_nlt c4; have := i_rg w; have : (0 : Int32).toInt = 0 := rfl; have := i_eq ek5; have : (nI k5).toInt = ((k5 : Nat) : Int) := nI_toInt (by omega); have := i_lt c6; have : (13 : Int32).toInt = 13 := rfl; have := i_eq c28; have : (2 : Int32).toInt = 2 := rfl; have : (7 : Int32).toInt = 7 := rfl; have := i_nle q; omega))
              refine r_iload rfl rfl ?_
              refine WR_tI (y := nI k5) ek5 ?_
              refine r_tsw (tg := 172) rfl rfl (fun c29 => False.elim (by have := i_nlt c4; have := i_rg w; have : (0 : Int32).toInt = 0 := rfl; have := i_eq ek5; have : (nI k5).toInt = ((k5 : Nat) : Int) := nI_toInt (by omega); have := i_lt c6; have : (13 : Int32).toInt = 13 := rfl; have := i_eq c28; have : (2 : Int32).toInt = 2 := rfl; omega)) (fun c29 => ?_)
              rcases tsw_0_6 c29 with e_ | e_ | e_ | e_ | e_ | e_ | e_
              · have c30 : (nI k5) = 0 := e_
                exfalso; have := i_nlt c4; have := i_rg w; have : (0 : Int32).toInt = 0 := rfl; have := i_eq ek5; have : (nI k5).toInt = ((k5 : Nat) : Int) := nI_toInt (by omega); have := i_lt c6; have : (13 : Int32).toInt = 13 := rfl; have := i_eq c28; have : (2 : Int32).toInt = 2 := rfl; have := i_eq c30; omega
              · have c31 : (nI k5) = 1 := e_
                exfalso; have := i_nlt c4; have := i_rg w; have : (0 : Int32).toInt = 0 := rfl; have := i_eq ek5; have : (nI k5).toInt = ((k5 : Nat) : Int) := nI_toInt (by omega); have := i_lt c6; have : (13 : Int32).toInt = 13 := rfl; have := i_eq c28; have : (2 : Int32).toInt = 2 := rfl; have : (1 : Int32).toInt = 1 := rfl; have := i_eq c31; omega
              · have c32 : (nI k5) = 2 := e_
                refine WR_pc (q := 122) (by rw [c32]; rfl) ?_
                refine r_aload rfl rfl ?_
                refine r_getA (b := ad 68) rfl ⟨rfl, rfl, rfl⟩ (fx_t30 fx) (fx_r30_55 fx) ?_
                refine r_iload rfl rfl ?_
                refine WR_tI (y := nI k2) ek2 ?_
                refine r_daload rfl (fx_t68 fx) (vp_ct (fx_n68 fx) (vp_in_nI (by have := i_nlt c1; have := i_rg t; have : (0 : Int32).toInt = 0 := rfl; have := i_eq ek2; have : (nI k2).toInt = ((k2 : Nat) : Int) := nI_toInt (by omega); have := i_nle c3; have : (nI n).toInt = ((n : Nat) : Int) := nI_toInt (by omega); omega) (by omega))) ?_
                refine WR_tD (congrArg (hD (sI (sI h (ad 0) 6 0) (ad 30) 11 0) (ad 68)) ((nI_clamp (by have := i_nlt c1; have := i_rg t; have : (0 : Int32).toInt = 0 := rfl; have := i_eq ek2; have : (nI k2).toInt = ((k2 : Nat) : Int) := nI_toInt (by omega); have := i_nle c3; have : (nI n).toInt = ((n : Nat) : Int) := nI_toInt (by omega); omega)) : _ = k2)) ?_
                refine WR_tD (y := hD h (ad 68) k2) (Eq.trans D_oI D_oI) ?_
                refine r_cs (y := 198) (ra := [.double (hD h (ad 68) k2)]) (rest := []) rfl ⟨⟨rfl, rfl⟩, by decide⟩ rfl rfl (Nat.le_of_ble_eq_true rfl) ?_
                refine c_dl (h := sI (sI h (ad 0) 6 0) (ad 30) 11 0) (.inr nn3_7) ?_
                show WR _ cd_246 131 [some (.ref (ad 30)), some (.int t), some (.int w)] [.long ((hD h (ad 68) k2).toInt64)] (sI (sI h (ad 0) 6 0) (ad 30) 11 0) _
                refine r_lret rfl ?_
                exact ⟨rfl, Rel.why r ((Chg.rf.sI (fx_j fx) (.inl (by decide))).sI (fx_j fx) (.inl (by decide))) ⟨rfl, by decide⟩ (Eq.trans (Eq.trans (I_ne (fx_ne fx (by decide))) I_eq) (Eq.symm I_eq)), Nat.le_add_right _ _, Nat.le_add_right _ _⟩
              · have c33 : (nI k5) = 3 := e_
                exfalso; have := i_nlt c4; have := i_rg w; have : (0 : Int32).toInt = 0 := rfl; have := i_eq ek5; have : (nI k5).toInt = ((k5 : Nat) : Int) := nI_toInt (by omega); have := i_lt c6; have : (13 : Int32).toInt = 13 := rfl; have := i_eq c28; have : (2 : Int32).toInt = 2 := rfl; have : (3 : Int32).toInt = 3 := rfl; have := i_eq c33; omega
              · have c34 : (nI k5) = 4 := e_
                exfalso; have := i_nlt c4; have := i_rg w; have : (0 : Int32).toInt = 0 := rfl; have := i_eq ek5; have : (nI k5).toInt = ((k5 : Nat) : Int) := nI_toInt (by omega); have := i_lt c6; have : (13 : Int32).toInt = 13 := rfl; have := i_eq c28; have : (2 : Int32).toInt = 2 := rfl; have : (4 : Int32).toInt = 4 := rfl; have := i_eq c34; omega
              · have c35 : (nI k5) = 5 := e_
                exfalso; have := i_nlt c4; have := i_rg w; have : (0 : Int32).toInt = 0 := rfl; have := i_eq ek5; have : (nI k5).toInt = ((k5 : Nat) : Int) := nI_toInt (by omega); have := i_lt c6; have : (13 : Int32).toInt = 13 := rfl; have := i_eq c28; have : (2 : Int32).toInt = 2 := rfl; have : (5 : Int32).toInt = 5 := rfl; have := i_eq c35; omega
              · have c36 : (nI k5) = 6 := e_
                exfalso; have := i_nlt c4; have := i_rg w; have : (0 : Int32).toInt = 0 := rfl; have := i_eq ek5; have : (nI k5).toInt = ((k5 : Nat) : Int) := nI_toInt (by omega); have := i_lt c6; have : (13 : Int32).toInt = 13 := rfl; have := i_eq c28; have : (2 : Int32).toInt = 2 := rfl; have : (6 : Int32).toInt = 6 := rfl; have := i_eq c36; omega
            · have c37 : (nI k5) = 3 := e_
              refine WR_pc (q := 70) (by rw [c37]; rfl) ?_
              refine r_aload rfl rfl ?_
              refine r_getD rfl ⟨rfl, rfl, rfl⟩ tb7.2.1 ?_
              refine WR_tD (y := hD h (ad 69) k2) (Eq.trans D_oI e4_7) ?_
              refine r_cs (y := 88) (ra := [.double (hD h (ad 69) k2)]) (rest := []) rfl ⟨⟨rfl, rfl⟩, by decide⟩ rfl rfl (Nat.le_of_ble_eq_true rfl) ?_
              refine c_bitsOf (h := sI h (ad 0) 6 0) nn4_7 ?_
              show WR _ cd_144 77 [some (.ref (ad (100 + 5 * k2))), some (.int (nI k5)), none] [.long ((hD h (ad 69) k2).toInt64)] (sI h (ad 0) 6 0) _
              refine r_lret rfl ?_
              show WR _ cd_143 50 [some (.ref (ad 0)), some (.int t), some (.int w)] [.long ((hD h (ad 69) k2).toInt64)] (sI h (ad 0) 6 0) _
              refine r_lret rfl ?_
              show EV _ 246 [.ref (ad 30), .int t, .int w] (sI h (ad 0) 6 0) _
              refine in_246 (Nat.le_of_ble_eq_true rfl) ?_
              show WR _ cd_246 0 [some (.ref (ad 30)), some (.int t), some (.int w)] [] (sI h (ad 0) 6 0) _
              refine r_aload rfl rfl ?_
              refine r_iload rfl rfl ?_
              refine WR_tI (y := nI k2) ek2 ?_
              refine r_cv (y := 206) (ra := [.int (nI k2)]) (rest := []) rfl ⟨⟨rfl, rfl⟩, rfl, by decide⟩ (fx_t30 fx) rfl rfl (Nat.le_of_ble_eq_true rfl) ?_
              refine in_206 (Nat.le_of_ble_eq_true rfl) ?_
              show WR _ cd_206 0 [some (.ref (ad 30)), some (.int (nI k2))] [] (sI h (ad 0) 6 0) _
              refine r_iload rfl rfl ?_
              refine r_if_lt (tg := 16) rfl rfl (fun q => False.elim (by have := i_nlt c1; have := i_rg t; have : (0 : Int32).toInt = 0 := rfl; have := i_eq ek2; have : (nI k2).toInt = ((k2 : Nat) : Int) := nI_toInt (by omega); have := i_nle c3; have : (nI n).toInt = ((n : Nat) : Int) := nI_toInt (by omega); have := i_lt q; omega)) (fun _ => ?_)
              refine r_iload rfl rfl ?_
              refine r_aload rfl rfl ?_
              refine r_getI rfl ⟨rfl, rfl, rfl⟩ (fx_t30 fx) ?_
              refine WR_tI (y := nI n) (Eq.trans (I_ne (fx_ne fx (by decide))) ru.1) ?_
              refine r_icmp_ge (tg := 16) rfl rfl (fun q => False.elim (by have := i_nlt c1; have := i_rg t; have : (0 : Int32).toInt = 0 := rfl; have := i_eq ek2; have : (nI k2).toInt = ((k2 : Nat) : Int) := nI_toInt (by omega); have := i_nle c3; have : (nI n).toInt = ((n : Nat) : Int) := nI_toInt (by omega); have := i_le q; omega)) (fun _ => ?_)
              refine r_ic (x := 1) rfl rfl ?_
              refine r_goto (tg := 17) rfl rfl ?_
              refine r_zret rfl (.inr rfl) ?_
              show WR _ cd_246 5 [some (.ref (ad 30)), some (.int t), some (.int w)] [.int 1] (sI h (ad 0) 6 0) _
              refine r_if_ne (tg := 15) rfl rfl (fun _ => ?_) (fun q => absurd q (by decide))
              refine r_iload rfl rfl ?_
              refine WR_tI (y := nI k5) ek5 ?_
              refine r_i2l rfl ?_
              refine WR_tL (y := lN k5) (nI_l (by have := i_nlt c4; have := i_rg w; have : (0 : Int32).toInt = 0 := rfl; have := i_eq ek5; have : (nI k5).toInt = ((k5 : Nat) : Int) := nI_toInt (by omega); have := i_lt c6; have : (13 : Int32).toInt = 13 := rfl; have := i_eq c37; have : (3 : Int32).toInt = 3 := rfl; omega)) ?_
              refine r_lc (x := 0) rfl rfl ?_
              refine r_ldc (x := .long 12) rfl rfl ?_
              refine r_cs (y := 155) (ra := [.long 12, .long 0, .long (lN k5)]) (rest := []) rfl ⟨⟨rfl, rfl⟩, by decide⟩ rfl rfl (Nat.le_of_ble_eq_true rfl) ?_
              refine in_155 (Nat.le_of_ble_eq_true rfl) ?_
              show WR _ cd_155 0 [some (.long (lN k5)), none, some (.long 0), none, some (.long 12), none] [] (sI h (ad 0) 6 0) _
              refine r_lload rfl rfl ?_
              refine r_lload rfl rfl ?_
              refine r_lif_lt (tg := 17) rfl rfl rfl (fun q => False.elim (by have := i_nlt c4; have := i_rg w; have : (0 : Int32).toInt = 0 := rfl; have := i_eq ek5; have : (nI k5).toInt = ((k5 : Nat) : Int) := nI_toInt (by omega); have := i_lt c6; have : (13 : Int32).toInt = 13 := rfl; have := i_eq c37; have : (3 : Int32).toInt = 3 := rfl; have : (lN k5).toInt = ((k5 : Nat) : Int) := lN_toInt (by omega); have : (0 : Int64).toInt = 0 := rfl; have := l_lt q; omega)) (fun _ => ?_)
              refine r_lload rfl rfl ?_
              refine r_lload rfl rfl ?_
              refine r_lif_gt (tg := 17) rfl rfl rfl (fun q => False.elim (by have := i_nlt c4; have := i_rg w; have : (0 : Int32).toInt = 0 := rfl; have := i_eq ek5; have : (nI k5).toInt = ((k5 : Nat) : Int) := nI_toInt (by omega); have := i_lt c6; have : (13 : Int32).toInt = 13 := rfl; have := i_eq c37; have : (3 : Int32).toInt = 3 := rfl; have : (lN k5).toInt = ((k5 : Nat) : Int) := lN_toInt (by omega); have : (12 : Int64).toInt = 12 := rfl; have := l_lt q; omega)) (fun _ => ?_)
              refine r_ic (x := 1) rfl rfl ?_
              refine r_goto (tg := 18) rfl rfl ?_
              refine r_zret rfl (.inr rfl) ?_
              show WR _ cd_246 24 [some (.ref (ad 30)), some (.int t), some (.int w)] [.int 1] (sI h (ad 0) 6 0) _
              refine r_if_ne (tg := 34) rfl rfl (fun _ => ?_) (fun q => absurd q (by decide))
              refine r_aload rfl rfl ?_
              refine r_ic (x := 0) rfl rfl ?_
              refine r_putI rfl ⟨rfl, rfl, rfl⟩ (fx_t30 fx) ?_
              refine r_iload rfl rfl ?_
              refine WR_tI (y := nI k5) ek5 ?_
              refine r_ic (x := 7) rfl rfl ?_
              refine r_icmp_le (tg := 60) rfl rfl (fun _ => ?_) (fun q => False.elim (by have := i_nlt c4; have := i_rg w; have : (0 : Int32).toInt = 0 := rfl; have := i_eq ek5; have : (nI k5).toInt = ((k5 : Nat) : Int) := nI_toInt (by omega); have := i_lt c6; have : (13 : Int32).toInt = 13 := rfl; have := i_eq c37; have : (3 : Int32).toInt = 3 := rfl; have : (7 : Int32).toInt = 7 := rfl; have := i_nle q; omega))
              refine r_iload rfl rfl ?_
              refine WR_tI (y := nI k5) ek5 ?_
              refine r_tsw (tg := 172) rfl rfl (fun c38 => False.elim (by have := i_nlt c4; have := i_rg w; have : (0 : Int32).toInt = 0 := rfl; have := i_eq ek5; have : (nI k5).toInt = ((k5 : Nat) : Int) := nI_toInt (by omega); have := i_lt c6; have : (13 : Int32).toInt = 13 := rfl; have := i_eq c37; have : (3 : Int32).toInt = 3 := rfl; omega)) (fun c38 => ?_)
              rcases tsw_0_6 c38 with e_ | e_ | e_ | e_ | e_ | e_ | e_
              · have c39 : (nI k5) = 0 := e_
                exfalso; have := i_nlt c4; have := i_rg w; have : (0 : Int32).toInt = 0 := rfl; have := i_eq ek5; have : (nI k5).toInt = ((k5 : Nat) : Int) := nI_toInt (by omega); have := i_lt c6; have : (13 : Int32).toInt = 13 := rfl; have := i_eq c37; have : (3 : Int32).toInt = 3 := rfl; have := i_eq c39; omega
              · have c40 : (nI k5) = 1 := e_
                exfalso; have := i_nlt c4; have := i_rg w; have : (0 : Int32).toInt = 0 := rfl; have := i_eq ek5; have : (nI k5).toInt = ((k5 : Nat) : Int) := nI_toInt (by omega); have := i_lt c6; have : (13 : Int32).toInt = 13 := rfl; have := i_eq c37; have : (3 : Int32).toInt = 3 := rfl; have : (1 : Int32).toInt = 1 := rfl; have := i_eq c40; omega
              · have c41 : (nI k5) = 2 := e_
                exfalso; have := i_nlt c4; have := i_rg w; have : (0 : Int32).toInt = 0 := rfl; have := i_eq ek5; have : (nI k5).toInt = ((k5 : Nat) : Int) := nI_toInt (by omega); have := i_lt c6; have : (13 : Int32).toInt = 13 := rfl; have := i_eq c37; have : (3 : Int32).toInt = 3 := rfl; have : (2 : Int32).toInt = 2 := rfl; have := i_eq c41; omega
              · have c42 : (nI k5) = 3 := e_
                refine WR_pc (q := 132) (by rw [c42]; rfl) ?_
                refine r_aload rfl rfl ?_
                refine r_getA (b := ad 69) rfl ⟨rfl, rfl, rfl⟩ (fx_t30 fx) (fx_r30_56 fx) ?_
                refine r_iload rfl rfl ?_
                refine WR_tI (y := nI k2) ek2 ?_
                refine r_daload rfl (fx_t69 fx) (vp_ct (fx_n69 fx) (vp_in_nI (by have := i_nlt c1; have := i_rg t; have : (0 : Int32).toInt = 0 := rfl; have := i_eq ek2; have : (nI k2).toInt = ((k2 : Nat) : Int) := nI_toInt (by omega); have := i_nle c3; have : (nI n).toInt = ((n : Nat) : Int) := nI_toInt (by omega); omega) (by omega))) ?_
                refine WR_tD (congrArg (hD (sI (sI h (ad 0) 6 0) (ad 30) 11 0) (ad 69)) ((nI_clamp (by have := i_nlt c1; have := i_rg t; have : (0 : Int32).toInt = 0 := rfl; have := i_eq ek2; have : (nI k2).toInt = ((k2 : Nat) : Int) := nI_toInt (by omega); have := i_nle c3; have : (nI n).toInt = ((n : Nat) : Int) := nI_toInt (by omega); omega)) : _ = k2)) ?_
                refine WR_tD (y := hD h (ad 69) k2) (Eq.trans D_oI D_oI) ?_
                refine r_cs (y := 198) (ra := [.double (hD h (ad 69) k2)]) (rest := []) rfl ⟨⟨rfl, rfl⟩, by decide⟩ rfl rfl (Nat.le_of_ble_eq_true rfl) ?_
                refine c_dl (h := sI (sI h (ad 0) 6 0) (ad 30) 11 0) (.inr nn4_7) ?_
                show WR _ cd_246 141 [some (.ref (ad 30)), some (.int t), some (.int w)] [.long ((hD h (ad 69) k2).toInt64)] (sI (sI h (ad 0) 6 0) (ad 30) 11 0) _
                refine r_lret rfl ?_
                exact ⟨rfl, Rel.why r ((Chg.rf.sI (fx_j fx) (.inl (by decide))).sI (fx_j fx) (.inl (by decide))) ⟨rfl, by decide⟩ (Eq.trans (Eq.trans (I_ne (fx_ne fx (by decide))) I_eq) (Eq.symm I_eq)), Nat.le_add_right _ _, Nat.le_add_right _ _⟩
              · have c43 : (nI k5) = 4 := e_
                exfalso; have := i_nlt c4; have := i_rg w; have : (0 : Int32).toInt = 0 := rfl; have := i_eq ek5; have : (nI k5).toInt = ((k5 : Nat) : Int) := nI_toInt (by omega); have := i_lt c6; have : (13 : Int32).toInt = 13 := rfl; have := i_eq c37; have : (3 : Int32).toInt = 3 := rfl; have : (4 : Int32).toInt = 4 := rfl; have := i_eq c43; omega
              · have c44 : (nI k5) = 5 := e_
                exfalso; have := i_nlt c4; have := i_rg w; have : (0 : Int32).toInt = 0 := rfl; have := i_eq ek5; have : (nI k5).toInt = ((k5 : Nat) : Int) := nI_toInt (by omega); have := i_lt c6; have : (13 : Int32).toInt = 13 := rfl; have := i_eq c37; have : (3 : Int32).toInt = 3 := rfl; have : (5 : Int32).toInt = 5 := rfl; have := i_eq c44; omega
              · have c45 : (nI k5) = 6 := e_
                exfalso; have := i_nlt c4; have := i_rg w; have : (0 : Int32).toInt = 0 := rfl; have := i_eq ek5; have : (nI k5).toInt = ((k5 : Nat) : Int) := nI_toInt (by omega); have := i_lt c6; have : (13 : Int32).toInt = 13 := rfl; have := i_eq c37; have : (3 : Int32).toInt = 3 := rfl; have : (6 : Int32).toInt = 6 := rfl; have := i_eq c45; omega
            · have c46 : (nI k5) = 4 := e_
              refine WR_pc (q := 78) (by rw [c46]; rfl) ?_
              refine r_aload rfl rfl ?_
              refine r_getD rfl ⟨rfl, rfl, rfl⟩ tb7.2.1 ?_
              refine WR_tD (y := hD h (ad 70) k2) (Eq.trans D_oI e5_7) ?_
              refine r_cs (y := 88) (ra := [.double (hD h (ad 70) k2)]) (rest := []) rfl ⟨⟨rfl, rfl⟩, by decide⟩ rfl rfl (Nat.le_of_ble_eq_true rfl) ?_
              refine c_bitsOf (h := sI h (ad 0) 6 0) nn5_7 ?_
              show WR _ cd_144 85 [some (.ref (ad (100 + 5 * k2))), some (.int (nI k5)), none] [.long ((hD h (ad 70) k2).toInt64)] (sI h (ad 0) 6 0) _
              refine r_lret rfl ?_
              show WR _ cd_143 50 [some (.ref (ad 0)), some (.int t), some (.int w)] [.long ((hD h (ad 70) k2).toInt64)] (sI h (ad 0) 6 0) _
              refine r_lret rfl ?_
              show EV _ 246 [.ref (ad 30), .int t, .int w] (sI h (ad 0) 6 0) _
              refine in_246 (Nat.le_of_ble_eq_true rfl) ?_
              show WR _ cd_246 0 [some (.ref (ad 30)), some (.int t), some (.int w)] [] (sI h (ad 0) 6 0) _
              refine r_aload rfl rfl ?_
              refine r_iload rfl rfl ?_
              refine WR_tI (y := nI k2) ek2 ?_
              refine r_cv (y := 206) (ra := [.int (nI k2)]) (rest := []) rfl ⟨⟨rfl, rfl⟩, rfl, by decide⟩ (fx_t30 fx) rfl rfl (Nat.le_of_ble_eq_true rfl) ?_
              refine in_206 (Nat.le_of_ble_eq_true rfl) ?_
              show WR _ cd_206 0 [some (.ref (ad 30)), some (.int (nI k2))] [] (sI h (ad 0) 6 0) _
              refine r_iload rfl rfl ?_
              refine r_if_lt (tg := 16) rfl rfl (fun q => False.elim (by have := i_nlt c1; have := i_rg t; have : (0 : Int32).toInt = 0 := rfl; have := i_eq ek2; have : (nI k2).toInt = ((k2 : Nat) : Int) := nI_toInt (by omega); have := i_nle c3; have : (nI n).toInt = ((n : Nat) : Int) := nI_toInt (by omega); have := i_lt q; omega)) (fun _ => ?_)
              refine r_iload rfl rfl ?_
              refine r_aload rfl rfl ?_
              refine r_getI rfl ⟨rfl, rfl, rfl⟩ (fx_t30 fx) ?_
              refine WR_tI (y := nI n) (Eq.trans (I_ne (fx_ne fx (by decide))) ru.1) ?_
              refine r_icmp_ge (tg := 16) rfl rfl (fun q => False.elim (by have := i_nlt c1; have := i_rg t; have : (0 : Int32).toInt = 0 := rfl; have := i_eq ek2; have : (nI k2).toInt = ((k2 : Nat) : Int) := nI_toInt (by omega); have := i_nle c3; have : (nI n).toInt = ((n : Nat) : Int) := nI_toInt (by omega); have := i_le q; omega)) (fun _ => ?_)
              refine r_ic (x := 1) rfl rfl ?_
              refine r_goto (tg := 17) rfl rfl ?_
              refine r_zret rfl (.inr rfl) ?_
              show WR _ cd_246 5 [some (.ref (ad 30)), some (.int t), some (.int w)] [.int 1] (sI h (ad 0) 6 0) _
              refine r_if_ne (tg := 15) rfl rfl (fun _ => ?_) (fun q => absurd q (by decide))
              refine r_iload rfl rfl ?_
              refine WR_tI (y := nI k5) ek5 ?_
              refine r_i2l rfl ?_
              refine WR_tL (y := lN k5) (nI_l (by have := i_nlt c4; have := i_rg w; have : (0 : Int32).toInt = 0 := rfl; have := i_eq ek5; have : (nI k5).toInt = ((k5 : Nat) : Int) := nI_toInt (by omega); have := i_lt c6; have : (13 : Int32).toInt = 13 := rfl; have := i_eq c46; have : (4 : Int32).toInt = 4 := rfl; omega)) ?_
              refine r_lc (x := 0) rfl rfl ?_
              refine r_ldc (x := .long 12) rfl rfl ?_
              refine r_cs (y := 155) (ra := [.long 12, .long 0, .long (lN k5)]) (rest := []) rfl ⟨⟨rfl, rfl⟩, by decide⟩ rfl rfl (Nat.le_of_ble_eq_true rfl) ?_
              refine in_155 (Nat.le_of_ble_eq_true rfl) ?_
              show WR _ cd_155 0 [some (.long (lN k5)), none, some (.long 0), none, some (.long 12), none] [] (sI h (ad 0) 6 0) _
              refine r_lload rfl rfl ?_
              refine r_lload rfl rfl ?_
              refine r_lif_lt (tg := 17) rfl rfl rfl (fun q => False.elim (by have := i_nlt c4; have := i_rg w; have : (0 : Int32).toInt = 0 := rfl; have := i_eq ek5; have : (nI k5).toInt = ((k5 : Nat) : Int) := nI_toInt (by omega); have := i_lt c6; have : (13 : Int32).toInt = 13 := rfl; have := i_eq c46; have : (4 : Int32).toInt = 4 := rfl; have : (lN k5).toInt = ((k5 : Nat) : Int) := lN_toInt (by omega); have : (0 : Int64).toInt = 0 := rfl; have := l_lt q; omega)) (fun _ => ?_)
              refine r_lload rfl rfl ?_
              refine r_lload rfl rfl ?_
              refine r_lif_gt (tg := 17) rfl rfl rfl (fun q => False.elim (by have := i_nlt c4; have := i_rg w; have : (0 : Int32).toInt = 0 := rfl; have := i_eq ek5; have : (nI k5).toInt = ((k5 : Nat) : Int) := nI_toInt (by omega); have := i_lt c6; have : (13 : Int32).toInt = 13 := rfl; have := i_eq c46; have : (4 : Int32).toInt = 4 := rfl; have : (lN k5).toInt = ((k5 : Nat) : Int) := lN_toInt (by omega); have : (12 : Int64).toInt = 12 := rfl; have := l_lt q; omega)) (fun _ => ?_)
              refine r_ic (x := 1) rfl rfl ?_
              refine r_goto (tg := 18) rfl rfl ?_
              refine r_zret rfl (.inr rfl) ?_
              show WR _ cd_246 24 [some (.ref (ad 30)), some (.int t), some (.int w)] [.int 1] (sI h (ad 0) 6 0) _
              refine r_if_ne (tg := 34) rfl rfl (fun _ => ?_) (fun q => absurd q (by decide))
              refine r_aload rfl rfl ?_
              refine r_ic (x := 0) rfl rfl ?_
              refine r_putI rfl ⟨rfl, rfl, rfl⟩ (fx_t30 fx) ?_
              refine r_iload rfl rfl ?_
              refine WR_tI (y := nI k5) ek5 ?_
              refine r_ic (x := 7) rfl rfl ?_
              refine r_icmp_le (tg := 60) rfl rfl (fun _ => ?_) (fun q => False.elim (by have := i_nlt c4; have := i_rg w; have : (0 : Int32).toInt = 0 := rfl; have := i_eq ek5; have : (nI k5).toInt = ((k5 : Nat) : Int) := nI_toInt (by omega); have := i_lt c6; have : (13 : Int32).toInt = 13 := rfl; have := i_eq c46; have : (4 : Int32).toInt = 4 := rfl; have : (7 : Int32).toInt = 7 := rfl; have := i_nle q; omega))
              refine r_iload rfl rfl ?_
              refine WR_tI (y := nI k5) ek5 ?_
              refine r_tsw (tg := 172) rfl rfl (fun c47 => False.elim (by have := i_nlt c4; have := i_rg w; have : (0 : Int32).toInt = 0 := rfl; have := i_eq ek5; have : (nI k5).toInt = ((k5 : Nat) : Int) := nI_toInt (by omega); have := i_lt c6; have : (13 : Int32).toInt = 13 := rfl; have := i_eq c46; have : (4 : Int32).toInt = 4 := rfl; omega)) (fun c47 => ?_)
              rcases tsw_0_6 c47 with e_ | e_ | e_ | e_ | e_ | e_ | e_
              · have c48 : (nI k5) = 0 := e_
                exfalso; have := i_nlt c4; have := i_rg w; have : (0 : Int32).toInt = 0 := rfl; have := i_eq ek5; have : (nI k5).toInt = ((k5 : Nat) : Int) := nI_toInt (by omega); have := i_lt c6; have : (13 : Int32).toInt = 13 := rfl; have := i_eq c46; have : (4 : Int32).toInt = 4 := rfl; have := i_eq c48; omega
              · have c49 : (nI k5) = 1 := e_
                exfalso; have := i_nlt c4; have := i_rg w; have : (0 : Int32).toInt = 0 := rfl; have := i_eq ek5; have : (nI k5).toInt = ((k5 : Nat) : Int) := nI_toInt (by omega); have := i_lt c6; have : (13 : Int32).toInt = 13 := rfl; have := i_eq c46; have : (4 : Int32).toInt = 4 := rfl; have : (1 : Int32).toInt = 1 := rfl; have := i_eq c49; omega
              · have c50 : (nI k5) = 2 := e_
                exfalso; have := i_nlt c4; have := i_rg w; have : (0 : Int32).toInt = 0 := rfl; have := i_eq ek5; have : (nI k5).toInt = ((k5 : Nat) : Int) := nI_toInt (by omega); have := i_lt c6; have : (13 : Int32).toInt = 13 := rfl; have := i_eq c46; have : (4 : Int32).toInt = 4 := rfl; have : (2 : Int32).toInt = 2 := rfl; have := i_eq c50; omega
              · have c51 : (nI k5) = 3 := e_
                exfalso; have := i_nlt c4; have := i_rg w; have : (0 : Int32).toInt = 0 := rfl; have := i_eq ek5; have : (nI k5).toInt = ((k5 : Nat) : Int) := nI_toInt (by omega); have := i_lt c6; have : (13 : Int32).toInt = 13 := rfl; have := i_eq c46; have : (4 : Int32).toInt = 4 := rfl; have : (3 : Int32).toInt = 3 := rfl; have := i_eq c51; omega
              · have c52 : (nI k5) = 4 := e_
                refine WR_pc (q := 142) (by rw [c52]; rfl) ?_
                refine r_aload rfl rfl ?_
                refine r_getA (b := ad 70) rfl ⟨rfl, rfl, rfl⟩ (fx_t30 fx) (fx_r30_57 fx) ?_
                refine r_iload rfl rfl ?_
                refine WR_tI (y := nI k2) ek2 ?_
                refine r_daload rfl (fx_t70 fx) (vp_ct (fx_n70 fx) (vp_in_nI (by have := i_nlt c1; have := i_rg t; have : (0 : Int32).toInt = 0 := rfl; have := i_eq ek2; have : (nI k2).toInt = ((k2 : Nat) : Int) := nI_toInt (by omega); have := i_nle c3; have : (nI n).toInt = ((n : Nat) : Int) := nI_toInt (by omega); omega) (by omega))) ?_
                refine WR_tD (congrArg (hD (sI (sI h (ad 0) 6 0) (ad 30) 11 0) (ad 70)) ((nI_clamp (by have := i_nlt c1; have := i_rg t; have : (0 : Int32).toInt = 0 := rfl; have := i_eq ek2; have : (nI k2).toInt = ((k2 : Nat) : Int) := nI_toInt (by omega); have := i_nle c3; have : (nI n).toInt = ((n : Nat) : Int) := nI_toInt (by omega); omega)) : _ = k2)) ?_
                refine WR_tD (y := hD h (ad 70) k2) (Eq.trans D_oI D_oI) ?_
                refine r_cs (y := 198) (ra := [.double (hD h (ad 70) k2)]) (rest := []) rfl ⟨⟨rfl, rfl⟩, by decide⟩ rfl rfl (Nat.le_of_ble_eq_true rfl) ?_
                refine c_dl (h := sI (sI h (ad 0) 6 0) (ad 30) 11 0) (.inr nn5_7) ?_
                show WR _ cd_246 151 [some (.ref (ad 30)), some (.int t), some (.int w)] [.long ((hD h (ad 70) k2).toInt64)] (sI (sI h (ad 0) 6 0) (ad 30) 11 0) _
                refine r_lret rfl ?_
                exact ⟨rfl, Rel.why r ((Chg.rf.sI (fx_j fx) (.inl (by decide))).sI (fx_j fx) (.inl (by decide))) ⟨rfl, by decide⟩ (Eq.trans (Eq.trans (I_ne (fx_ne fx (by decide))) I_eq) (Eq.symm I_eq)), Nat.le_add_right _ _, Nat.le_add_right _ _⟩
              · have c53 : (nI k5) = 5 := e_
                exfalso; have := i_nlt c4; have := i_rg w; have : (0 : Int32).toInt = 0 := rfl; have := i_eq ek5; have : (nI k5).toInt = ((k5 : Nat) : Int) := nI_toInt (by omega); have := i_lt c6; have : (13 : Int32).toInt = 13 := rfl; have := i_eq c46; have : (4 : Int32).toInt = 4 := rfl; have : (5 : Int32).toInt = 5 := rfl; have := i_eq c53; omega
              · have c54 : (nI k5) = 6 := e_
                exfalso; have := i_nlt c4; have := i_rg w; have : (0 : Int32).toInt = 0 := rfl; have := i_eq ek5; have : (nI k5).toInt = ((k5 : Nat) : Int) := nI_toInt (by omega); have := i_lt c6; have : (13 : Int32).toInt = 13 := rfl; have := i_eq c46; have : (4 : Int32).toInt = 4 := rfl; have : (6 : Int32).toInt = 6 := rfl; have := i_eq c54; omega
            · have c55 : (nI k5) = 5 := e_
              refine WR_pc (q := 86) (by rw [c55]; rfl) ?_
              refine r_aload rfl rfl ?_
              refine r_getD rfl ⟨rfl, rfl, rfl⟩ tb7.2.1 ?_
              refine WR_tD (y := hD h (ad 71) k2) (Eq.trans D_oI e6_7) ?_
              refine r_cs (y := 88) (ra := [.double (hD h (ad 71) k2)]) (rest := []) rfl ⟨⟨rfl, rfl⟩, by decide⟩ rfl rfl (Nat.le_of_ble_eq_true rfl) ?_
              refine c_bitsOf (h := sI h (ad 0) 6 0) nn6_7 ?_
              show WR _ cd_144 93 [some (.ref (ad (100 + 5 * k2))), some (.int (nI k5)), none] [.long ((hD h (ad 71) k2).toInt64)] (sI h (ad 0) 6 0) _
              refine r_lret rfl ?_
              show WR _ cd_143 50 [some (.ref (ad 0)), some (.int t), some (.int w)] [.long ((hD h (ad 71) k2).toInt64)] (sI h (ad 0) 6 0) _
              refine r_lret rfl ?_
              show EV _ 246 [.ref (ad 30), .int t, .int w] (sI h (ad 0) 6 0) _
              refine in_246 (Nat.le_of_ble_eq_true rfl) ?_
              show WR _ cd_246 0 [some (.ref (ad 30)), some (.int t), some (.int w)] [] (sI h (ad 0) 6 0) _
              refine r_aload rfl rfl ?_
              refine r_iload rfl rfl ?_
              refine WR_tI (y := nI k2) ek2 ?_
              refine r_cv (y := 206) (ra := [.int (nI k2)]) (rest := []) rfl ⟨⟨rfl, rfl⟩, rfl, by decide⟩ (fx_t30 fx) rfl rfl (Nat.le_of_ble_eq_true rfl) ?_
              refine in_206 (Nat.le_of_ble_eq_true rfl) ?_
              show WR _ cd_206 0 [some (.ref (ad 30)), some (.int (nI k2))] [] (sI h (ad 0) 6 0) _
              refine r_iload rfl rfl ?_
              refine r_if_lt (tg := 16) rfl rfl (fun q => False.elim (by have := i_nlt c1; have := i_rg t; have : (0 : Int32).toInt = 0 := rfl; have := i_eq ek2; have : (nI k2).toInt = ((k2 : Nat) : Int) := nI_toInt (by omega); have := i_nle c3; have : (nI n).toInt = ((n : Nat) : Int) := nI_toInt (by omega); have := i_lt q; omega)) (fun _ => ?_)
              refine r_iload rfl rfl ?_
              refine r_aload rfl rfl ?_
              refine r_getI rfl ⟨rfl, rfl, rfl⟩ (fx_t30 fx) ?_
              refine WR_tI (y := nI n) (Eq.trans (I_ne (fx_ne fx (by decide))) ru.1) ?_
              refine r_icmp_ge (tg := 16) rfl rfl (fun q => False.elim (by have := i_nlt c1; have := i_rg t; have : (0 : Int32).toInt = 0 := rfl; have := i_eq ek2; have : (nI k2).toInt = ((k2 : Nat) : Int) := nI_toInt (by omega); have := i_nle c3; have : (nI n).toInt = ((n : Nat) : Int) := nI_toInt (by omega); have := i_le q; omega)) (fun _ => ?_)
              refine r_ic (x := 1) rfl rfl ?_
              refine r_goto (tg := 17) rfl rfl ?_
              refine r_zret rfl (.inr rfl) ?_
              show WR _ cd_246 5 [some (.ref (ad 30)), some (.int t), some (.int w)] [.int 1] (sI h (ad 0) 6 0) _
              refine r_if_ne (tg := 15) rfl rfl (fun _ => ?_) (fun q => absurd q (by decide))
              refine r_iload rfl rfl ?_
              refine WR_tI (y := nI k5) ek5 ?_
              refine r_i2l rfl ?_
              refine WR_tL (y := lN k5) (nI_l (by have := i_nlt c4; have := i_rg w; have : (0 : Int32).toInt = 0 := rfl; have := i_eq ek5; have : (nI k5).toInt = ((k5 : Nat) : Int) := nI_toInt (by omega); have := i_lt c6; have : (13 : Int32).toInt = 13 := rfl; have := i_eq c55; have : (5 : Int32).toInt = 5 := rfl; omega)) ?_
              refine r_lc (x := 0) rfl rfl ?_
              refine r_ldc (x := .long 12) rfl rfl ?_
              refine r_cs (y := 155) (ra := [.long 12, .long 0, .long (lN k5)]) (rest := []) rfl ⟨⟨rfl, rfl⟩, by decide⟩ rfl rfl (Nat.le_of_ble_eq_true rfl) ?_
              refine in_155 (Nat.le_of_ble_eq_true rfl) ?_
              show WR _ cd_155 0 [some (.long (lN k5)), none, some (.long 0), none, some (.long 12), none] [] (sI h (ad 0) 6 0) _
              refine r_lload rfl rfl ?_
              refine r_lload rfl rfl ?_
              refine r_lif_lt (tg := 17) rfl rfl rfl (fun q => False.elim (by have := i_nlt c4; have := i_rg w; have : (0 : Int32).toInt = 0 := rfl; have := i_eq ek5; have : (nI k5).toInt = ((k5 : Nat) : Int) := nI_toInt (by omega); have := i_lt c6; have : (13 : Int32).toInt = 13 := rfl; have := i_eq c55; have : (5 : Int32).toInt = 5 := rfl; have : (lN k5).toInt = ((k5 : Nat) : Int) := lN_toInt (by omega); have : (0 : Int64).toInt = 0 := rfl; have := l_lt q; omega)) (fun _ => ?_)
              refine r_lload rfl rfl ?_
              refine r_lload rfl rfl ?_
              refine r_lif_gt (tg := 17) rfl rfl rfl (fun q => False.elim (by have := i_nlt c4; have := i_rg w; have : (0 : Int32).toInt = 0 := rfl; have := i_eq ek5; have : (nI k5).toInt = ((k5 : Nat) : Int) := nI_toInt (by omega); have := i_lt c6; have : (13 : Int32).toInt = 13 := rfl; have := i_eq c55; have : (5 : Int32).toInt = 5 := rfl; have : (lN k5).toInt = ((k5 : Nat) : Int) := lN_toInt (by omega); have : (12 : Int64).toInt = 12 := rfl; have := l_lt q; omega)) (fun _ => ?_)
              refine r_ic (x := 1) rfl rfl ?_
              refine r_goto (tg := 18) rfl rfl ?_
              refine r_zret rfl (.inr rfl) ?_
              show WR _ cd_246 24 [some (.ref (ad 30)), some (.int t), some (.int w)] [.int 1] (sI h (ad 0) 6 0) _
              refine r_if_ne (tg := 34) rfl rfl (fun _ => ?_) (fun q => absurd q (by decide))
              refine r_aload rfl rfl ?_
              refine r_ic (x := 0) rfl rfl ?_
              refine r_putI rfl ⟨rfl, rfl, rfl⟩ (fx_t30 fx) ?_
              refine r_iload rfl rfl ?_
              refine WR_tI (y := nI k5) ek5 ?_
              refine r_ic (x := 7) rfl rfl ?_
              refine r_icmp_le (tg := 60) rfl rfl (fun _ => ?_) (fun q => False.elim (by have := i_nlt c4; have := i_rg w; have : (0 : Int32).toInt = 0 := rfl; have := i_eq ek5; have : (nI k5).toInt = ((k5 : Nat) : Int) := nI_toInt (by omega); have := i_lt c6; have : (13 : Int32).toInt = 13 := rfl; have := i_eq c55; have : (5 : Int32).toInt = 5 := rfl; have : (7 : Int32).toInt = 7 := rfl; have := i_nle q; omega))
              refine r_iload rfl rfl ?_
              refine WR_tI (y := nI k5) ek5 ?_
              refine r_tsw (tg := 172) rfl rfl (fun c56 => False.elim (by have := i_nlt c4; have := i_rg w; have : (0 : Int32).toInt = 0 := rfl; have := i_eq ek5; have : (nI k5).toInt = ((k5 : Nat) : Int) := nI_toInt (by omega); have := i_lt c6; have : (13 : Int32).toInt = 13 := rfl; have := i_eq c55; have : (5 : Int32).toInt = 5 := rfl; omega)) (fun c56 => ?_)
              rcases tsw_0_6 c56 with e_ | e_ | e_ | e_ | e_ | e_ | e_
              · have c57 : (nI k5) = 0 := e_
                exfalso; have := i_nlt c4; have := i_rg w; have : (0 : Int32).toInt = 0 := rfl; have := i_eq ek5; have : (nI k5).toInt = ((k5 : Nat) : Int) := nI_toInt (by omega); have := i_lt c6; have : (13 : Int32).toInt = 13 := rfl; have := i_eq c55; have : (5 : Int32).toInt = 5 := rfl; have := i_eq c57; omega
              · have c58 : (nI k5) = 1 := e_
                exfalso; have := i_nlt c4; have := i_rg w; have : (0 : Int32).toInt = 0 := rfl; have := i_eq ek5; have : (nI k5).toInt = ((k5 : Nat) : Int) := nI_toInt (by omega); have := i_lt c6; have : (13 : Int32).toInt = 13 := rfl; have := i_eq c55; have : (5 : Int32).toInt = 5 := rfl; have : (1 : Int32).toInt = 1 := rfl; have := i_eq c58; omega
              · have c59 : (nI k5) = 2 := e_
                exfalso; have := i_nlt c4; have := i_rg w; have : (0 : Int32).toInt = 0 := rfl; have := i_eq ek5; have : (nI k5).toInt = ((k5 : Nat) : Int) := nI_toInt (by omega); have := i_lt c6; have : (13 : Int32).toInt = 13 := rfl; have := i_eq c55; have : (5 : Int32).toInt = 5 := rfl; have : (2 : Int32).toInt = 2 := rfl; have := i_eq c59; omega
              · have c60 : (nI k5) = 3 := e_
                exfalso; have := i_nlt c4; have := i_rg w; have : (0 : Int32).toInt = 0 := rfl; have := i_eq ek5; have : (nI k5).toInt = ((k5 : Nat) : Int) := nI_toInt (by omega); have := i_lt c6; have : (13 : Int32).toInt = 13 := rfl; have := i_eq c55; have : (5 : Int32).toInt = 5 := rfl; have : (3 : Int32).toInt = 3 := rfl; have := i_eq c60; omega
              · have c61 : (nI k5) = 4 := e_
                exfalso; have := i_nlt c4; have := i_rg w; have : (0 : Int32).toInt = 0 := rfl; have := i_eq ek5; have : (nI k5).toInt = ((k5 : Nat) : Int) := nI_toInt (by omega); have := i_lt c6; have : (13 : Int32).toInt = 13 := rfl; have := i_eq c55; have : (5 : Int32).toInt = 5 := rfl; have : (4 : Int32).toInt = 4 := rfl; have := i_eq c61; omega
              · have c62 : (nI k5) = 5 := e_
                refine WR_pc (q := 152) (by rw [c62]; rfl) ?_
                refine r_aload rfl rfl ?_
                refine r_getA (b := ad 71) rfl ⟨rfl, rfl, rfl⟩ (fx_t30 fx) (fx_r30_58 fx) ?_
                refine r_iload rfl rfl ?_
                refine WR_tI (y := nI k2) ek2 ?_
                refine r_daload rfl (fx_t71 fx) (vp_ct (fx_n71 fx) (vp_in_nI (by have := i_nlt c1; have := i_rg t; have : (0 : Int32).toInt = 0 := rfl; have := i_eq ek2; have : (nI k2).toInt = ((k2 : Nat) : Int) := nI_toInt (by omega); have := i_nle c3; have : (nI n).toInt = ((n : Nat) : Int) := nI_toInt (by omega); omega) (by omega))) ?_
                refine WR_tD (congrArg (hD (sI (sI h (ad 0) 6 0) (ad 30) 11 0) (ad 71)) ((nI_clamp (by have := i_nlt c1; have := i_rg t; have : (0 : Int32).toInt = 0 := rfl; have := i_eq ek2; have : (nI k2).toInt = ((k2 : Nat) : Int) := nI_toInt (by omega); have := i_nle c3; have : (nI n).toInt = ((n : Nat) : Int) := nI_toInt (by omega); omega)) : _ = k2)) ?_
                refine WR_tD (y := hD h (ad 71) k2) (Eq.trans D_oI D_oI) ?_
                refine r_cs (y := 198) (ra := [.double (hD h (ad 71) k2)]) (rest := []) rfl ⟨⟨rfl, rfl⟩, by decide⟩ rfl rfl (Nat.le_of_ble_eq_true rfl) ?_
                refine c_dl (h := sI (sI h (ad 0) 6 0) (ad 30) 11 0) (.inr nn6_7) ?_
                show WR _ cd_246 161 [some (.ref (ad 30)), some (.int t), some (.int w)] [.long ((hD h (ad 71) k2).toInt64)] (sI (sI h (ad 0) 6 0) (ad 30) 11 0) _
                refine r_lret rfl ?_
                exact ⟨rfl, Rel.why r ((Chg.rf.sI (fx_j fx) (.inl (by decide))).sI (fx_j fx) (.inl (by decide))) ⟨rfl, by decide⟩ (Eq.trans (Eq.trans (I_ne (fx_ne fx (by decide))) I_eq) (Eq.symm I_eq)), Nat.le_add_right _ _, Nat.le_add_right _ _⟩
              · have c63 : (nI k5) = 6 := e_
                exfalso; have := i_nlt c4; have := i_rg w; have : (0 : Int32).toInt = 0 := rfl; have := i_eq ek5; have : (nI k5).toInt = ((k5 : Nat) : Int) := nI_toInt (by omega); have := i_lt c6; have : (13 : Int32).toInt = 13 := rfl; have := i_eq c55; have : (5 : Int32).toInt = 5 := rfl; have : (6 : Int32).toInt = 6 := rfl; have := i_eq c63; omega
            · have c64 : (nI k5) = 6 := e_
              refine WR_pc (q := 94) (by rw [c64]; rfl) ?_
              refine r_aload rfl rfl ?_
              refine r_getL rfl ⟨rfl, rfl, rfl⟩ tb7.2.1 ?_
              refine WR_tL (y := (hD h (ad 72) k2).toInt64) (Eq.trans L_oI d1_7) ?_
              refine r_lret rfl ?_
              show WR _ cd_143 50 [some (.ref (ad 0)), some (.int t), some (.int w)] [.long ((hD h (ad 72) k2).toInt64)] (sI h (ad 0) 6 0) _
              refine r_lret rfl ?_
              show EV _ 246 [.ref (ad 30), .int t, .int w] (sI h (ad 0) 6 0) _
              refine in_246 (Nat.le_of_ble_eq_true rfl) ?_
              show WR _ cd_246 0 [some (.ref (ad 30)), some (.int t), some (.int w)] [] (sI h (ad 0) 6 0) _
              refine r_aload rfl rfl ?_
              refine r_iload rfl rfl ?_
              refine WR_tI (y := nI k2) ek2 ?_
              refine r_cv (y := 206) (ra := [.int (nI k2)]) (rest := []) rfl ⟨⟨rfl, rfl⟩, rfl, by decide⟩ (fx_t30 fx) rfl rfl (Nat.le_of_ble_eq_true rfl) ?_
              refine in_206 (Nat.le_of_ble_eq_true rfl) ?_
              show WR _ cd_206 0 [some (.ref (ad 30)), some (.int (nI k2))] [] (sI h (ad 0) 6 0) _
              refine r_iload rfl rfl ?_
              refine r_if_lt (tg := 16) rfl rfl (fun q => False.elim (by have := i_nlt c1; have := i_rg t; have : (0 : Int32).toInt = 0 := rfl; have := i_eq ek2; have : (nI k2).toInt = ((k2 : Nat) : Int) := nI_toInt (by omega); have := i_nle c3; have : (nI n).toInt = ((n : Nat) : Int) := nI_toInt (by omega); have := i_lt q; omega)) (fun _ => ?_)
              refine r_iload rfl rfl ?_
              refine r_aload rfl rfl ?_
              refine r_getI rfl ⟨rfl, rfl, rfl⟩ (fx_t30 fx) ?_
              refine WR_tI (y := nI n) (Eq.trans (I_ne (fx_ne fx (by decide))) ru.1) ?_
              refine r_icmp_ge (tg := 16) rfl rfl (fun q => False.elim (by have := i_nlt c1; have := i_rg t; have : (0 : Int32).toInt = 0 := rfl; have := i_eq ek2; have : (nI k2).toInt = ((k2 : Nat) : Int) := nI_toInt (by omega); have := i_nle c3; have : (nI n).toInt = ((n : Nat) : Int) := nI_toInt (by omega); have := i_le q; omega)) (fun _ => ?_)
              refine r_ic (x := 1) rfl rfl ?_
              refine r_goto (tg := 17) rfl rfl ?_
              refine r_zret rfl (.inr rfl) ?_
              show WR _ cd_246 5 [some (.ref (ad 30)), some (.int t), some (.int w)] [.int 1] (sI h (ad 0) 6 0) _
              refine r_if_ne (tg := 15) rfl rfl (fun _ => ?_) (fun q => absurd q (by decide))
              refine r_iload rfl rfl ?_
              refine WR_tI (y := nI k5) ek5 ?_
              refine r_i2l rfl ?_
              refine WR_tL (y := lN k5) (nI_l (by have := i_nlt c4; have := i_rg w; have : (0 : Int32).toInt = 0 := rfl; have := i_eq ek5; have : (nI k5).toInt = ((k5 : Nat) : Int) := nI_toInt (by omega); have := i_lt c6; have : (13 : Int32).toInt = 13 := rfl; have := i_eq c64; have : (6 : Int32).toInt = 6 := rfl; omega)) ?_
              refine r_lc (x := 0) rfl rfl ?_
              refine r_ldc (x := .long 12) rfl rfl ?_
              refine r_cs (y := 155) (ra := [.long 12, .long 0, .long (lN k5)]) (rest := []) rfl ⟨⟨rfl, rfl⟩, by decide⟩ rfl rfl (Nat.le_of_ble_eq_true rfl) ?_
              refine in_155 (Nat.le_of_ble_eq_true rfl) ?_
              show WR _ cd_155 0 [some (.long (lN k5)), none, some (.long 0), none, some (.long 12), none] [] (sI h (ad 0) 6 0) _
              refine r_lload rfl rfl ?_
              refine r_lload rfl rfl ?_
              refine r_lif_lt (tg := 17) rfl rfl rfl (fun q => False.elim (by have := i_nlt c4; have := i_rg w; have : (0 : Int32).toInt = 0 := rfl; have := i_eq ek5; have : (nI k5).toInt = ((k5 : Nat) : Int) := nI_toInt (by omega); have := i_lt c6; have : (13 : Int32).toInt = 13 := rfl; have := i_eq c64; have : (6 : Int32).toInt = 6 := rfl; have : (lN k5).toInt = ((k5 : Nat) : Int) := lN_toInt (by omega); have : (0 : Int64).toInt = 0 := rfl; have := l_lt q; omega)) (fun _ => ?_)
              refine r_lload rfl rfl ?_
              refine r_lload rfl rfl ?_
              refine r_lif_gt (tg := 17) rfl rfl rfl (fun q => False.elim (by have := i_nlt c4; have := i_rg w; have : (0 : Int32).toInt = 0 := rfl; have := i_eq ek5; have : (nI k5).toInt = ((k5 : Nat) : Int) := nI_toInt (by omega); have := i_lt c6; have : (13 : Int32).toInt = 13 := rfl; have := i_eq c64; have : (6 : Int32).toInt = 6 := rfl; have : (lN k5).toInt = ((k5 : Nat) : Int) := lN_toInt (by omega); have : (12 : Int64).toInt = 12 := rfl; have := l_lt q; omega)) (fun _ => ?_)
              refine r_ic (x := 1) rfl rfl ?_
              refine r_goto (tg := 18) rfl rfl ?_
              refine r_zret rfl (.inr rfl) ?_
              show WR _ cd_246 24 [some (.ref (ad 30)), some (.int t), some (.int w)] [.int 1] (sI h (ad 0) 6 0) _
              refine r_if_ne (tg := 34) rfl rfl (fun _ => ?_) (fun q => absurd q (by decide))
              refine r_aload rfl rfl ?_
              refine r_ic (x := 0) rfl rfl ?_
              refine r_putI rfl ⟨rfl, rfl, rfl⟩ (fx_t30 fx) ?_
              refine r_iload rfl rfl ?_
              refine WR_tI (y := nI k5) ek5 ?_
              refine r_ic (x := 7) rfl rfl ?_
              refine r_icmp_le (tg := 60) rfl rfl (fun _ => ?_) (fun q => False.elim (by have := i_nlt c4; have := i_rg w; have : (0 : Int32).toInt = 0 := rfl; have := i_eq ek5; have : (nI k5).toInt = ((k5 : Nat) : Int) := nI_toInt (by omega); have := i_lt c6; have : (13 : Int32).toInt = 13 := rfl; have := i_eq c64; have : (6 : Int32).toInt = 6 := rfl; have : (7 : Int32).toInt = 7 := rfl; have := i_nle q; omega))
              refine r_iload rfl rfl ?_
              refine WR_tI (y := nI k5) ek5 ?_
              refine r_tsw (tg := 172) rfl rfl (fun c65 => False.elim (by have := i_nlt c4; have := i_rg w; have : (0 : Int32).toInt = 0 := rfl; have := i_eq ek5; have : (nI k5).toInt = ((k5 : Nat) : Int) := nI_toInt (by omega); have := i_lt c6; have : (13 : Int32).toInt = 13 := rfl; have := i_eq c64; have : (6 : Int32).toInt = 6 := rfl; omega)) (fun c65 => ?_)
              rcases tsw_0_6 c65 with e_ | e_ | e_ | e_ | e_ | e_ | e_
              · have c66 : (nI k5) = 0 := e_
                exfalso; have := i_nlt c4; have := i_rg w; have : (0 : Int32).toInt = 0 := rfl; have := i_eq ek5; have : (nI k5).toInt = ((k5 : Nat) : Int) := nI_toInt (by omega); have := i_lt c6; have : (13 : Int32).toInt = 13 := rfl; have := i_eq c64; have : (6 : Int32).toInt = 6 := rfl; have := i_eq c66; omega
              · have c67 : (nI k5) = 1 := e_
                exfalso; have := i_nlt c4; have := i_rg w; have : (0 : Int32).toInt = 0 := rfl; have := i_eq ek5; have : (nI k5).toInt = ((k5 : Nat) : Int) := nI_toInt (by omega); have := i_lt c6; have : (13 : Int32).toInt = 13 := rfl; have := i_eq c64; have : (6 : Int32).toInt = 6 := rfl; have : (1 : Int32).toInt = 1 := rfl; have := i_eq c67; omega
              · have c68 : (nI k5) = 2 := e_
                exfalso; have := i_nlt c4; have := i_rg w; have : (0 : Int32).toInt = 0 := rfl; have := i_eq ek5; have : (nI k5).toInt = ((k5 : Nat) : Int) := nI_toInt (by omega); have := i_lt c6; have : (13 : Int32).toInt = 13 := rfl; have := i_eq c64; have : (6 : Int32).toInt = 6 := rfl; have : (2 : Int32).toInt = 2 := rfl; have := i_eq c68; omega
              · have c69 : (nI k5) = 3 := e_
                exfalso; have := i_nlt c4; have := i_rg w; have : (0 : Int32).toInt = 0 := rfl; have := i_eq ek5; have : (nI k5).toInt = ((k5 : Nat) : Int) := nI_toInt (by omega); have := i_lt c6; have : (13 : Int32).toInt = 13 := rfl; have := i_eq c64; have : (6 : Int32).toInt = 6 := rfl; have : (3 : Int32).toInt = 3 := rfl; have := i_eq c69; omega
              · have c70 : (nI k5) = 4 := e_
                exfalso; have := i_nlt c4; have := i_rg w; have : (0 : Int32).toInt = 0 := rfl; have := i_eq ek5; have : (nI k5).toInt = ((k5 : Nat) : Int) := nI_toInt (by omega); have := i_lt c6; have : (13 : Int32).toInt = 13 := rfl; have := i_eq c64; have : (6 : Int32).toInt = 6 := rfl; have : (4 : Int32).toInt = 4 := rfl; have := i_eq c70; omega
              · have c71 : (nI k5) = 5 := e_
                exfalso; have := i_nlt c4; have := i_rg w; have : (0 : Int32).toInt = 0 := rfl; have := i_eq ek5; have : (nI k5).toInt = ((k5 : Nat) : Int) := nI_toInt (by omega); have := i_lt c6; have : (13 : Int32).toInt = 13 := rfl; have := i_eq c64; have : (6 : Int32).toInt = 6 := rfl; have : (5 : Int32).toInt = 5 := rfl; have := i_eq c71; omega
              · have c72 : (nI k5) = 6 := e_
                refine WR_pc (q := 162) (by rw [c72]; rfl) ?_
                refine r_aload rfl rfl ?_
                refine r_getA (b := ad 72) rfl ⟨rfl, rfl, rfl⟩ (fx_t30 fx) (fx_r30_59 fx) ?_
                refine r_iload rfl rfl ?_
                refine WR_tI (y := nI k2) ek2 ?_
                refine r_daload rfl (fx_t72 fx) (vp_ct (fx_n72 fx) (vp_in_nI (by have := i_nlt c1; have := i_rg t; have : (0 : Int32).toInt = 0 := rfl; have := i_eq ek2; have : (nI k2).toInt = ((k2 : Nat) : Int) := nI_toInt (by omega); have := i_nle c3; have : (nI n).toInt = ((n : Nat) : Int) := nI_toInt (by omega); omega) (by omega))) ?_
                refine WR_tD (congrArg (hD (sI (sI h (ad 0) 6 0) (ad 30) 11 0) (ad 72)) ((nI_clamp (by have := i_nlt c1; have := i_rg t; have : (0 : Int32).toInt = 0 := rfl; have := i_eq ek2; have : (nI k2).toInt = ((k2 : Nat) : Int) := nI_toInt (by omega); have := i_nle c3; have : (nI n).toInt = ((n : Nat) : Int) := nI_toInt (by omega); omega)) : _ = k2)) ?_
                refine WR_tD (y := hD h (ad 72) k2) (Eq.trans D_oI D_oI) ?_
                refine r_cs (y := 198) (ra := [.double (hD h (ad 72) k2)]) (rest := []) rfl ⟨⟨rfl, rfl⟩, by decide⟩ rfl rfl (Nat.le_of_ble_eq_true rfl) ?_
                refine c_dl (h := sI (sI h (ad 0) 6 0) (ad 30) 11 0) d2_7 ?_
                show WR _ cd_246 171 [some (.ref (ad 30)), some (.int t), some (.int w)] [.long ((hD h (ad 72) k2).toInt64)] (sI (sI h (ad 0) 6 0) (ad 30) 11 0) _
                refine r_lret rfl ?_
                exact ⟨rfl, Rel.why r ((Chg.rf.sI (fx_j fx) (.inl (by decide))).sI (fx_j fx) (.inl (by decide))) ⟨rfl, by decide⟩ (Eq.trans (Eq.trans (I_ne (fx_ne fx (by decide))) I_eq) (Eq.symm I_eq)), Nat.le_add_right _ _, Nat.le_add_right _ _⟩
            · have c73 : (nI k5) = 7 := e_
              refine WR_pc (q := 99) (by rw [c73]; rfl) ?_
              refine r_aload rfl rfl ?_
              refine r_getD rfl ⟨rfl, rfl, rfl⟩ tb7.2.1 ?_
              refine WR_tD (y := hD h (ad 73) k2) (Eq.trans D_oI e1_7) ?_
              refine r_cs (y := 88) (ra := [.double (hD h (ad 73) k2)]) (rest := []) rfl ⟨⟨rfl, rfl⟩, by decide⟩ rfl rfl (Nat.le_of_ble_eq_true rfl) ?_
              refine c_bitsOf (h := sI h (ad 0) 6 0) nn1_7 ?_
              show WR _ cd_144 106 [some (.ref (ad (100 + 5 * k2))), some (.int (nI k5)), none] [.long ((hD h (ad 73) k2).toInt64)] (sI h (ad 0) 6 0) _
              refine r_lret rfl ?_
              show WR _ cd_143 50 [some (.ref (ad 0)), some (.int t), some (.int w)] [.long ((hD h (ad 73) k2).toInt64)] (sI h (ad 0) 6 0) _
              refine r_lret rfl ?_
              show EV _ 246 [.ref (ad 30), .int t, .int w] (sI h (ad 0) 6 0) _
              refine in_246 (Nat.le_of_ble_eq_true rfl) ?_
              show WR _ cd_246 0 [some (.ref (ad 30)), some (.int t), some (.int w)] [] (sI h (ad 0) 6 0) _
              refine r_aload rfl rfl ?_
              refine r_iload rfl rfl ?_
              refine WR_tI (y := nI k2) ek2 ?_
              refine r_cv (y := 206) (ra := [.int (nI k2)]) (rest := []) rfl ⟨⟨rfl, rfl⟩, rfl, by decide⟩ (fx_t30 fx) rfl rfl (Nat.le_of_ble_eq_true rfl) ?_
              refine in_206 (Nat.le_of_ble_eq_true rfl) ?_
              show WR _ cd_206 0 [some (.ref (ad 30)), some (.int (nI k2))] [] (sI h (ad 0) 6 0) _
              refine r_iload rfl rfl ?_
              refine r_if_lt (tg := 16) rfl rfl (fun q => False.elim (by have := i_nlt c1; have := i_rg t; have : (0 : Int32).toInt = 0 := rfl; have := i_eq ek2; have : (nI k2).toInt = ((k2 : Nat) : Int) := nI_toInt (by omega); have := i_nle c3; have : (nI n).toInt = ((n : Nat) : Int) := nI_toInt (by omega); have := i_lt q; omega)) (fun _ => ?_)
              refine r_iload rfl rfl ?_
              refine r_aload rfl rfl ?_
              refine r_getI rfl ⟨rfl, rfl, rfl⟩ (fx_t30 fx) ?_
              refine WR_tI (y := nI n) (Eq.trans (I_ne (fx_ne fx (by decide))) ru.1) ?_
              refine r_icmp_ge (tg := 16) rfl rfl (fun q => False.elim (by have := i_nlt c1; have := i_rg t; have : (0 : Int32).toInt = 0 := rfl; have := i_eq ek2; have : (nI k2).toInt = ((k2 : Nat) : Int) := nI_toInt (by omega); have := i_nle c3; have : (nI n).toInt = ((n : Nat) : Int) := nI_toInt (by omega); have := i_le q; omega)) (fun _ => ?_)
              refine r_ic (x := 1) rfl rfl ?_
              refine r_goto (tg := 17) rfl rfl ?_
              refine r_zret rfl (.inr rfl) ?_
              show WR _ cd_246 5 [some (.ref (ad 30)), some (.int t), some (.int w)] [.int 1] (sI h (ad 0) 6 0) _
              refine r_if_ne (tg := 15) rfl rfl (fun _ => ?_) (fun q => absurd q (by decide))
              refine r_iload rfl rfl ?_
              refine WR_tI (y := nI k5) ek5 ?_
              refine r_i2l rfl ?_
              refine WR_tL (y := lN k5) (nI_l (by have := i_nlt c4; have := i_rg w; have : (0 : Int32).toInt = 0 := rfl; have := i_eq ek5; have : (nI k5).toInt = ((k5 : Nat) : Int) := nI_toInt (by omega); have := i_lt c6; have : (13 : Int32).toInt = 13 := rfl; have := i_eq c73; have : (7 : Int32).toInt = 7 := rfl; omega)) ?_
              refine r_lc (x := 0) rfl rfl ?_
              refine r_ldc (x := .long 12) rfl rfl ?_
              refine r_cs (y := 155) (ra := [.long 12, .long 0, .long (lN k5)]) (rest := []) rfl ⟨⟨rfl, rfl⟩, by decide⟩ rfl rfl (Nat.le_of_ble_eq_true rfl) ?_
              refine in_155 (Nat.le_of_ble_eq_true rfl) ?_
              show WR _ cd_155 0 [some (.long (lN k5)), none, some (.long 0), none, some (.long 12), none] [] (sI h (ad 0) 6 0) _
              refine r_lload rfl rfl ?_
              refine r_lload rfl rfl ?_
              refine r_lif_lt (tg := 17) rfl rfl rfl (fun q => False.elim (by have := i_nlt c4; have := i_rg w; have : (0 : Int32).toInt = 0 := rfl; have := i_eq ek5; have : (nI k5).toInt = ((k5 : Nat) : Int) := nI_toInt (by omega); have := i_lt c6; have : (13 : Int32).toInt = 13 := rfl; have := i_eq c73; have : (7 : Int32).toInt = 7 := rfl; have : (lN k5).toInt = ((k5 : Nat) : Int) := lN_toInt (by omega); have : (0 : Int64).toInt = 0 := rfl; have := l_lt q; omega)) (fun _ => ?_)
              refine r_lload rfl rfl ?_
              refine r_lload rfl rfl ?_
              refine r_lif_gt (tg := 17) rfl rfl rfl (fun q => False.elim (by have := i_nlt c4; have := i_rg w; have : (0 : Int32).toInt = 0 := rfl; have := i_eq ek5; have : (nI k5).toInt = ((k5 : Nat) : Int) := nI_toInt (by omega); have := i_lt c6; have : (13 : Int32).toInt = 13 := rfl; have := i_eq c73; have : (7 : Int32).toInt = 7 := rfl; have : (lN k5).toInt = ((k5 : Nat) : Int) := lN_toInt (by omega); have : (12 : Int64).toInt = 12 := rfl; have := l_lt q; omega)) (fun _ => ?_)
              refine r_ic (x := 1) rfl rfl ?_
              refine r_goto (tg := 18) rfl rfl ?_
              refine r_zret rfl (.inr rfl) ?_
              show WR _ cd_246 24 [some (.ref (ad 30)), some (.int t), some (.int w)] [.int 1] (sI h (ad 0) 6 0) _
              refine r_if_ne (tg := 34) rfl rfl (fun _ => ?_) (fun q => absurd q (by decide))
              refine r_aload rfl rfl ?_
              refine r_ic (x := 0) rfl rfl ?_
              refine r_putI rfl ⟨rfl, rfl, rfl⟩ (fx_t30 fx) ?_
              refine r_iload rfl rfl ?_
              refine WR_tI (y := nI k5) ek5 ?_
              refine r_ic (x := 7) rfl rfl ?_
              refine r_icmp_le (tg := 60) rfl rfl (fun _ => ?_) (fun q => False.elim (by have := i_nlt c4; have := i_rg w; have : (0 : Int32).toInt = 0 := rfl; have := i_eq ek5; have : (nI k5).toInt = ((k5 : Nat) : Int) := nI_toInt (by omega); have := i_lt c6; have : (13 : Int32).toInt = 13 := rfl; have := i_eq c73; have : (7 : Int32).toInt = 7 := rfl; have := i_nle q; omega))
              refine r_iload rfl rfl ?_
              refine WR_tI (y := nI k5) ek5 ?_
              refine r_tsw (tg := 172) rfl rfl (fun _ => ?_) (fun q => False.elim (by have := i_nlt c4; have := i_rg w; have : (0 : Int32).toInt = 0 := rfl; have := i_eq ek5; have : (nI k5).toInt = ((k5 : Nat) : Int) := nI_toInt (by omega); have := i_lt c6; have : (13 : Int32).toInt = 13 := rfl; have := i_eq c73; have : (7 : Int32).toInt = 7 := rfl; omega))
              refine r_aload rfl rfl ?_
              refine r_getA (b := ad 73) rfl ⟨rfl, rfl, rfl⟩ (fx_t30 fx) (fx_r30_60 fx) ?_
              refine r_iload rfl rfl ?_
              refine WR_tI (y := nI k2) ek2 ?_
              refine r_daload rfl (fx_t73 fx) (vp_ct (fx_n73 fx) (vp_in_nI (by have := i_nlt c1; have := i_rg t; have : (0 : Int32).toInt = 0 := rfl; have := i_eq ek2; have : (nI k2).toInt = ((k2 : Nat) : Int) := nI_toInt (by omega); have := i_nle c3; have : (nI n).toInt = ((n : Nat) : Int) := nI_toInt (by omega); omega) (by omega))) ?_
              refine WR_tD (congrArg (hD (sI (sI h (ad 0) 6 0) (ad 30) 11 0) (ad 73)) ((nI_clamp (by have := i_nlt c1; have := i_rg t; have : (0 : Int32).toInt = 0 := rfl; have := i_eq ek2; have : (nI k2).toInt = ((k2 : Nat) : Int) := nI_toInt (by omega); have := i_nle c3; have : (nI n).toInt = ((n : Nat) : Int) := nI_toInt (by omega); omega)) : _ = k2)) ?_
              refine WR_tD (y := hD h (ad 73) k2) (Eq.trans D_oI D_oI) ?_
              refine r_cs (y := 198) (ra := [.double (hD h (ad 73) k2)]) (rest := []) rfl ⟨⟨rfl, rfl⟩, by decide⟩ rfl rfl (Nat.le_of_ble_eq_true rfl) ?_
              refine c_dl (h := sI (sI h (ad 0) 6 0) (ad 30) 11 0) (.inr nn1_7) ?_
              show WR _ cd_246 181 [some (.ref (ad 30)), some (.int t), some (.int w)] [.long ((hD h (ad 73) k2).toInt64)] (sI (sI h (ad 0) 6 0) (ad 30) 11 0) _
              refine r_lret rfl ?_
              exact ⟨rfl, Rel.why r ((Chg.rf.sI (fx_j fx) (.inl (by decide))).sI (fx_j fx) (.inl (by decide))) ⟨rfl, by decide⟩ (Eq.trans (Eq.trans (I_ne (fx_ne fx (by decide))) I_eq) (Eq.symm I_eq)), Nat.le_add_right _ _, Nat.le_add_right _ _⟩
        · refine r_aload rfl rfl ?_
          refine r_ic (x := (-3)) rfl rfl ?_
          refine r_cv (y := 65) (ra := [.int (-3)]) (rest := []) rfl ⟨⟨rfl, rfl⟩, rfl, by decide⟩ (fx_t0 fx) rfl rfl (Nat.le_of_ble_eq_true rfl) ?_
          refine in_65 (Nat.le_of_ble_eq_true rfl) ?_
          show WR _ cd_65 0 [some (.ref (ad 0)), some (.int (-3))] [] (sI h (ad 0) 6 0) _
          refine r_aload rfl rfl ?_
          refine r_iload rfl rfl ?_
          refine r_putI rfl ⟨rfl, rfl, rfl⟩ (fx_t0 fx) ?_
          refine r_lc (x := 0) rfl rfl ?_
          refine r_lret rfl ?_
          show WR _ cd_143 36 [some (.ref (ad 0)), some (.int t), some (.int w)] [.long 0] (sI (sI h (ad 0) 6 0) (ad 0) 6 (-3)) _
          refine r_lret rfl ?_
          show EV _ 246 [.ref (ad 30), .int t, .int w] (sI (sI h (ad 0) 6 0) (ad 0) 6 (-3)) _
          refine in_246 (Nat.le_of_ble_eq_true rfl) ?_
          show WR _ cd_246 0 [some (.ref (ad 30)), some (.int t), some (.int w)] [] (sI (sI h (ad 0) 6 0) (ad 0) 6 (-3)) _
          refine r_aload rfl rfl ?_
          refine r_iload rfl rfl ?_
          refine WR_tI (y := nI k2) ek2 ?_
          refine r_cv (y := 206) (ra := [.int (nI k2)]) (rest := []) rfl ⟨⟨rfl, rfl⟩, rfl, by decide⟩ (fx_t30 fx) rfl rfl (Nat.le_of_ble_eq_true rfl) ?_
          refine in_206 (Nat.le_of_ble_eq_true rfl) ?_
          show WR _ cd_206 0 [some (.ref (ad 30)), some (.int (nI k2))] [] (sI (sI h (ad 0) 6 0) (ad 0) 6 (-3)) _
          refine r_iload rfl rfl ?_
          refine r_if_lt (tg := 16) rfl rfl (fun q => False.elim (by have := i_nlt c1; have := i_rg t; have : (0 : Int32).toInt = 0 := rfl; have := i_eq ek2; have : (nI k2).toInt = ((k2 : Nat) : Int) := nI_toInt (by omega); have := i_nle c3; have : (nI n).toInt = ((n : Nat) : Int) := nI_toInt (by omega); have := i_lt q; omega)) (fun _ => ?_)
          refine r_iload rfl rfl ?_
          refine r_aload rfl rfl ?_
          refine r_getI rfl ⟨rfl, rfl, rfl⟩ (fx_t30 fx) ?_
          refine WR_tI (y := nI n) (Eq.trans (I_ne (fx_ne fx (by decide))) (Eq.trans (I_ne (fx_ne fx (by decide))) ru.1)) ?_
          refine r_icmp_ge (tg := 16) rfl rfl (fun q => False.elim (by have := i_nlt c1; have := i_rg t; have : (0 : Int32).toInt = 0 := rfl; have := i_eq ek2; have : (nI k2).toInt = ((k2 : Nat) : Int) := nI_toInt (by omega); have := i_nle c3; have : (nI n).toInt = ((n : Nat) : Int) := nI_toInt (by omega); have := i_le q; omega)) (fun _ => ?_)
          refine r_ic (x := 1) rfl rfl ?_
          refine r_goto (tg := 17) rfl rfl ?_
          refine r_zret rfl (.inr rfl) ?_
          show WR _ cd_246 5 [some (.ref (ad 30)), some (.int t), some (.int w)] [.int 1] (sI (sI h (ad 0) 6 0) (ad 0) 6 (-3)) _
          refine r_if_ne (tg := 15) rfl rfl (fun _ => ?_) (fun q => absurd q (by decide))
          refine r_iload rfl rfl ?_
          refine WR_tI (y := nI k5) ek5 ?_
          refine r_i2l rfl ?_
          refine WR_tL (y := lN k5) (nI_l (by have := i_nlt c4; have := i_rg w; have : (0 : Int32).toInt = 0 := rfl; have := i_eq ek5; have : (nI k5).toInt = ((k5 : Nat) : Int) := nI_toInt (by omega); have := i_nlt c6; have : (13 : Int32).toInt = 13 := rfl; omega)) ?_
          refine r_lc (x := 0) rfl rfl ?_
          refine r_ldc (x := .long 12) rfl rfl ?_
          refine r_cs (y := 155) (ra := [.long 12, .long 0, .long (lN k5)]) (rest := []) rfl ⟨⟨rfl, rfl⟩, by decide⟩ rfl rfl (Nat.le_of_ble_eq_true rfl) ?_
          refine in_155 (Nat.le_of_ble_eq_true rfl) ?_
          show WR _ cd_155 0 [some (.long (lN k5)), none, some (.long 0), none, some (.long 12), none] [] (sI (sI h (ad 0) 6 0) (ad 0) 6 (-3)) _
          refine r_lload rfl rfl ?_
          refine r_lload rfl rfl ?_
          refine r_lif_lt (tg := 17) rfl rfl rfl (fun q => False.elim (by have := i_nlt c4; have := i_rg w; have : (0 : Int32).toInt = 0 := rfl; have := i_eq ek5; have : (nI k5).toInt = ((k5 : Nat) : Int) := nI_toInt (by omega); have := i_nlt c6; have : (13 : Int32).toInt = 13 := rfl; have : (lN k5).toInt = ((k5 : Nat) : Int) := lN_toInt (by omega); have : (0 : Int64).toInt = 0 := rfl; have := l_lt q; omega)) (fun _ => ?_)
          refine r_lload rfl rfl ?_
          refine r_lload rfl rfl ?_
          refine r_lif_gt (tg := 17) rfl rfl rfl (fun _ => ?_) (fun q => False.elim (by have := i_nlt c4; have := i_rg w; have : (0 : Int32).toInt = 0 := rfl; have := i_eq ek5; have : (nI k5).toInt = ((k5 : Nat) : Int) := nI_toInt (by omega); have := i_nlt c6; have : (13 : Int32).toInt = 13 := rfl; have : (lN k5).toInt = ((k5 : Nat) : Int) := lN_toInt (by omega); have : (12 : Int64).toInt = 12 := rfl; have := l_nlt q; omega))
          refine r_ic (x := 0) rfl rfl ?_
          refine r_zret rfl (.inl rfl) ?_
          show WR _ cd_246 24 [some (.ref (ad 30)), some (.int t), some (.int w)] [.int 0] (sI (sI h (ad 0) 6 0) (ad 0) 6 (-3)) _
          refine r_if_ne (tg := 34) rfl rfl (fun q => absurd q (by decide)) (fun _ => ?_)
          refine r_aload rfl rfl ?_
          refine r_ic (x := (-3)) rfl rfl ?_
          refine r_cv (y := 171) (ra := [.int (-3)]) (rest := []) rfl ⟨⟨rfl, rfl⟩, rfl, by decide⟩ (fx_t30 fx) rfl rfl (Nat.le_of_ble_eq_true rfl) ?_
          refine in_171 (Nat.le_of_ble_eq_true rfl) ?_
          show WR _ cd_171 0 [some (.ref (ad 30)), some (.int (-3))] [] (sI (sI h (ad 0) 6 0) (ad 0) 6 (-3)) _
          refine r_aload rfl rfl ?_
          refine r_iload rfl rfl ?_
          refine r_putI rfl ⟨rfl, rfl, rfl⟩ (fx_t30 fx) ?_
          refine r_lc (x := 0) rfl rfl ?_
          refine r_lret rfl ?_
          show WR _ cd_246 33 [some (.ref (ad 30)), some (.int t), some (.int w)] [.long 0] (sI (sI (sI h (ad 0) 6 0) (ad 0) 6 (-3)) (ad 30) 11 (-3)) _
          refine r_lret rfl ?_
          exact ⟨rfl, Rel.why r (((Chg.rf.sI (fx_j fx) (.inl (by decide))).sI (fx_j fx) (.inl (by decide))).sI (fx_j fx) (.inl (by decide))) ⟨rfl, by decide⟩ (Eq.trans (Eq.trans (I_ne (fx_ne fx (by decide))) I_eq) (Eq.symm I_eq)), Nat.le_add_right _ _, Nat.le_add_right _ _⟩

set_option maxHeartbeats 2000000 in
theorem k_read {n : Nat} {ad sa : Nat → Nat} {z0 : Nat} {h : mH} (r : Rel n ad sa z0 h) (t : Int32) (s : Int32) (b : Int64) : AP n ad sa z0 h 122 227 [.int t, .int s, .long b] := by
  obtain ⟨mid, pa, np, fx, ry, rt, ra, rp, rf, rst, ru, rs⟩ := id r
  have fx0 := fx
  have hn_ := fx_k fx
  unfold AP
  refine in_122 (Nat.le_of_ble_eq_true rfl) ?_
  show WR _ cd_122 0 [some (.ref (ad 0)), some (.int t), some (.int s), some (.long b), none] [] h _
  refine r_aload rfl rfl ?_
  refine r_ic (x := 0) rfl rfl ?_
  refine r_putI rfl ⟨rfl, rfl, rfl⟩ (fx_t0 fx) ?_
  refine r_aload rfl rfl ?_
  refine r_iload rfl rfl ?_
  refine r_cv (y := 95) (ra := [.int t]) (rest := []) rfl ⟨⟨rfl, rfl⟩, rfl, by decide⟩ (fx_t0 fx) rfl rfl (Nat.le_of_ble_eq_true rfl) ?_
  refine in_95 (Nat.le_of_ble_eq_true rfl) ?_
  show WR _ cd_95 0 [some (.ref (ad 0)), some (.int t)] [] (sI h (ad 0) 6 0) _
  refine r_iload rfl rfl ?_
  refine r_if_lt (tg := 20) rfl rfl (fun c1 => ?_) (fun c1 => ?_)
  · refine r_ic (x := 0) rfl rfl ?_
    refine r_zret rfl (.inl rfl) ?_
    show WR _ cd_122 10 [some (.ref (ad 0)), some (.int t), some (.int s), some (.long b), none] [.int 0] (sI h (ad 0) 6 0) _
    refine r_if_eq (tg := 22) rfl rfl (fun _ => ?_) (fun q => absurd q (by decide))
    refine r_aload rfl rfl ?_
    refine r_ic (x := (-2)) rfl rfl ?_
    refine r_cv (y := 13) (ra := [.int (-2)]) (rest := []) rfl ⟨⟨rfl, rfl⟩, rfl, by decide⟩ (fx_t0 fx) rfl rfl (Nat.le_of_ble_eq_true rfl) ?_
    refine in_13 (Nat.le_of_ble_eq_true rfl) ?_
    show WR _ cd_13 0 [some (.ref (ad 0)), some (.int (-2))] [] (sI h (ad 0) 6 0) _
    refine r_aload rfl rfl ?_
    refine r_iload rfl rfl ?_
    refine r_putI rfl ⟨rfl, rfl, rfl⟩ (fx_t0 fx) ?_
    refine r_iload rfl rfl ?_
    refine r_iret rfl ?_
    show WR _ cd_122 28 [some (.ref (ad 0)), some (.int t), some (.int s), some (.long b), none] [.int (-2)] (sI (sI h (ad 0) 6 0) (ad 0) 6 (-2)) _
    refine r_iret rfl ?_
    show EV _ 227 [.ref (ad 30), .int t, .int s, .long b] (sI (sI h (ad 0) 6 0) (ad 0) 6 (-2)) _
    refine in_227 (Nat.le_of_ble_eq_true rfl) ?_
    show WR _ cd_227 0 [some (.ref (ad 30)), some (.int t), some (.int s), some (.long b), none, none, none] [] (sI (sI h (ad 0) 6 0) (ad 0) 6 (-2)) _
    refine r_aload rfl rfl ?_
    refine r_iload rfl rfl ?_
    refine r_cv (y := 206) (ra := [.int t]) (rest := []) rfl ⟨⟨rfl, rfl⟩, rfl, by decide⟩ (fx_t30 fx) rfl rfl (Nat.le_of_ble_eq_true rfl) ?_
    refine in_206 (Nat.le_of_ble_eq_true rfl) ?_
    show WR _ cd_206 0 [some (.ref (ad 30)), some (.int t)] [] (sI (sI h (ad 0) 6 0) (ad 0) 6 (-2)) _
    refine r_iload rfl rfl ?_
    refine r_if_lt (tg := 16) rfl rfl (fun _ => ?_) (fun q => False.elim (by have := i_lt c1; have := i_rg t; have : (0 : Int32).toInt = 0 := rfl; have := i_nlt q; omega))
    refine r_ic (x := 0) rfl rfl ?_
    refine r_zret rfl (.inl rfl) ?_
    show WR _ cd_227 5 [some (.ref (ad 30)), some (.int t), some (.int s), some (.long b), none, none, none] [.int 0] (sI (sI h (ad 0) 6 0) (ad 0) 6 (-2)) _
    refine r_if_eq (tg := 17) rfl rfl (fun _ => ?_) (fun q => absurd q (by decide))
    refine r_aload rfl rfl ?_
    refine r_ic (x := (-2)) rfl rfl ?_
    refine r_cv (y := 154) (ra := [.int (-2)]) (rest := []) rfl ⟨⟨rfl, rfl⟩, rfl, by decide⟩ (fx_t30 fx) rfl rfl (Nat.le_of_ble_eq_true rfl) ?_
    refine in_154 (Nat.le_of_ble_eq_true rfl) ?_
    show WR _ cd_154 0 [some (.ref (ad 30)), some (.int (-2))] [] (sI (sI h (ad 0) 6 0) (ad 0) 6 (-2)) _
    refine r_aload rfl rfl ?_
    refine r_iload rfl rfl ?_
    refine r_ic (x := (-1)) rfl rfl ?_
    refine r_icmp_ge (tg := 10) rfl rfl (fun q => absurd q (by decide)) (fun _ => ?_)
    refine r_iload rfl rfl ?_
    refine r_goto (tg := 11) rfl rfl ?_
    refine r_putI rfl ⟨rfl, rfl, rfl⟩ (fx_t30 fx) ?_
    refine r_iload rfl rfl ?_
    refine r_iret rfl ?_
    show WR _ cd_227 23 [some (.ref (ad 30)), some (.int t), some (.int s), some (.long b), none, none, none] [.int (-2)] (sI (sI (sI h (ad 0) 6 0) (ad 0) 6 (-2)) (ad 30) 11 (-2)) _
    refine r_iret rfl ?_
    exact ⟨rfl, Rel.why r (((Chg.rf.sI (fx_j fx) (.inl (by decide))).sI (fx_j fx) (.inl (by decide))).sI (fx_j fx) (.inl (by decide))) ⟨rfl, by decide⟩ (Eq.trans (Eq.trans (I_ne (fx_ne fx (by decide))) I_eq) (Eq.symm I_eq)), Nat.le_add_right _ _, Nat.le_add_right _ _⟩
  · obtain ⟨k2, hk2, ek2⟩ := ix_of (x := t) (n := 2147483648) (by have := i_nlt c1; have := i_rg t; have : (0 : Int32).toInt = 0 := rfl; omega) (by have := i_nlt c1; have := i_rg t; have : (0 : Int32).toInt = 0 := rfl; omega)
    refine r_iload rfl rfl ?_
    refine WR_tI (y := nI k2) ek2 ?_
    refine r_aload rfl rfl ?_
    refine r_getA (b := ad 4) rfl ⟨rfl, rfl, rfl⟩ (fx_t0 fx) (fx_r0_2 fx) ?_
    refine r_getA (b := ad 7) rfl ⟨rfl, rfl, rfl⟩ (fx_t4 fx) (fx_r4_0 fx) ?_
    refine r_alen rfl (isA_of (fx_t7 fx) (by decide)) ?_
    refine WR_tI (y := nI n) (congrArg nI (fx_n7 fx)) ?_
    refine r_icmp_ge (tg := 20) rfl rfl (fun c3 => ?_) (fun c3 => ?_)
    · refine r_ic (x := 0) rfl rfl ?_
      refine r_zret rfl (.inl rfl) ?_
      show WR _ cd_122 10 [some (.ref (ad 0)), some (.int t), some (.int s), some (.long b), none] [.int 0] (sI h (ad 0) 6 0) _
      refine r_if_eq (tg := 22) rfl rfl (fun _ => ?_) (fun q => absurd q (by decide))
      refine r_aload rfl rfl ?_
      refine r_ic (x := (-2)) rfl rfl ?_
      refine r_cv (y := 13) (ra := [.int (-2)]) (rest := []) rfl ⟨⟨rfl, rfl⟩, rfl, by decide⟩ (fx_t0 fx) rfl rfl (Nat.le_of_ble_eq_true rfl) ?_
      refine in_13 (Nat.le_of_ble_eq_true rfl) ?_
      show WR _ cd_13 0 [some (.ref (ad 0)), some (.int (-2))] [] (sI h (ad 0) 6 0) _
      refine r_aload rfl rfl ?_
      refine r_iload rfl rfl ?_
      refine r_putI rfl ⟨rfl, rfl, rfl⟩ (fx_t0 fx) ?_
      refine r_iload rfl rfl ?_
      refine r_iret rfl ?_
      show WR _ cd_122 28 [some (.ref (ad 0)), some (.int t), some (.int s), some (.long b), none] [.int (-2)] (sI (sI h (ad 0) 6 0) (ad 0) 6 (-2)) _
      refine r_iret rfl ?_
      show EV _ 227 [.ref (ad 30), .int t, .int s, .long b] (sI (sI h (ad 0) 6 0) (ad 0) 6 (-2)) _
      refine in_227 (Nat.le_of_ble_eq_true rfl) ?_
      show WR _ cd_227 0 [some (.ref (ad 30)), some (.int t), some (.int s), some (.long b), none, none, none] [] (sI (sI h (ad 0) 6 0) (ad 0) 6 (-2)) _
      refine r_aload rfl rfl ?_
      refine r_iload rfl rfl ?_
      refine WR_tI (y := nI k2) ek2 ?_
      refine r_cv (y := 206) (ra := [.int (nI k2)]) (rest := []) rfl ⟨⟨rfl, rfl⟩, rfl, by decide⟩ (fx_t30 fx) rfl rfl (Nat.le_of_ble_eq_true rfl) ?_
      refine in_206 (Nat.le_of_ble_eq_true rfl) ?_
      show WR _ cd_206 0 [some (.ref (ad 30)), some (.int (nI k2))] [] (sI (sI h (ad 0) 6 0) (ad 0) 6 (-2)) _
      refine r_iload rfl rfl ?_
      refine r_if_lt (tg := 16) rfl rfl (fun q => False.elim (by have := i_nlt c1; have := i_rg t; have : (0 : Int32).toInt = 0 := rfl; have := i_eq ek2; have : (nI k2).toInt = ((k2 : Nat) : Int) := nI_toInt (by omega); have := i_le c3; have : (nI n).toInt = ((n : Nat) : Int) := nI_toInt (by omega); have := i_lt q; omega)) (fun _ => ?_)
      refine r_iload rfl rfl ?_
      refine r_aload rfl rfl ?_
      refine r_getI rfl ⟨rfl, rfl, rfl⟩ (fx_t30 fx) ?_
      refine WR_tI (y := nI n) (Eq.trans (I_ne (fx_ne fx (by decide))) (Eq.trans (I_ne (fx_ne fx (by decide))) ru.1)) ?_
      refine r_icmp_ge (tg := 16) rfl rfl (fun _ => ?_) (fun q => False.elim (by have := i_nlt c1; have := i_rg t; have : (0 : Int32).toInt = 0 := rfl; have := i_eq ek2; have : (nI k2).toInt = ((k2 : Nat) : Int) := nI_toInt (by omega); have := i_le c3; have : (nI n).toInt = ((n : Nat) : Int) := nI_toInt (by omega); have := i_nle q; omega))
      refine r_ic (x := 0) rfl rfl ?_
      refine r_zret rfl (.inl rfl) ?_
      show WR _ cd_227 5 [some (.ref (ad 30)), some (.int t), some (.int s), some (.long b), none, none, none] [.int 0] (sI (sI h (ad 0) 6 0) (ad 0) 6 (-2)) _
      refine r_if_eq (tg := 17) rfl rfl (fun _ => ?_) (fun q => absurd q (by decide))
      refine r_aload rfl rfl ?_
      refine r_ic (x := (-2)) rfl rfl ?_
      refine r_cv (y := 154) (ra := [.int (-2)]) (rest := []) rfl ⟨⟨rfl, rfl⟩, rfl, by decide⟩ (fx_t30 fx) rfl rfl (Nat.le_of_ble_eq_true rfl) ?_
      refine in_154 (Nat.le_of_ble_eq_true rfl) ?_
      show WR _ cd_154 0 [some (.ref (ad 30)), some (.int (-2))] [] (sI (sI h (ad 0) 6 0) (ad 0) 6 (-2)) _
      refine r_aload rfl rfl ?_
      refine r_iload rfl rfl ?_
      refine r_ic (x := (-1)) rfl rfl ?_
      refine r_icmp_ge (tg := 10) rfl rfl (fun q => absurd q (by decide)) (fun _ => ?_)
      refine r_iload rfl rfl ?_
      refine r_goto (tg := 11) rfl rfl ?_
      refine r_putI rfl ⟨rfl, rfl, rfl⟩ (fx_t30 fx) ?_
      refine r_iload rfl rfl ?_
      refine r_iret rfl ?_
      show WR _ cd_227 23 [some (.ref (ad 30)), some (.int t), some (.int s), some (.long b), none, none, none] [.int (-2)] (sI (sI (sI h (ad 0) 6 0) (ad 0) 6 (-2)) (ad 30) 11 (-2)) _
      refine r_iret rfl ?_
      exact ⟨rfl, Rel.why r (((Chg.rf.sI (fx_j fx) (.inl (by decide))).sI (fx_j fx) (.inl (by decide))).sI (fx_j fx) (.inl (by decide))) ⟨rfl, by decide⟩ (Eq.trans (Eq.trans (I_ne (fx_ne fx (by decide))) I_eq) (Eq.symm I_eq)), Nat.le_add_right _ _, Nat.le_add_right _ _⟩
    · refine r_ic (x := 1) rfl rfl ?_
      refine r_goto (tg := 21) rfl rfl ?_
      refine r_zret rfl (.inr rfl) ?_
      show WR _ cd_122 10 [some (.ref (ad 0)), some (.int t), some (.int s), some (.long b), none] [.int 1] (sI h (ad 0) 6 0) _
      refine r_if_eq (tg := 22) rfl rfl (fun q => absurd q (by decide)) (fun _ => ?_)
      refine r_iload rfl rfl ?_
      refine r_if_lt (tg := 22) rfl rfl (fun c4 => ?_) (fun c4 => ?_)
      · refine r_aload rfl rfl ?_
        refine r_ic (x := (-2)) rfl rfl ?_
        refine r_cv (y := 13) (ra := [.int (-2)]) (rest := []) rfl ⟨⟨rfl, rfl⟩, rfl, by decide⟩ (fx_t0 fx) rfl rfl (Nat.le_of_ble_eq_true rfl) ?_
        refine in_13 (Nat.le_of_ble_eq_true rfl) ?_
        show WR _ cd_13 0 [some (.ref (ad 0)), some (.int (-2))] [] (sI h (ad 0) 6 0) _
        refine r_aload rfl rfl ?_
        refine r_iload rfl rfl ?_
        refine r_putI rfl ⟨rfl, rfl, rfl⟩ (fx_t0 fx) ?_
        refine r_iload rfl rfl ?_
        refine r_iret rfl ?_
        show WR _ cd_122 28 [some (.ref (ad 0)), some (.int t), some (.int s), some (.long b), none] [.int (-2)] (sI (sI h (ad 0) 6 0) (ad 0) 6 (-2)) _
        refine r_iret rfl ?_
        show EV _ 227 [.ref (ad 30), .int t, .int s, .long b] (sI (sI h (ad 0) 6 0) (ad 0) 6 (-2)) _
        refine in_227 (Nat.le_of_ble_eq_true rfl) ?_
        show WR _ cd_227 0 [some (.ref (ad 30)), some (.int t), some (.int s), some (.long b), none, none, none] [] (sI (sI h (ad 0) 6 0) (ad 0) 6 (-2)) _
        refine r_aload rfl rfl ?_
        refine r_iload rfl rfl ?_
        refine WR_tI (y := nI k2) ek2 ?_
        refine r_cv (y := 206) (ra := [.int (nI k2)]) (rest := []) rfl ⟨⟨rfl, rfl⟩, rfl, by decide⟩ (fx_t30 fx) rfl rfl (Nat.le_of_ble_eq_true rfl) ?_
        refine in_206 (Nat.le_of_ble_eq_true rfl) ?_
        show WR _ cd_206 0 [some (.ref (ad 30)), some (.int (nI k2))] [] (sI (sI h (ad 0) 6 0) (ad 0) 6 (-2)) _
        refine r_iload rfl rfl ?_
        refine r_if_lt (tg := 16) rfl rfl (fun q => False.elim (by have := i_nlt c1; have := i_rg t; have : (0 : Int32).toInt = 0 := rfl; have := i_eq ek2; have : (nI k2).toInt = ((k2 : Nat) : Int) := nI_toInt (by omega); have := i_nle c3; have : (nI n).toInt = ((n : Nat) : Int) := nI_toInt (by omega); have := i_lt q; omega)) (fun _ => ?_)
        refine r_iload rfl rfl ?_
        refine r_aload rfl rfl ?_
        refine r_getI rfl ⟨rfl, rfl, rfl⟩ (fx_t30 fx) ?_
        refine WR_tI (y := nI n) (Eq.trans (I_ne (fx_ne fx (by decide))) (Eq.trans (I_ne (fx_ne fx (by decide))) ru.1)) ?_
        refine r_icmp_ge (tg := 16) rfl rfl (fun q => False.elim (by have := i_nlt c1; have := i_rg t; have : (0 : Int32).toInt = 0 := rfl; have := i_eq ek2; have : (nI k2).toInt = ((k2 : Nat) : Int) := nI_toInt (by omega); have := i_nle c3; have : (nI n).toInt = ((n : Nat) : Int) := nI_toInt (by omega); have := i_le q; omega)) (fun _ => ?_)
        refine r_ic (x := 1) rfl rfl ?_
        refine r_goto (tg := 17) rfl rfl ?_
        refine r_zret rfl (.inr rfl) ?_
        show WR _ cd_227 5 [some (.ref (ad 30)), some (.int t), some (.int s), some (.long b), none, none, none] [.int 1] (sI (sI h (ad 0) 6 0) (ad 0) 6 (-2)) _
        refine r_if_eq (tg := 17) rfl rfl (fun q => absurd q (by decide)) (fun _ => ?_)
        refine r_iload rfl rfl ?_
        refine r_if_lt (tg := 17) rfl rfl (fun _ => ?_) (fun q => False.elim (by have := i_lt c4; have := i_rg s; have : (0 : Int32).toInt = 0 := rfl; have := i_nlt q; omega))
        refine r_aload rfl rfl ?_
        refine r_ic (x := (-2)) rfl rfl ?_
        refine r_cv (y := 154) (ra := [.int (-2)]) (rest := []) rfl ⟨⟨rfl, rfl⟩, rfl, by decide⟩ (fx_t30 fx) rfl rfl (Nat.le_of_ble_eq_true rfl) ?_
        refine in_154 (Nat.le_of_ble_eq_true rfl) ?_
        show WR _ cd_154 0 [some (.ref (ad 30)), some (.int (-2))] [] (sI (sI h (ad 0) 6 0) (ad 0) 6 (-2)) _
        refine r_aload rfl rfl ?_
        refine r_iload rfl rfl ?_
        refine r_ic (x := (-1)) rfl rfl ?_
        refine r_icmp_ge (tg := 10) rfl rfl (fun q => absurd q (by decide)) (fun _ => ?_)
        refine r_iload rfl rfl ?_
        refine r_goto (tg := 11) rfl rfl ?_
        refine r_putI rfl ⟨rfl, rfl, rfl⟩ (fx_t30 fx) ?_
        refine r_iload rfl rfl ?_
        refine r_iret rfl ?_
        show WR _ cd_227 23 [some (.ref (ad 30)), some (.int t), some (.int s), some (.long b), none, none, none] [.int (-2)] (sI (sI (sI h (ad 0) 6 0) (ad 0) 6 (-2)) (ad 30) 11 (-2)) _
        refine r_iret rfl ?_
        exact ⟨rfl, Rel.why r (((Chg.rf.sI (fx_j fx) (.inl (by decide))).sI (fx_j fx) (.inl (by decide))).sI (fx_j fx) (.inl (by decide))) ⟨rfl, by decide⟩ (Eq.trans (Eq.trans (I_ne (fx_ne fx (by decide))) I_eq) (Eq.symm I_eq)), Nat.le_add_right _ _, Nat.le_add_right _ _⟩
      · obtain ⟨k5, hk5, ek5⟩ := ix_of (x := s) (n := 2147483648) (by have := i_nlt c4; have := i_rg s; have : (0 : Int32).toInt = 0 := rfl; omega) (by have := i_nlt c4; have := i_rg s; have : (0 : Int32).toInt = 0 := rfl; omega)
        refine r_iload rfl rfl ?_
        refine WR_tI (y := nI k5) ek5 ?_
        refine r_ic (x := 3) rfl rfl ?_
        refine r_icmp_lt (tg := 29) rfl rfl (fun c6 => ?_) (fun c6 => ?_)
        · refine r_lload rfl rfl ?_
          refine r_cs (y := 38) (ra := [.long b]) (rest := []) rfl ⟨⟨rfl, rfl⟩, by decide⟩ rfl rfl (Nat.le_of_ble_eq_true rfl) ?_
          refine in_38 (Nat.le_of_ble_eq_true rfl) ?_
          show WR _ cd_38 0 [some (.long b), none] [] (sI h (ad 0) 6 0) _
          refine r_lload rfl rfl ?_
          refine r_cs (y := 39) (ra := [.long b]) (rest := []) rfl ⟨⟨rfl, rfl⟩, by decide⟩ rfl rfl (Nat.le_of_ble_eq_true rfl) ?_
          refine in_39 (Nat.le_of_ble_eq_true rfl) ?_
          show WR _ cd_39 0 [some (.long b), none] [] (sI h (ad 0) 6 0) _
          refine r_lload rfl rfl ?_
          refine r_ldc (x := .long 9223372036854775807) rfl rfl ?_
          refine r_land rfl ?_
          refine r_lret rfl ?_
          show WR _ cd_38 4 [some (.long b), none] [.long (b &&& 9223372036854775807)] (sI h (ad 0) 6 0) _
          refine r_ldc (x := .long 9218868437227405312) rfl rfl ?_
          refine r_lif_gt (tg := 15) rfl rfl rfl (fun c7 => ?_) (fun c7 => ?_)
          · refine r_ic (x := 0) rfl rfl ?_
            refine r_zret rfl (.inl rfl) ?_
            show WR _ cd_122 33 [some (.ref (ad 0)), some (.int t), some (.int s), some (.long b), none] [.int 0] (sI h (ad 0) 6 0) _
            refine r_if_eq (tg := 54) rfl rfl (fun _ => ?_) (fun q => absurd q (by decide))
            refine r_aload rfl rfl ?_
            refine r_getA (b := ad 4) rfl ⟨rfl, rfl, rfl⟩ (fx_t0 fx) (fx_r0_2 fx) ?_
            refine r_getA (b := ad 7) rfl ⟨rfl, rfl, rfl⟩ (fx_t4 fx) (fx_r4_0 fx) ?_
            refine r_iload rfl rfl ?_
            refine WR_tI (y := nI k2) ek2 ?_
            have hk8 : k2 < n := (by have := i_nlt c1; have := i_rg t; have : (0 : Int32).toInt = 0 := rfl; have := i_eq ek2; have : (nI k2).toInt = ((k2 : Nat) : Int) := nI_toInt (by omega); have := i_nle c3; have : (nI n).toInt = ((n : Nat) : Int) := nI_toInt (by omega); omega)
            have tb8 := fx_tb fx0 k2 hk8
            obtain ⟨⟨a1_8, a2_8, a3_8, a4_8⟩, ⟨b1_8, b2_8⟩, ⟨c1_8, c2_8⟩, ⟨d1_8, d2_8⟩, ⟨e1_8, e2_8, e3_8, e4_8, e5_8, e6_8, e7_8⟩, f_8, g_8⟩ := id (ru.2 k2 hk8)
            refine r_aaloadA (b := ad (100 + 5 * k2)) rfl (isQ_of (fx_t7 fx) (by decide)) (vp_ct (fx_n7 fx) (vp_in_nI (by have := i_nlt c1; have := i_rg t; have : (0 : Int32).toInt = 0 := rfl; have := i_eq ek2; have : (nI k2).toInt = ((k2 : Nat) : Int) := nI_toInt (by omega); have := i_nle c3; have : (nI n).toInt = ((n : Nat) : Int) := nI_toInt (by omega); omega) (by omega))) (Eq.trans (congrArg (hR (sI h (ad 0) 6 0) (ad 7)) ((nI_clamp (by have := i_nlt c1; have := i_rg t; have : (0 : Int32).toInt = 0 := rfl; have := i_eq ek2; have : (nI k2).toInt = ((k2 : Nat) : Int) := nI_toInt (by omega); have := i_nle c3; have : (nI n).toInt = ((n : Nat) : Int) := nI_toInt (by omega); omega)) : _ = k2)) (Eq.trans R_oI tb8.1)) ?_
            refine r_getA (b := ad (102 + 5 * k2)) rfl ⟨rfl, rfl, rfl⟩ tb8.2.1 (Eq.trans R_oI tb8.2.2.2.2.2.2.2.1) ?_
            refine r_iload rfl rfl ?_
            refine WR_tI (y := nI k5) ek5 ?_
            refine r_ic (x := 6) rfl rfl ?_
            refine r_lload rfl rfl ?_
            refine r_cs (y := 36) (ra := [.long b, .int 6]) (rest := [.int (nI k5), .ref (ad (102 + 5 * k2))]) rfl ⟨⟨rfl, rfl⟩, by decide⟩ rfl rfl (Nat.le_of_ble_eq_true rfl) ?_
            refine c_fitted (h := sI h (ad 0) 6 0) fx ?_
            show WR _ cd_122 73 [some (.ref (ad 0)), some (.int t), some (.int s), some (.long b), none] [.long (fitV 6 b), .int (nI k5), .ref (ad (102 + 5 * k2))] (sI h (ad 0) 6 0) _
            refine r_lastore rfl tb8.2.2.2.1.1 (vp_ct tb8.2.2.2.1.2 (vp_in_nI (by have := i_nlt c4; have := i_rg s; have : (0 : Int32).toInt = 0 := rfl; have := i_eq ek5; have : (nI k5).toInt = ((k5 : Nat) : Int) := nI_toInt (by omega); have := i_lt c6; have : (3 : Int32).toInt = 3 := rfl; omega) (by omega))) ?_
            refine WR_h (h2 := sL (sI h (ad 0) 6 0) (ad (102 + 5 * k2)) k5 (fitV 6 b)) (congrArg (fun z => sL (sI h (ad 0) 6 0) (ad (102 + 5 * k2)) z (fitV 6 b)) ((nI_clamp (by have := i_nlt c4; have := i_rg s; have : (0 : Int32).toInt = 0 := rfl; have := i_eq ek5; have : (nI k5).toInt = ((k5 : Nat) : Int) := nI_toInt (by omega); have := i_lt c6; have : (3 : Int32).toInt = 3 := rfl; omega)) : _ = k5)) ?_
            refine r_ic (x := 1) rfl rfl ?_
            refine r_iret rfl ?_
            show EV _ 227 [.ref (ad 30), .int t, .int s, .long b] (sL (sI h (ad 0) 6 0) (ad (102 + 5 * k2)) k5 (fitV 6 b)) _
            refine in_227 (Nat.le_of_ble_eq_true rfl) ?_
            show WR _ cd_227 0 [some (.ref (ad 30)), some (.int t), some (.int s), some (.long b), none, none, none] [] (sL (sI h (ad 0) 6 0) (ad (102 + 5 * k2)) k5 (fitV 6 b)) _
            refine r_aload rfl rfl ?_
            refine r_iload rfl rfl ?_
            refine WR_tI (y := nI k2) ek2 ?_
            refine r_cv (y := 206) (ra := [.int (nI k2)]) (rest := []) rfl ⟨⟨rfl, rfl⟩, rfl, by decide⟩ (fx_t30 fx) rfl rfl (Nat.le_of_ble_eq_true rfl) ?_
            refine in_206 (Nat.le_of_ble_eq_true rfl) ?_
            show WR _ cd_206 0 [some (.ref (ad 30)), some (.int (nI k2))] [] (sL (sI h (ad 0) 6 0) (ad (102 + 5 * k2)) k5 (fitV 6 b)) _
            refine r_iload rfl rfl ?_
            refine r_if_lt (tg := 16) rfl rfl (fun q => False.elim (by have := i_nlt c1; have := i_rg t; have : (0 : Int32).toInt = 0 := rfl; have := i_eq ek2; have : (nI k2).toInt = ((k2 : Nat) : Int) := nI_toInt (by omega); have := i_nle c3; have : (nI n).toInt = ((n : Nat) : Int) := nI_toInt (by omega); have := i_lt q; omega)) (fun _ => ?_)
            refine r_iload rfl rfl ?_
            refine r_aload rfl rfl ?_
            refine r_getI rfl ⟨rfl, rfl, rfl⟩ (fx_t30 fx) ?_
            refine WR_tI (y := nI n) (Eq.trans I_oL (Eq.trans (I_ne (fx_ne fx (by decide))) ru.1)) ?_
            refine r_icmp_ge (tg := 16) rfl rfl (fun q => False.elim (by have := i_nlt c1; have := i_rg t; have : (0 : Int32).toInt = 0 := rfl; have := i_eq ek2; have : (nI k2).toInt = ((k2 : Nat) : Int) := nI_toInt (by omega); have := i_nle c3; have : (nI n).toInt = ((n : Nat) : Int) := nI_toInt (by omega); have := i_le q; omega)) (fun _ => ?_)
            refine r_ic (x := 1) rfl rfl ?_
            refine r_goto (tg := 17) rfl rfl ?_
            refine r_zret rfl (.inr rfl) ?_
            show WR _ cd_227 5 [some (.ref (ad 30)), some (.int t), some (.int s), some (.long b), none, none, none] [.int 1] (sL (sI h (ad 0) 6 0) (ad (102 + 5 * k2)) k5 (fitV 6 b)) _
            refine r_if_eq (tg := 17) rfl rfl (fun q => absurd q (by decide)) (fun _ => ?_)
            refine r_iload rfl rfl ?_
            refine WR_tI (y := nI k5) ek5 ?_
            refine r_if_lt (tg := 17) rfl rfl (fun q => False.elim (by have := i_nlt c4; have := i_rg s; have : (0 : Int32).toInt = 0 := rfl; have := i_eq ek5; have : (nI k5).toInt = ((k5 : Nat) : Int) := nI_toInt (by omega); have := i_lt c6; have : (3 : Int32).toInt = 3 := rfl; have := i_lt q; omega)) (fun _ => ?_)
            refine r_iload rfl rfl ?_
            refine WR_tI (y := nI k5) ek5 ?_
            refine r_ic (x := 2) rfl rfl ?_
            refine r_icmp_le (tg := 24) rfl rfl (fun _ => ?_) (fun q => False.elim (by have := i_nlt c4; have := i_rg s; have : (0 : Int32).toInt = 0 := rfl; have := i_eq ek5; have : (nI k5).toInt = ((k5 : Nat) : Int) := nI_toInt (by omega); have := i_lt c6; have : (3 : Int32).toInt = 3 := rfl; have : (2 : Int32).toInt = 2 := rfl; have := i_nle q; omega))
            refine r_ic (x := 6) rfl rfl ?_
            refine r_lload rfl rfl ?_
            refine r_cs (y := 169) (ra := [.long b, .int 6]) (rest := []) rfl ⟨⟨rfl, rfl⟩, by decide⟩ rfl rfl (Nat.le_of_ble_eq_true rfl) ?_
            refine c_cut (h := sL (sI h (ad 0) 6 0) (ad (102 + 5 * k2)) k5 (fitV 6 b)) (l := 6) fx (by have : (6 : Int32).toInt = 6 := rfl; omega) ?_
            show WR _ cd_227 30 [some (.ref (ad 30)), some (.int t), some (.int s), some (.long b), none, none, none] [.long (fitV 6 b)] (sL (sI h (ad 0) 6 0) (ad (102 + 5 * k2)) k5 (fitV 6 b)) _
            refine r_l2dn rfl (by rw [fit_nan c7]; decide) (Nat.le_of_ble_eq_true rfl) ?_
            have ok_ := fun z => (fun z => z.1 c7) ((rd_iff b).mp z)
            have lt_ : ¬ dlt (fitV 6 b).toUInt64 13875379345695965184 := fun z => ok_ (.inl z)
            have gt_ : ¬ dgt (fitV 6 b).toUInt64 4652007308841189376 := fun z => ok_ (.inr z)
            refine r_dstore (lv' := [some (.ref (ad 30)), some (.int t), some (.int s), some (.long b), none, some (.double ((fitV 6 b).toUInt64)), none]) rfl (Nat.le_of_ble_eq_true rfl) rfl ?_
            refine r_dload rfl rfl ?_
            refine r_ldc (x := .double 13875379345695965184) rfl rfl ?_
            refine r_dgif_lt (tg := 53) rfl rfl rfl (fun q => absurd q lt_) (fun _ => ?_)
            refine r_dload rfl rfl ?_
            refine r_ldc (x := .double 4652007308841189376) rfl rfl ?_
            refine r_dlif_le (tg := 60) rfl rfl rfl (fun _ => ?_) (fun q => absurd q gt_)
            refine r_aload rfl rfl ?_
            refine r_getA (b := ad 63) rfl ⟨rfl, rfl, rfl⟩ (fx_t30 fx) (fx_r30_50 fx) ?_
            refine r_ic (x := 3) rfl rfl ?_
            refine r_iload rfl rfl ?_
            refine WR_tI (y := nI k2) ek2 ?_
            refine r_imul rfl ?_
            refine WR_tI (y := nI (3 * k2)) (Eq.trans (pk_mul 3 k2) (congrArg nI (by have := i_nlt c1; have := i_rg t; have : (0 : Int32).toInt = 0 := rfl; have := i_eq ek2; have : (nI k2).toInt = ((k2 : Nat) : Int) := nI_toInt (by omega); have := i_nle c3; have : (nI n).toInt = ((n : Nat) : Int) := nI_toInt (by omega); omega))) ?_
            refine r_iload rfl rfl ?_
            refine WR_tI (y := nI k5) ek5 ?_
            refine r_iadd rfl ?_
            refine WR_tI (y := nI (3 * k2 + k5)) (Eq.trans (nI_add (3 * k2) k5) (congrArg nI (by have := i_nlt c1; have := i_rg t; have : (0 : Int32).toInt = 0 := rfl; have := i_eq ek2; have : (nI k2).toInt = ((k2 : Nat) : Int) := nI_toInt (by omega); have := i_nle c3; have : (nI n).toInt = ((n : Nat) : Int) := nI_toInt (by omega); have := i_nlt c4; have := i_rg s; have := i_eq ek5; have : (nI k5).toInt = ((k5 : Nat) : Int) := nI_toInt (by omega); have := i_lt c6; have : (3 : Int32).toInt = 3 := rfl; omega))) ?_
            refine r_dload rfl rfl ?_
            refine r_dastore rfl (fx_t63 fx) (vp_ct (fx_n63 fx) (vp_in_nI (by have := i_nlt c1; have := i_rg t; have : (0 : Int32).toInt = 0 := rfl; have := i_eq ek2; have : (nI k2).toInt = ((k2 : Nat) : Int) := nI_toInt (by omega); have := i_nle c3; have : (nI n).toInt = ((n : Nat) : Int) := nI_toInt (by omega); have := i_nlt c4; have := i_rg s; have := i_eq ek5; have : (nI k5).toInt = ((k5 : Nat) : Int) := nI_toInt (by omega); have := i_lt c6; have : (3 : Int32).toInt = 3 := rfl; omega) (by omega))) ?_
            refine WR_h (h2 := sD (sL (sI h (ad 0) 6 0) (ad (102 + 5 * k2)) k5 (fitV 6 b)) (ad 63) (3 * k2 + k5) ((fitV 6 b).toUInt64)) (congrArg (fun z => sD (sL (sI h (ad 0) 6 0) (ad (102 + 5 * k2)) k5 (fitV 6 b)) (ad 63) z ((fitV 6 b).toUInt64)) ((nI_clamp (by have := i_nlt c1; have := i_rg t; have : (0 : Int32).toInt = 0 := rfl; have := i_eq ek2; have : (nI k2).toInt = ((k2 : Nat) : Int) := nI_toInt (by omega); have := i_nle c3; have : (nI n).toInt = ((n : Nat) : Int) := nI_toInt (by omega); have := i_nlt c4; have := i_rg s; have := i_eq ek5; have : (nI k5).toInt = ((k5 : Nat) : Int) := nI_toInt (by omega); have := i_lt c6; have : (3 : Int32).toInt = 3 := rfl; omega)) : _ = 3 * k2 + k5)) ?_
            refine r_aload rfl rfl ?_
            refine r_ic (x := 1) rfl rfl ?_
            refine r_cv (y := 154) (ra := [.int 1]) (rest := []) rfl ⟨⟨rfl, rfl⟩, rfl, by decide⟩ (fx_t30 fx) rfl rfl (Nat.le_of_ble_eq_true rfl) ?_
            refine in_154 (Nat.le_of_ble_eq_true rfl) ?_
            show WR _ cd_154 0 [some (.ref (ad 30)), some (.int 1)] [] (sD (sL (sI h (ad 0) 6 0) (ad (102 + 5 * k2)) k5 (fitV 6 b)) (ad 63) (3 * k2 + k5) ((fitV 6 b).toUInt64)) _
            refine r_aload rfl rfl ?_
            refine r_iload rfl rfl ?_
            refine r_ic (x := (-1)) rfl rfl ?_
            refine r_icmp_ge (tg := 10) rfl rfl (fun _ => ?_) (fun q => absurd q (by decide))
            refine r_ic (x := 0) rfl rfl ?_
            refine r_putI rfl ⟨rfl, rfl, rfl⟩ (fx_t30 fx) ?_
            refine r_iload rfl rfl ?_
            refine r_iret rfl ?_
            show WR _ cd_227 77 [some (.ref (ad 30)), some (.int t), some (.int s), some (.long b), none, some (.double ((fitV 6 b).toUInt64)), none] [.int 1] (sI (sD (sL (sI h (ad 0) 6 0) (ad (102 + 5 * k2)) k5 (fitV 6 b)) (ad 63) (3 * k2 + k5) ((fitV 6 b).toUInt64)) (ad 30) 11 0) _
            refine r_iret rfl ?_
            have cg : Chg n ad [(30, 11), (102 + 5 * k2, k5), (0, 6)] [63] h (sI (sD (sL (sI h (ad 0) 6 0) (ad (102 + 5 * k2)) k5 (fitV 6 b)) (ad 63) (3 * k2 + k5) ((fitV 6 b).toUInt64)) (ad 30) 11 0) := ((((Chg.rf.sI (fx_j fx0) (k := 6) (v := 0) (.inl (by decide))).sL (fx_j fx0) (k := k5) (v := fitV 6 b) (.inr ⟨by omega, by omega⟩)).sD (fx_j fx0) (k := 3 * k2 + k5) (v := (fitV 6 b).toUInt64) (.inl (by decide))).row.sI (fx_j fx0) (k := 11) (v := 0) (.inl (by decide)))
            refine ⟨rfl, Rel_tu fx0 rt ra rp rf rst rs cg (by intro p_ hp_; simp only [List.mem_cons, List.not_mem_nil, or_false] at hp_; rcases hp_ with rfl | rfl | rfl <;> first | (simp; done) | (simp; omega) | omega) (by intro i_ hi_; simp only [List.mem_cons, List.not_mem_nil, or_false] at hi_; rcases hi_ with rfl <;> first | (simp [tuL]; done) | (simp [tuL]; omega) | omega) rfl (Eq.trans (Eq.trans (I_ne (fx_ne fx (by decide))) (Eq.trans I_oD (Eq.trans I_oL I_eq))) (Eq.symm I_eq)) ⟨(Eq.trans (Eq.trans (I_nk (by decide)) (Eq.trans I_oD (Eq.trans I_oL (I_ne (fx_ne fx (by decide)))))) ru.1), fun t_ ht_ => ?_⟩, Nat.le_add_right _ _, Nat.le_add_right _ _⟩
            by_cases e_ : t_ = k2
            · subst e_
              obtain ⟨g1, g2, g3, g4, g5, g6, g7⟩ := (tuR_i _ _ _ _ _).mp (ru.2 t_ ht_)
              refine (tuR_i _ _ _ _ _).mpr ⟨g1.c (Eq.trans (I_ne (fx_ne fx (by omega))) (Eq.trans I_oD (Eq.trans I_oL (I_ne (fx_ne fx (by omega)))))) (Eq.trans (I_ne (fx_ne fx (by omega))) (Eq.trans I_oD (Eq.trans I_oL (I_ne (fx_ne fx (by omega)))))) (Eq.trans (I_ne (fx_ne fx (by omega))) (Eq.trans I_oD (Eq.trans I_oL (I_ne (fx_ne fx (by omega)))))) (Eq.trans (I_ne (fx_ne fx (by decide))) (Eq.trans I_oD (Eq.trans I_oL (I_ne (fx_ne fx (by decide)))))) (Eq.trans (I_ne (fx_ne fx (by decide))) (Eq.trans I_oD (Eq.trans I_oL (I_ne (fx_ne fx (by decide)))))), g2.c (Eq.trans (I_ne (fx_ne fx (by omega))) (Eq.trans I_oD (Eq.trans I_oL (I_ne (fx_ne fx (by omega)))))) (Eq.trans (I_ne (fx_ne fx (by decide))) (Eq.trans I_oD (Eq.trans I_oL (I_ne (fx_ne fx (by decide)))))), g3.c (Eq.trans (I_ne (fx_ne fx (by omega))) (Eq.trans I_oD (Eq.trans I_oL (I_ne (fx_ne fx (by omega)))))) (Eq.trans (I_ne (fx_ne fx (by decide))) (Eq.trans I_oD (Eq.trans I_oL (I_ne (fx_ne fx (by decide)))))), g4.c (Eq.trans L_oI (Eq.trans L_oD (Eq.trans (L_ne (fx_ne fx (by omega))) L_oI))) (Eq.trans D_oI (Eq.trans (D_ne (fx_ne fx (by decide))) (Eq.trans D_oL D_oI))), g5.d (fun j_ => (Eq.trans D_oI (Eq.trans (D_ne (fx_ne fx (by omega))) (Eq.trans D_oL D_oI)))) (Eq.trans D_oI (Eq.trans (D_ne (fx_ne fx (by decide))) (Eq.trans D_oL D_oI))) (Eq.trans D_oI (Eq.trans (D_ne (fx_ne fx (by decide))) (Eq.trans D_oL D_oI))) (Eq.trans D_oI (Eq.trans (D_ne (fx_ne fx (by decide))) (Eq.trans D_oL D_oI))) (Eq.trans D_oI (Eq.trans (D_ne (fx_ne fx (by decide))) (Eq.trans D_oL D_oI))) (Eq.trans D_oI (Eq.trans (D_ne (fx_ne fx (by decide))) (Eq.trans D_oL D_oI))) (Eq.trans D_oI (Eq.trans (D_ne (fx_ne fx (by decide))) (Eq.trans D_oL D_oI))) (Eq.trans (I_nk (by decide)) (Eq.trans I_oD (Eq.trans I_oL (I_ne (fx_ne fx (by decide)))))), ?_, g7.c (fun s_ hs_ => ⟨(Eq.trans R_oI (Eq.trans R_oD (Eq.trans R_oL R_oI))), (Eq.trans (I_ne (fx_ne fx (by decide))) (Eq.trans I_oD (Eq.trans I_oL (I_ne (fx_ne fx (by decide))))))⟩)⟩
              · intro s_ hs_
                by_cases es_ : s_ = k5
                · subst es_
                  obtain ⟨g6a, g6b, g6c, g6d⟩ := g6 s_ hs_
                  have x1_ : hD (sI (sD (sL (sI h (ad 0) 6 0) (ad (102 + 5 * t_)) s_ (fitV 6 b)) (ad 63) (3 * t_ + s_) ((fitV 6 b).toUInt64)) (ad 30) 11 0) (ad 63) (3 * t_ + s_) = (fitV 6 b).toUInt64 := (Eq.trans D_oI D_eq)
                  rw [x1_]
                  exact ⟨(Eq.trans L_oI (Eq.trans L_oD L_eq)), rdOK_fit (fun z => z.1 c7), Eq.trans (Eq.trans L_oI (Eq.trans L_oD (Eq.trans (L_ne (fx_ne fx (by omega))) L_oI))) (Eq.trans g6c (Eq.symm (Eq.trans L_oI (Eq.trans L_oD (Eq.trans (L_ne (fx_ne fx (by omega))) L_oI))))), Eq.trans (Eq.trans L_oI (Eq.trans L_oD (Eq.trans (L_ne (fx_ne fx (by omega))) L_oI))) (Eq.trans g6d (Eq.symm (Eq.trans L_oI (Eq.trans L_oD (Eq.trans (L_ne (fx_ne fx (by omega))) L_oI)))))⟩
                · obtain ⟨g6a, g6b, g6c, g6d⟩ := g6 s_ hs_
                  rw [show hD (sI (sD (sL (sI h (ad 0) 6 0) (ad (102 + 5 * t_)) k5 (fitV 6 b)) (ad 63) (3 * t_ + k5) ((fitV 6 b).toUInt64)) (ad 30) 11 0) (ad 63) (3 * t_ + s_) = hD h (ad 63) (3 * t_ + s_) from (Eq.trans D_oI (Eq.trans (D_nk (by have := i_nlt c4; have := i_rg s; have : (0 : Int32).toInt = 0 := rfl; have := i_eq ek5; have : (nI k5).toInt = ((k5 : Nat) : Int) := nI_toInt (by omega); have := i_lt c6; have : (3 : Int32).toInt = 3 := rfl; omega)) (Eq.trans D_oL D_oI)))]
                  exact ⟨Eq.trans (Eq.trans L_oI (Eq.trans L_oD (Eq.trans (L_nk (by have := i_nlt c4; have := i_rg s; have : (0 : Int32).toInt = 0 := rfl; have := i_eq ek5; have : (nI k5).toInt = ((k5 : Nat) : Int) := nI_toInt (by omega); have := i_lt c6; have : (3 : Int32).toInt = 3 := rfl; omega)) L_oI))) g6a, g6b, Eq.trans (Eq.trans L_oI (Eq.trans L_oD (Eq.trans (L_ne (fx_ne fx (by omega))) L_oI))) (Eq.trans g6c (Eq.symm (Eq.trans L_oI (Eq.trans L_oD (Eq.trans (L_ne (fx_ne fx (by omega))) L_oI))))), Eq.trans (Eq.trans L_oI (Eq.trans L_oD (Eq.trans (L_ne (fx_ne fx (by omega))) L_oI))) (Eq.trans g6d (Eq.symm (Eq.trans L_oI (Eq.trans L_oD (Eq.trans (L_ne (fx_ne fx (by omega))) L_oI)))))⟩
            · obtain ⟨g1, g2, g3, g4, g5, g6, g7⟩ := (tuR_i _ _ _ _ _).mp (ru.2 t_ ht_)
              refine (tuR_i _ _ _ _ _).mpr ⟨g1.c (Eq.trans (I_ne (fx_ne fx (by omega))) (Eq.trans I_oD (Eq.trans I_oL (I_ne (fx_ne fx (by omega)))))) (Eq.trans (I_ne (fx_ne fx (by omega))) (Eq.trans I_oD (Eq.trans I_oL (I_ne (fx_ne fx (by omega)))))) (Eq.trans (I_ne (fx_ne fx (by omega))) (Eq.trans I_oD (Eq.trans I_oL (I_ne (fx_ne fx (by omega)))))) (Eq.trans (I_ne (fx_ne fx (by decide))) (Eq.trans I_oD (Eq.trans I_oL (I_ne (fx_ne fx (by decide)))))) (Eq.trans (I_ne (fx_ne fx (by decide))) (Eq.trans I_oD (Eq.trans I_oL (I_ne (fx_ne fx (by decide)))))), g2.c (Eq.trans (I_ne (fx_ne fx (by omega))) (Eq.trans I_oD (Eq.trans I_oL (I_ne (fx_ne fx (by omega)))))) (Eq.trans (I_ne (fx_ne fx (by decide))) (Eq.trans I_oD (Eq.trans I_oL (I_ne (fx_ne fx (by decide)))))), g3.c (Eq.trans (I_ne (fx_ne fx (by omega))) (Eq.trans I_oD (Eq.trans I_oL (I_ne (fx_ne fx (by omega)))))) (Eq.trans (I_ne (fx_ne fx (by decide))) (Eq.trans I_oD (Eq.trans I_oL (I_ne (fx_ne fx (by decide)))))), g4.c (Eq.trans L_oI (Eq.trans L_oD (Eq.trans (L_ne (fx_ne fx (by omega))) L_oI))) (Eq.trans D_oI (Eq.trans (D_ne (fx_ne fx (by decide))) (Eq.trans D_oL D_oI))), g5.d (fun j_ => (Eq.trans D_oI (Eq.trans (D_ne (fx_ne fx (by omega))) (Eq.trans D_oL D_oI)))) (Eq.trans D_oI (Eq.trans (D_ne (fx_ne fx (by decide))) (Eq.trans D_oL D_oI))) (Eq.trans D_oI (Eq.trans (D_ne (fx_ne fx (by decide))) (Eq.trans D_oL D_oI))) (Eq.trans D_oI (Eq.trans (D_ne (fx_ne fx (by decide))) (Eq.trans D_oL D_oI))) (Eq.trans D_oI (Eq.trans (D_ne (fx_ne fx (by decide))) (Eq.trans D_oL D_oI))) (Eq.trans D_oI (Eq.trans (D_ne (fx_ne fx (by decide))) (Eq.trans D_oL D_oI))) (Eq.trans D_oI (Eq.trans (D_ne (fx_ne fx (by decide))) (Eq.trans D_oL D_oI))) (Eq.trans (I_nk (by decide)) (Eq.trans I_oD (Eq.trans I_oL (I_ne (fx_ne fx (by decide)))))), g6.c (fun s_ hs_ => ⟨(Eq.trans L_oI (Eq.trans L_oD (Eq.trans (L_ne (fx_ne fx (by omega))) L_oI))), (Eq.trans L_oI (Eq.trans L_oD (Eq.trans (L_ne (fx_ne fx (by omega))) L_oI))), (Eq.trans L_oI (Eq.trans L_oD (Eq.trans (L_ne (fx_ne fx (by omega))) L_oI))), (Eq.trans D_oI (Eq.trans (D_nk (by have := i_nlt c1; have := i_rg t; have : (0 : Int32).toInt = 0 := rfl; have := i_eq ek2; have : (nI k2).toInt = ((k2 : Nat) : Int) := nI_toInt (by omega); have := i_nle c3; have : (nI n).toInt = ((n : Nat) : Int) := nI_toInt (by omega); have := i_nlt c4; have := i_rg s; have := i_eq ek5; have : (nI k5).toInt = ((k5 : Nat) : Int) := nI_toInt (by omega); have := i_lt c6; have : (3 : Int32).toInt = 3 := rfl; omega)) (Eq.trans D_oL D_oI))), (Eq.trans L_oI (Eq.trans L_oD (Eq.trans (L_ne (fx_ne fx (by omega))) L_oI))), (Eq.trans L_oI (Eq.trans L_oD (Eq.trans (L_ne (fx_ne fx (by omega))) L_oI)))⟩), g7.c (fun s_ hs_ => ⟨(Eq.trans R_oI (Eq.trans R_oD (Eq.trans R_oL R_oI))), (Eq.trans (I_ne (fx_ne fx (by decide))) (Eq.trans I_oD (Eq.trans I_oL (I_ne (fx_ne fx (by decide))))))⟩)⟩
          · refine r_ic (x := 1) rfl rfl ?_
            refine r_goto (tg := 16) rfl rfl ?_
            refine r_zret rfl (.inr rfl) ?_
            show WR _ cd_122 33 [some (.ref (ad 0)), some (.int t), some (.int s), some (.long b), none] [.int 1] (sI h (ad 0) 6 0) _
            refine r_if_eq (tg := 54) rfl rfl (fun q => absurd q (by decide)) (fun _ => ?_)
            refine r_lload rfl rfl ?_
            refine r_cs (y := 39) (ra := [.long b]) (rest := []) rfl ⟨⟨rfl, rfl⟩, by decide⟩ rfl rfl (Nat.le_of_ble_eq_true rfl) ?_
            refine in_39 (Nat.le_of_ble_eq_true rfl) ?_
            show WR _ cd_39 0 [some (.long b), none] [] (sI h (ad 0) 6 0) _
            refine r_lload rfl rfl ?_
            refine r_ldc (x := .long 9223372036854775807) rfl rfl ?_
            refine r_land rfl ?_
            refine r_lret rfl ?_
            show WR _ cd_122 40 [some (.ref (ad 0)), some (.int t), some (.int s), some (.long b), none] [.long (b &&& 9223372036854775807)] (sI h (ad 0) 6 0) _
            refine r_ldc (x := .long 4652007308841189376) rfl rfl ?_
            refine r_lif_le (tg := 54) rfl rfl rfl (fun c9 => ?_) (fun c9 => ?_)
            · refine r_aload rfl rfl ?_
              refine r_getA (b := ad 4) rfl ⟨rfl, rfl, rfl⟩ (fx_t0 fx) (fx_r0_2 fx) ?_
              refine r_getA (b := ad 7) rfl ⟨rfl, rfl, rfl⟩ (fx_t4 fx) (fx_r4_0 fx) ?_
              refine r_iload rfl rfl ?_
              refine WR_tI (y := nI k2) ek2 ?_
              have hk10 : k2 < n := (by have := i_nlt c1; have := i_rg t; have : (0 : Int32).toInt = 0 := rfl; have := i_eq ek2; have : (nI k2).toInt = ((k2 : Nat) : Int) := nI_toInt (by omega); have := i_nle c3; have : (nI n).toInt = ((n : Nat) : Int) := nI_toInt (by omega); omega)
              have tb10 := fx_tb fx0 k2 hk10
              obtain ⟨⟨a1_10, a2_10, a3_10, a4_10⟩, ⟨b1_10, b2_10⟩, ⟨c1_10, c2_10⟩, ⟨d1_10, d2_10⟩, ⟨e1_10, e2_10, e3_10, e4_10, e5_10, e6_10, e7_10⟩, f_10, g_10⟩ := id (ru.2 k2 hk10)
              refine r_aaloadA (b := ad (100 + 5 * k2)) rfl (isQ_of (fx_t7 fx) (by decide)) (vp_ct (fx_n7 fx) (vp_in_nI (by have := i_nlt c1; have := i_rg t; have : (0 : Int32).toInt = 0 := rfl; have := i_eq ek2; have : (nI k2).toInt = ((k2 : Nat) : Int) := nI_toInt (by omega); have := i_nle c3; have : (nI n).toInt = ((n : Nat) : Int) := nI_toInt (by omega); omega) (by omega))) (Eq.trans (congrArg (hR (sI h (ad 0) 6 0) (ad 7)) ((nI_clamp (by have := i_nlt c1; have := i_rg t; have : (0 : Int32).toInt = 0 := rfl; have := i_eq ek2; have : (nI k2).toInt = ((k2 : Nat) : Int) := nI_toInt (by omega); have := i_nle c3; have : (nI n).toInt = ((n : Nat) : Int) := nI_toInt (by omega); omega)) : _ = k2)) (Eq.trans R_oI tb10.1)) ?_
              refine r_getA (b := ad (102 + 5 * k2)) rfl ⟨rfl, rfl, rfl⟩ tb10.2.1 (Eq.trans R_oI tb10.2.2.2.2.2.2.2.1) ?_
              refine r_iload rfl rfl ?_
              refine WR_tI (y := nI k5) ek5 ?_
              refine r_ic (x := 6) rfl rfl ?_
              refine r_lload rfl rfl ?_
              refine r_cs (y := 36) (ra := [.long b, .int 6]) (rest := [.int (nI k5), .ref (ad (102 + 5 * k2))]) rfl ⟨⟨rfl, rfl⟩, by decide⟩ rfl rfl (Nat.le_of_ble_eq_true rfl) ?_
              refine c_fitted (h := sI h (ad 0) 6 0) fx ?_
              show WR _ cd_122 73 [some (.ref (ad 0)), some (.int t), some (.int s), some (.long b), none] [.long (fitV 6 b), .int (nI k5), .ref (ad (102 + 5 * k2))] (sI h (ad 0) 6 0) _
              refine r_lastore rfl tb10.2.2.2.1.1 (vp_ct tb10.2.2.2.1.2 (vp_in_nI (by have := i_nlt c4; have := i_rg s; have : (0 : Int32).toInt = 0 := rfl; have := i_eq ek5; have : (nI k5).toInt = ((k5 : Nat) : Int) := nI_toInt (by omega); have := i_lt c6; have : (3 : Int32).toInt = 3 := rfl; omega) (by omega))) ?_
              refine WR_h (h2 := sL (sI h (ad 0) 6 0) (ad (102 + 5 * k2)) k5 (fitV 6 b)) (congrArg (fun z => sL (sI h (ad 0) 6 0) (ad (102 + 5 * k2)) z (fitV 6 b)) ((nI_clamp (by have := i_nlt c4; have := i_rg s; have : (0 : Int32).toInt = 0 := rfl; have := i_eq ek5; have : (nI k5).toInt = ((k5 : Nat) : Int) := nI_toInt (by omega); have := i_lt c6; have : (3 : Int32).toInt = 3 := rfl; omega)) : _ = k5)) ?_
              refine r_ic (x := 1) rfl rfl ?_
              refine r_iret rfl ?_
              show EV _ 227 [.ref (ad 30), .int t, .int s, .long b] (sL (sI h (ad 0) 6 0) (ad (102 + 5 * k2)) k5 (fitV 6 b)) _
              refine in_227 (Nat.le_of_ble_eq_true rfl) ?_
              show WR _ cd_227 0 [some (.ref (ad 30)), some (.int t), some (.int s), some (.long b), none, none, none] [] (sL (sI h (ad 0) 6 0) (ad (102 + 5 * k2)) k5 (fitV 6 b)) _
              refine r_aload rfl rfl ?_
              refine r_iload rfl rfl ?_
              refine WR_tI (y := nI k2) ek2 ?_
              refine r_cv (y := 206) (ra := [.int (nI k2)]) (rest := []) rfl ⟨⟨rfl, rfl⟩, rfl, by decide⟩ (fx_t30 fx) rfl rfl (Nat.le_of_ble_eq_true rfl) ?_
              refine in_206 (Nat.le_of_ble_eq_true rfl) ?_
              show WR _ cd_206 0 [some (.ref (ad 30)), some (.int (nI k2))] [] (sL (sI h (ad 0) 6 0) (ad (102 + 5 * k2)) k5 (fitV 6 b)) _
              refine r_iload rfl rfl ?_
              refine r_if_lt (tg := 16) rfl rfl (fun q => False.elim (by have := i_nlt c1; have := i_rg t; have : (0 : Int32).toInt = 0 := rfl; have := i_eq ek2; have : (nI k2).toInt = ((k2 : Nat) : Int) := nI_toInt (by omega); have := i_nle c3; have : (nI n).toInt = ((n : Nat) : Int) := nI_toInt (by omega); have := i_lt q; omega)) (fun _ => ?_)
              refine r_iload rfl rfl ?_
              refine r_aload rfl rfl ?_
              refine r_getI rfl ⟨rfl, rfl, rfl⟩ (fx_t30 fx) ?_
              refine WR_tI (y := nI n) (Eq.trans I_oL (Eq.trans (I_ne (fx_ne fx (by decide))) ru.1)) ?_
              refine r_icmp_ge (tg := 16) rfl rfl (fun q => False.elim (by have := i_nlt c1; have := i_rg t; have : (0 : Int32).toInt = 0 := rfl; have := i_eq ek2; have : (nI k2).toInt = ((k2 : Nat) : Int) := nI_toInt (by omega); have := i_nle c3; have : (nI n).toInt = ((n : Nat) : Int) := nI_toInt (by omega); have := i_le q; omega)) (fun _ => ?_)
              refine r_ic (x := 1) rfl rfl ?_
              refine r_goto (tg := 17) rfl rfl ?_
              refine r_zret rfl (.inr rfl) ?_
              show WR _ cd_227 5 [some (.ref (ad 30)), some (.int t), some (.int s), some (.long b), none, none, none] [.int 1] (sL (sI h (ad 0) 6 0) (ad (102 + 5 * k2)) k5 (fitV 6 b)) _
              refine r_if_eq (tg := 17) rfl rfl (fun q => absurd q (by decide)) (fun _ => ?_)
              refine r_iload rfl rfl ?_
              refine WR_tI (y := nI k5) ek5 ?_
              refine r_if_lt (tg := 17) rfl rfl (fun q => False.elim (by have := i_nlt c4; have := i_rg s; have : (0 : Int32).toInt = 0 := rfl; have := i_eq ek5; have : (nI k5).toInt = ((k5 : Nat) : Int) := nI_toInt (by omega); have := i_lt c6; have : (3 : Int32).toInt = 3 := rfl; have := i_lt q; omega)) (fun _ => ?_)
              refine r_iload rfl rfl ?_
              refine WR_tI (y := nI k5) ek5 ?_
              refine r_ic (x := 2) rfl rfl ?_
              refine r_icmp_le (tg := 24) rfl rfl (fun _ => ?_) (fun q => False.elim (by have := i_nlt c4; have := i_rg s; have : (0 : Int32).toInt = 0 := rfl; have := i_eq ek5; have : (nI k5).toInt = ((k5 : Nat) : Int) := nI_toInt (by omega); have := i_lt c6; have : (3 : Int32).toInt = 3 := rfl; have : (2 : Int32).toInt = 2 := rfl; have := i_nle q; omega))
              refine r_ic (x := 6) rfl rfl ?_
              refine r_lload rfl rfl ?_
              refine r_cs (y := 169) (ra := [.long b, .int 6]) (rest := []) rfl ⟨⟨rfl, rfl⟩, by decide⟩ rfl rfl (Nat.le_of_ble_eq_true rfl) ?_
              refine c_cut (h := sL (sI h (ad 0) 6 0) (ad (102 + 5 * k2)) k5 (fitV 6 b)) (l := 6) fx (by have : (6 : Int32).toInt = 6 := rfl; omega) ?_
              show WR _ cd_227 30 [some (.ref (ad 30)), some (.int t), some (.int s), some (.long b), none, none, none] [.long (fitV 6 b)] (sL (sI h (ad 0) 6 0) (ad (102 + 5 * k2)) k5 (fitV 6 b)) _
              refine r_l2dn rfl (by rw [fit_num c7]; exact sn_of ((num64 b).mp c7)) (Nat.le_of_ble_eq_true rfl) ?_
              have ok_ := fun z => (fun z => Int64.not_le.mpr z.2 c9) ((rd_iff b).mp z)
              have lt_ : ¬ dlt (fitV 6 b).toUInt64 13875379345695965184 := fun z => ok_ (.inl z)
              have gt_ : ¬ dgt (fitV 6 b).toUInt64 4652007308841189376 := fun z => ok_ (.inr z)
              refine r_dstore (lv' := [some (.ref (ad 30)), some (.int t), some (.int s), some (.long b), none, some (.double ((fitV 6 b).toUInt64)), none]) rfl (Nat.le_of_ble_eq_true rfl) rfl ?_
              refine r_dload rfl rfl ?_
              refine r_ldc (x := .double 13875379345695965184) rfl rfl ?_
              refine r_dgif_lt (tg := 53) rfl rfl rfl (fun q => absurd q lt_) (fun _ => ?_)
              refine r_dload rfl rfl ?_
              refine r_ldc (x := .double 4652007308841189376) rfl rfl ?_
              refine r_dlif_le (tg := 60) rfl rfl rfl (fun _ => ?_) (fun q => absurd q gt_)
              refine r_aload rfl rfl ?_
              refine r_getA (b := ad 63) rfl ⟨rfl, rfl, rfl⟩ (fx_t30 fx) (fx_r30_50 fx) ?_
              refine r_ic (x := 3) rfl rfl ?_
              refine r_iload rfl rfl ?_
              refine WR_tI (y := nI k2) ek2 ?_
              refine r_imul rfl ?_
              refine WR_tI (y := nI (3 * k2)) (Eq.trans (pk_mul 3 k2) (congrArg nI (by have := i_nlt c1; have := i_rg t; have : (0 : Int32).toInt = 0 := rfl; have := i_eq ek2; have : (nI k2).toInt = ((k2 : Nat) : Int) := nI_toInt (by omega); have := i_nle c3; have : (nI n).toInt = ((n : Nat) : Int) := nI_toInt (by omega); omega))) ?_
              refine r_iload rfl rfl ?_
              refine WR_tI (y := nI k5) ek5 ?_
              refine r_iadd rfl ?_
              refine WR_tI (y := nI (3 * k2 + k5)) (Eq.trans (nI_add (3 * k2) k5) (congrArg nI (by have := i_nlt c1; have := i_rg t; have : (0 : Int32).toInt = 0 := rfl; have := i_eq ek2; have : (nI k2).toInt = ((k2 : Nat) : Int) := nI_toInt (by omega); have := i_nle c3; have : (nI n).toInt = ((n : Nat) : Int) := nI_toInt (by omega); have := i_nlt c4; have := i_rg s; have := i_eq ek5; have : (nI k5).toInt = ((k5 : Nat) : Int) := nI_toInt (by omega); have := i_lt c6; have : (3 : Int32).toInt = 3 := rfl; omega))) ?_
              refine r_dload rfl rfl ?_
              refine r_dastore rfl (fx_t63 fx) (vp_ct (fx_n63 fx) (vp_in_nI (by have := i_nlt c1; have := i_rg t; have : (0 : Int32).toInt = 0 := rfl; have := i_eq ek2; have : (nI k2).toInt = ((k2 : Nat) : Int) := nI_toInt (by omega); have := i_nle c3; have : (nI n).toInt = ((n : Nat) : Int) := nI_toInt (by omega); have := i_nlt c4; have := i_rg s; have := i_eq ek5; have : (nI k5).toInt = ((k5 : Nat) : Int) := nI_toInt (by omega); have := i_lt c6; have : (3 : Int32).toInt = 3 := rfl; omega) (by omega))) ?_
              refine WR_h (h2 := sD (sL (sI h (ad 0) 6 0) (ad (102 + 5 * k2)) k5 (fitV 6 b)) (ad 63) (3 * k2 + k5) ((fitV 6 b).toUInt64)) (congrArg (fun z => sD (sL (sI h (ad 0) 6 0) (ad (102 + 5 * k2)) k5 (fitV 6 b)) (ad 63) z ((fitV 6 b).toUInt64)) ((nI_clamp (by have := i_nlt c1; have := i_rg t; have : (0 : Int32).toInt = 0 := rfl; have := i_eq ek2; have : (nI k2).toInt = ((k2 : Nat) : Int) := nI_toInt (by omega); have := i_nle c3; have : (nI n).toInt = ((n : Nat) : Int) := nI_toInt (by omega); have := i_nlt c4; have := i_rg s; have := i_eq ek5; have : (nI k5).toInt = ((k5 : Nat) : Int) := nI_toInt (by omega); have := i_lt c6; have : (3 : Int32).toInt = 3 := rfl; omega)) : _ = 3 * k2 + k5)) ?_
              refine r_aload rfl rfl ?_
              refine r_ic (x := 1) rfl rfl ?_
              refine r_cv (y := 154) (ra := [.int 1]) (rest := []) rfl ⟨⟨rfl, rfl⟩, rfl, by decide⟩ (fx_t30 fx) rfl rfl (Nat.le_of_ble_eq_true rfl) ?_
              refine in_154 (Nat.le_of_ble_eq_true rfl) ?_
              show WR _ cd_154 0 [some (.ref (ad 30)), some (.int 1)] [] (sD (sL (sI h (ad 0) 6 0) (ad (102 + 5 * k2)) k5 (fitV 6 b)) (ad 63) (3 * k2 + k5) ((fitV 6 b).toUInt64)) _
              refine r_aload rfl rfl ?_
              refine r_iload rfl rfl ?_
              refine r_ic (x := (-1)) rfl rfl ?_
              refine r_icmp_ge (tg := 10) rfl rfl (fun _ => ?_) (fun q => absurd q (by decide))
              refine r_ic (x := 0) rfl rfl ?_
              refine r_putI rfl ⟨rfl, rfl, rfl⟩ (fx_t30 fx) ?_
              refine r_iload rfl rfl ?_
              refine r_iret rfl ?_
              show WR _ cd_227 77 [some (.ref (ad 30)), some (.int t), some (.int s), some (.long b), none, some (.double ((fitV 6 b).toUInt64)), none] [.int 1] (sI (sD (sL (sI h (ad 0) 6 0) (ad (102 + 5 * k2)) k5 (fitV 6 b)) (ad 63) (3 * k2 + k5) ((fitV 6 b).toUInt64)) (ad 30) 11 0) _
              refine r_iret rfl ?_
              have cg : Chg n ad [(30, 11), (102 + 5 * k2, k5), (0, 6)] [63] h (sI (sD (sL (sI h (ad 0) 6 0) (ad (102 + 5 * k2)) k5 (fitV 6 b)) (ad 63) (3 * k2 + k5) ((fitV 6 b).toUInt64)) (ad 30) 11 0) := ((((Chg.rf.sI (fx_j fx0) (k := 6) (v := 0) (.inl (by decide))).sL (fx_j fx0) (k := k5) (v := fitV 6 b) (.inr ⟨by omega, by omega⟩)).sD (fx_j fx0) (k := 3 * k2 + k5) (v := (fitV 6 b).toUInt64) (.inl (by decide))).row.sI (fx_j fx0) (k := 11) (v := 0) (.inl (by decide)))
              refine ⟨rfl, Rel_tu fx0 rt ra rp rf rst rs cg (by intro p_ hp_; simp only [List.mem_cons, List.not_mem_nil, or_false] at hp_; rcases hp_ with rfl | rfl | rfl <;> first | (simp; done) | (simp; omega) | omega) (by intro i_ hi_; simp only [List.mem_cons, List.not_mem_nil, or_false] at hi_; rcases hi_ with rfl <;> first | (simp [tuL]; done) | (simp [tuL]; omega) | omega) rfl (Eq.trans (Eq.trans (I_ne (fx_ne fx (by decide))) (Eq.trans I_oD (Eq.trans I_oL I_eq))) (Eq.symm I_eq)) ⟨(Eq.trans (Eq.trans (I_nk (by decide)) (Eq.trans I_oD (Eq.trans I_oL (I_ne (fx_ne fx (by decide)))))) ru.1), fun t_ ht_ => ?_⟩, Nat.le_add_right _ _, Nat.le_add_right _ _⟩
              by_cases e_ : t_ = k2
              · subst e_
                obtain ⟨g1, g2, g3, g4, g5, g6, g7⟩ := (tuR_i _ _ _ _ _).mp (ru.2 t_ ht_)
                refine (tuR_i _ _ _ _ _).mpr ⟨g1.c (Eq.trans (I_ne (fx_ne fx (by omega))) (Eq.trans I_oD (Eq.trans I_oL (I_ne (fx_ne fx (by omega)))))) (Eq.trans (I_ne (fx_ne fx (by omega))) (Eq.trans I_oD (Eq.trans I_oL (I_ne (fx_ne fx (by omega)))))) (Eq.trans (I_ne (fx_ne fx (by omega))) (Eq.trans I_oD (Eq.trans I_oL (I_ne (fx_ne fx (by omega)))))) (Eq.trans (I_ne (fx_ne fx (by decide))) (Eq.trans I_oD (Eq.trans I_oL (I_ne (fx_ne fx (by decide)))))) (Eq.trans (I_ne (fx_ne fx (by decide))) (Eq.trans I_oD (Eq.trans I_oL (I_ne (fx_ne fx (by decide)))))), g2.c (Eq.trans (I_ne (fx_ne fx (by omega))) (Eq.trans I_oD (Eq.trans I_oL (I_ne (fx_ne fx (by omega)))))) (Eq.trans (I_ne (fx_ne fx (by decide))) (Eq.trans I_oD (Eq.trans I_oL (I_ne (fx_ne fx (by decide)))))), g3.c (Eq.trans (I_ne (fx_ne fx (by omega))) (Eq.trans I_oD (Eq.trans I_oL (I_ne (fx_ne fx (by omega)))))) (Eq.trans (I_ne (fx_ne fx (by decide))) (Eq.trans I_oD (Eq.trans I_oL (I_ne (fx_ne fx (by decide)))))), g4.c (Eq.trans L_oI (Eq.trans L_oD (Eq.trans (L_ne (fx_ne fx (by omega))) L_oI))) (Eq.trans D_oI (Eq.trans (D_ne (fx_ne fx (by decide))) (Eq.trans D_oL D_oI))), g5.d (fun j_ => (Eq.trans D_oI (Eq.trans (D_ne (fx_ne fx (by omega))) (Eq.trans D_oL D_oI)))) (Eq.trans D_oI (Eq.trans (D_ne (fx_ne fx (by decide))) (Eq.trans D_oL D_oI))) (Eq.trans D_oI (Eq.trans (D_ne (fx_ne fx (by decide))) (Eq.trans D_oL D_oI))) (Eq.trans D_oI (Eq.trans (D_ne (fx_ne fx (by decide))) (Eq.trans D_oL D_oI))) (Eq.trans D_oI (Eq.trans (D_ne (fx_ne fx (by decide))) (Eq.trans D_oL D_oI))) (Eq.trans D_oI (Eq.trans (D_ne (fx_ne fx (by decide))) (Eq.trans D_oL D_oI))) (Eq.trans D_oI (Eq.trans (D_ne (fx_ne fx (by decide))) (Eq.trans D_oL D_oI))) (Eq.trans (I_nk (by decide)) (Eq.trans I_oD (Eq.trans I_oL (I_ne (fx_ne fx (by decide)))))), ?_, g7.c (fun s_ hs_ => ⟨(Eq.trans R_oI (Eq.trans R_oD (Eq.trans R_oL R_oI))), (Eq.trans (I_ne (fx_ne fx (by decide))) (Eq.trans I_oD (Eq.trans I_oL (I_ne (fx_ne fx (by decide))))))⟩)⟩
                · intro s_ hs_
                  by_cases es_ : s_ = k5
                  · subst es_
                    obtain ⟨g6a, g6b, g6c, g6d⟩ := g6 s_ hs_
                    have x1_ : hD (sI (sD (sL (sI h (ad 0) 6 0) (ad (102 + 5 * t_)) s_ (fitV 6 b)) (ad 63) (3 * t_ + s_) ((fitV 6 b).toUInt64)) (ad 30) 11 0) (ad 63) (3 * t_ + s_) = (fitV 6 b).toUInt64 := (Eq.trans D_oI D_eq)
                    rw [x1_]
                    exact ⟨(Eq.trans L_oI (Eq.trans L_oD L_eq)), rdOK_fit (fun z => Int64.not_le.mpr z.2 c9), Eq.trans (Eq.trans L_oI (Eq.trans L_oD (Eq.trans (L_ne (fx_ne fx (by omega))) L_oI))) (Eq.trans g6c (Eq.symm (Eq.trans L_oI (Eq.trans L_oD (Eq.trans (L_ne (fx_ne fx (by omega))) L_oI))))), Eq.trans (Eq.trans L_oI (Eq.trans L_oD (Eq.trans (L_ne (fx_ne fx (by omega))) L_oI))) (Eq.trans g6d (Eq.symm (Eq.trans L_oI (Eq.trans L_oD (Eq.trans (L_ne (fx_ne fx (by omega))) L_oI)))))⟩
                  · obtain ⟨g6a, g6b, g6c, g6d⟩ := g6 s_ hs_
                    rw [show hD (sI (sD (sL (sI h (ad 0) 6 0) (ad (102 + 5 * t_)) k5 (fitV 6 b)) (ad 63) (3 * t_ + k5) ((fitV 6 b).toUInt64)) (ad 30) 11 0) (ad 63) (3 * t_ + s_) = hD h (ad 63) (3 * t_ + s_) from (Eq.trans D_oI (Eq.trans (D_nk (by have := i_nlt c4; have := i_rg s; have : (0 : Int32).toInt = 0 := rfl; have := i_eq ek5; have : (nI k5).toInt = ((k5 : Nat) : Int) := nI_toInt (by omega); have := i_lt c6; have : (3 : Int32).toInt = 3 := rfl; omega)) (Eq.trans D_oL D_oI)))]
                    exact ⟨Eq.trans (Eq.trans L_oI (Eq.trans L_oD (Eq.trans (L_nk (by have := i_nlt c4; have := i_rg s; have : (0 : Int32).toInt = 0 := rfl; have := i_eq ek5; have : (nI k5).toInt = ((k5 : Nat) : Int) := nI_toInt (by omega); have := i_lt c6; have : (3 : Int32).toInt = 3 := rfl; omega)) L_oI))) g6a, g6b, Eq.trans (Eq.trans L_oI (Eq.trans L_oD (Eq.trans (L_ne (fx_ne fx (by omega))) L_oI))) (Eq.trans g6c (Eq.symm (Eq.trans L_oI (Eq.trans L_oD (Eq.trans (L_ne (fx_ne fx (by omega))) L_oI))))), Eq.trans (Eq.trans L_oI (Eq.trans L_oD (Eq.trans (L_ne (fx_ne fx (by omega))) L_oI))) (Eq.trans g6d (Eq.symm (Eq.trans L_oI (Eq.trans L_oD (Eq.trans (L_ne (fx_ne fx (by omega))) L_oI)))))⟩
              · obtain ⟨g1, g2, g3, g4, g5, g6, g7⟩ := (tuR_i _ _ _ _ _).mp (ru.2 t_ ht_)
                refine (tuR_i _ _ _ _ _).mpr ⟨g1.c (Eq.trans (I_ne (fx_ne fx (by omega))) (Eq.trans I_oD (Eq.trans I_oL (I_ne (fx_ne fx (by omega)))))) (Eq.trans (I_ne (fx_ne fx (by omega))) (Eq.trans I_oD (Eq.trans I_oL (I_ne (fx_ne fx (by omega)))))) (Eq.trans (I_ne (fx_ne fx (by omega))) (Eq.trans I_oD (Eq.trans I_oL (I_ne (fx_ne fx (by omega)))))) (Eq.trans (I_ne (fx_ne fx (by decide))) (Eq.trans I_oD (Eq.trans I_oL (I_ne (fx_ne fx (by decide)))))) (Eq.trans (I_ne (fx_ne fx (by decide))) (Eq.trans I_oD (Eq.trans I_oL (I_ne (fx_ne fx (by decide)))))), g2.c (Eq.trans (I_ne (fx_ne fx (by omega))) (Eq.trans I_oD (Eq.trans I_oL (I_ne (fx_ne fx (by omega)))))) (Eq.trans (I_ne (fx_ne fx (by decide))) (Eq.trans I_oD (Eq.trans I_oL (I_ne (fx_ne fx (by decide)))))), g3.c (Eq.trans (I_ne (fx_ne fx (by omega))) (Eq.trans I_oD (Eq.trans I_oL (I_ne (fx_ne fx (by omega)))))) (Eq.trans (I_ne (fx_ne fx (by decide))) (Eq.trans I_oD (Eq.trans I_oL (I_ne (fx_ne fx (by decide)))))), g4.c (Eq.trans L_oI (Eq.trans L_oD (Eq.trans (L_ne (fx_ne fx (by omega))) L_oI))) (Eq.trans D_oI (Eq.trans (D_ne (fx_ne fx (by decide))) (Eq.trans D_oL D_oI))), g5.d (fun j_ => (Eq.trans D_oI (Eq.trans (D_ne (fx_ne fx (by omega))) (Eq.trans D_oL D_oI)))) (Eq.trans D_oI (Eq.trans (D_ne (fx_ne fx (by decide))) (Eq.trans D_oL D_oI))) (Eq.trans D_oI (Eq.trans (D_ne (fx_ne fx (by decide))) (Eq.trans D_oL D_oI))) (Eq.trans D_oI (Eq.trans (D_ne (fx_ne fx (by decide))) (Eq.trans D_oL D_oI))) (Eq.trans D_oI (Eq.trans (D_ne (fx_ne fx (by decide))) (Eq.trans D_oL D_oI))) (Eq.trans D_oI (Eq.trans (D_ne (fx_ne fx (by decide))) (Eq.trans D_oL D_oI))) (Eq.trans D_oI (Eq.trans (D_ne (fx_ne fx (by decide))) (Eq.trans D_oL D_oI))) (Eq.trans (I_nk (by decide)) (Eq.trans I_oD (Eq.trans I_oL (I_ne (fx_ne fx (by decide)))))), g6.c (fun s_ hs_ => ⟨(Eq.trans L_oI (Eq.trans L_oD (Eq.trans (L_ne (fx_ne fx (by omega))) L_oI))), (Eq.trans L_oI (Eq.trans L_oD (Eq.trans (L_ne (fx_ne fx (by omega))) L_oI))), (Eq.trans L_oI (Eq.trans L_oD (Eq.trans (L_ne (fx_ne fx (by omega))) L_oI))), (Eq.trans D_oI (Eq.trans (D_nk (by have := i_nlt c1; have := i_rg t; have : (0 : Int32).toInt = 0 := rfl; have := i_eq ek2; have : (nI k2).toInt = ((k2 : Nat) : Int) := nI_toInt (by omega); have := i_nle c3; have : (nI n).toInt = ((n : Nat) : Int) := nI_toInt (by omega); have := i_nlt c4; have := i_rg s; have := i_eq ek5; have : (nI k5).toInt = ((k5 : Nat) : Int) := nI_toInt (by omega); have := i_lt c6; have : (3 : Int32).toInt = 3 := rfl; omega)) (Eq.trans D_oL D_oI))), (Eq.trans L_oI (Eq.trans L_oD (Eq.trans (L_ne (fx_ne fx (by omega))) L_oI))), (Eq.trans L_oI (Eq.trans L_oD (Eq.trans (L_ne (fx_ne fx (by omega))) L_oI)))⟩), g7.c (fun s_ hs_ => ⟨(Eq.trans R_oI (Eq.trans R_oD (Eq.trans R_oL R_oI))), (Eq.trans (I_ne (fx_ne fx (by decide))) (Eq.trans I_oD (Eq.trans I_oL (I_ne (fx_ne fx (by decide))))))⟩)⟩
            · refine r_aload rfl rfl ?_
              refine r_ic (x := (-3)) rfl rfl ?_
              refine r_cv (y := 13) (ra := [.int (-3)]) (rest := []) rfl ⟨⟨rfl, rfl⟩, rfl, by decide⟩ (fx_t0 fx) rfl rfl (Nat.le_of_ble_eq_true rfl) ?_
              refine in_13 (Nat.le_of_ble_eq_true rfl) ?_
              show WR _ cd_13 0 [some (.ref (ad 0)), some (.int (-3))] [] (sI h (ad 0) 6 0) _
              refine r_aload rfl rfl ?_
              refine r_iload rfl rfl ?_
              refine r_putI rfl ⟨rfl, rfl, rfl⟩ (fx_t0 fx) ?_
              refine r_iload rfl rfl ?_
              refine r_iret rfl ?_
              show WR _ cd_122 53 [some (.ref (ad 0)), some (.int t), some (.int s), some (.long b), none] [.int (-3)] (sI (sI h (ad 0) 6 0) (ad 0) 6 (-3)) _
              refine r_iret rfl ?_
              show EV _ 227 [.ref (ad 30), .int t, .int s, .long b] (sI (sI h (ad 0) 6 0) (ad 0) 6 (-3)) _
              refine in_227 (Nat.le_of_ble_eq_true rfl) ?_
              show WR _ cd_227 0 [some (.ref (ad 30)), some (.int t), some (.int s), some (.long b), none, none, none] [] (sI (sI h (ad 0) 6 0) (ad 0) 6 (-3)) _
              refine r_aload rfl rfl ?_
              refine r_iload rfl rfl ?_
              refine WR_tI (y := nI k2) ek2 ?_
              refine r_cv (y := 206) (ra := [.int (nI k2)]) (rest := []) rfl ⟨⟨rfl, rfl⟩, rfl, by decide⟩ (fx_t30 fx) rfl rfl (Nat.le_of_ble_eq_true rfl) ?_
              refine in_206 (Nat.le_of_ble_eq_true rfl) ?_
              show WR _ cd_206 0 [some (.ref (ad 30)), some (.int (nI k2))] [] (sI (sI h (ad 0) 6 0) (ad 0) 6 (-3)) _
              refine r_iload rfl rfl ?_
              refine r_if_lt (tg := 16) rfl rfl (fun q => False.elim (by have := i_nlt c1; have := i_rg t; have : (0 : Int32).toInt = 0 := rfl; have := i_eq ek2; have : (nI k2).toInt = ((k2 : Nat) : Int) := nI_toInt (by omega); have := i_nle c3; have : (nI n).toInt = ((n : Nat) : Int) := nI_toInt (by omega); have := i_lt q; omega)) (fun _ => ?_)
              refine r_iload rfl rfl ?_
              refine r_aload rfl rfl ?_
              refine r_getI rfl ⟨rfl, rfl, rfl⟩ (fx_t30 fx) ?_
              refine WR_tI (y := nI n) (Eq.trans (I_ne (fx_ne fx (by decide))) (Eq.trans (I_ne (fx_ne fx (by decide))) ru.1)) ?_
              refine r_icmp_ge (tg := 16) rfl rfl (fun q => False.elim (by have := i_nlt c1; have := i_rg t; have : (0 : Int32).toInt = 0 := rfl; have := i_eq ek2; have : (nI k2).toInt = ((k2 : Nat) : Int) := nI_toInt (by omega); have := i_nle c3; have : (nI n).toInt = ((n : Nat) : Int) := nI_toInt (by omega); have := i_le q; omega)) (fun _ => ?_)
              refine r_ic (x := 1) rfl rfl ?_
              refine r_goto (tg := 17) rfl rfl ?_
              refine r_zret rfl (.inr rfl) ?_
              show WR _ cd_227 5 [some (.ref (ad 30)), some (.int t), some (.int s), some (.long b), none, none, none] [.int 1] (sI (sI h (ad 0) 6 0) (ad 0) 6 (-3)) _
              refine r_if_eq (tg := 17) rfl rfl (fun q => absurd q (by decide)) (fun _ => ?_)
              refine r_iload rfl rfl ?_
              refine WR_tI (y := nI k5) ek5 ?_
              refine r_if_lt (tg := 17) rfl rfl (fun q => False.elim (by have := i_nlt c4; have := i_rg s; have : (0 : Int32).toInt = 0 := rfl; have := i_eq ek5; have : (nI k5).toInt = ((k5 : Nat) : Int) := nI_toInt (by omega); have := i_lt c6; have : (3 : Int32).toInt = 3 := rfl; have := i_lt q; omega)) (fun _ => ?_)
              refine r_iload rfl rfl ?_
              refine WR_tI (y := nI k5) ek5 ?_
              refine r_ic (x := 2) rfl rfl ?_
              refine r_icmp_le (tg := 24) rfl rfl (fun _ => ?_) (fun q => False.elim (by have := i_nlt c4; have := i_rg s; have : (0 : Int32).toInt = 0 := rfl; have := i_eq ek5; have : (nI k5).toInt = ((k5 : Nat) : Int) := nI_toInt (by omega); have := i_lt c6; have : (3 : Int32).toInt = 3 := rfl; have : (2 : Int32).toInt = 2 := rfl; have := i_nle q; omega))
              refine r_ic (x := 6) rfl rfl ?_
              refine r_lload rfl rfl ?_
              refine r_cs (y := 169) (ra := [.long b, .int 6]) (rest := []) rfl ⟨⟨rfl, rfl⟩, by decide⟩ rfl rfl (Nat.le_of_ble_eq_true rfl) ?_
              refine c_cut (h := sI (sI h (ad 0) 6 0) (ad 0) 6 (-3)) (l := 6) fx (by have : (6 : Int32).toInt = 6 := rfl; omega) ?_
              show WR _ cd_227 30 [some (.ref (ad 30)), some (.int t), some (.int s), some (.long b), none, none, none] [.long (fitV 6 b)] (sI (sI h (ad 0) 6 0) (ad 0) 6 (-3)) _
              refine r_l2dn rfl (by rw [fit_num c7]; exact sn_of ((num64 b).mp c7)) (Nat.le_of_ble_eq_true rfl) ?_
              by_cases lt_ : dlt (fitV 6 b).toUInt64 13875379345695965184
              · refine r_dstore (lv' := [some (.ref (ad 30)), some (.int t), some (.int s), some (.long b), none, some (.double ((fitV 6 b).toUInt64)), none]) rfl (Nat.le_of_ble_eq_true rfl) rfl ?_
                refine r_dload rfl rfl ?_
                refine r_ldc (x := .double 13875379345695965184) rfl rfl ?_
                refine r_dgif_lt (tg := 53) rfl rfl rfl (fun _ => ?_) (fun q => absurd lt_ q)
                refine r_aload rfl rfl ?_
                refine r_ic (x := (-3)) rfl rfl ?_
                refine r_cv (y := 154) (ra := [.int (-3)]) (rest := []) rfl ⟨⟨rfl, rfl⟩, rfl, by decide⟩ (fx_t30 fx) rfl rfl (Nat.le_of_ble_eq_true rfl) ?_
                refine in_154 (Nat.le_of_ble_eq_true rfl) ?_
                show WR _ cd_154 0 [some (.ref (ad 30)), some (.int (-3))] [] (sI (sI h (ad 0) 6 0) (ad 0) 6 (-3)) _
                refine r_aload rfl rfl ?_
                refine r_iload rfl rfl ?_
                refine r_ic (x := (-1)) rfl rfl ?_
                refine r_icmp_ge (tg := 10) rfl rfl (fun q => absurd q (by decide)) (fun _ => ?_)
                refine r_iload rfl rfl ?_
                refine r_goto (tg := 11) rfl rfl ?_
                refine r_putI rfl ⟨rfl, rfl, rfl⟩ (fx_t30 fx) ?_
                refine r_iload rfl rfl ?_
                refine r_iret rfl ?_
                show WR _ cd_227 59 [some (.ref (ad 30)), some (.int t), some (.int s), some (.long b), none, some (.double ((fitV 6 b).toUInt64)), none] [.int (-3)] (sI (sI (sI h (ad 0) 6 0) (ad 0) 6 (-3)) (ad 30) 11 (-3)) _
                refine r_iret rfl ?_
                exact ⟨rfl, Rel.why r (((Chg.rf.sI (fx_j fx) (.inl (by decide))).sI (fx_j fx) (.inl (by decide))).sI (fx_j fx) (.inl (by decide))) ⟨rfl, by decide⟩ (Eq.trans (Eq.trans (I_ne (fx_ne fx (by decide))) I_eq) (Eq.symm I_eq)), Nat.le_add_right _ _, Nat.le_add_right _ _⟩
              · have gt_ : dgt (fitV 6 b).toUInt64 4652007308841189376 := ((rd_iff b).mpr ⟨c7, (Int64.not_le.mp c9)⟩).resolve_left lt_
                refine r_dstore (lv' := [some (.ref (ad 30)), some (.int t), some (.int s), some (.long b), none, some (.double ((fitV 6 b).toUInt64)), none]) rfl (Nat.le_of_ble_eq_true rfl) rfl ?_
                refine r_dload rfl rfl ?_
                refine r_ldc (x := .double 13875379345695965184) rfl rfl ?_
                refine r_dgif_lt (tg := 53) rfl rfl rfl (fun q => absurd q lt_) (fun _ => ?_)
                refine r_dload rfl rfl ?_
                refine r_ldc (x := .double 4652007308841189376) rfl rfl ?_
                refine r_dlif_le (tg := 60) rfl rfl rfl (fun q => absurd gt_ q) (fun _ => ?_)
                refine r_aload rfl rfl ?_
                refine r_ic (x := (-3)) rfl rfl ?_
                refine r_cv (y := 154) (ra := [.int (-3)]) (rest := []) rfl ⟨⟨rfl, rfl⟩, rfl, by decide⟩ (fx_t30 fx) rfl rfl (Nat.le_of_ble_eq_true rfl) ?_
                refine in_154 (Nat.le_of_ble_eq_true rfl) ?_
                show WR _ cd_154 0 [some (.ref (ad 30)), some (.int (-3))] [] (sI (sI h (ad 0) 6 0) (ad 0) 6 (-3)) _
                refine r_aload rfl rfl ?_
                refine r_iload rfl rfl ?_
                refine r_ic (x := (-1)) rfl rfl ?_
                refine r_icmp_ge (tg := 10) rfl rfl (fun q => absurd q (by decide)) (fun _ => ?_)
                refine r_iload rfl rfl ?_
                refine r_goto (tg := 11) rfl rfl ?_
                refine r_putI rfl ⟨rfl, rfl, rfl⟩ (fx_t30 fx) ?_
                refine r_iload rfl rfl ?_
                refine r_iret rfl ?_
                show WR _ cd_227 59 [some (.ref (ad 30)), some (.int t), some (.int s), some (.long b), none, some (.double ((fitV 6 b).toUInt64)), none] [.int (-3)] (sI (sI (sI h (ad 0) 6 0) (ad 0) 6 (-3)) (ad 30) 11 (-3)) _
                refine r_iret rfl ?_
                exact ⟨rfl, Rel.why r (((Chg.rf.sI (fx_j fx) (.inl (by decide))).sI (fx_j fx) (.inl (by decide))).sI (fx_j fx) (.inl (by decide))) ⟨rfl, by decide⟩ (Eq.trans (Eq.trans (I_ne (fx_ne fx (by decide))) I_eq) (Eq.symm I_eq)), Nat.le_add_right _ _, Nat.le_add_right _ _⟩
        · refine r_aload rfl rfl ?_
          refine r_ic (x := (-2)) rfl rfl ?_
          refine r_cv (y := 13) (ra := [.int (-2)]) (rest := []) rfl ⟨⟨rfl, rfl⟩, rfl, by decide⟩ (fx_t0 fx) rfl rfl (Nat.le_of_ble_eq_true rfl) ?_
          refine in_13 (Nat.le_of_ble_eq_true rfl) ?_
          show WR _ cd_13 0 [some (.ref (ad 0)), some (.int (-2))] [] (sI h (ad 0) 6 0) _
          refine r_aload rfl rfl ?_
          refine r_iload rfl rfl ?_
          refine r_putI rfl ⟨rfl, rfl, rfl⟩ (fx_t0 fx) ?_
          refine r_iload rfl rfl ?_
          refine r_iret rfl ?_
          show WR _ cd_122 28 [some (.ref (ad 0)), some (.int t), some (.int s), some (.long b), none] [.int (-2)] (sI (sI h (ad 0) 6 0) (ad 0) 6 (-2)) _
          refine r_iret rfl ?_
          show EV _ 227 [.ref (ad 30), .int t, .int s, .long b] (sI (sI h (ad 0) 6 0) (ad 0) 6 (-2)) _
          refine in_227 (Nat.le_of_ble_eq_true rfl) ?_
          show WR _ cd_227 0 [some (.ref (ad 30)), some (.int t), some (.int s), some (.long b), none, none, none] [] (sI (sI h (ad 0) 6 0) (ad 0) 6 (-2)) _
          refine r_aload rfl rfl ?_
          refine r_iload rfl rfl ?_
          refine WR_tI (y := nI k2) ek2 ?_
          refine r_cv (y := 206) (ra := [.int (nI k2)]) (rest := []) rfl ⟨⟨rfl, rfl⟩, rfl, by decide⟩ (fx_t30 fx) rfl rfl (Nat.le_of_ble_eq_true rfl) ?_
          refine in_206 (Nat.le_of_ble_eq_true rfl) ?_
          show WR _ cd_206 0 [some (.ref (ad 30)), some (.int (nI k2))] [] (sI (sI h (ad 0) 6 0) (ad 0) 6 (-2)) _
          refine r_iload rfl rfl ?_
          refine r_if_lt (tg := 16) rfl rfl (fun q => False.elim (by have := i_nlt c1; have := i_rg t; have : (0 : Int32).toInt = 0 := rfl; have := i_eq ek2; have : (nI k2).toInt = ((k2 : Nat) : Int) := nI_toInt (by omega); have := i_nle c3; have : (nI n).toInt = ((n : Nat) : Int) := nI_toInt (by omega); have := i_lt q; omega)) (fun _ => ?_)
          refine r_iload rfl rfl ?_
          refine r_aload rfl rfl ?_
          refine r_getI rfl ⟨rfl, rfl, rfl⟩ (fx_t30 fx) ?_
          refine WR_tI (y := nI n) (Eq.trans (I_ne (fx_ne fx (by decide))) (Eq.trans (I_ne (fx_ne fx (by decide))) ru.1)) ?_
          refine r_icmp_ge (tg := 16) rfl rfl (fun q => False.elim (by have := i_nlt c1; have := i_rg t; have : (0 : Int32).toInt = 0 := rfl; have := i_eq ek2; have : (nI k2).toInt = ((k2 : Nat) : Int) := nI_toInt (by omega); have := i_nle c3; have : (nI n).toInt = ((n : Nat) : Int) := nI_toInt (by omega); have := i_le q; omega)) (fun _ => ?_)
          refine r_ic (x := 1) rfl rfl ?_
          refine r_goto (tg := 17) rfl rfl ?_
          refine r_zret rfl (.inr rfl) ?_
          show WR _ cd_227 5 [some (.ref (ad 30)), some (.int t), some (.int s), some (.long b), none, none, none] [.int 1] (sI (sI h (ad 0) 6 0) (ad 0) 6 (-2)) _
          refine r_if_eq (tg := 17) rfl rfl (fun q => absurd q (by decide)) (fun _ => ?_)
          refine r_iload rfl rfl ?_
          refine WR_tI (y := nI k5) ek5 ?_
          refine r_if_lt (tg := 17) rfl rfl (fun q => False.elim (by have := i_nlt c4; have := i_rg s; have : (0 : Int32).toInt = 0 := rfl; have := i_eq ek5; have : (nI k5).toInt = ((k5 : Nat) : Int) := nI_toInt (by omega); have := i_nlt c6; have : (3 : Int32).toInt = 3 := rfl; have := i_lt q; omega)) (fun _ => ?_)
          refine r_iload rfl rfl ?_
          refine WR_tI (y := nI k5) ek5 ?_
          refine r_ic (x := 2) rfl rfl ?_
          refine r_icmp_le (tg := 24) rfl rfl (fun q => False.elim (by have := i_nlt c4; have := i_rg s; have : (0 : Int32).toInt = 0 := rfl; have := i_eq ek5; have : (nI k5).toInt = ((k5 : Nat) : Int) := nI_toInt (by omega); have := i_nlt c6; have : (3 : Int32).toInt = 3 := rfl; have : (2 : Int32).toInt = 2 := rfl; have := i_le q; omega)) (fun _ => ?_)
          refine r_aload rfl rfl ?_
          refine r_ic (x := (-2)) rfl rfl ?_
          refine r_cv (y := 154) (ra := [.int (-2)]) (rest := []) rfl ⟨⟨rfl, rfl⟩, rfl, by decide⟩ (fx_t30 fx) rfl rfl (Nat.le_of_ble_eq_true rfl) ?_
          refine in_154 (Nat.le_of_ble_eq_true rfl) ?_
          show WR _ cd_154 0 [some (.ref (ad 30)), some (.int (-2))] [] (sI (sI h (ad 0) 6 0) (ad 0) 6 (-2)) _
          refine r_aload rfl rfl ?_
          refine r_iload rfl rfl ?_
          refine r_ic (x := (-1)) rfl rfl ?_
          refine r_icmp_ge (tg := 10) rfl rfl (fun q => absurd q (by decide)) (fun _ => ?_)
          refine r_iload rfl rfl ?_
          refine r_goto (tg := 11) rfl rfl ?_
          refine r_putI rfl ⟨rfl, rfl, rfl⟩ (fx_t30 fx) ?_
          refine r_iload rfl rfl ?_
          refine r_iret rfl ?_
          show WR _ cd_227 23 [some (.ref (ad 30)), some (.int t), some (.int s), some (.long b), none, none, none] [.int (-2)] (sI (sI (sI h (ad 0) 6 0) (ad 0) 6 (-2)) (ad 30) 11 (-2)) _
          refine r_iret rfl ?_
          exact ⟨rfl, Rel.why r (((Chg.rf.sI (fx_j fx) (.inl (by decide))).sI (fx_j fx) (.inl (by decide))).sI (fx_j fx) (.inl (by decide))) ⟨rfl, by decide⟩ (Eq.trans (Eq.trans (I_ne (fx_ne fx (by decide))) I_eq) (Eq.symm I_eq)), Nat.le_add_right _ _, Nat.le_add_right _ _⟩

set_option maxHeartbeats 2000000 in
theorem k_bound {n : Nat} {ad sa : Nat → Nat} {z0 : Nat} {h : mH} (r : Rel n ad sa z0 h) (t : Int32) (b : Int64) : AP n ad sa z0 h 124 229 [.int t, .long b] := by
  obtain ⟨mid, pa, np, fx, ry, rt, ra, rp, rf, rst, ru, rs⟩ := id r
  have fx0 := fx
  have hn_ := fx_k fx
  unfold AP
  refine in_124 (Nat.le_of_ble_eq_true rfl) ?_
  show WR _ cd_124 0 [some (.ref (ad 0)), some (.int t), some (.long b), none] [] h _
  refine r_aload rfl rfl ?_
  refine r_ic (x := 0) rfl rfl ?_
  refine r_putI rfl ⟨rfl, rfl, rfl⟩ (fx_t0 fx) ?_
  refine r_aload rfl rfl ?_
  refine r_iload rfl rfl ?_
  refine r_cv (y := 95) (ra := [.int t]) (rest := []) rfl ⟨⟨rfl, rfl⟩, rfl, by decide⟩ (fx_t0 fx) rfl rfl (Nat.le_of_ble_eq_true rfl) ?_
  refine in_95 (Nat.le_of_ble_eq_true rfl) ?_
  show WR _ cd_95 0 [some (.ref (ad 0)), some (.int t)] [] (sI h (ad 0) 6 0) _
  refine r_iload rfl rfl ?_
  refine r_if_lt (tg := 20) rfl rfl (fun c1 => ?_) (fun c1 => ?_)
  · refine r_ic (x := 0) rfl rfl ?_
    refine r_zret rfl (.inl rfl) ?_
    show WR _ cd_124 10 [some (.ref (ad 0)), some (.int t), some (.long b), none] [.int 0] (sI h (ad 0) 6 0) _
    refine r_if_ne (tg := 20) rfl rfl (fun q => absurd q (by decide)) (fun _ => ?_)
    refine r_aload rfl rfl ?_
    refine r_ic (x := (-2)) rfl rfl ?_
    refine r_cv (y := 13) (ra := [.int (-2)]) (rest := []) rfl ⟨⟨rfl, rfl⟩, rfl, by decide⟩ (fx_t0 fx) rfl rfl (Nat.le_of_ble_eq_true rfl) ?_
    refine in_13 (Nat.le_of_ble_eq_true rfl) ?_
    show WR _ cd_13 0 [some (.ref (ad 0)), some (.int (-2))] [] (sI h (ad 0) 6 0) _
    refine r_aload rfl rfl ?_
    refine r_iload rfl rfl ?_
    refine r_putI rfl ⟨rfl, rfl, rfl⟩ (fx_t0 fx) ?_
    refine r_iload rfl rfl ?_
    refine r_iret rfl ?_
    show WR _ cd_124 19 [some (.ref (ad 0)), some (.int t), some (.long b), none] [.int (-2)] (sI (sI h (ad 0) 6 0) (ad 0) 6 (-2)) _
    refine r_iret rfl ?_
    show EV _ 229 [.ref (ad 30), .int t, .long b] (sI (sI h (ad 0) 6 0) (ad 0) 6 (-2)) _
    refine in_229 (Nat.le_of_ble_eq_true rfl) ?_
    show WR _ cd_229 0 [some (.ref (ad 30)), some (.int t), some (.long b), none, none, none] [] (sI (sI h (ad 0) 6 0) (ad 0) 6 (-2)) _
    refine r_aload rfl rfl ?_
    refine r_iload rfl rfl ?_
    refine r_cv (y := 206) (ra := [.int t]) (rest := []) rfl ⟨⟨rfl, rfl⟩, rfl, by decide⟩ (fx_t30 fx) rfl rfl (Nat.le_of_ble_eq_true rfl) ?_
    refine in_206 (Nat.le_of_ble_eq_true rfl) ?_
    show WR _ cd_206 0 [some (.ref (ad 30)), some (.int t)] [] (sI (sI h (ad 0) 6 0) (ad 0) 6 (-2)) _
    refine r_iload rfl rfl ?_
    refine r_if_lt (tg := 16) rfl rfl (fun _ => ?_) (fun q => False.elim (by have := i_lt c1; have := i_rg t; have : (0 : Int32).toInt = 0 := rfl; have := i_nlt q; omega))
    refine r_ic (x := 0) rfl rfl ?_
    refine r_zret rfl (.inl rfl) ?_
    show WR _ cd_229 5 [some (.ref (ad 30)), some (.int t), some (.long b), none, none, none] [.int 0] (sI (sI h (ad 0) 6 0) (ad 0) 6 (-2)) _
    refine r_if_ne (tg := 15) rfl rfl (fun q => absurd q (by decide)) (fun _ => ?_)
    refine r_aload rfl rfl ?_
    refine r_ic (x := (-2)) rfl rfl ?_
    refine r_cv (y := 154) (ra := [.int (-2)]) (rest := []) rfl ⟨⟨rfl, rfl⟩, rfl, by decide⟩ (fx_t30 fx) rfl rfl (Nat.le_of_ble_eq_true rfl) ?_
    refine in_154 (Nat.le_of_ble_eq_true rfl) ?_
    show WR _ cd_154 0 [some (.ref (ad 30)), some (.int (-2))] [] (sI (sI h (ad 0) 6 0) (ad 0) 6 (-2)) _
    refine r_aload rfl rfl ?_
    refine r_iload rfl rfl ?_
    refine r_ic (x := (-1)) rfl rfl ?_
    refine r_icmp_ge (tg := 10) rfl rfl (fun q => absurd q (by decide)) (fun _ => ?_)
    refine r_iload rfl rfl ?_
    refine r_goto (tg := 11) rfl rfl ?_
    refine r_putI rfl ⟨rfl, rfl, rfl⟩ (fx_t30 fx) ?_
    refine r_iload rfl rfl ?_
    refine r_iret rfl ?_
    show WR _ cd_229 14 [some (.ref (ad 30)), some (.int t), some (.long b), none, none, none] [.int (-2)] (sI (sI (sI h (ad 0) 6 0) (ad 0) 6 (-2)) (ad 30) 11 (-2)) _
    refine r_iret rfl ?_
    exact ⟨rfl, Rel.why r (((Chg.rf.sI (fx_j fx) (.inl (by decide))).sI (fx_j fx) (.inl (by decide))).sI (fx_j fx) (.inl (by decide))) ⟨rfl, by decide⟩ (Eq.trans (Eq.trans (I_ne (fx_ne fx (by decide))) I_eq) (Eq.symm I_eq)), Nat.le_add_right _ _, Nat.le_add_right _ _⟩
  · obtain ⟨k2, hk2, ek2⟩ := ix_of (x := t) (n := 2147483648) (by have := i_nlt c1; have := i_rg t; have : (0 : Int32).toInt = 0 := rfl; omega) (by have := i_nlt c1; have := i_rg t; have : (0 : Int32).toInt = 0 := rfl; omega)
    refine r_iload rfl rfl ?_
    refine WR_tI (y := nI k2) ek2 ?_
    refine r_aload rfl rfl ?_
    refine r_getA (b := ad 4) rfl ⟨rfl, rfl, rfl⟩ (fx_t0 fx) (fx_r0_2 fx) ?_
    refine r_getA (b := ad 7) rfl ⟨rfl, rfl, rfl⟩ (fx_t4 fx) (fx_r4_0 fx) ?_
    refine r_alen rfl (isA_of (fx_t7 fx) (by decide)) ?_
    refine WR_tI (y := nI n) (congrArg nI (fx_n7 fx)) ?_
    refine r_icmp_ge (tg := 20) rfl rfl (fun c3 => ?_) (fun c3 => ?_)
    · refine r_ic (x := 0) rfl rfl ?_
      refine r_zret rfl (.inl rfl) ?_
      show WR _ cd_124 10 [some (.ref (ad 0)), some (.int t), some (.long b), none] [.int 0] (sI h (ad 0) 6 0) _
      refine r_if_ne (tg := 20) rfl rfl (fun q => absurd q (by decide)) (fun _ => ?_)
      refine r_aload rfl rfl ?_
      refine r_ic (x := (-2)) rfl rfl ?_
      refine r_cv (y := 13) (ra := [.int (-2)]) (rest := []) rfl ⟨⟨rfl, rfl⟩, rfl, by decide⟩ (fx_t0 fx) rfl rfl (Nat.le_of_ble_eq_true rfl) ?_
      refine in_13 (Nat.le_of_ble_eq_true rfl) ?_
      show WR _ cd_13 0 [some (.ref (ad 0)), some (.int (-2))] [] (sI h (ad 0) 6 0) _
      refine r_aload rfl rfl ?_
      refine r_iload rfl rfl ?_
      refine r_putI rfl ⟨rfl, rfl, rfl⟩ (fx_t0 fx) ?_
      refine r_iload rfl rfl ?_
      refine r_iret rfl ?_
      show WR _ cd_124 19 [some (.ref (ad 0)), some (.int t), some (.long b), none] [.int (-2)] (sI (sI h (ad 0) 6 0) (ad 0) 6 (-2)) _
      refine r_iret rfl ?_
      show EV _ 229 [.ref (ad 30), .int t, .long b] (sI (sI h (ad 0) 6 0) (ad 0) 6 (-2)) _
      refine in_229 (Nat.le_of_ble_eq_true rfl) ?_
      show WR _ cd_229 0 [some (.ref (ad 30)), some (.int t), some (.long b), none, none, none] [] (sI (sI h (ad 0) 6 0) (ad 0) 6 (-2)) _
      refine r_aload rfl rfl ?_
      refine r_iload rfl rfl ?_
      refine WR_tI (y := nI k2) ek2 ?_
      refine r_cv (y := 206) (ra := [.int (nI k2)]) (rest := []) rfl ⟨⟨rfl, rfl⟩, rfl, by decide⟩ (fx_t30 fx) rfl rfl (Nat.le_of_ble_eq_true rfl) ?_
      refine in_206 (Nat.le_of_ble_eq_true rfl) ?_
      show WR _ cd_206 0 [some (.ref (ad 30)), some (.int (nI k2))] [] (sI (sI h (ad 0) 6 0) (ad 0) 6 (-2)) _
      refine r_iload rfl rfl ?_
      refine r_if_lt (tg := 16) rfl rfl (fun q => False.elim (by have := i_nlt c1; have := i_rg t; have : (0 : Int32).toInt = 0 := rfl; have := i_eq ek2; have : (nI k2).toInt = ((k2 : Nat) : Int) := nI_toInt (by omega); have := i_le c3; have : (nI n).toInt = ((n : Nat) : Int) := nI_toInt (by omega); have := i_lt q; omega)) (fun _ => ?_)
      refine r_iload rfl rfl ?_
      refine r_aload rfl rfl ?_
      refine r_getI rfl ⟨rfl, rfl, rfl⟩ (fx_t30 fx) ?_
      refine WR_tI (y := nI n) (Eq.trans (I_ne (fx_ne fx (by decide))) (Eq.trans (I_ne (fx_ne fx (by decide))) ru.1)) ?_
      refine r_icmp_ge (tg := 16) rfl rfl (fun _ => ?_) (fun q => False.elim (by have := i_nlt c1; have := i_rg t; have : (0 : Int32).toInt = 0 := rfl; have := i_eq ek2; have : (nI k2).toInt = ((k2 : Nat) : Int) := nI_toInt (by omega); have := i_le c3; have : (nI n).toInt = ((n : Nat) : Int) := nI_toInt (by omega); have := i_nle q; omega))
      refine r_ic (x := 0) rfl rfl ?_
      refine r_zret rfl (.inl rfl) ?_
      show WR _ cd_229 5 [some (.ref (ad 30)), some (.int t), some (.long b), none, none, none] [.int 0] (sI (sI h (ad 0) 6 0) (ad 0) 6 (-2)) _
      refine r_if_ne (tg := 15) rfl rfl (fun q => absurd q (by decide)) (fun _ => ?_)
      refine r_aload rfl rfl ?_
      refine r_ic (x := (-2)) rfl rfl ?_
      refine r_cv (y := 154) (ra := [.int (-2)]) (rest := []) rfl ⟨⟨rfl, rfl⟩, rfl, by decide⟩ (fx_t30 fx) rfl rfl (Nat.le_of_ble_eq_true rfl) ?_
      refine in_154 (Nat.le_of_ble_eq_true rfl) ?_
      show WR _ cd_154 0 [some (.ref (ad 30)), some (.int (-2))] [] (sI (sI h (ad 0) 6 0) (ad 0) 6 (-2)) _
      refine r_aload rfl rfl ?_
      refine r_iload rfl rfl ?_
      refine r_ic (x := (-1)) rfl rfl ?_
      refine r_icmp_ge (tg := 10) rfl rfl (fun q => absurd q (by decide)) (fun _ => ?_)
      refine r_iload rfl rfl ?_
      refine r_goto (tg := 11) rfl rfl ?_
      refine r_putI rfl ⟨rfl, rfl, rfl⟩ (fx_t30 fx) ?_
      refine r_iload rfl rfl ?_
      refine r_iret rfl ?_
      show WR _ cd_229 14 [some (.ref (ad 30)), some (.int t), some (.long b), none, none, none] [.int (-2)] (sI (sI (sI h (ad 0) 6 0) (ad 0) 6 (-2)) (ad 30) 11 (-2)) _
      refine r_iret rfl ?_
      exact ⟨rfl, Rel.why r (((Chg.rf.sI (fx_j fx) (.inl (by decide))).sI (fx_j fx) (.inl (by decide))).sI (fx_j fx) (.inl (by decide))) ⟨rfl, by decide⟩ (Eq.trans (Eq.trans (I_ne (fx_ne fx (by decide))) I_eq) (Eq.symm I_eq)), Nat.le_add_right _ _, Nat.le_add_right _ _⟩
    · refine r_ic (x := 1) rfl rfl ?_
      refine r_goto (tg := 21) rfl rfl ?_
      refine r_zret rfl (.inr rfl) ?_
      show WR _ cd_124 10 [some (.ref (ad 0)), some (.int t), some (.long b), none] [.int 1] (sI h (ad 0) 6 0) _
      refine r_if_ne (tg := 20) rfl rfl (fun _ => ?_) (fun q => absurd q (by decide))
      refine r_lload rfl rfl ?_
      refine r_cs (y := 38) (ra := [.long b]) (rest := []) rfl ⟨⟨rfl, rfl⟩, by decide⟩ rfl rfl (Nat.le_of_ble_eq_true rfl) ?_
      refine in_38 (Nat.le_of_ble_eq_true rfl) ?_
      show WR _ cd_38 0 [some (.long b), none] [] (sI h (ad 0) 6 0) _
      refine r_lload rfl rfl ?_
      refine r_cs (y := 39) (ra := [.long b]) (rest := []) rfl ⟨⟨rfl, rfl⟩, by decide⟩ rfl rfl (Nat.le_of_ble_eq_true rfl) ?_
      refine in_39 (Nat.le_of_ble_eq_true rfl) ?_
      show WR _ cd_39 0 [some (.long b), none] [] (sI h (ad 0) 6 0) _
      refine r_lload rfl rfl ?_
      refine r_ldc (x := .long 9223372036854775807) rfl rfl ?_
      refine r_land rfl ?_
      refine r_lret rfl ?_
      show WR _ cd_38 4 [some (.long b), none] [.long (b &&& 9223372036854775807)] (sI h (ad 0) 6 0) _
      refine r_ldc (x := .long 9218868437227405312) rfl rfl ?_
      refine r_lif_gt (tg := 15) rfl rfl rfl (fun c4 => ?_) (fun c4 => ?_)
      · refine r_ic (x := 0) rfl rfl ?_
        refine r_zret rfl (.inl rfl) ?_
        show WR _ cd_124 24 [some (.ref (ad 0)), some (.int t), some (.long b), none] [.int 0] (sI h (ad 0) 6 0) _
        refine r_if_eq (tg := 42) rfl rfl (fun _ => ?_) (fun q => absurd q (by decide))
        refine r_aload rfl rfl ?_
        refine r_ic (x := (-3)) rfl rfl ?_
        refine r_cv (y := 13) (ra := [.int (-3)]) (rest := []) rfl ⟨⟨rfl, rfl⟩, rfl, by decide⟩ (fx_t0 fx) rfl rfl (Nat.le_of_ble_eq_true rfl) ?_
        refine in_13 (Nat.le_of_ble_eq_true rfl) ?_
        show WR _ cd_13 0 [some (.ref (ad 0)), some (.int (-3))] [] (sI h (ad 0) 6 0) _
        refine r_aload rfl rfl ?_
        refine r_iload rfl rfl ?_
        refine r_putI rfl ⟨rfl, rfl, rfl⟩ (fx_t0 fx) ?_
        refine r_iload rfl rfl ?_
        refine r_iret rfl ?_
        show WR _ cd_124 48 [some (.ref (ad 0)), some (.int t), some (.long b), none] [.int (-3)] (sI (sI h (ad 0) 6 0) (ad 0) 6 (-3)) _
        refine r_iret rfl ?_
        show EV _ 229 [.ref (ad 30), .int t, .long b] (sI (sI h (ad 0) 6 0) (ad 0) 6 (-3)) _
        refine in_229 (Nat.le_of_ble_eq_true rfl) ?_
        show WR _ cd_229 0 [some (.ref (ad 30)), some (.int t), some (.long b), none, none, none] [] (sI (sI h (ad 0) 6 0) (ad 0) 6 (-3)) _
        refine r_aload rfl rfl ?_
        refine r_iload rfl rfl ?_
        refine WR_tI (y := nI k2) ek2 ?_
        refine r_cv (y := 206) (ra := [.int (nI k2)]) (rest := []) rfl ⟨⟨rfl, rfl⟩, rfl, by decide⟩ (fx_t30 fx) rfl rfl (Nat.le_of_ble_eq_true rfl) ?_
        refine in_206 (Nat.le_of_ble_eq_true rfl) ?_
        show WR _ cd_206 0 [some (.ref (ad 30)), some (.int (nI k2))] [] (sI (sI h (ad 0) 6 0) (ad 0) 6 (-3)) _
        refine r_iload rfl rfl ?_
        refine r_if_lt (tg := 16) rfl rfl (fun q => False.elim (by have := i_nlt c1; have := i_rg t; have : (0 : Int32).toInt = 0 := rfl; have := i_eq ek2; have : (nI k2).toInt = ((k2 : Nat) : Int) := nI_toInt (by omega); have := i_nle c3; have : (nI n).toInt = ((n : Nat) : Int) := nI_toInt (by omega); have := i_lt q; omega)) (fun _ => ?_)
        refine r_iload rfl rfl ?_
        refine r_aload rfl rfl ?_
        refine r_getI rfl ⟨rfl, rfl, rfl⟩ (fx_t30 fx) ?_
        refine WR_tI (y := nI n) (Eq.trans (I_ne (fx_ne fx (by decide))) (Eq.trans (I_ne (fx_ne fx (by decide))) ru.1)) ?_
        refine r_icmp_ge (tg := 16) rfl rfl (fun q => False.elim (by have := i_nlt c1; have := i_rg t; have : (0 : Int32).toInt = 0 := rfl; have := i_eq ek2; have : (nI k2).toInt = ((k2 : Nat) : Int) := nI_toInt (by omega); have := i_nle c3; have : (nI n).toInt = ((n : Nat) : Int) := nI_toInt (by omega); have := i_le q; omega)) (fun _ => ?_)
        refine r_ic (x := 1) rfl rfl ?_
        refine r_goto (tg := 17) rfl rfl ?_
        refine r_zret rfl (.inr rfl) ?_
        show WR _ cd_229 5 [some (.ref (ad 30)), some (.int t), some (.long b), none, none, none] [.int 1] (sI (sI h (ad 0) 6 0) (ad 0) 6 (-3)) _
        refine r_if_ne (tg := 15) rfl rfl (fun _ => ?_) (fun q => absurd q (by decide))
        refine r_ic (x := 6) rfl rfl ?_
        refine r_lload rfl rfl ?_
        refine r_cs (y := 169) (ra := [.long b, .int 6]) (rest := []) rfl ⟨⟨rfl, rfl⟩, by decide⟩ rfl rfl (Nat.le_of_ble_eq_true rfl) ?_
        refine c_cut (h := sI (sI h (ad 0) 6 0) (ad 0) 6 (-3)) (l := 6) fx (by have : (6 : Int32).toInt = 6 := rfl; omega) ?_
        show WR _ cd_229 21 [some (.ref (ad 30)), some (.int t), some (.long b), none, none, none] [.long (fitV 6 b)] (sI (sI h (ad 0) 6 0) (ad 0) 6 (-3)) _
        refine r_l2dn rfl (by rw [fit_nan c4]; decide) (Nat.le_of_ble_eq_true rfl) ?_
        have ge_ : ¬ dge (fitV 6 b).toUInt64 0 := fun z => ((bd_iff b).mp z).1 c4
        refine r_dstore (lv' := [some (.ref (ad 30)), some (.int t), some (.long b), none, some (.double ((fitV 6 b).toUInt64)), none]) rfl (Nat.le_of_ble_eq_true rfl) rfl ?_
        refine r_dload rfl rfl ?_
        refine r_dc (x := 0) rfl rfl ?_
        refine r_dlif_ge (tg := 40) rfl rfl rfl (fun q => absurd q ge_) (fun _ => ?_)
        refine r_aload rfl rfl ?_
        refine r_ic (x := (-3)) rfl rfl ?_
        refine r_cv (y := 154) (ra := [.int (-3)]) (rest := []) rfl ⟨⟨rfl, rfl⟩, rfl, by decide⟩ (fx_t30 fx) rfl rfl (Nat.le_of_ble_eq_true rfl) ?_
        refine in_154 (Nat.le_of_ble_eq_true rfl) ?_
        show WR _ cd_154 0 [some (.ref (ad 30)), some (.int (-3))] [] (sI (sI h (ad 0) 6 0) (ad 0) 6 (-3)) _
        refine r_aload rfl rfl ?_
        refine r_iload rfl rfl ?_
        refine r_ic (x := (-1)) rfl rfl ?_
        refine r_icmp_ge (tg := 10) rfl rfl (fun q => absurd q (by decide)) (fun _ => ?_)
        refine r_iload rfl rfl ?_
        refine r_goto (tg := 11) rfl rfl ?_
        refine r_putI rfl ⟨rfl, rfl, rfl⟩ (fx_t30 fx) ?_
        refine r_iload rfl rfl ?_
        refine r_iret rfl ?_
        show WR _ cd_229 39 [some (.ref (ad 30)), some (.int t), some (.long b), none, some (.double ((fitV 6 b).toUInt64)), none] [.int (-3)] (sI (sI (sI h (ad 0) 6 0) (ad 0) 6 (-3)) (ad 30) 11 (-3)) _
        refine r_iret rfl ?_
        exact ⟨rfl, Rel.why r (((Chg.rf.sI (fx_j fx) (.inl (by decide))).sI (fx_j fx) (.inl (by decide))).sI (fx_j fx) (.inl (by decide))) ⟨rfl, by decide⟩ (Eq.trans (Eq.trans (I_ne (fx_ne fx (by decide))) I_eq) (Eq.symm I_eq)), Nat.le_add_right _ _, Nat.le_add_right _ _⟩
      · refine r_ic (x := 1) rfl rfl ?_
        refine r_goto (tg := 16) rfl rfl ?_
        refine r_zret rfl (.inr rfl) ?_
        show WR _ cd_124 24 [some (.ref (ad 0)), some (.int t), some (.long b), none] [.int 1] (sI h (ad 0) 6 0) _
        refine r_if_eq (tg := 42) rfl rfl (fun q => absurd q (by decide)) (fun _ => ?_)
        refine r_lload rfl rfl ?_
        refine r_lc (x := 0) rfl rfl ?_
        refine r_lif_ge (tg := 49) rfl rfl rfl (fun c5 => ?_) (fun c5 => ?_)
        · refine r_aload rfl rfl ?_
          refine r_getA (b := ad 4) rfl ⟨rfl, rfl, rfl⟩ (fx_t0 fx) (fx_r0_2 fx) ?_
          refine r_getA (b := ad 7) rfl ⟨rfl, rfl, rfl⟩ (fx_t4 fx) (fx_r4_0 fx) ?_
          refine r_iload rfl rfl ?_
          refine WR_tI (y := nI k2) ek2 ?_
          have hk6 : k2 < n := (by have := i_nlt c1; have := i_rg t; have : (0 : Int32).toInt = 0 := rfl; have := i_eq ek2; have : (nI k2).toInt = ((k2 : Nat) : Int) := nI_toInt (by omega); have := i_nle c3; have : (nI n).toInt = ((n : Nat) : Int) := nI_toInt (by omega); omega)
          have tb6 := fx_tb fx0 k2 hk6
          obtain ⟨⟨a1_6, a2_6, a3_6, a4_6⟩, ⟨b1_6, b2_6⟩, ⟨c1_6, c2_6⟩, ⟨d1_6, d2_6⟩, ⟨e1_6, e2_6, e3_6, e4_6, e5_6, e6_6, e7_6⟩, f_6, g_6⟩ := id (ru.2 k2 hk6)
          refine r_aaloadA (b := ad (100 + 5 * k2)) rfl (isQ_of (fx_t7 fx) (by decide)) (vp_ct (fx_n7 fx) (vp_in_nI (by have := i_nlt c1; have := i_rg t; have : (0 : Int32).toInt = 0 := rfl; have := i_eq ek2; have : (nI k2).toInt = ((k2 : Nat) : Int) := nI_toInt (by omega); have := i_nle c3; have : (nI n).toInt = ((n : Nat) : Int) := nI_toInt (by omega); omega) (by omega))) (Eq.trans (congrArg (hR (sI h (ad 0) 6 0) (ad 7)) ((nI_clamp (by have := i_nlt c1; have := i_rg t; have : (0 : Int32).toInt = 0 := rfl; have := i_eq ek2; have : (nI k2).toInt = ((k2 : Nat) : Int) := nI_toInt (by omega); have := i_nle c3; have : (nI n).toInt = ((n : Nat) : Int) := nI_toInt (by omega); omega)) : _ = k2)) (Eq.trans R_oI tb6.1)) ?_
          refine r_lload rfl rfl ?_
          refine r_cs (y := 85) (ra := [.long b]) (rest := [.ref (ad (100 + 5 * k2))]) rfl ⟨⟨rfl, rfl⟩, by decide⟩ rfl rfl (Nat.le_of_ble_eq_true rfl) ?_
          refine c_valueOf (h := sI h (ad 0) 6 0) ((num64 b).mp c4) ?_
          show WR _ cd_124 62 [some (.ref (ad 0)), some (.int t), some (.long b), none] [.double b.toUInt64, .ref (ad (100 + 5 * k2))] (sI h (ad 0) 6 0) _
          refine r_putD rfl ⟨rfl, rfl, rfl⟩ tb6.2.1 ?_
          refine r_ic (x := 1) rfl rfl ?_
          refine r_iret rfl ?_
          show EV _ 229 [.ref (ad 30), .int t, .long b] (sD (sI h (ad 0) 6 0) (ad (100 + 5 * k2)) 17 b.toUInt64) _
          refine in_229 (Nat.le_of_ble_eq_true rfl) ?_
          show WR _ cd_229 0 [some (.ref (ad 30)), some (.int t), some (.long b), none, none, none] [] (sD (sI h (ad 0) 6 0) (ad (100 + 5 * k2)) 17 b.toUInt64) _
          refine r_aload rfl rfl ?_
          refine r_iload rfl rfl ?_
          refine WR_tI (y := nI k2) ek2 ?_
          refine r_cv (y := 206) (ra := [.int (nI k2)]) (rest := []) rfl ⟨⟨rfl, rfl⟩, rfl, by decide⟩ (fx_t30 fx) rfl rfl (Nat.le_of_ble_eq_true rfl) ?_
          refine in_206 (Nat.le_of_ble_eq_true rfl) ?_
          show WR _ cd_206 0 [some (.ref (ad 30)), some (.int (nI k2))] [] (sD (sI h (ad 0) 6 0) (ad (100 + 5 * k2)) 17 b.toUInt64) _
          refine r_iload rfl rfl ?_
          refine r_if_lt (tg := 16) rfl rfl (fun q => False.elim (by have := i_nlt c1; have := i_rg t; have : (0 : Int32).toInt = 0 := rfl; have := i_eq ek2; have : (nI k2).toInt = ((k2 : Nat) : Int) := nI_toInt (by omega); have := i_nle c3; have : (nI n).toInt = ((n : Nat) : Int) := nI_toInt (by omega); have := i_lt q; omega)) (fun _ => ?_)
          refine r_iload rfl rfl ?_
          refine r_aload rfl rfl ?_
          refine r_getI rfl ⟨rfl, rfl, rfl⟩ (fx_t30 fx) ?_
          refine WR_tI (y := nI n) (Eq.trans I_oD (Eq.trans (I_ne (fx_ne fx (by decide))) ru.1)) ?_
          refine r_icmp_ge (tg := 16) rfl rfl (fun q => False.elim (by have := i_nlt c1; have := i_rg t; have : (0 : Int32).toInt = 0 := rfl; have := i_eq ek2; have : (nI k2).toInt = ((k2 : Nat) : Int) := nI_toInt (by omega); have := i_nle c3; have : (nI n).toInt = ((n : Nat) : Int) := nI_toInt (by omega); have := i_le q; omega)) (fun _ => ?_)
          refine r_ic (x := 1) rfl rfl ?_
          refine r_goto (tg := 17) rfl rfl ?_
          refine r_zret rfl (.inr rfl) ?_
          show WR _ cd_229 5 [some (.ref (ad 30)), some (.int t), some (.long b), none, none, none] [.int 1] (sD (sI h (ad 0) 6 0) (ad (100 + 5 * k2)) 17 b.toUInt64) _
          refine r_if_ne (tg := 15) rfl rfl (fun _ => ?_) (fun q => absurd q (by decide))
          refine r_ic (x := 6) rfl rfl ?_
          refine r_lload rfl rfl ?_
          refine r_cs (y := 169) (ra := [.long b, .int 6]) (rest := []) rfl ⟨⟨rfl, rfl⟩, by decide⟩ rfl rfl (Nat.le_of_ble_eq_true rfl) ?_
          refine c_cut (h := sD (sI h (ad 0) 6 0) (ad (100 + 5 * k2)) 17 b.toUInt64) (l := 6) fx (by have : (6 : Int32).toInt = 6 := rfl; omega) ?_
          show WR _ cd_229 21 [some (.ref (ad 30)), some (.int t), some (.long b), none, none, none] [.long (fitV 6 b)] (sD (sI h (ad 0) 6 0) (ad (100 + 5 * k2)) 17 b.toUInt64) _
          refine r_l2dn rfl (by rw [fit_num c4]; exact sn_of ((num64 b).mp c4)) (Nat.le_of_ble_eq_true rfl) ?_
          have nb_ : ¬ (¬ 0 ≤ b ∧ ¬ (b &&& 9223372036854775807) = 0) := (fun z => z.1 c5)
          have ge_ : dge (fitV 6 b).toUInt64 0 := (bd_iff b).mpr ⟨c4, nb_⟩
          refine r_dstore (lv' := [some (.ref (ad 30)), some (.int t), some (.long b), none, some (.double ((fitV 6 b).toUInt64)), none]) rfl (Nat.le_of_ble_eq_true rfl) rfl ?_
          refine r_dload rfl rfl ?_
          refine r_dc (x := 0) rfl rfl ?_
          refine r_dlif_ge (tg := 40) rfl rfl rfl (fun _ => ?_) (fun q => absurd ge_ q)
          refine r_aload rfl rfl ?_
          refine r_getA (b := ad 71) rfl ⟨rfl, rfl, rfl⟩ (fx_t30 fx) (fx_r30_58 fx) ?_
          refine r_iload rfl rfl ?_
          refine WR_tI (y := nI k2) ek2 ?_
          refine r_dload rfl rfl ?_
          refine r_dastore rfl (fx_t71 fx) (vp_ct (fx_n71 fx) (vp_in_nI (by have := i_nlt c1; have := i_rg t; have : (0 : Int32).toInt = 0 := rfl; have := i_eq ek2; have : (nI k2).toInt = ((k2 : Nat) : Int) := nI_toInt (by omega); have := i_nle c3; have : (nI n).toInt = ((n : Nat) : Int) := nI_toInt (by omega); omega) (by omega))) ?_
          refine WR_h (h2 := sD (sD (sI h (ad 0) 6 0) (ad (100 + 5 * k2)) 17 b.toUInt64) (ad 71) k2 ((fitV 6 b).toUInt64)) (congrArg (fun z => sD (sD (sI h (ad 0) 6 0) (ad (100 + 5 * k2)) 17 b.toUInt64) (ad 71) z ((fitV 6 b).toUInt64)) ((nI_clamp (by have := i_nlt c1; have := i_rg t; have : (0 : Int32).toInt = 0 := rfl; have := i_eq ek2; have : (nI k2).toInt = ((k2 : Nat) : Int) := nI_toInt (by omega); have := i_nle c3; have : (nI n).toInt = ((n : Nat) : Int) := nI_toInt (by omega); omega)) : _ = k2)) ?_
          refine r_aload rfl rfl ?_
          refine r_ic (x := 1) rfl rfl ?_
          refine r_cv (y := 154) (ra := [.int 1]) (rest := []) rfl ⟨⟨rfl, rfl⟩, rfl, by decide⟩ (fx_t30 fx) rfl rfl (Nat.le_of_ble_eq_true rfl) ?_
          refine in_154 (Nat.le_of_ble_eq_true rfl) ?_
          show WR _ cd_154 0 [some (.ref (ad 30)), some (.int 1)] [] (sD (sD (sI h (ad 0) 6 0) (ad (100 + 5 * k2)) 17 b.toUInt64) (ad 71) k2 ((fitV 6 b).toUInt64)) _
          refine r_aload rfl rfl ?_
          refine r_iload rfl rfl ?_
          refine r_ic (x := (-1)) rfl rfl ?_
          refine r_icmp_ge (tg := 10) rfl rfl (fun _ => ?_) (fun q => absurd q (by decide))
          refine r_ic (x := 0) rfl rfl ?_
          refine r_putI rfl ⟨rfl, rfl, rfl⟩ (fx_t30 fx) ?_
          refine r_iload rfl rfl ?_
          refine r_iret rfl ?_
          show WR _ cd_229 53 [some (.ref (ad 30)), some (.int t), some (.long b), none, some (.double ((fitV 6 b).toUInt64)), none] [.int 1] (sI (sD (sD (sI h (ad 0) 6 0) (ad (100 + 5 * k2)) 17 b.toUInt64) (ad 71) k2 ((fitV 6 b).toUInt64)) (ad 30) 11 0) _
          refine r_iret rfl ?_
          have cg : Chg n ad [(30, 11), (100 + 5 * k2, 17), (0, 6)] [71] h (sI (sD (sD (sI h (ad 0) 6 0) (ad (100 + 5 * k2)) 17 b.toUInt64) (ad 71) k2 ((fitV 6 b).toUInt64)) (ad 30) 11 0) := ((((Chg.rf.sI (fx_j fx0) (k := 6) (v := 0) (.inl (by decide))).sD (fx_j fx0) (k := 17) (v := b.toUInt64) (.inr ⟨by omega, by omega⟩)).sD (fx_j fx0) (k := k2) (v := (fitV 6 b).toUInt64) (.inl (by decide))).row.sI (fx_j fx0) (k := 11) (v := 0) (.inl (by decide)))
          refine ⟨rfl, Rel_tu fx0 rt ra rp rf rst rs cg (by intro p_ hp_; simp only [List.mem_cons, List.not_mem_nil, or_false] at hp_; rcases hp_ with rfl | rfl | rfl <;> first | (simp; done) | (simp; omega) | omega) (by intro i_ hi_; simp only [List.mem_cons, List.not_mem_nil, or_false] at hi_; rcases hi_ with rfl <;> first | (simp [tuL]; done) | (simp [tuL]; omega) | omega) rfl (Eq.trans (Eq.trans (I_ne (fx_ne fx (by decide))) (Eq.trans I_oD (Eq.trans I_oD I_eq))) (Eq.symm I_eq)) ⟨(Eq.trans (Eq.trans (I_nk (by decide)) (Eq.trans I_oD (Eq.trans I_oD (I_ne (fx_ne fx (by decide)))))) ru.1), fun t_ ht_ => ?_⟩, Nat.le_add_right _ _, Nat.le_add_right _ _⟩
          by_cases e_ : t_ = k2
          · subst e_
            obtain ⟨g1, g2, g3, g4, g5, g6, g7⟩ := (tuR_i _ _ _ _ _).mp (ru.2 t_ ht_)
            refine (tuR_i _ _ _ _ _).mpr ⟨g1.c (Eq.trans (I_ne (fx_ne fx (by omega))) (Eq.trans I_oD (Eq.trans I_oD (I_ne (fx_ne fx (by omega)))))) (Eq.trans (I_ne (fx_ne fx (by omega))) (Eq.trans I_oD (Eq.trans I_oD (I_ne (fx_ne fx (by omega)))))) (Eq.trans (I_ne (fx_ne fx (by omega))) (Eq.trans I_oD (Eq.trans I_oD (I_ne (fx_ne fx (by omega)))))) (Eq.trans (I_ne (fx_ne fx (by decide))) (Eq.trans I_oD (Eq.trans I_oD (I_ne (fx_ne fx (by decide)))))) (Eq.trans (I_ne (fx_ne fx (by decide))) (Eq.trans I_oD (Eq.trans I_oD (I_ne (fx_ne fx (by decide)))))), g2.c (Eq.trans (I_ne (fx_ne fx (by omega))) (Eq.trans I_oD (Eq.trans I_oD (I_ne (fx_ne fx (by omega)))))) (Eq.trans (I_ne (fx_ne fx (by decide))) (Eq.trans I_oD (Eq.trans I_oD (I_ne (fx_ne fx (by decide)))))), g3.c (Eq.trans (I_ne (fx_ne fx (by omega))) (Eq.trans I_oD (Eq.trans I_oD (I_ne (fx_ne fx (by omega)))))) (Eq.trans (I_ne (fx_ne fx (by decide))) (Eq.trans I_oD (Eq.trans I_oD (I_ne (fx_ne fx (by decide)))))), g4.c (Eq.trans L_oI (Eq.trans L_oD (Eq.trans L_oD L_oI))) (Eq.trans D_oI (Eq.trans (D_ne (fx_ne fx (by decide))) (Eq.trans (D_ne (fx_ne fx (by omega))) D_oI))), ?_, g6.c (fun s_ hs_ => ⟨(Eq.trans L_oI (Eq.trans L_oD (Eq.trans L_oD L_oI))), (Eq.trans L_oI (Eq.trans L_oD (Eq.trans L_oD L_oI))), (Eq.trans L_oI (Eq.trans L_oD (Eq.trans L_oD L_oI))), (Eq.trans D_oI (Eq.trans (D_ne (fx_ne fx (by decide))) (Eq.trans (D_ne (fx_ne fx (by omega))) D_oI))), (Eq.trans L_oI (Eq.trans L_oD (Eq.trans L_oD L_oI))), (Eq.trans L_oI (Eq.trans L_oD (Eq.trans L_oD L_oI)))⟩), g7.c (fun s_ hs_ => ⟨(Eq.trans R_oI (Eq.trans R_oD (Eq.trans R_oD R_oI))), (Eq.trans (I_ne (fx_ne fx (by decide))) (Eq.trans I_oD (Eq.trans I_oD (I_ne (fx_ne fx (by decide))))))⟩)⟩
            · obtain ⟨z1, z2, z3, z4, z5, z6, sN, y1, y2, ⟨y3, y4, y5, y6, y7, y8⟩⟩ := g5
              unfold tu5
              rw [show hD (sI (sD (sD (sI h (ad 0) 6 0) (ad (100 + 5 * t_)) 17 b.toUInt64) (ad 71) t_ ((fitV 6 b).toUInt64)) (ad 30) 11 0) (ad 71) t_ = b.toUInt64 from Eq.trans (Eq.trans D_oI D_eq) (by rw [fit_num c4]), show hD (sI (sD (sD (sI h (ad 0) 6 0) (ad (100 + 5 * t_)) 17 b.toUInt64) (ad 71) t_ ((fitV 6 b).toUInt64)) (ad 30) 11 0) (ad 73) t_ = hD h (ad 73) t_ from (Eq.trans D_oI (Eq.trans (D_ne (fx_ne fx (by decide))) (Eq.trans (D_ne (fx_ne fx (by omega))) D_oI))), show hD (sI (sD (sD (sI h (ad 0) 6 0) (ad (100 + 5 * t_)) 17 b.toUInt64) (ad 71) t_ ((fitV 6 b).toUInt64)) (ad 30) 11 0) (ad 67) t_ = hD h (ad 67) t_ from (Eq.trans D_oI (Eq.trans (D_ne (fx_ne fx (by decide))) (Eq.trans (D_ne (fx_ne fx (by omega))) D_oI))), show hD (sI (sD (sD (sI h (ad 0) 6 0) (ad (100 + 5 * t_)) 17 b.toUInt64) (ad 71) t_ ((fitV 6 b).toUInt64)) (ad 30) 11 0) (ad 68) t_ = hD h (ad 68) t_ from (Eq.trans D_oI (Eq.trans (D_ne (fx_ne fx (by decide))) (Eq.trans (D_ne (fx_ne fx (by omega))) D_oI))), show hD (sI (sD (sD (sI h (ad 0) 6 0) (ad (100 + 5 * t_)) 17 b.toUInt64) (ad 71) t_ ((fitV 6 b).toUInt64)) (ad 30) 11 0) (ad 69) t_ = hD h (ad 69) t_ from (Eq.trans D_oI (Eq.trans (D_ne (fx_ne fx (by decide))) (Eq.trans (D_ne (fx_ne fx (by omega))) D_oI))), show hD (sI (sD (sD (sI h (ad 0) 6 0) (ad (100 + 5 * t_)) 17 b.toUInt64) (ad 71) t_ ((fitV 6 b).toUInt64)) (ad 30) 11 0) (ad 70) t_ = hD h (ad 70) t_ from (Eq.trans D_oI (Eq.trans (D_ne (fx_ne fx (by decide))) (Eq.trans (D_ne (fx_ne fx (by omega))) D_oI)))]
              exact ⟨Eq.trans (Eq.trans D_oI (Eq.trans (D_ne (fx_ne fx (by omega))) (Eq.trans (D_nk (by decide)) D_oI))) z1, Eq.trans (Eq.trans D_oI (Eq.trans (D_ne (fx_ne fx (by omega))) (Eq.trans (D_nk (by decide)) D_oI))) z2, Eq.trans (Eq.trans D_oI (Eq.trans (D_ne (fx_ne fx (by omega))) (Eq.trans (D_nk (by decide)) D_oI))) z3, Eq.trans (Eq.trans D_oI (Eq.trans (D_ne (fx_ne fx (by omega))) (Eq.trans (D_nk (by decide)) D_oI))) z4, Eq.trans (Eq.trans D_oI (Eq.trans (D_ne (fx_ne fx (by omega))) (Eq.trans (D_nk (by decide)) D_oI))) z5, (Eq.trans D_oI (Eq.trans (D_ne (fx_ne fx (by omega))) D_eq)), sN, Eq.trans (Eq.trans (I_nk (by decide)) (Eq.trans I_oD (Eq.trans I_oD (I_ne (fx_ne fx (by decide)))))) y1, y2, ⟨y3, y4, y5, y6, y7, bdOK c4 nb_⟩⟩
          · obtain ⟨g1, g2, g3, g4, g5, g6, g7⟩ := (tuR_i _ _ _ _ _).mp (ru.2 t_ ht_)
            refine (tuR_i _ _ _ _ _).mpr ⟨g1.c (Eq.trans (I_ne (fx_ne fx (by omega))) (Eq.trans I_oD (Eq.trans I_oD (I_ne (fx_ne fx (by omega)))))) (Eq.trans (I_ne (fx_ne fx (by omega))) (Eq.trans I_oD (Eq.trans I_oD (I_ne (fx_ne fx (by omega)))))) (Eq.trans (I_ne (fx_ne fx (by omega))) (Eq.trans I_oD (Eq.trans I_oD (I_ne (fx_ne fx (by omega)))))) (Eq.trans (I_ne (fx_ne fx (by decide))) (Eq.trans I_oD (Eq.trans I_oD (I_ne (fx_ne fx (by decide)))))) (Eq.trans (I_ne (fx_ne fx (by decide))) (Eq.trans I_oD (Eq.trans I_oD (I_ne (fx_ne fx (by decide)))))), g2.c (Eq.trans (I_ne (fx_ne fx (by omega))) (Eq.trans I_oD (Eq.trans I_oD (I_ne (fx_ne fx (by omega)))))) (Eq.trans (I_ne (fx_ne fx (by decide))) (Eq.trans I_oD (Eq.trans I_oD (I_ne (fx_ne fx (by decide)))))), g3.c (Eq.trans (I_ne (fx_ne fx (by omega))) (Eq.trans I_oD (Eq.trans I_oD (I_ne (fx_ne fx (by omega)))))) (Eq.trans (I_ne (fx_ne fx (by decide))) (Eq.trans I_oD (Eq.trans I_oD (I_ne (fx_ne fx (by decide)))))), g4.c (Eq.trans L_oI (Eq.trans L_oD (Eq.trans L_oD L_oI))) (Eq.trans D_oI (Eq.trans (D_ne (fx_ne fx (by decide))) (Eq.trans (D_ne (fx_ne fx (by omega))) D_oI))), g5.d (fun j_ => (Eq.trans D_oI (Eq.trans (D_ne (fx_ne fx (by omega))) (Eq.trans (D_ne (fx_ne fx (by omega))) D_oI)))) (Eq.trans D_oI (Eq.trans (D_ne (fx_ne fx (by decide))) (Eq.trans (D_ne (fx_ne fx (by omega))) D_oI))) (Eq.trans D_oI (Eq.trans (D_ne (fx_ne fx (by decide))) (Eq.trans (D_ne (fx_ne fx (by omega))) D_oI))) (Eq.trans D_oI (Eq.trans (D_ne (fx_ne fx (by decide))) (Eq.trans (D_ne (fx_ne fx (by omega))) D_oI))) (Eq.trans D_oI (Eq.trans (D_ne (fx_ne fx (by decide))) (Eq.trans (D_ne (fx_ne fx (by omega))) D_oI))) (Eq.trans D_oI (Eq.trans (D_nk (by have := i_nlt c1; have := i_rg t; have : (0 : Int32).toInt = 0 := rfl; have := i_eq ek2; have : (nI k2).toInt = ((k2 : Nat) : Int) := nI_toInt (by omega); have := i_nle c3; have : (nI n).toInt = ((n : Nat) : Int) := nI_toInt (by omega); omega)) (Eq.trans (D_ne (fx_ne fx (by omega))) D_oI))) (Eq.trans D_oI (Eq.trans (D_ne (fx_ne fx (by decide))) (Eq.trans (D_ne (fx_ne fx (by omega))) D_oI))) (Eq.trans (I_nk (by decide)) (Eq.trans I_oD (Eq.trans I_oD (I_ne (fx_ne fx (by decide)))))), g6.c (fun s_ hs_ => ⟨(Eq.trans L_oI (Eq.trans L_oD (Eq.trans L_oD L_oI))), (Eq.trans L_oI (Eq.trans L_oD (Eq.trans L_oD L_oI))), (Eq.trans L_oI (Eq.trans L_oD (Eq.trans L_oD L_oI))), (Eq.trans D_oI (Eq.trans (D_ne (fx_ne fx (by decide))) (Eq.trans (D_ne (fx_ne fx (by omega))) D_oI))), (Eq.trans L_oI (Eq.trans L_oD (Eq.trans L_oD L_oI))), (Eq.trans L_oI (Eq.trans L_oD (Eq.trans L_oD L_oI)))⟩), g7.c (fun s_ hs_ => ⟨(Eq.trans R_oI (Eq.trans R_oD (Eq.trans R_oD R_oI))), (Eq.trans (I_ne (fx_ne fx (by decide))) (Eq.trans I_oD (Eq.trans I_oD (I_ne (fx_ne fx (by decide))))))⟩)⟩
        · refine r_lload rfl rfl ?_
          refine r_cs (y := 39) (ra := [.long b]) (rest := []) rfl ⟨⟨rfl, rfl⟩, by decide⟩ rfl rfl (Nat.le_of_ble_eq_true rfl) ?_
          refine in_39 (Nat.le_of_ble_eq_true rfl) ?_
          show WR _ cd_39 0 [some (.long b), none] [] (sI h (ad 0) 6 0) _
          refine r_lload rfl rfl ?_
          refine r_ldc (x := .long 9223372036854775807) rfl rfl ?_
          refine r_land rfl ?_
          refine r_lret rfl ?_
          show WR _ cd_124 37 [some (.ref (ad 0)), some (.int t), some (.long b), none] [.long (b &&& 9223372036854775807)] (sI h (ad 0) 6 0) _
          refine r_lc (x := 0) rfl rfl ?_
          refine r_lif_eq (tg := 49) rfl rfl rfl (fun c7 => ?_) (fun c7 => ?_)
          · refine r_aload rfl rfl ?_
            refine r_getA (b := ad 4) rfl ⟨rfl, rfl, rfl⟩ (fx_t0 fx) (fx_r0_2 fx) ?_
            refine r_getA (b := ad 7) rfl ⟨rfl, rfl, rfl⟩ (fx_t4 fx) (fx_r4_0 fx) ?_
            refine r_iload rfl rfl ?_
            refine WR_tI (y := nI k2) ek2 ?_
            have hk8 : k2 < n := (by have := i_nlt c1; have := i_rg t; have : (0 : Int32).toInt = 0 := rfl; have := i_eq ek2; have : (nI k2).toInt = ((k2 : Nat) : Int) := nI_toInt (by omega); have := i_nle c3; have : (nI n).toInt = ((n : Nat) : Int) := nI_toInt (by omega); omega)
            have tb8 := fx_tb fx0 k2 hk8
            obtain ⟨⟨a1_8, a2_8, a3_8, a4_8⟩, ⟨b1_8, b2_8⟩, ⟨c1_8, c2_8⟩, ⟨d1_8, d2_8⟩, ⟨e1_8, e2_8, e3_8, e4_8, e5_8, e6_8, e7_8⟩, f_8, g_8⟩ := id (ru.2 k2 hk8)
            refine r_aaloadA (b := ad (100 + 5 * k2)) rfl (isQ_of (fx_t7 fx) (by decide)) (vp_ct (fx_n7 fx) (vp_in_nI (by have := i_nlt c1; have := i_rg t; have : (0 : Int32).toInt = 0 := rfl; have := i_eq ek2; have : (nI k2).toInt = ((k2 : Nat) : Int) := nI_toInt (by omega); have := i_nle c3; have : (nI n).toInt = ((n : Nat) : Int) := nI_toInt (by omega); omega) (by omega))) (Eq.trans (congrArg (hR (sI h (ad 0) 6 0) (ad 7)) ((nI_clamp (by have := i_nlt c1; have := i_rg t; have : (0 : Int32).toInt = 0 := rfl; have := i_eq ek2; have : (nI k2).toInt = ((k2 : Nat) : Int) := nI_toInt (by omega); have := i_nle c3; have : (nI n).toInt = ((n : Nat) : Int) := nI_toInt (by omega); omega)) : _ = k2)) (Eq.trans R_oI tb8.1)) ?_
            refine r_lload rfl rfl ?_
            refine r_cs (y := 85) (ra := [.long b]) (rest := [.ref (ad (100 + 5 * k2))]) rfl ⟨⟨rfl, rfl⟩, by decide⟩ rfl rfl (Nat.le_of_ble_eq_true rfl) ?_
            refine c_valueOf (h := sI h (ad 0) 6 0) ((num64 b).mp c4) ?_
            show WR _ cd_124 62 [some (.ref (ad 0)), some (.int t), some (.long b), none] [.double b.toUInt64, .ref (ad (100 + 5 * k2))] (sI h (ad 0) 6 0) _
            refine r_putD rfl ⟨rfl, rfl, rfl⟩ tb8.2.1 ?_
            refine r_ic (x := 1) rfl rfl ?_
            refine r_iret rfl ?_
            show EV _ 229 [.ref (ad 30), .int t, .long b] (sD (sI h (ad 0) 6 0) (ad (100 + 5 * k2)) 17 b.toUInt64) _
            refine in_229 (Nat.le_of_ble_eq_true rfl) ?_
            show WR _ cd_229 0 [some (.ref (ad 30)), some (.int t), some (.long b), none, none, none] [] (sD (sI h (ad 0) 6 0) (ad (100 + 5 * k2)) 17 b.toUInt64) _
            refine r_aload rfl rfl ?_
            refine r_iload rfl rfl ?_
            refine WR_tI (y := nI k2) ek2 ?_
            refine r_cv (y := 206) (ra := [.int (nI k2)]) (rest := []) rfl ⟨⟨rfl, rfl⟩, rfl, by decide⟩ (fx_t30 fx) rfl rfl (Nat.le_of_ble_eq_true rfl) ?_
            refine in_206 (Nat.le_of_ble_eq_true rfl) ?_
            show WR _ cd_206 0 [some (.ref (ad 30)), some (.int (nI k2))] [] (sD (sI h (ad 0) 6 0) (ad (100 + 5 * k2)) 17 b.toUInt64) _
            refine r_iload rfl rfl ?_
            refine r_if_lt (tg := 16) rfl rfl (fun q => False.elim (by have := i_nlt c1; have := i_rg t; have : (0 : Int32).toInt = 0 := rfl; have := i_eq ek2; have : (nI k2).toInt = ((k2 : Nat) : Int) := nI_toInt (by omega); have := i_nle c3; have : (nI n).toInt = ((n : Nat) : Int) := nI_toInt (by omega); have := i_lt q; omega)) (fun _ => ?_)
            refine r_iload rfl rfl ?_
            refine r_aload rfl rfl ?_
            refine r_getI rfl ⟨rfl, rfl, rfl⟩ (fx_t30 fx) ?_
            refine WR_tI (y := nI n) (Eq.trans I_oD (Eq.trans (I_ne (fx_ne fx (by decide))) ru.1)) ?_
            refine r_icmp_ge (tg := 16) rfl rfl (fun q => False.elim (by have := i_nlt c1; have := i_rg t; have : (0 : Int32).toInt = 0 := rfl; have := i_eq ek2; have : (nI k2).toInt = ((k2 : Nat) : Int) := nI_toInt (by omega); have := i_nle c3; have : (nI n).toInt = ((n : Nat) : Int) := nI_toInt (by omega); have := i_le q; omega)) (fun _ => ?_)
            refine r_ic (x := 1) rfl rfl ?_
            refine r_goto (tg := 17) rfl rfl ?_
            refine r_zret rfl (.inr rfl) ?_
            show WR _ cd_229 5 [some (.ref (ad 30)), some (.int t), some (.long b), none, none, none] [.int 1] (sD (sI h (ad 0) 6 0) (ad (100 + 5 * k2)) 17 b.toUInt64) _
            refine r_if_ne (tg := 15) rfl rfl (fun _ => ?_) (fun q => absurd q (by decide))
            refine r_ic (x := 6) rfl rfl ?_
            refine r_lload rfl rfl ?_
            refine r_cs (y := 169) (ra := [.long b, .int 6]) (rest := []) rfl ⟨⟨rfl, rfl⟩, by decide⟩ rfl rfl (Nat.le_of_ble_eq_true rfl) ?_
            refine c_cut (h := sD (sI h (ad 0) 6 0) (ad (100 + 5 * k2)) 17 b.toUInt64) (l := 6) fx (by have : (6 : Int32).toInt = 6 := rfl; omega) ?_
            show WR _ cd_229 21 [some (.ref (ad 30)), some (.int t), some (.long b), none, none, none] [.long (fitV 6 b)] (sD (sI h (ad 0) 6 0) (ad (100 + 5 * k2)) 17 b.toUInt64) _
            refine r_l2dn rfl (by rw [fit_num c4]; exact sn_of ((num64 b).mp c4)) (Nat.le_of_ble_eq_true rfl) ?_
            have nb_ : ¬ (¬ 0 ≤ b ∧ ¬ (b &&& 9223372036854775807) = 0) := (fun z => z.2 c7)
            have ge_ : dge (fitV 6 b).toUInt64 0 := (bd_iff b).mpr ⟨c4, nb_⟩
            refine r_dstore (lv' := [some (.ref (ad 30)), some (.int t), some (.long b), none, some (.double ((fitV 6 b).toUInt64)), none]) rfl (Nat.le_of_ble_eq_true rfl) rfl ?_
            refine r_dload rfl rfl ?_
            refine r_dc (x := 0) rfl rfl ?_
            refine r_dlif_ge (tg := 40) rfl rfl rfl (fun _ => ?_) (fun q => absurd ge_ q)
            refine r_aload rfl rfl ?_
            refine r_getA (b := ad 71) rfl ⟨rfl, rfl, rfl⟩ (fx_t30 fx) (fx_r30_58 fx) ?_
            refine r_iload rfl rfl ?_
            refine WR_tI (y := nI k2) ek2 ?_
            refine r_dload rfl rfl ?_
            refine r_dastore rfl (fx_t71 fx) (vp_ct (fx_n71 fx) (vp_in_nI (by have := i_nlt c1; have := i_rg t; have : (0 : Int32).toInt = 0 := rfl; have := i_eq ek2; have : (nI k2).toInt = ((k2 : Nat) : Int) := nI_toInt (by omega); have := i_nle c3; have : (nI n).toInt = ((n : Nat) : Int) := nI_toInt (by omega); omega) (by omega))) ?_
            refine WR_h (h2 := sD (sD (sI h (ad 0) 6 0) (ad (100 + 5 * k2)) 17 b.toUInt64) (ad 71) k2 ((fitV 6 b).toUInt64)) (congrArg (fun z => sD (sD (sI h (ad 0) 6 0) (ad (100 + 5 * k2)) 17 b.toUInt64) (ad 71) z ((fitV 6 b).toUInt64)) ((nI_clamp (by have := i_nlt c1; have := i_rg t; have : (0 : Int32).toInt = 0 := rfl; have := i_eq ek2; have : (nI k2).toInt = ((k2 : Nat) : Int) := nI_toInt (by omega); have := i_nle c3; have : (nI n).toInt = ((n : Nat) : Int) := nI_toInt (by omega); omega)) : _ = k2)) ?_
            refine r_aload rfl rfl ?_
            refine r_ic (x := 1) rfl rfl ?_
            refine r_cv (y := 154) (ra := [.int 1]) (rest := []) rfl ⟨⟨rfl, rfl⟩, rfl, by decide⟩ (fx_t30 fx) rfl rfl (Nat.le_of_ble_eq_true rfl) ?_
            refine in_154 (Nat.le_of_ble_eq_true rfl) ?_
            show WR _ cd_154 0 [some (.ref (ad 30)), some (.int 1)] [] (sD (sD (sI h (ad 0) 6 0) (ad (100 + 5 * k2)) 17 b.toUInt64) (ad 71) k2 ((fitV 6 b).toUInt64)) _
            refine r_aload rfl rfl ?_
            refine r_iload rfl rfl ?_
            refine r_ic (x := (-1)) rfl rfl ?_
            refine r_icmp_ge (tg := 10) rfl rfl (fun _ => ?_) (fun q => absurd q (by decide))
            refine r_ic (x := 0) rfl rfl ?_
            refine r_putI rfl ⟨rfl, rfl, rfl⟩ (fx_t30 fx) ?_
            refine r_iload rfl rfl ?_
            refine r_iret rfl ?_
            show WR _ cd_229 53 [some (.ref (ad 30)), some (.int t), some (.long b), none, some (.double ((fitV 6 b).toUInt64)), none] [.int 1] (sI (sD (sD (sI h (ad 0) 6 0) (ad (100 + 5 * k2)) 17 b.toUInt64) (ad 71) k2 ((fitV 6 b).toUInt64)) (ad 30) 11 0) _
            refine r_iret rfl ?_
            have cg : Chg n ad [(30, 11), (100 + 5 * k2, 17), (0, 6)] [71] h (sI (sD (sD (sI h (ad 0) 6 0) (ad (100 + 5 * k2)) 17 b.toUInt64) (ad 71) k2 ((fitV 6 b).toUInt64)) (ad 30) 11 0) := ((((Chg.rf.sI (fx_j fx0) (k := 6) (v := 0) (.inl (by decide))).sD (fx_j fx0) (k := 17) (v := b.toUInt64) (.inr ⟨by omega, by omega⟩)).sD (fx_j fx0) (k := k2) (v := (fitV 6 b).toUInt64) (.inl (by decide))).row.sI (fx_j fx0) (k := 11) (v := 0) (.inl (by decide)))
            refine ⟨rfl, Rel_tu fx0 rt ra rp rf rst rs cg (by intro p_ hp_; simp only [List.mem_cons, List.not_mem_nil, or_false] at hp_; rcases hp_ with rfl | rfl | rfl <;> first | (simp; done) | (simp; omega) | omega) (by intro i_ hi_; simp only [List.mem_cons, List.not_mem_nil, or_false] at hi_; rcases hi_ with rfl <;> first | (simp [tuL]; done) | (simp [tuL]; omega) | omega) rfl (Eq.trans (Eq.trans (I_ne (fx_ne fx (by decide))) (Eq.trans I_oD (Eq.trans I_oD I_eq))) (Eq.symm I_eq)) ⟨(Eq.trans (Eq.trans (I_nk (by decide)) (Eq.trans I_oD (Eq.trans I_oD (I_ne (fx_ne fx (by decide)))))) ru.1), fun t_ ht_ => ?_⟩, Nat.le_add_right _ _, Nat.le_add_right _ _⟩
            by_cases e_ : t_ = k2
            · subst e_
              obtain ⟨g1, g2, g3, g4, g5, g6, g7⟩ := (tuR_i _ _ _ _ _).mp (ru.2 t_ ht_)
              refine (tuR_i _ _ _ _ _).mpr ⟨g1.c (Eq.trans (I_ne (fx_ne fx (by omega))) (Eq.trans I_oD (Eq.trans I_oD (I_ne (fx_ne fx (by omega)))))) (Eq.trans (I_ne (fx_ne fx (by omega))) (Eq.trans I_oD (Eq.trans I_oD (I_ne (fx_ne fx (by omega)))))) (Eq.trans (I_ne (fx_ne fx (by omega))) (Eq.trans I_oD (Eq.trans I_oD (I_ne (fx_ne fx (by omega)))))) (Eq.trans (I_ne (fx_ne fx (by decide))) (Eq.trans I_oD (Eq.trans I_oD (I_ne (fx_ne fx (by decide)))))) (Eq.trans (I_ne (fx_ne fx (by decide))) (Eq.trans I_oD (Eq.trans I_oD (I_ne (fx_ne fx (by decide)))))), g2.c (Eq.trans (I_ne (fx_ne fx (by omega))) (Eq.trans I_oD (Eq.trans I_oD (I_ne (fx_ne fx (by omega)))))) (Eq.trans (I_ne (fx_ne fx (by decide))) (Eq.trans I_oD (Eq.trans I_oD (I_ne (fx_ne fx (by decide)))))), g3.c (Eq.trans (I_ne (fx_ne fx (by omega))) (Eq.trans I_oD (Eq.trans I_oD (I_ne (fx_ne fx (by omega)))))) (Eq.trans (I_ne (fx_ne fx (by decide))) (Eq.trans I_oD (Eq.trans I_oD (I_ne (fx_ne fx (by decide)))))), g4.c (Eq.trans L_oI (Eq.trans L_oD (Eq.trans L_oD L_oI))) (Eq.trans D_oI (Eq.trans (D_ne (fx_ne fx (by decide))) (Eq.trans (D_ne (fx_ne fx (by omega))) D_oI))), ?_, g6.c (fun s_ hs_ => ⟨(Eq.trans L_oI (Eq.trans L_oD (Eq.trans L_oD L_oI))), (Eq.trans L_oI (Eq.trans L_oD (Eq.trans L_oD L_oI))), (Eq.trans L_oI (Eq.trans L_oD (Eq.trans L_oD L_oI))), (Eq.trans D_oI (Eq.trans (D_ne (fx_ne fx (by decide))) (Eq.trans (D_ne (fx_ne fx (by omega))) D_oI))), (Eq.trans L_oI (Eq.trans L_oD (Eq.trans L_oD L_oI))), (Eq.trans L_oI (Eq.trans L_oD (Eq.trans L_oD L_oI)))⟩), g7.c (fun s_ hs_ => ⟨(Eq.trans R_oI (Eq.trans R_oD (Eq.trans R_oD R_oI))), (Eq.trans (I_ne (fx_ne fx (by decide))) (Eq.trans I_oD (Eq.trans I_oD (I_ne (fx_ne fx (by decide))))))⟩)⟩
              · obtain ⟨z1, z2, z3, z4, z5, z6, sN, y1, y2, ⟨y3, y4, y5, y6, y7, y8⟩⟩ := g5
                unfold tu5
                rw [show hD (sI (sD (sD (sI h (ad 0) 6 0) (ad (100 + 5 * t_)) 17 b.toUInt64) (ad 71) t_ ((fitV 6 b).toUInt64)) (ad 30) 11 0) (ad 71) t_ = b.toUInt64 from Eq.trans (Eq.trans D_oI D_eq) (by rw [fit_num c4]), show hD (sI (sD (sD (sI h (ad 0) 6 0) (ad (100 + 5 * t_)) 17 b.toUInt64) (ad 71) t_ ((fitV 6 b).toUInt64)) (ad 30) 11 0) (ad 73) t_ = hD h (ad 73) t_ from (Eq.trans D_oI (Eq.trans (D_ne (fx_ne fx (by decide))) (Eq.trans (D_ne (fx_ne fx (by omega))) D_oI))), show hD (sI (sD (sD (sI h (ad 0) 6 0) (ad (100 + 5 * t_)) 17 b.toUInt64) (ad 71) t_ ((fitV 6 b).toUInt64)) (ad 30) 11 0) (ad 67) t_ = hD h (ad 67) t_ from (Eq.trans D_oI (Eq.trans (D_ne (fx_ne fx (by decide))) (Eq.trans (D_ne (fx_ne fx (by omega))) D_oI))), show hD (sI (sD (sD (sI h (ad 0) 6 0) (ad (100 + 5 * t_)) 17 b.toUInt64) (ad 71) t_ ((fitV 6 b).toUInt64)) (ad 30) 11 0) (ad 68) t_ = hD h (ad 68) t_ from (Eq.trans D_oI (Eq.trans (D_ne (fx_ne fx (by decide))) (Eq.trans (D_ne (fx_ne fx (by omega))) D_oI))), show hD (sI (sD (sD (sI h (ad 0) 6 0) (ad (100 + 5 * t_)) 17 b.toUInt64) (ad 71) t_ ((fitV 6 b).toUInt64)) (ad 30) 11 0) (ad 69) t_ = hD h (ad 69) t_ from (Eq.trans D_oI (Eq.trans (D_ne (fx_ne fx (by decide))) (Eq.trans (D_ne (fx_ne fx (by omega))) D_oI))), show hD (sI (sD (sD (sI h (ad 0) 6 0) (ad (100 + 5 * t_)) 17 b.toUInt64) (ad 71) t_ ((fitV 6 b).toUInt64)) (ad 30) 11 0) (ad 70) t_ = hD h (ad 70) t_ from (Eq.trans D_oI (Eq.trans (D_ne (fx_ne fx (by decide))) (Eq.trans (D_ne (fx_ne fx (by omega))) D_oI)))]
                exact ⟨Eq.trans (Eq.trans D_oI (Eq.trans (D_ne (fx_ne fx (by omega))) (Eq.trans (D_nk (by decide)) D_oI))) z1, Eq.trans (Eq.trans D_oI (Eq.trans (D_ne (fx_ne fx (by omega))) (Eq.trans (D_nk (by decide)) D_oI))) z2, Eq.trans (Eq.trans D_oI (Eq.trans (D_ne (fx_ne fx (by omega))) (Eq.trans (D_nk (by decide)) D_oI))) z3, Eq.trans (Eq.trans D_oI (Eq.trans (D_ne (fx_ne fx (by omega))) (Eq.trans (D_nk (by decide)) D_oI))) z4, Eq.trans (Eq.trans D_oI (Eq.trans (D_ne (fx_ne fx (by omega))) (Eq.trans (D_nk (by decide)) D_oI))) z5, (Eq.trans D_oI (Eq.trans (D_ne (fx_ne fx (by omega))) D_eq)), sN, Eq.trans (Eq.trans (I_nk (by decide)) (Eq.trans I_oD (Eq.trans I_oD (I_ne (fx_ne fx (by decide)))))) y1, y2, ⟨y3, y4, y5, y6, y7, bdOK c4 nb_⟩⟩
            · obtain ⟨g1, g2, g3, g4, g5, g6, g7⟩ := (tuR_i _ _ _ _ _).mp (ru.2 t_ ht_)
              refine (tuR_i _ _ _ _ _).mpr ⟨g1.c (Eq.trans (I_ne (fx_ne fx (by omega))) (Eq.trans I_oD (Eq.trans I_oD (I_ne (fx_ne fx (by omega)))))) (Eq.trans (I_ne (fx_ne fx (by omega))) (Eq.trans I_oD (Eq.trans I_oD (I_ne (fx_ne fx (by omega)))))) (Eq.trans (I_ne (fx_ne fx (by omega))) (Eq.trans I_oD (Eq.trans I_oD (I_ne (fx_ne fx (by omega)))))) (Eq.trans (I_ne (fx_ne fx (by decide))) (Eq.trans I_oD (Eq.trans I_oD (I_ne (fx_ne fx (by decide)))))) (Eq.trans (I_ne (fx_ne fx (by decide))) (Eq.trans I_oD (Eq.trans I_oD (I_ne (fx_ne fx (by decide)))))), g2.c (Eq.trans (I_ne (fx_ne fx (by omega))) (Eq.trans I_oD (Eq.trans I_oD (I_ne (fx_ne fx (by omega)))))) (Eq.trans (I_ne (fx_ne fx (by decide))) (Eq.trans I_oD (Eq.trans I_oD (I_ne (fx_ne fx (by decide)))))), g3.c (Eq.trans (I_ne (fx_ne fx (by omega))) (Eq.trans I_oD (Eq.trans I_oD (I_ne (fx_ne fx (by omega)))))) (Eq.trans (I_ne (fx_ne fx (by decide))) (Eq.trans I_oD (Eq.trans I_oD (I_ne (fx_ne fx (by decide)))))), g4.c (Eq.trans L_oI (Eq.trans L_oD (Eq.trans L_oD L_oI))) (Eq.trans D_oI (Eq.trans (D_ne (fx_ne fx (by decide))) (Eq.trans (D_ne (fx_ne fx (by omega))) D_oI))), g5.d (fun j_ => (Eq.trans D_oI (Eq.trans (D_ne (fx_ne fx (by omega))) (Eq.trans (D_ne (fx_ne fx (by omega))) D_oI)))) (Eq.trans D_oI (Eq.trans (D_ne (fx_ne fx (by decide))) (Eq.trans (D_ne (fx_ne fx (by omega))) D_oI))) (Eq.trans D_oI (Eq.trans (D_ne (fx_ne fx (by decide))) (Eq.trans (D_ne (fx_ne fx (by omega))) D_oI))) (Eq.trans D_oI (Eq.trans (D_ne (fx_ne fx (by decide))) (Eq.trans (D_ne (fx_ne fx (by omega))) D_oI))) (Eq.trans D_oI (Eq.trans (D_ne (fx_ne fx (by decide))) (Eq.trans (D_ne (fx_ne fx (by omega))) D_oI))) (Eq.trans D_oI (Eq.trans (D_nk (by have := i_nlt c1; have := i_rg t; have : (0 : Int32).toInt = 0 := rfl; have := i_eq ek2; have : (nI k2).toInt = ((k2 : Nat) : Int) := nI_toInt (by omega); have := i_nle c3; have : (nI n).toInt = ((n : Nat) : Int) := nI_toInt (by omega); omega)) (Eq.trans (D_ne (fx_ne fx (by omega))) D_oI))) (Eq.trans D_oI (Eq.trans (D_ne (fx_ne fx (by decide))) (Eq.trans (D_ne (fx_ne fx (by omega))) D_oI))) (Eq.trans (I_nk (by decide)) (Eq.trans I_oD (Eq.trans I_oD (I_ne (fx_ne fx (by decide)))))), g6.c (fun s_ hs_ => ⟨(Eq.trans L_oI (Eq.trans L_oD (Eq.trans L_oD L_oI))), (Eq.trans L_oI (Eq.trans L_oD (Eq.trans L_oD L_oI))), (Eq.trans L_oI (Eq.trans L_oD (Eq.trans L_oD L_oI))), (Eq.trans D_oI (Eq.trans (D_ne (fx_ne fx (by decide))) (Eq.trans (D_ne (fx_ne fx (by omega))) D_oI))), (Eq.trans L_oI (Eq.trans L_oD (Eq.trans L_oD L_oI))), (Eq.trans L_oI (Eq.trans L_oD (Eq.trans L_oD L_oI)))⟩), g7.c (fun s_ hs_ => ⟨(Eq.trans R_oI (Eq.trans R_oD (Eq.trans R_oD R_oI))), (Eq.trans (I_ne (fx_ne fx (by decide))) (Eq.trans I_oD (Eq.trans I_oD (I_ne (fx_ne fx (by decide))))))⟩)⟩
          · refine r_aload rfl rfl ?_
            refine r_ic (x := (-3)) rfl rfl ?_
            refine r_cv (y := 13) (ra := [.int (-3)]) (rest := []) rfl ⟨⟨rfl, rfl⟩, rfl, by decide⟩ (fx_t0 fx) rfl rfl (Nat.le_of_ble_eq_true rfl) ?_
            refine in_13 (Nat.le_of_ble_eq_true rfl) ?_
            show WR _ cd_13 0 [some (.ref (ad 0)), some (.int (-3))] [] (sI h (ad 0) 6 0) _
            refine r_aload rfl rfl ?_
            refine r_iload rfl rfl ?_
            refine r_putI rfl ⟨rfl, rfl, rfl⟩ (fx_t0 fx) ?_
            refine r_iload rfl rfl ?_
            refine r_iret rfl ?_
            show WR _ cd_124 48 [some (.ref (ad 0)), some (.int t), some (.long b), none] [.int (-3)] (sI (sI h (ad 0) 6 0) (ad 0) 6 (-3)) _
            refine r_iret rfl ?_
            show EV _ 229 [.ref (ad 30), .int t, .long b] (sI (sI h (ad 0) 6 0) (ad 0) 6 (-3)) _
            refine in_229 (Nat.le_of_ble_eq_true rfl) ?_
            show WR _ cd_229 0 [some (.ref (ad 30)), some (.int t), some (.long b), none, none, none] [] (sI (sI h (ad 0) 6 0) (ad 0) 6 (-3)) _
            refine r_aload rfl rfl ?_
            refine r_iload rfl rfl ?_
            refine WR_tI (y := nI k2) ek2 ?_
            refine r_cv (y := 206) (ra := [.int (nI k2)]) (rest := []) rfl ⟨⟨rfl, rfl⟩, rfl, by decide⟩ (fx_t30 fx) rfl rfl (Nat.le_of_ble_eq_true rfl) ?_
            refine in_206 (Nat.le_of_ble_eq_true rfl) ?_
            show WR _ cd_206 0 [some (.ref (ad 30)), some (.int (nI k2))] [] (sI (sI h (ad 0) 6 0) (ad 0) 6 (-3)) _
            refine r_iload rfl rfl ?_
            refine r_if_lt (tg := 16) rfl rfl (fun q => False.elim (by have := i_nlt c1; have := i_rg t; have : (0 : Int32).toInt = 0 := rfl; have := i_eq ek2; have : (nI k2).toInt = ((k2 : Nat) : Int) := nI_toInt (by omega); have := i_nle c3; have : (nI n).toInt = ((n : Nat) : Int) := nI_toInt (by omega); have := i_lt q; omega)) (fun _ => ?_)
            refine r_iload rfl rfl ?_
            refine r_aload rfl rfl ?_
            refine r_getI rfl ⟨rfl, rfl, rfl⟩ (fx_t30 fx) ?_
            refine WR_tI (y := nI n) (Eq.trans (I_ne (fx_ne fx (by decide))) (Eq.trans (I_ne (fx_ne fx (by decide))) ru.1)) ?_
            refine r_icmp_ge (tg := 16) rfl rfl (fun q => False.elim (by have := i_nlt c1; have := i_rg t; have : (0 : Int32).toInt = 0 := rfl; have := i_eq ek2; have : (nI k2).toInt = ((k2 : Nat) : Int) := nI_toInt (by omega); have := i_nle c3; have : (nI n).toInt = ((n : Nat) : Int) := nI_toInt (by omega); have := i_le q; omega)) (fun _ => ?_)
            refine r_ic (x := 1) rfl rfl ?_
            refine r_goto (tg := 17) rfl rfl ?_
            refine r_zret rfl (.inr rfl) ?_
            show WR _ cd_229 5 [some (.ref (ad 30)), some (.int t), some (.long b), none, none, none] [.int 1] (sI (sI h (ad 0) 6 0) (ad 0) 6 (-3)) _
            refine r_if_ne (tg := 15) rfl rfl (fun _ => ?_) (fun q => absurd q (by decide))
            refine r_ic (x := 6) rfl rfl ?_
            refine r_lload rfl rfl ?_
            refine r_cs (y := 169) (ra := [.long b, .int 6]) (rest := []) rfl ⟨⟨rfl, rfl⟩, by decide⟩ rfl rfl (Nat.le_of_ble_eq_true rfl) ?_
            refine c_cut (h := sI (sI h (ad 0) 6 0) (ad 0) 6 (-3)) (l := 6) fx (by have : (6 : Int32).toInt = 6 := rfl; omega) ?_
            show WR _ cd_229 21 [some (.ref (ad 30)), some (.int t), some (.long b), none, none, none] [.long (fitV 6 b)] (sI (sI h (ad 0) 6 0) (ad 0) 6 (-3)) _
            refine r_l2dn rfl (by rw [fit_num c4]; exact sn_of ((num64 b).mp c4)) (Nat.le_of_ble_eq_true rfl) ?_
            have ge_ : ¬ dge (fitV 6 b).toUInt64 0 := fun z => ((bd_iff b).mp z).2 ⟨c5, c7⟩
            refine r_dstore (lv' := [some (.ref (ad 30)), some (.int t), some (.long b), none, some (.double ((fitV 6 b).toUInt64)), none]) rfl (Nat.le_of_ble_eq_true rfl) rfl ?_
            refine r_dload rfl rfl ?_
            refine r_dc (x := 0) rfl rfl ?_
            refine r_dlif_ge (tg := 40) rfl rfl rfl (fun q => absurd q ge_) (fun _ => ?_)
            refine r_aload rfl rfl ?_
            refine r_ic (x := (-3)) rfl rfl ?_
            refine r_cv (y := 154) (ra := [.int (-3)]) (rest := []) rfl ⟨⟨rfl, rfl⟩, rfl, by decide⟩ (fx_t30 fx) rfl rfl (Nat.le_of_ble_eq_true rfl) ?_
            refine in_154 (Nat.le_of_ble_eq_true rfl) ?_
            show WR _ cd_154 0 [some (.ref (ad 30)), some (.int (-3))] [] (sI (sI h (ad 0) 6 0) (ad 0) 6 (-3)) _
            refine r_aload rfl rfl ?_
            refine r_iload rfl rfl ?_
            refine r_ic (x := (-1)) rfl rfl ?_
            refine r_icmp_ge (tg := 10) rfl rfl (fun q => absurd q (by decide)) (fun _ => ?_)
            refine r_iload rfl rfl ?_
            refine r_goto (tg := 11) rfl rfl ?_
            refine r_putI rfl ⟨rfl, rfl, rfl⟩ (fx_t30 fx) ?_
            refine r_iload rfl rfl ?_
            refine r_iret rfl ?_
            show WR _ cd_229 39 [some (.ref (ad 30)), some (.int t), some (.long b), none, some (.double ((fitV 6 b).toUInt64)), none] [.int (-3)] (sI (sI (sI h (ad 0) 6 0) (ad 0) 6 (-3)) (ad 30) 11 (-3)) _
            refine r_iret rfl ?_
            exact ⟨rfl, Rel.why r (((Chg.rf.sI (fx_j fx) (.inl (by decide))).sI (fx_j fx) (.inl (by decide))).sI (fx_j fx) (.inl (by decide))) ⟨rfl, by decide⟩ (Eq.trans (Eq.trans (I_ne (fx_ne fx (by decide))) I_eq) (Eq.symm I_eq)), Nat.le_add_right _ _, Nat.le_add_right _ _⟩

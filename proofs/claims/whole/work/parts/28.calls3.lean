/-! ===== calls that write cases, plans, the wind; printed ===== -/
set_option maxHeartbeats 2000000 in
theorem k_drop {n : Nat} {ad sa : Nat → Nat} {z0 : Nat} {h : mH} (r : Rel n ad sa z0 h) (p : Int32) : AP n ad sa z0 h 97 208 [.int p] := by
  obtain ⟨mid, pa, np, fx, ry, rt, ra, rp, rf, rst, ru, rs⟩ := id r
  have fx0 := fx
  unfold AP
  refine in_97 (Nat.le_of_ble_eq_true rfl) ?_
  show WR _ cd_97 0 [some (.ref (ad 0)), some (.int p), none] [] h _
  refine r_aload rfl rfl ?_
  refine r_ic (x := 0) rfl rfl ?_
  refine r_putI rfl ⟨rfl, rfl, rfl⟩ (fx_t0 fx) ?_
  refine r_iload rfl rfl ?_
  refine r_cs (y := 93) (ra := [.int p]) (rest := []) rfl ⟨⟨rfl, rfl⟩, by decide⟩ rfl rfl (Nat.le_of_ble_eq_true rfl) ?_
  refine in_93 (Nat.le_of_ble_eq_true rfl) ?_
  show WR _ cd_93 0 [some (.int p)] [] (sI h (ad 0) 6 0) _
  refine r_iload rfl rfl ?_
  refine r_if_lt (tg := 14) rfl rfl (fun c1 => ?_) (fun c1 => ?_)
  · refine r_ic (x := 0) rfl rfl ?_
    refine r_zret rfl (.inl rfl) ?_
    show WR _ cd_97 9 [some (.ref (ad 0)), some (.int p), none] [.int 0] (sI h (ad 0) 6 0) _
    refine r_if_ne (tg := 19) rfl rfl (fun q => absurd q (by decide)) (fun _ => ?_)
    refine r_aload rfl rfl ?_
    refine r_ic (x := (-2)) rfl rfl ?_
    refine r_cv (y := 13) (ra := [.int (-2)]) (rest := []) rfl ⟨⟨rfl, rfl⟩, rfl, by decide⟩ (fx_t0 fx) rfl rfl (Nat.le_of_ble_eq_true rfl) ?_
    refine in_13 (Nat.le_of_ble_eq_true rfl) ?_
    show WR _ cd_13 0 [some (.ref (ad 0)), some (.int (-2))] [] (sI h (ad 0) 6 0) _
    refine r_aload rfl rfl ?_
    refine r_iload rfl rfl ?_
    refine r_putI rfl ⟨rfl, rfl, rfl⟩ (fx_t0 fx) ?_
    refine r_iload rfl rfl ?_
    refine r_iret rfl ?_
    show WR _ cd_97 18 [some (.ref (ad 0)), some (.int p), none] [.int (-2)] (sI (sI h (ad 0) 6 0) (ad 0) 6 (-2)) _
    refine r_iret rfl ?_
    show EV _ 208 [.ref (ad 30), .int p] (sI (sI h (ad 0) 6 0) (ad 0) 6 (-2)) _
    refine in_208 (Nat.le_of_ble_eq_true rfl) ?_
    show WR _ cd_208 0 [some (.ref (ad 30)), some (.int p), none] [] (sI (sI h (ad 0) 6 0) (ad 0) 6 (-2)) _
    refine r_iload rfl rfl ?_
    refine r_cs (y := 204) (ra := [.int p]) (rest := []) rfl ⟨⟨rfl, rfl⟩, by decide⟩ rfl rfl (Nat.le_of_ble_eq_true rfl) ?_
    refine in_204 (Nat.le_of_ble_eq_true rfl) ?_
    show WR _ cd_204 0 [some (.int p)] [] (sI (sI h (ad 0) 6 0) (ad 0) 6 (-2)) _
    refine r_iload rfl rfl ?_
    refine r_if_lt (tg := 14) rfl rfl (fun _ => ?_) (fun q => False.elim (by have := i_rg p; have : (0 : Int32).toInt = 0 := rfl; have := i_lt c1; have := i_nlt q; omega))
    refine r_ic (x := 0) rfl rfl ?_
    refine r_zret rfl (.inl rfl) ?_
    show WR _ cd_208 4 [some (.ref (ad 30)), some (.int p), none] [.int 0] (sI (sI h (ad 0) 6 0) (ad 0) 6 (-2)) _
    refine r_if_ne (tg := 14) rfl rfl (fun q => absurd q (by decide)) (fun _ => ?_)
    refine r_aload rfl rfl ?_
    refine r_ic (x := (-2)) rfl rfl ?_
    refine r_cv (y := 154) (ra := [.int (-2)]) (rest := []) rfl ⟨⟨rfl, rfl⟩, rfl, by decide⟩ (fx_t30 fx) rfl rfl (Nat.le_of_ble_eq_true rfl) ?_
    refine in_154 (Nat.le_of_ble_eq_true rfl) ?_
    show WR _ cd_154 0 [some (.ref (ad 30)), some (.int (-2))] [] (sI (sI h (ad 0) 6 0) (ad 0) 6 (-2)) _
    refine r_aload rfl rfl ?_
    refine r_iload rfl rfl ?_
    refine r_ic (x := (-1)) rfl rfl ?_
    refine r_icmp_ge (tg := 10) rfl rfl (fun q => absurd q (by decide)) (fun _ => ?_)
    refine r_iload rfl rfl ?_
    refine r_goto (tg := 11) rfl rfl ?_
    refine r_putI rfl ⟨rfl, rfl, rfl⟩ (fx_t30 fx) ?_
    refine r_iload rfl rfl ?_
    refine r_iret rfl ?_
    show WR _ cd_208 13 [some (.ref (ad 30)), some (.int p), none] [.int (-2)] (sI (sI (sI h (ad 0) 6 0) (ad 0) 6 (-2)) (ad 30) 11 (-2)) _
    refine r_iret rfl ?_
    exact ⟨rfl, Rel.why r (((Chg.rf.sI (fx_j fx) (.inl (by decide))).sI (fx_j fx) (.inl (by decide))).sI (fx_j fx) (.inl (by decide))) ⟨rfl, by decide⟩ (Eq.trans (Eq.trans (I_ne (fx_ne fx (by decide))) I_eq) (Eq.symm I_eq)), Nat.le_add_right _ _, Nat.le_add_right _ _⟩
  · obtain ⟨k2, hk2, ek2⟩ := ix_of (x := p) (n := 2147483648) (by have := i_rg p; have := i_nlt c1; have : (0 : Int32).toInt = 0 := rfl; omega) (by have := i_rg p; have := i_nlt c1; have : (0 : Int32).toInt = 0 := rfl; omega)
    refine r_iload rfl rfl ?_
    refine WR_tI (y := nI k2) ek2 ?_
    refine r_ic (x := 10) rfl rfl ?_
    refine r_icmp_ge (tg := 14) rfl rfl (fun c3 => ?_) (fun c3 => ?_)
    · refine r_ic (x := 0) rfl rfl ?_
      refine r_zret rfl (.inl rfl) ?_
      show WR _ cd_97 9 [some (.ref (ad 0)), some (.int p), none] [.int 0] (sI h (ad 0) 6 0) _
      refine r_if_ne (tg := 19) rfl rfl (fun q => absurd q (by decide)) (fun _ => ?_)
      refine r_aload rfl rfl ?_
      refine r_ic (x := (-2)) rfl rfl ?_
      refine r_cv (y := 13) (ra := [.int (-2)]) (rest := []) rfl ⟨⟨rfl, rfl⟩, rfl, by decide⟩ (fx_t0 fx) rfl rfl (Nat.le_of_ble_eq_true rfl) ?_
      refine in_13 (Nat.le_of_ble_eq_true rfl) ?_
      show WR _ cd_13 0 [some (.ref (ad 0)), some (.int (-2))] [] (sI h (ad 0) 6 0) _
      refine r_aload rfl rfl ?_
      refine r_iload rfl rfl ?_
      refine r_putI rfl ⟨rfl, rfl, rfl⟩ (fx_t0 fx) ?_
      refine r_iload rfl rfl ?_
      refine r_iret rfl ?_
      show WR _ cd_97 18 [some (.ref (ad 0)), some (.int p), none] [.int (-2)] (sI (sI h (ad 0) 6 0) (ad 0) 6 (-2)) _
      refine r_iret rfl ?_
      show EV _ 208 [.ref (ad 30), .int p] (sI (sI h (ad 0) 6 0) (ad 0) 6 (-2)) _
      refine in_208 (Nat.le_of_ble_eq_true rfl) ?_
      show WR _ cd_208 0 [some (.ref (ad 30)), some (.int p), none] [] (sI (sI h (ad 0) 6 0) (ad 0) 6 (-2)) _
      refine r_iload rfl rfl ?_
      refine WR_tI (y := nI k2) ek2 ?_
      refine r_cs (y := 204) (ra := [.int (nI k2)]) (rest := []) rfl ⟨⟨rfl, rfl⟩, by decide⟩ rfl rfl (Nat.le_of_ble_eq_true rfl) ?_
      refine in_204 (Nat.le_of_ble_eq_true rfl) ?_
      show WR _ cd_204 0 [some (.int (nI k2))] [] (sI (sI h (ad 0) 6 0) (ad 0) 6 (-2)) _
      refine r_iload rfl rfl ?_
      refine r_if_lt (tg := 14) rfl rfl (fun q => False.elim (by have : (nI k2).toInt = ((k2 : Nat) : Int) := nI_toInt (by omega); have : (0 : Int32).toInt = 0 := rfl; have := i_eq ek2; have := i_rg p; have := i_le c3; have : (10 : Int32).toInt = 10 := rfl; have := i_nlt c1; have := i_lt q; omega)) (fun _ => ?_)
      refine r_iload rfl rfl ?_
      refine r_ic (x := 10) rfl rfl ?_
      refine r_icmp_ge (tg := 14) rfl rfl (fun _ => ?_) (fun q => False.elim (by have : (nI k2).toInt = ((k2 : Nat) : Int) := nI_toInt (by omega); have : (10 : Int32).toInt = 10 := rfl; have := i_eq ek2; have := i_rg p; have := i_le c3; have := i_nlt c1; have : (0 : Int32).toInt = 0 := rfl; have := i_nle q; omega))
      refine r_ic (x := 0) rfl rfl ?_
      refine r_zret rfl (.inl rfl) ?_
      show WR _ cd_208 4 [some (.ref (ad 30)), some (.int p), none] [.int 0] (sI (sI h (ad 0) 6 0) (ad 0) 6 (-2)) _
      refine r_if_ne (tg := 14) rfl rfl (fun q => absurd q (by decide)) (fun _ => ?_)
      refine r_aload rfl rfl ?_
      refine r_ic (x := (-2)) rfl rfl ?_
      refine r_cv (y := 154) (ra := [.int (-2)]) (rest := []) rfl ⟨⟨rfl, rfl⟩, rfl, by decide⟩ (fx_t30 fx) rfl rfl (Nat.le_of_ble_eq_true rfl) ?_
      refine in_154 (Nat.le_of_ble_eq_true rfl) ?_
      show WR _ cd_154 0 [some (.ref (ad 30)), some (.int (-2))] [] (sI (sI h (ad 0) 6 0) (ad 0) 6 (-2)) _
      refine r_aload rfl rfl ?_
      refine r_iload rfl rfl ?_
      refine r_ic (x := (-1)) rfl rfl ?_
      refine r_icmp_ge (tg := 10) rfl rfl (fun q => absurd q (by decide)) (fun _ => ?_)
      refine r_iload rfl rfl ?_
      refine r_goto (tg := 11) rfl rfl ?_
      refine r_putI rfl ⟨rfl, rfl, rfl⟩ (fx_t30 fx) ?_
      refine r_iload rfl rfl ?_
      refine r_iret rfl ?_
      show WR _ cd_208 13 [some (.ref (ad 30)), some (.int p), none] [.int (-2)] (sI (sI (sI h (ad 0) 6 0) (ad 0) 6 (-2)) (ad 30) 11 (-2)) _
      refine r_iret rfl ?_
      exact ⟨rfl, Rel.why r (((Chg.rf.sI (fx_j fx) (.inl (by decide))).sI (fx_j fx) (.inl (by decide))).sI (fx_j fx) (.inl (by decide))) ⟨rfl, by decide⟩ (Eq.trans (Eq.trans (I_ne (fx_ne fx (by decide))) I_eq) (Eq.symm I_eq)), Nat.le_add_right _ _, Nat.le_add_right _ _⟩
    · refine r_ic (x := 1) rfl rfl ?_
      refine r_goto (tg := 15) rfl rfl ?_
      refine r_zret rfl (.inr rfl) ?_
      show WR _ cd_97 9 [some (.ref (ad 0)), some (.int p), none] [.int 1] (sI h (ad 0) 6 0) _
      refine r_if_ne (tg := 19) rfl rfl (fun _ => ?_) (fun q => absurd q (by decide))
      refine r_aload rfl rfl ?_
      refine r_getA (b := ad 9) rfl ⟨rfl, rfl, rfl⟩ (fx_t0 fx) (fx_r0_3 fx) ?_
      refine r_getA (b := ad 11) rfl ⟨rfl, rfl, rfl⟩ (fx_t9 fx) (fx_r9_1 fx) ?_
      refine r_iload rfl rfl ?_
      refine WR_tI (y := nI k2) ek2 ?_
      refine r_iaload rfl (.inl (fx_t11 fx)) (vp_ct (fx_n11 fx) (vp_in_nI (by have := i_eq ek2; have : (nI k2).toInt = ((k2 : Nat) : Int) := nI_toInt (by omega); have := i_rg p; have := i_nle c3; have : (10 : Int32).toInt = 10 := rfl; have := i_nlt c1; have : (0 : Int32).toInt = 0 := rfl; omega) (by omega))) ?_
      refine WR_tI (congrArg (hI (sI h (ad 0) 6 0) (ad 11)) ((nI_clamp (by have := i_eq ek2; have : (nI k2).toInt = ((k2 : Nat) : Int) := nI_toInt (by omega); have := i_rg p; have := i_nle c3; have : (10 : Int32).toInt = 10 := rfl; have := i_nlt c1; have : (0 : Int32).toInt = 0 := rfl; omega)) : _ = k2)) ?_
      obtain ⟨l4, hl4, p1_4, p2_4, p3_4⟩ := rp k2 (by have := i_eq ek2; have : (nI k2).toInt = ((k2 : Nat) : Int) := nI_toInt (by omega); have := i_rg p; have := i_nle c3; have : (10 : Int32).toInt = 10 := rfl; have := i_nlt c1; have : (0 : Int32).toInt = 0 := rfl; omega)
      refine WR_tI (y := nI l4) (Eq.trans (I_ne (fx_ne fx (by decide))) p1_4) ?_
      refine r_istore (lv' := [some (.ref (ad 0)), some (.int p), some (.int (nI l4))]) rfl (Nat.le_of_ble_eq_true rfl) rfl ?_
      refine r_aload rfl rfl ?_
      refine r_getA (b := ad 9) rfl ⟨rfl, rfl, rfl⟩ (fx_t0 fx) (fx_r0_3 fx) ?_
      refine r_getA (b := ad 11) rfl ⟨rfl, rfl, rfl⟩ (fx_t9 fx) (fx_r9_1 fx) ?_
      refine r_iload rfl rfl ?_
      refine WR_tI (y := nI k2) ek2 ?_
      refine r_ic (x := 0) rfl rfl ?_
      refine r_iastore rfl (fx_t11 fx) (vp_ct (fx_n11 fx) (vp_in_nI (by have := i_eq ek2; have : (nI k2).toInt = ((k2 : Nat) : Int) := nI_toInt (by omega); have := i_rg p; have := i_nle c3; have : (10 : Int32).toInt = 10 := rfl; have := i_nlt c1; have : (0 : Int32).toInt = 0 := rfl; omega) (by omega))) ?_
      refine WR_h (h2 := sI (sI h (ad 0) 6 0) (ad 11) k2 0) (congrArg (fun z => sI (sI h (ad 0) 6 0) (ad 11) z 0) ((nI_clamp (by have := i_eq ek2; have : (nI k2).toInt = ((k2 : Nat) : Int) := nI_toInt (by omega); have := i_rg p; have := i_nle c3; have : (10 : Int32).toInt = 10 := rfl; have := i_nlt c1; have : (0 : Int32).toInt = 0 := rfl; omega)) : _ = k2)) ?_
      refine r_iload rfl rfl ?_
      refine r_iret rfl ?_
      show EV _ 208 [.ref (ad 30), .int p] (sI (sI h (ad 0) 6 0) (ad 11) k2 0) _
      refine in_208 (Nat.le_of_ble_eq_true rfl) ?_
      show WR _ cd_208 0 [some (.ref (ad 30)), some (.int p), none] [] (sI (sI h (ad 0) 6 0) (ad 11) k2 0) _
      refine r_iload rfl rfl ?_
      refine WR_tI (y := nI k2) ek2 ?_
      refine r_cs (y := 204) (ra := [.int (nI k2)]) (rest := []) rfl ⟨⟨rfl, rfl⟩, by decide⟩ rfl rfl (Nat.le_of_ble_eq_true rfl) ?_
      refine in_204 (Nat.le_of_ble_eq_true rfl) ?_
      show WR _ cd_204 0 [some (.int (nI k2))] [] (sI (sI h (ad 0) 6 0) (ad 11) k2 0) _
      refine r_iload rfl rfl ?_
      refine r_if_lt (tg := 14) rfl rfl (fun q => False.elim (by have : (nI k2).toInt = ((k2 : Nat) : Int) := nI_toInt (by omega); have : (0 : Int32).toInt = 0 := rfl; have := i_eq ek2; have := i_rg p; have := i_nle c3; have : (10 : Int32).toInt = 10 := rfl; have := i_nlt c1; have := i_lt q; omega)) (fun _ => ?_)
      refine r_iload rfl rfl ?_
      refine r_ic (x := 10) rfl rfl ?_
      refine r_icmp_ge (tg := 14) rfl rfl (fun q => False.elim (by have : (nI k2).toInt = ((k2 : Nat) : Int) := nI_toInt (by omega); have : (10 : Int32).toInt = 10 := rfl; have := i_eq ek2; have := i_rg p; have := i_nle c3; have := i_nlt c1; have : (0 : Int32).toInt = 0 := rfl; have := i_le q; omega)) (fun _ => ?_)
      refine r_ic (x := 1) rfl rfl ?_
      refine r_goto (tg := 15) rfl rfl ?_
      refine r_zret rfl (.inr rfl) ?_
      show WR _ cd_208 4 [some (.ref (ad 30)), some (.int p), none] [.int 1] (sI (sI h (ad 0) 6 0) (ad 11) k2 0) _
      refine r_if_ne (tg := 14) rfl rfl (fun _ => ?_) (fun q => absurd q (by decide))
      refine r_aload rfl rfl ?_
      refine r_getA (b := ad 43) rfl ⟨rfl, rfl, rfl⟩ (fx_t30 fx) (fx_r30_18 fx) ?_
      refine r_iload rfl rfl ?_
      refine WR_tI (y := nI k2) ek2 ?_
      refine r_iaload rfl (.inl (fx_t43 fx)) (vp_ct (fx_n43 fx) (vp_in_nI (by have := i_eq ek2; have : (nI k2).toInt = ((k2 : Nat) : Int) := nI_toInt (by omega); have := i_rg p; have := i_nle c3; have : (10 : Int32).toInt = 10 := rfl; have := i_nlt c1; have : (0 : Int32).toInt = 0 := rfl; omega) (by omega))) ?_
      refine WR_tI (congrArg (hI (sI (sI h (ad 0) 6 0) (ad 11) k2 0) (ad 43)) ((nI_clamp (by have := i_eq ek2; have : (nI k2).toInt = ((k2 : Nat) : Int) := nI_toInt (by omega); have := i_rg p; have := i_nle c3; have : (10 : Int32).toInt = 10 := rfl; have := i_nlt c1; have : (0 : Int32).toInt = 0 := rfl; omega)) : _ = k2)) ?_
      refine WR_tI (y := nI l4) (Eq.trans (I_ne (fx_ne fx (by decide))) (Eq.trans (I_ne (fx_ne fx (by decide))) p2_4)) ?_
      refine r_istore (lv' := [some (.ref (ad 30)), some (.int p), some (.int (nI l4))]) rfl (Nat.le_of_ble_eq_true rfl) rfl ?_
      refine r_aload rfl rfl ?_
      refine r_getA (b := ad 43) rfl ⟨rfl, rfl, rfl⟩ (fx_t30 fx) (fx_r30_18 fx) ?_
      refine r_iload rfl rfl ?_
      refine WR_tI (y := nI k2) ek2 ?_
      refine r_ic (x := 0) rfl rfl ?_
      refine r_iastore rfl (fx_t43 fx) (vp_ct (fx_n43 fx) (vp_in_nI (by have := i_eq ek2; have : (nI k2).toInt = ((k2 : Nat) : Int) := nI_toInt (by omega); have := i_rg p; have := i_nle c3; have : (10 : Int32).toInt = 10 := rfl; have := i_nlt c1; have : (0 : Int32).toInt = 0 := rfl; omega) (by omega))) ?_
      refine WR_h (h2 := sI (sI (sI h (ad 0) 6 0) (ad 11) k2 0) (ad 43) k2 0) (congrArg (fun z => sI (sI (sI h (ad 0) 6 0) (ad 11) k2 0) (ad 43) z 0) ((nI_clamp (by have := i_eq ek2; have : (nI k2).toInt = ((k2 : Nat) : Int) := nI_toInt (by omega); have := i_rg p; have := i_nle c3; have : (10 : Int32).toInt = 10 := rfl; have := i_nlt c1; have : (0 : Int32).toInt = 0 := rfl; omega)) : _ = k2)) ?_
      refine r_aload rfl rfl ?_
      refine r_iload rfl rfl ?_
      refine r_cv (y := 154) (ra := [.int (nI l4)]) (rest := []) rfl ⟨⟨rfl, rfl⟩, rfl, by decide⟩ (fx_t30 fx) rfl rfl (Nat.le_of_ble_eq_true rfl) ?_
      refine in_154 (Nat.le_of_ble_eq_true rfl) ?_
      show WR _ cd_154 0 [some (.ref (ad 30)), some (.int (nI l4))] [] (sI (sI (sI h (ad 0) 6 0) (ad 11) k2 0) (ad 43) k2 0) _
      refine r_aload rfl rfl ?_
      refine r_iload rfl rfl ?_
      refine r_ic (x := (-1)) rfl rfl ?_
      refine r_icmp_ge (tg := 10) rfl rfl (fun _ => ?_) (fun q => False.elim (by have : (nI l4).toInt = ((l4 : Nat) : Int) := nI_toInt (by omega); have : (-1 : Int32).toInt = -1 := rfl; have := i_nle q; omega))
      refine r_ic (x := 0) rfl rfl ?_
      refine r_putI rfl ⟨rfl, rfl, rfl⟩ (fx_t30 fx) ?_
      refine r_iload rfl rfl ?_
      refine r_iret rfl ?_
      show WR _ cd_208 33 [some (.ref (ad 30)), some (.int p), some (.int (nI l4))] [.int (nI l4)] (sI (sI (sI (sI h (ad 0) 6 0) (ad 11) k2 0) (ad 43) k2 0) (ad 30) 11 0) _
      refine r_iret rfl ?_
      have cg : Chg n ad [(30, 11), (0, 6)] [43, 11] h (sI (sI (sI (sI h (ad 0) 6 0) (ad 11) k2 0) (ad 43) k2 0) (ad 30) 11 0) := ((((Chg.rf.sI (fx_j fx0) (k := 6) (v := 0) (.inl (by decide))).sI (fx_j fx0) (k := k2) (v := 0) (.inl (by decide))).row.sI (fx_j fx0) (k := k2) (v := 0) (.inl (by decide))).row.sI (fx_j fx0) (k := 11) (v := 0) (.inl (by decide)))
      refine ⟨rfl, ⟨mid, pa, np, FX.k fx0 cg.1 cg.2.1 cg.2.2 (by decide), Eq.trans (Eq.trans (I_ne (fx_ne fx (by decide))) (Eq.trans (I_ne (fx_ne fx (by decide))) (Eq.trans (I_ne (fx_ne fx (by decide))) I_eq))) (Eq.symm I_eq), rt.k cg.2.1 (by decide), ra.k cg.2.1 (by decide), ?_, rf.k cg.2.1 (by decide), Rst.k fx0 rst cg.2.2, Ru.k fx0 ru cg.2.1 (by decide), Rs.k fx0 rs cg.1 cg.2.1 cg.2.2 (by decide)⟩, Nat.le_add_right _ _, Nat.le_add_right _ _⟩
      · intro p_ hp
        by_cases e : p_ = k2
        · exact ⟨0, by decide, by rw [e]; exact (Eq.trans (I_ne (fx_ne fx (by decide))) (Eq.trans (I_ne (fx_ne fx (by decide))) I_eq)), by rw [e]; exact (Eq.trans (I_ne (fx_ne fx (by decide))) I_eq), fun s hs => absurd hs (Nat.not_lt_zero s)⟩
        · obtain ⟨l, r1, r2, r3, r4⟩ := rp p_ hp
          refine ⟨l, r1, Eq.trans (Eq.trans (I_ne (fx_ne fx (by decide))) (Eq.trans (I_ne (fx_ne fx (by decide))) (Eq.trans (I_nk (by have := i_eq ek2; have : (nI k2).toInt = ((k2 : Nat) : Int) := nI_toInt (by omega); have := i_rg p; have := i_nle c3; have : (10 : Int32).toInt = 10 := rfl; have := i_nlt c1; have : (0 : Int32).toInt = 0 := rfl; omega)) (I_ne (fx_ne fx (by decide)))))) r2, Eq.trans (Eq.trans (I_ne (fx_ne fx (by decide))) (Eq.trans (I_nk (by have := i_eq ek2; have : (nI k2).toInt = ((k2 : Nat) : Int) := nI_toInt (by omega); have := i_rg p; have := i_nle c3; have : (10 : Int32).toInt = 10 := rfl; have := i_nlt c1; have : (0 : Int32).toInt = 0 := rfl; omega)) (Eq.trans (I_ne (fx_ne fx (by decide))) (I_ne (fx_ne fx (by decide)))))) r3, fun s hs => ?_⟩
          have r5 := r4 s hs
          have f10 := fun j => cg.2.1.rI (i := 10) (by decide) j
          have f44 := fun j => cg.2.1.rI (i := 44) (by decide) j
          have f45 := fun j => cg.2.1.rI (i := 45) (by decide) j
          have f46 := fun j => cg.2.1.rI (i := 46) (by decide) j
          have f47 := fun j => cg.2.1.rI (i := 47) (by decide) j
          simp only [f10, f44, f45, f46, f47]
          exact r5

set_option maxHeartbeats 2000000 in
theorem k_clear {n : Nat} {ad sa : Nat → Nat} {z0 : Nat} {h : mH} (r : Rel n ad sa z0 h) (c : Int32) : AP n ad sa z0 h 24 164 [.int c] := by
  obtain ⟨mid, pa, np, fx, ry, rt, ra, rp, rf, rst, ru, rs⟩ := id r
  have fx0 := fx
  unfold AP
  refine in_24 (Nat.le_of_ble_eq_true rfl) ?_
  show WR _ cd_24 0 [some (.ref (ad 0)), some (.int c)] [] h _
  refine r_aload rfl rfl ?_
  refine r_ic (x := 0) rfl rfl ?_
  refine r_putI rfl ⟨rfl, rfl, rfl⟩ (fx_t0 fx) ?_
  refine r_iload rfl rfl ?_
  refine r_cs (y := 12) (ra := [.int c]) (rest := []) rfl ⟨⟨rfl, rfl⟩, by decide⟩ rfl rfl (Nat.le_of_ble_eq_true rfl) ?_
  refine in_12 (Nat.le_of_ble_eq_true rfl) ?_
  show WR _ cd_12 0 [some (.int c)] [] (sI h (ad 0) 6 0) _
  refine r_iload rfl rfl ?_
  refine r_if_lt (tg := 14) rfl rfl (fun c1 => ?_) (fun c1 => ?_)
  · refine r_ic (x := 0) rfl rfl ?_
    refine r_zret rfl (.inl rfl) ?_
    show WR _ cd_24 9 [some (.ref (ad 0)), some (.int c)] [.int 0] (sI h (ad 0) 6 0) _
    refine r_if_ne (tg := 19) rfl rfl (fun q => absurd q (by decide)) (fun _ => ?_)
    refine r_aload rfl rfl ?_
    refine r_ic (x := (-2)) rfl rfl ?_
    refine r_cv (y := 13) (ra := [.int (-2)]) (rest := []) rfl ⟨⟨rfl, rfl⟩, rfl, by decide⟩ (fx_t0 fx) rfl rfl (Nat.le_of_ble_eq_true rfl) ?_
    refine in_13 (Nat.le_of_ble_eq_true rfl) ?_
    show WR _ cd_13 0 [some (.ref (ad 0)), some (.int (-2))] [] (sI h (ad 0) 6 0) _
    refine r_aload rfl rfl ?_
    refine r_iload rfl rfl ?_
    refine r_putI rfl ⟨rfl, rfl, rfl⟩ (fx_t0 fx) ?_
    refine r_iload rfl rfl ?_
    refine r_iret rfl ?_
    show WR _ cd_24 18 [some (.ref (ad 0)), some (.int c)] [.int (-2)] (sI (sI h (ad 0) 6 0) (ad 0) 6 (-2)) _
    refine r_iret rfl ?_
    show EV _ 164 [.ref (ad 30), .int c] (sI (sI h (ad 0) 6 0) (ad 0) 6 (-2)) _
    refine in_164 (Nat.le_of_ble_eq_true rfl) ?_
    show WR _ cd_164 0 [some (.ref (ad 30)), some (.int c), none] [] (sI (sI h (ad 0) 6 0) (ad 0) 6 (-2)) _
    refine r_iload rfl rfl ?_
    refine r_cs (y := 153) (ra := [.int c]) (rest := []) rfl ⟨⟨rfl, rfl⟩, by decide⟩ rfl rfl (Nat.le_of_ble_eq_true rfl) ?_
    refine in_153 (Nat.le_of_ble_eq_true rfl) ?_
    show WR _ cd_153 0 [some (.int c)] [] (sI (sI h (ad 0) 6 0) (ad 0) 6 (-2)) _
    refine r_iload rfl rfl ?_
    refine r_if_lt (tg := 14) rfl rfl (fun _ => ?_) (fun q => False.elim (by have := i_rg c; have : (0 : Int32).toInt = 0 := rfl; have := i_lt c1; have := i_nlt q; omega))
    refine r_ic (x := 0) rfl rfl ?_
    refine r_zret rfl (.inl rfl) ?_
    show WR _ cd_164 4 [some (.ref (ad 30)), some (.int c), none] [.int 0] (sI (sI h (ad 0) 6 0) (ad 0) 6 (-2)) _
    refine r_if_ne (tg := 14) rfl rfl (fun q => absurd q (by decide)) (fun _ => ?_)
    refine r_aload rfl rfl ?_
    refine r_ic (x := (-2)) rfl rfl ?_
    refine r_cv (y := 154) (ra := [.int (-2)]) (rest := []) rfl ⟨⟨rfl, rfl⟩, rfl, by decide⟩ (fx_t30 fx) rfl rfl (Nat.le_of_ble_eq_true rfl) ?_
    refine in_154 (Nat.le_of_ble_eq_true rfl) ?_
    show WR _ cd_154 0 [some (.ref (ad 30)), some (.int (-2))] [] (sI (sI h (ad 0) 6 0) (ad 0) 6 (-2)) _
    refine r_aload rfl rfl ?_
    refine r_iload rfl rfl ?_
    refine r_ic (x := (-1)) rfl rfl ?_
    refine r_icmp_ge (tg := 10) rfl rfl (fun q => absurd q (by decide)) (fun _ => ?_)
    refine r_iload rfl rfl ?_
    refine r_goto (tg := 11) rfl rfl ?_
    refine r_putI rfl ⟨rfl, rfl, rfl⟩ (fx_t30 fx) ?_
    refine r_iload rfl rfl ?_
    refine r_iret rfl ?_
    show WR _ cd_164 13 [some (.ref (ad 30)), some (.int c), none] [.int (-2)] (sI (sI (sI h (ad 0) 6 0) (ad 0) 6 (-2)) (ad 30) 11 (-2)) _
    refine r_iret rfl ?_
    exact ⟨rfl, Rel.why r (((Chg.rf.sI (fx_j fx) (.inl (by decide))).sI (fx_j fx) (.inl (by decide))).sI (fx_j fx) (.inl (by decide))) ⟨rfl, by decide⟩ (Eq.trans (Eq.trans (I_ne (fx_ne fx (by decide))) I_eq) (Eq.symm I_eq)), Nat.le_add_right _ _, Nat.le_add_right _ _⟩
  · obtain ⟨k2, hk2, ek2⟩ := ix_of (x := c) (n := 2147483648) (by have := i_rg c; have := i_nlt c1; have : (0 : Int32).toInt = 0 := rfl; omega) (by have := i_rg c; have := i_nlt c1; have : (0 : Int32).toInt = 0 := rfl; omega)
    refine r_iload rfl rfl ?_
    refine WR_tI (y := nI k2) ek2 ?_
    refine r_ic (x := 24) rfl rfl ?_
    refine r_icmp_ge (tg := 14) rfl rfl (fun c3 => ?_) (fun c3 => ?_)
    · refine r_ic (x := 0) rfl rfl ?_
      refine r_zret rfl (.inl rfl) ?_
      show WR _ cd_24 9 [some (.ref (ad 0)), some (.int c)] [.int 0] (sI h (ad 0) 6 0) _
      refine r_if_ne (tg := 19) rfl rfl (fun q => absurd q (by decide)) (fun _ => ?_)
      refine r_aload rfl rfl ?_
      refine r_ic (x := (-2)) rfl rfl ?_
      refine r_cv (y := 13) (ra := [.int (-2)]) (rest := []) rfl ⟨⟨rfl, rfl⟩, rfl, by decide⟩ (fx_t0 fx) rfl rfl (Nat.le_of_ble_eq_true rfl) ?_
      refine in_13 (Nat.le_of_ble_eq_true rfl) ?_
      show WR _ cd_13 0 [some (.ref (ad 0)), some (.int (-2))] [] (sI h (ad 0) 6 0) _
      refine r_aload rfl rfl ?_
      refine r_iload rfl rfl ?_
      refine r_putI rfl ⟨rfl, rfl, rfl⟩ (fx_t0 fx) ?_
      refine r_iload rfl rfl ?_
      refine r_iret rfl ?_
      show WR _ cd_24 18 [some (.ref (ad 0)), some (.int c)] [.int (-2)] (sI (sI h (ad 0) 6 0) (ad 0) 6 (-2)) _
      refine r_iret rfl ?_
      show EV _ 164 [.ref (ad 30), .int c] (sI (sI h (ad 0) 6 0) (ad 0) 6 (-2)) _
      refine in_164 (Nat.le_of_ble_eq_true rfl) ?_
      show WR _ cd_164 0 [some (.ref (ad 30)), some (.int c), none] [] (sI (sI h (ad 0) 6 0) (ad 0) 6 (-2)) _
      refine r_iload rfl rfl ?_
      refine WR_tI (y := nI k2) ek2 ?_
      refine r_cs (y := 153) (ra := [.int (nI k2)]) (rest := []) rfl ⟨⟨rfl, rfl⟩, by decide⟩ rfl rfl (Nat.le_of_ble_eq_true rfl) ?_
      refine in_153 (Nat.le_of_ble_eq_true rfl) ?_
      show WR _ cd_153 0 [some (.int (nI k2))] [] (sI (sI h (ad 0) 6 0) (ad 0) 6 (-2)) _
      refine r_iload rfl rfl ?_
      refine r_if_lt (tg := 14) rfl rfl (fun q => False.elim (by have : (nI k2).toInt = ((k2 : Nat) : Int) := nI_toInt (by omega); have : (0 : Int32).toInt = 0 := rfl; have := i_eq ek2; have := i_rg c; have := i_le c3; have : (24 : Int32).toInt = 24 := rfl; have := i_nlt c1; have := i_lt q; omega)) (fun _ => ?_)
      refine r_iload rfl rfl ?_
      refine r_ic (x := 24) rfl rfl ?_
      refine r_icmp_ge (tg := 14) rfl rfl (fun _ => ?_) (fun q => False.elim (by have : (nI k2).toInt = ((k2 : Nat) : Int) := nI_toInt (by omega); have : (24 : Int32).toInt = 24 := rfl; have := i_eq ek2; have := i_rg c; have := i_le c3; have := i_nlt c1; have : (0 : Int32).toInt = 0 := rfl; have := i_nle q; omega))
      refine r_ic (x := 0) rfl rfl ?_
      refine r_zret rfl (.inl rfl) ?_
      show WR _ cd_164 4 [some (.ref (ad 30)), some (.int c), none] [.int 0] (sI (sI h (ad 0) 6 0) (ad 0) 6 (-2)) _
      refine r_if_ne (tg := 14) rfl rfl (fun q => absurd q (by decide)) (fun _ => ?_)
      refine r_aload rfl rfl ?_
      refine r_ic (x := (-2)) rfl rfl ?_
      refine r_cv (y := 154) (ra := [.int (-2)]) (rest := []) rfl ⟨⟨rfl, rfl⟩, rfl, by decide⟩ (fx_t30 fx) rfl rfl (Nat.le_of_ble_eq_true rfl) ?_
      refine in_154 (Nat.le_of_ble_eq_true rfl) ?_
      show WR _ cd_154 0 [some (.ref (ad 30)), some (.int (-2))] [] (sI (sI h (ad 0) 6 0) (ad 0) 6 (-2)) _
      refine r_aload rfl rfl ?_
      refine r_iload rfl rfl ?_
      refine r_ic (x := (-1)) rfl rfl ?_
      refine r_icmp_ge (tg := 10) rfl rfl (fun q => absurd q (by decide)) (fun _ => ?_)
      refine r_iload rfl rfl ?_
      refine r_goto (tg := 11) rfl rfl ?_
      refine r_putI rfl ⟨rfl, rfl, rfl⟩ (fx_t30 fx) ?_
      refine r_iload rfl rfl ?_
      refine r_iret rfl ?_
      show WR _ cd_164 13 [some (.ref (ad 30)), some (.int c), none] [.int (-2)] (sI (sI (sI h (ad 0) 6 0) (ad 0) 6 (-2)) (ad 30) 11 (-2)) _
      refine r_iret rfl ?_
      exact ⟨rfl, Rel.why r (((Chg.rf.sI (fx_j fx) (.inl (by decide))).sI (fx_j fx) (.inl (by decide))).sI (fx_j fx) (.inl (by decide))) ⟨rfl, by decide⟩ (Eq.trans (Eq.trans (I_ne (fx_ne fx (by decide))) I_eq) (Eq.symm I_eq)), Nat.le_add_right _ _, Nat.le_add_right _ _⟩
    · refine r_ic (x := 1) rfl rfl ?_
      refine r_goto (tg := 15) rfl rfl ?_
      refine r_zret rfl (.inr rfl) ?_
      show WR _ cd_24 9 [some (.ref (ad 0)), some (.int c)] [.int 1] (sI h (ad 0) 6 0) _
      refine r_if_ne (tg := 19) rfl rfl (fun _ => ?_) (fun q => absurd q (by decide))
      refine r_aload rfl rfl ?_
      refine r_getA (b := ad 1) rfl ⟨rfl, rfl, rfl⟩ (fx_t0 fx) (fx_r0_0 fx) ?_
      refine r_iload rfl rfl ?_
      refine WR_tI (y := nI k2) ek2 ?_
      rcases rs.cs (n := n) (sa := sa) (c := k2) (by have := i_eq ek2; have : (nI k2).toInt = ((k2 : Nat) : Int) := nI_toInt (by omega); have := i_rg c; have := i_nle c3; have : (24 : Int32).toInt = 24 := rfl; have := i_nlt c1; have : (0 : Int32).toInt = 0 := rfl; omega) with ⟨v4, w4⟩ | ⟨q4, kd4, hq4, hn4, v4, w4, dz4, tg4, s1_4, k1_4, k2_4, hk_4, we4⟩ | ⟨t4, ln4, sz4, ht4, v4, w4, dz4, tg4, r_4, tg2_4, l1_4, l2_4, hl_4, kd_4, n_4, sz_4, hs_4, al4, rw4⟩ | ⟨t4, sz4, ht4, v4, w4, dz4, tg4, r_4, tg2_4, k1_4, l2_4, k2_4, n_4, sz_4, hs_4, al4, rw4⟩ | ⟨t4, kd4, sz4, ht4, v4, w4, dz4, tg4, r_4, tg2_4, k1_4, l2_4, k2_4, hk_4, n_4, sz_4, hs_4, al4, rw4⟩
      · refine r_aaload0 rfl (isQ_of (fx_t1 fx) (by decide)) (vp_ct (fx_n1 fx) (vp_in_nI (by have := i_eq ek2; have : (nI k2).toInt = ((k2 : Nat) : Int) := nI_toInt (by omega); have := i_rg c; have := i_nle c3; have : (24 : Int32).toInt = 24 := rfl; have := i_nlt c1; have : (0 : Int32).toInt = 0 := rfl; omega) (by omega))) (Eq.trans (congrArg (hR (sI h (ad 0) 6 0) (ad 1)) ((nI_clamp (by have := i_eq ek2; have : (nI k2).toInt = ((k2 : Nat) : Int) := nI_toInt (by omega); have := i_rg c; have := i_nle c3; have : (24 : Int32).toInt = 24 := rfl; have := i_nlt c1; have : (0 : Int32).toInt = 0 := rfl; omega)) : _ = k2)) (Eq.trans R_oI w4)) ?_
        refine r_ifnonnullN (tg := 30) rfl rfl ?_
        refine r_ic (x := 0) rfl rfl ?_
        refine r_iret rfl ?_
        show EV _ 164 [.ref (ad 30), .int c] (sI h (ad 0) 6 0) _
        refine in_164 (Nat.le_of_ble_eq_true rfl) ?_
        show WR _ cd_164 0 [some (.ref (ad 30)), some (.int c), none] [] (sI h (ad 0) 6 0) _
        refine r_iload rfl rfl ?_
        refine WR_tI (y := nI k2) ek2 ?_
        refine r_cs (y := 153) (ra := [.int (nI k2)]) (rest := []) rfl ⟨⟨rfl, rfl⟩, by decide⟩ rfl rfl (Nat.le_of_ble_eq_true rfl) ?_
        refine in_153 (Nat.le_of_ble_eq_true rfl) ?_
        show WR _ cd_153 0 [some (.int (nI k2))] [] (sI h (ad 0) 6 0) _
        refine r_iload rfl rfl ?_
        refine r_if_lt (tg := 14) rfl rfl (fun q => False.elim (by have : (nI k2).toInt = ((k2 : Nat) : Int) := nI_toInt (by omega); have : (0 : Int32).toInt = 0 := rfl; have := i_eq ek2; have := i_rg c; have := i_nle c3; have : (24 : Int32).toInt = 24 := rfl; have := i_nlt c1; have := i_lt q; omega)) (fun _ => ?_)
        refine r_iload rfl rfl ?_
        refine r_ic (x := 24) rfl rfl ?_
        refine r_icmp_ge (tg := 14) rfl rfl (fun q => False.elim (by have : (nI k2).toInt = ((k2 : Nat) : Int) := nI_toInt (by omega); have : (24 : Int32).toInt = 24 := rfl; have := i_eq ek2; have := i_rg c; have := i_nle c3; have := i_nlt c1; have : (0 : Int32).toInt = 0 := rfl; have := i_le q; omega)) (fun _ => ?_)
        refine r_ic (x := 1) rfl rfl ?_
        refine r_goto (tg := 15) rfl rfl ?_
        refine r_zret rfl (.inr rfl) ?_
        show WR _ cd_164 4 [some (.ref (ad 30)), some (.int c), none] [.int 1] (sI h (ad 0) 6 0) _
        refine r_if_ne (tg := 14) rfl rfl (fun _ => ?_) (fun q => absurd q (by decide))
        refine r_aload rfl rfl ?_
        refine r_getA (b := ad 31) rfl ⟨rfl, rfl, rfl⟩ (fx_t30 fx) (fx_r30_0 fx) ?_
        refine r_iload rfl rfl ?_
        refine WR_tI (y := nI k2) ek2 ?_
        refine r_iaload rfl (.inl (fx_t31 fx)) (vp_ct (fx_n31 fx) (vp_in_nI (by have := i_eq ek2; have : (nI k2).toInt = ((k2 : Nat) : Int) := nI_toInt (by omega); have := i_rg c; have := i_nle c3; have : (24 : Int32).toInt = 24 := rfl; have := i_nlt c1; have : (0 : Int32).toInt = 0 := rfl; omega) (by omega))) ?_
        refine WR_tI (congrArg (hI (sI h (ad 0) 6 0) (ad 31)) ((nI_clamp (by have := i_eq ek2; have : (nI k2).toInt = ((k2 : Nat) : Int) := nI_toInt (by omega); have := i_rg c; have := i_nle c3; have : (24 : Int32).toInt = 24 := rfl; have := i_nlt c1; have : (0 : Int32).toInt = 0 := rfl; omega)) : _ = k2)) ?_
        refine WR_tI (y := (-1)) (Eq.trans (I_ne (fx_ne fx (by decide))) v4) ?_
        refine r_ic (x := (-1)) rfl rfl ?_
        refine r_icmp_eq (tg := 28) rfl rfl (fun _ => ?_) (fun q => absurd q (by decide))
        refine r_ic (x := 0) rfl rfl ?_
        refine r_istore (lv' := [some (.ref (ad 30)), some (.int c), some (.int 0)]) rfl (Nat.le_of_ble_eq_true rfl) rfl ?_
        refine r_aload rfl rfl ?_
        refine r_getA (b := ad 31) rfl ⟨rfl, rfl, rfl⟩ (fx_t30 fx) (fx_r30_0 fx) ?_
        refine r_iload rfl rfl ?_
        refine WR_tI (y := nI k2) ek2 ?_
        refine r_ic (x := (-1)) rfl rfl ?_
        refine r_iastore rfl (fx_t31 fx) (vp_ct (fx_n31 fx) (vp_in_nI (by have := i_eq ek2; have : (nI k2).toInt = ((k2 : Nat) : Int) := nI_toInt (by omega); have := i_rg c; have := i_nle c3; have : (24 : Int32).toInt = 24 := rfl; have := i_nlt c1; have : (0 : Int32).toInt = 0 := rfl; omega) (by omega))) ?_
        refine WR_h (h2 := sI (sI h (ad 0) 6 0) (ad 31) k2 (-1)) (congrArg (fun z => sI (sI h (ad 0) 6 0) (ad 31) z (-1)) ((nI_clamp (by have := i_eq ek2; have : (nI k2).toInt = ((k2 : Nat) : Int) := nI_toInt (by omega); have := i_rg c; have := i_nle c3; have : (24 : Int32).toInt = 24 := rfl; have := i_nlt c1; have : (0 : Int32).toInt = 0 := rfl; omega)) : _ = k2)) ?_
        refine r_aload rfl rfl ?_
        refine r_iload rfl rfl ?_
        refine r_if_eq (tg := 46) rfl rfl (fun _ => ?_) (fun q => absurd q (by decide))
        refine r_ic (x := 0) rfl rfl ?_
        refine r_cv (y := 154) (ra := [.int 0]) (rest := []) rfl ⟨⟨rfl, rfl⟩, rfl, by decide⟩ (fx_t30 fx) rfl rfl (Nat.le_of_ble_eq_true rfl) ?_
        refine in_154 (Nat.le_of_ble_eq_true rfl) ?_
        show WR _ cd_154 0 [some (.ref (ad 30)), some (.int 0)] [] (sI (sI h (ad 0) 6 0) (ad 31) k2 (-1)) _
        refine r_aload rfl rfl ?_
        refine r_iload rfl rfl ?_
        refine r_ic (x := (-1)) rfl rfl ?_
        refine r_icmp_ge (tg := 10) rfl rfl (fun _ => ?_) (fun q => absurd q (by decide))
        refine r_ic (x := 0) rfl rfl ?_
        refine r_putI rfl ⟨rfl, rfl, rfl⟩ (fx_t30 fx) ?_
        refine r_iload rfl rfl ?_
        refine r_iret rfl ?_
        show WR _ cd_164 50 [some (.ref (ad 30)), some (.int c), some (.int 0)] [.int 0] (sI (sI (sI h (ad 0) 6 0) (ad 31) k2 (-1)) (ad 30) 11 0) _
        refine r_iret rfl ?_
        have cg : Chg n ad [(30, 11), (0, 6)] [31] h (sI (sI (sI h (ad 0) 6 0) (ad 31) k2 (-1)) (ad 30) 11 0) := (((Chg.rf.sI (fx_j fx0) (k := 6) (v := 0) (.inl (by decide))).sI (fx_j fx0) (k := k2) (v := (-1)) (.inl (by decide))).row.sI (fx_j fx0) (k := 11) (v := 0) (.inl (by decide)))
        refine ⟨rfl, ⟨mid, pa, np, FX.k fx0 cg.1 cg.2.1 cg.2.2 (by decide), Eq.trans (Eq.trans (I_ne (fx_ne fx (by decide))) (Eq.trans (I_ne (fx_ne fx (by decide))) I_eq)) (Eq.symm I_eq), rt.k cg.2.1 (by decide), ra.k cg.2.1 (by decide), rp.k cg.2.1 (by decide), rf.k cg.2.1 (by decide), Rst.k fx0 rst cg.2.2, Ru.k fx0 ru cg.2.1 (by decide), ?_⟩, Nat.le_add_right _ _, Nat.le_add_right _ _⟩
        · refine Rs.cases rs (smS_of fx0 cg (by decide)) (fun c_ hc_ => ?_)
          by_cases e_ : c_ = k2
          · rw [e_]
            exact .inr (.inl ⟨(Eq.trans (I_ne (fx_ne fx (by decide))) I_eq), (Eq.trans R_oI (Eq.trans R_oI (Eq.trans R_oI w4)))⟩)
          · exact .inl ⟨c_, hc_, (Eq.trans (I_ne (fx_ne fx (by decide))) (Eq.trans (I_nk (by have := i_eq ek2; have : (nI k2).toInt = ((k2 : Nat) : Int) := nI_toInt (by omega); have := i_rg c; have := i_nle c3; have : (24 : Int32).toInt = 24 := rfl; have := i_nlt c1; have : (0 : Int32).toInt = 0 := rfl; omega)) (I_ne (fx_ne fx (by decide))))), (Eq.trans R_oI (Eq.trans R_oI R_oI))⟩
      · refine r_aaloadA (b := pa q4) rfl (isQ_of (fx_t1 fx) (by decide)) (vp_ct (fx_n1 fx) (vp_in_nI (by have := i_eq ek2; have : (nI k2).toInt = ((k2 : Nat) : Int) := nI_toInt (by omega); have := i_rg c; have := i_nle c3; have : (24 : Int32).toInt = 24 := rfl; have := i_nlt c1; have : (0 : Int32).toInt = 0 := rfl; omega) (by omega))) (Eq.trans (congrArg (hR (sI h (ad 0) 6 0) (ad 1)) ((nI_clamp (by have := i_eq ek2; have : (nI k2).toInt = ((k2 : Nat) : Int) := nI_toInt (by omega); have := i_rg c; have := i_nle c3; have : (24 : Int32).toInt = 24 := rfl; have := i_nlt c1; have : (0 : Int32).toInt = 0 := rfl; omega)) : _ = k2)) (Eq.trans R_oI w4)) ?_
        refine r_ifnonnullA (tg := 30) rfl rfl ?_
        refine r_aload rfl rfl ?_
        refine r_getA (b := ad 1) rfl ⟨rfl, rfl, rfl⟩ (fx_t0 fx) (fx_r0_0 fx) ?_
        refine r_iload rfl rfl ?_
        refine WR_tI (y := nI k2) ek2 ?_
        refine r_null rfl ?_
        refine r_aastore0 rfl (isQ_of (fx_t1 fx) (by decide)) (vp_ct (fx_n1 fx) (vp_in_nI (by have := i_eq ek2; have : (nI k2).toInt = ((k2 : Nat) : Int) := nI_toInt (by omega); have := i_rg c; have := i_nle c3; have : (24 : Int32).toInt = 24 := rfl; have := i_nlt c1; have : (0 : Int32).toInt = 0 := rfl; omega) (by omega))) (fun _ q => by cases q) ?_
        refine WR_h (h2 := sR (sI h (ad 0) 6 0) (ad 1) k2 none) (congrArg (fun z => sR (sI h (ad 0) 6 0) (ad 1) z none) ((nI_clamp (by have := i_eq ek2; have : (nI k2).toInt = ((k2 : Nat) : Int) := nI_toInt (by omega); have := i_rg c; have := i_nle c3; have : (24 : Int32).toInt = 24 := rfl; have := i_nlt c1; have : (0 : Int32).toInt = 0 := rfl; omega)) : _ = k2)) ?_
        have fx : FX n ad sa z0 (sR (sI h (ad 0) 6 0) (ad 1) k2 none) := FX.sRA (i := 1) fx (.inl (by decide)) (by decide)
        refine r_ic (x := 1) rfl rfl ?_
        refine r_iret rfl ?_
        show EV _ 164 [.ref (ad 30), .int c] (sR (sI h (ad 0) 6 0) (ad 1) k2 none) _
        refine in_164 (Nat.le_of_ble_eq_true rfl) ?_
        show WR _ cd_164 0 [some (.ref (ad 30)), some (.int c), none] [] (sR (sI h (ad 0) 6 0) (ad 1) k2 none) _
        refine r_iload rfl rfl ?_
        refine WR_tI (y := nI k2) ek2 ?_
        refine r_cs (y := 153) (ra := [.int (nI k2)]) (rest := []) rfl ⟨⟨rfl, rfl⟩, by decide⟩ rfl rfl (Nat.le_of_ble_eq_true rfl) ?_
        refine in_153 (Nat.le_of_ble_eq_true rfl) ?_
        show WR _ cd_153 0 [some (.int (nI k2))] [] (sR (sI h (ad 0) 6 0) (ad 1) k2 none) _
        refine r_iload rfl rfl ?_
        refine r_if_lt (tg := 14) rfl rfl (fun q => False.elim (by have : (nI k2).toInt = ((k2 : Nat) : Int) := nI_toInt (by omega); have : (0 : Int32).toInt = 0 := rfl; have := i_eq ek2; have := i_rg c; have := i_nle c3; have : (24 : Int32).toInt = 24 := rfl; have := i_nlt c1; have := i_lt q; omega)) (fun _ => ?_)
        refine r_iload rfl rfl ?_
        refine r_ic (x := 24) rfl rfl ?_
        refine r_icmp_ge (tg := 14) rfl rfl (fun q => False.elim (by have : (nI k2).toInt = ((k2 : Nat) : Int) := nI_toInt (by omega); have : (24 : Int32).toInt = 24 := rfl; have := i_eq ek2; have := i_rg c; have := i_nle c3; have := i_nlt c1; have : (0 : Int32).toInt = 0 := rfl; have := i_le q; omega)) (fun _ => ?_)
        refine r_ic (x := 1) rfl rfl ?_
        refine r_goto (tg := 15) rfl rfl ?_
        refine r_zret rfl (.inr rfl) ?_
        show WR _ cd_164 4 [some (.ref (ad 30)), some (.int c), none] [.int 1] (sR (sI h (ad 0) 6 0) (ad 1) k2 none) _
        refine r_if_ne (tg := 14) rfl rfl (fun _ => ?_) (fun q => absurd q (by decide))
        refine r_aload rfl rfl ?_
        refine r_getA (b := ad 31) rfl ⟨rfl, rfl, rfl⟩ (fx_t30 fx) (fx_r30_0 fx) ?_
        refine r_iload rfl rfl ?_
        refine WR_tI (y := nI k2) ek2 ?_
        refine r_iaload rfl (.inl (fx_t31 fx)) (vp_ct (fx_n31 fx) (vp_in_nI (by have := i_eq ek2; have : (nI k2).toInt = ((k2 : Nat) : Int) := nI_toInt (by omega); have := i_rg c; have := i_nle c3; have : (24 : Int32).toInt = 24 := rfl; have := i_nlt c1; have : (0 : Int32).toInt = 0 := rfl; omega) (by omega))) ?_
        refine WR_tI (congrArg (hI (sR (sI h (ad 0) 6 0) (ad 1) k2 none) (ad 31)) ((nI_clamp (by have := i_eq ek2; have : (nI k2).toInt = ((k2 : Nat) : Int) := nI_toInt (by omega); have := i_rg c; have := i_nle c3; have : (24 : Int32).toInt = 24 := rfl; have := i_nlt c1; have : (0 : Int32).toInt = 0 := rfl; omega)) : _ = k2)) ?_
        refine WR_tI (y := nI (q4 + 1000)) (Eq.trans I_oR (Eq.trans (I_ne (fx_ne fx (by decide))) v4)) ?_
        refine r_ic (x := (-1)) rfl rfl ?_
        refine r_icmp_eq (tg := 28) rfl rfl (fun q => False.elim (by have : (nI (q4 + 1000)).toInt = ((q4 + 1000 : Nat) : Int) := nI_toInt (by omega); have : (-1 : Int32).toInt = -1 := rfl; have := i_eq q; omega)) (fun _ => ?_)
        refine r_ic (x := 1) rfl rfl ?_
        refine r_goto (tg := 29) rfl rfl ?_
        refine r_istore (lv' := [some (.ref (ad 30)), some (.int c), some (.int 1)]) rfl (Nat.le_of_ble_eq_true rfl) rfl ?_
        refine r_aload rfl rfl ?_
        refine r_getA (b := ad 31) rfl ⟨rfl, rfl, rfl⟩ (fx_t30 fx) (fx_r30_0 fx) ?_
        refine r_iload rfl rfl ?_
        refine WR_tI (y := nI k2) ek2 ?_
        refine r_ic (x := (-1)) rfl rfl ?_
        refine r_iastore rfl (fx_t31 fx) (vp_ct (fx_n31 fx) (vp_in_nI (by have := i_eq ek2; have : (nI k2).toInt = ((k2 : Nat) : Int) := nI_toInt (by omega); have := i_rg c; have := i_nle c3; have : (24 : Int32).toInt = 24 := rfl; have := i_nlt c1; have : (0 : Int32).toInt = 0 := rfl; omega) (by omega))) ?_
        refine WR_h (h2 := sI (sR (sI h (ad 0) 6 0) (ad 1) k2 none) (ad 31) k2 (-1)) (congrArg (fun z => sI (sR (sI h (ad 0) 6 0) (ad 1) k2 none) (ad 31) z (-1)) ((nI_clamp (by have := i_eq ek2; have : (nI k2).toInt = ((k2 : Nat) : Int) := nI_toInt (by omega); have := i_rg c; have := i_nle c3; have : (24 : Int32).toInt = 24 := rfl; have := i_nlt c1; have : (0 : Int32).toInt = 0 := rfl; omega)) : _ = k2)) ?_
        refine r_aload rfl rfl ?_
        refine r_iload rfl rfl ?_
        refine r_if_eq (tg := 46) rfl rfl (fun q => absurd q (by decide)) (fun _ => ?_)
        refine r_ic (x := 1) rfl rfl ?_
        refine r_goto (tg := 47) rfl rfl ?_
        refine r_cv (y := 154) (ra := [.int 1]) (rest := []) rfl ⟨⟨rfl, rfl⟩, rfl, by decide⟩ (fx_t30 fx) rfl rfl (Nat.le_of_ble_eq_true rfl) ?_
        refine in_154 (Nat.le_of_ble_eq_true rfl) ?_
        show WR _ cd_154 0 [some (.ref (ad 30)), some (.int 1)] [] (sI (sR (sI h (ad 0) 6 0) (ad 1) k2 none) (ad 31) k2 (-1)) _
        refine r_aload rfl rfl ?_
        refine r_iload rfl rfl ?_
        refine r_ic (x := (-1)) rfl rfl ?_
        refine r_icmp_ge (tg := 10) rfl rfl (fun _ => ?_) (fun q => absurd q (by decide))
        refine r_ic (x := 0) rfl rfl ?_
        refine r_putI rfl ⟨rfl, rfl, rfl⟩ (fx_t30 fx) ?_
        refine r_iload rfl rfl ?_
        refine r_iret rfl ?_
        show WR _ cd_164 50 [some (.ref (ad 30)), some (.int c), some (.int 1)] [.int 1] (sI (sI (sR (sI h (ad 0) 6 0) (ad 1) k2 none) (ad 31) k2 (-1)) (ad 30) 11 0) _
        refine r_iret rfl ?_
        have cg : Chg n ad [(30, 11), (0, 6)] [31, 1] h (sI (sI (sR (sI h (ad 0) 6 0) (ad 1) k2 none) (ad 31) k2 (-1)) (ad 30) 11 0) := ((((Chg.rf.sI (fx_j fx0) (k := 6) (v := 0) (.inl (by decide))).sR (fx_j fx0) (k := k2) (v := none) (.inl (by decide))).row.sI (fx_j fx0) (k := k2) (v := (-1)) (.inl (by decide))).row.sI (fx_j fx0) (k := 11) (v := 0) (.inl (by decide)))
        refine ⟨rfl, ⟨mid, pa, np, FX.k fx0 cg.1 cg.2.1 cg.2.2 (by decide), Eq.trans (Eq.trans (I_ne (fx_ne fx (by decide))) (Eq.trans (I_ne (fx_ne fx (by decide))) (Eq.trans I_oR I_eq))) (Eq.symm I_eq), rt.k cg.2.1 (by decide), ra.k cg.2.1 (by decide), rp.k cg.2.1 (by decide), rf.k cg.2.1 (by decide), Rst.k fx0 rst cg.2.2, Ru.k fx0 ru cg.2.1 (by decide), ?_⟩, Nat.le_add_right _ _, Nat.le_add_right _ _⟩
        · refine Rs.cases rs (smS_of fx0 cg (by decide)) (fun c_ hc_ => ?_)
          by_cases e_ : c_ = k2
          · rw [e_]
            exact .inr (.inl ⟨(Eq.trans (I_ne (fx_ne fx (by decide))) I_eq), (Eq.trans R_oI (Eq.trans R_oI R_eq))⟩)
          · exact .inl ⟨c_, hc_, (Eq.trans (I_ne (fx_ne fx (by decide))) (Eq.trans (I_nk (by have := i_eq ek2; have : (nI k2).toInt = ((k2 : Nat) : Int) := nI_toInt (by omega); have := i_rg c; have := i_nle c3; have : (24 : Int32).toInt = 24 := rfl; have := i_nlt c1; have : (0 : Int32).toInt = 0 := rfl; omega)) (Eq.trans I_oR (I_ne (fx_ne fx (by decide)))))), (Eq.trans R_oI (Eq.trans R_oI (Eq.trans (R_nk (by have := i_eq ek2; have : (nI k2).toInt = ((k2 : Nat) : Int) := nI_toInt (by omega); have := i_rg c; have := i_nle c3; have : (24 : Int32).toInt = 24 := rfl; have := i_nlt c1; have : (0 : Int32).toInt = 0 := rfl; omega)) R_oI)))⟩
      · refine r_aaloadA (b := mid t4) rfl (isQ_of (fx_t1 fx) (by decide)) (vp_ct (fx_n1 fx) (vp_in_nI (by have := i_eq ek2; have : (nI k2).toInt = ((k2 : Nat) : Int) := nI_toInt (by omega); have := i_rg c; have := i_nle c3; have : (24 : Int32).toInt = 24 := rfl; have := i_nlt c1; have : (0 : Int32).toInt = 0 := rfl; omega) (by omega))) (Eq.trans (congrArg (hR (sI h (ad 0) 6 0) (ad 1)) ((nI_clamp (by have := i_eq ek2; have : (nI k2).toInt = ((k2 : Nat) : Int) := nI_toInt (by omega); have := i_rg c; have := i_nle c3; have : (24 : Int32).toInt = 24 := rfl; have := i_nlt c1; have : (0 : Int32).toInt = 0 := rfl; omega)) : _ = k2)) (Eq.trans R_oI w4)) ?_
        refine r_ifnonnullA (tg := 30) rfl rfl ?_
        refine r_aload rfl rfl ?_
        refine r_getA (b := ad 1) rfl ⟨rfl, rfl, rfl⟩ (fx_t0 fx) (fx_r0_0 fx) ?_
        refine r_iload rfl rfl ?_
        refine WR_tI (y := nI k2) ek2 ?_
        refine r_null rfl ?_
        refine r_aastore0 rfl (isQ_of (fx_t1 fx) (by decide)) (vp_ct (fx_n1 fx) (vp_in_nI (by have := i_eq ek2; have : (nI k2).toInt = ((k2 : Nat) : Int) := nI_toInt (by omega); have := i_rg c; have := i_nle c3; have : (24 : Int32).toInt = 24 := rfl; have := i_nlt c1; have : (0 : Int32).toInt = 0 := rfl; omega) (by omega))) (fun _ q => by cases q) ?_
        refine WR_h (h2 := sR (sI h (ad 0) 6 0) (ad 1) k2 none) (congrArg (fun z => sR (sI h (ad 0) 6 0) (ad 1) z none) ((nI_clamp (by have := i_eq ek2; have : (nI k2).toInt = ((k2 : Nat) : Int) := nI_toInt (by omega); have := i_rg c; have := i_nle c3; have : (24 : Int32).toInt = 24 := rfl; have := i_nlt c1; have : (0 : Int32).toInt = 0 := rfl; omega)) : _ = k2)) ?_
        have fx : FX n ad sa z0 (sR (sI h (ad 0) 6 0) (ad 1) k2 none) := FX.sRA (i := 1) fx (.inl (by decide)) (by decide)
        refine r_ic (x := 1) rfl rfl ?_
        refine r_iret rfl ?_
        show EV _ 164 [.ref (ad 30), .int c] (sR (sI h (ad 0) 6 0) (ad 1) k2 none) _
        refine in_164 (Nat.le_of_ble_eq_true rfl) ?_
        show WR _ cd_164 0 [some (.ref (ad 30)), some (.int c), none] [] (sR (sI h (ad 0) 6 0) (ad 1) k2 none) _
        refine r_iload rfl rfl ?_
        refine WR_tI (y := nI k2) ek2 ?_
        refine r_cs (y := 153) (ra := [.int (nI k2)]) (rest := []) rfl ⟨⟨rfl, rfl⟩, by decide⟩ rfl rfl (Nat.le_of_ble_eq_true rfl) ?_
        refine in_153 (Nat.le_of_ble_eq_true rfl) ?_
        show WR _ cd_153 0 [some (.int (nI k2))] [] (sR (sI h (ad 0) 6 0) (ad 1) k2 none) _
        refine r_iload rfl rfl ?_
        refine r_if_lt (tg := 14) rfl rfl (fun q => False.elim (by have : (nI k2).toInt = ((k2 : Nat) : Int) := nI_toInt (by omega); have : (0 : Int32).toInt = 0 := rfl; have := i_eq ek2; have := i_rg c; have := i_nle c3; have : (24 : Int32).toInt = 24 := rfl; have := i_nlt c1; have := i_lt q; omega)) (fun _ => ?_)
        refine r_iload rfl rfl ?_
        refine r_ic (x := 24) rfl rfl ?_
        refine r_icmp_ge (tg := 14) rfl rfl (fun q => False.elim (by have : (nI k2).toInt = ((k2 : Nat) : Int) := nI_toInt (by omega); have : (24 : Int32).toInt = 24 := rfl; have := i_eq ek2; have := i_rg c; have := i_nle c3; have := i_nlt c1; have : (0 : Int32).toInt = 0 := rfl; have := i_le q; omega)) (fun _ => ?_)
        refine r_ic (x := 1) rfl rfl ?_
        refine r_goto (tg := 15) rfl rfl ?_
        refine r_zret rfl (.inr rfl) ?_
        show WR _ cd_164 4 [some (.ref (ad 30)), some (.int c), none] [.int 1] (sR (sI h (ad 0) 6 0) (ad 1) k2 none) _
        refine r_if_ne (tg := 14) rfl rfl (fun _ => ?_) (fun q => absurd q (by decide))
        refine r_aload rfl rfl ?_
        refine r_getA (b := ad 31) rfl ⟨rfl, rfl, rfl⟩ (fx_t30 fx) (fx_r30_0 fx) ?_
        refine r_iload rfl rfl ?_
        refine WR_tI (y := nI k2) ek2 ?_
        refine r_iaload rfl (.inl (fx_t31 fx)) (vp_ct (fx_n31 fx) (vp_in_nI (by have := i_eq ek2; have : (nI k2).toInt = ((k2 : Nat) : Int) := nI_toInt (by omega); have := i_rg c; have := i_nle c3; have : (24 : Int32).toInt = 24 := rfl; have := i_nlt c1; have : (0 : Int32).toInt = 0 := rfl; omega) (by omega))) ?_
        refine WR_tI (congrArg (hI (sR (sI h (ad 0) 6 0) (ad 1) k2 none) (ad 31)) ((nI_clamp (by have := i_eq ek2; have : (nI k2).toInt = ((k2 : Nat) : Int) := nI_toInt (by omega); have := i_rg c; have := i_nle c3; have : (24 : Int32).toInt = 24 := rfl; have := i_nlt c1; have : (0 : Int32).toInt = 0 := rfl; omega)) : _ = k2)) ?_
        refine WR_tI (y := nI t4) (Eq.trans I_oR (Eq.trans (I_ne (fx_ne fx (by decide))) v4)) ?_
        refine r_ic (x := (-1)) rfl rfl ?_
        refine r_icmp_eq (tg := 28) rfl rfl (fun q => False.elim (by have : (nI t4).toInt = ((t4 : Nat) : Int) := nI_toInt (by omega); have : (-1 : Int32).toInt = -1 := rfl; have := i_eq q; omega)) (fun _ => ?_)
        refine r_ic (x := 1) rfl rfl ?_
        refine r_goto (tg := 29) rfl rfl ?_
        refine r_istore (lv' := [some (.ref (ad 30)), some (.int c), some (.int 1)]) rfl (Nat.le_of_ble_eq_true rfl) rfl ?_
        refine r_aload rfl rfl ?_
        refine r_getA (b := ad 31) rfl ⟨rfl, rfl, rfl⟩ (fx_t30 fx) (fx_r30_0 fx) ?_
        refine r_iload rfl rfl ?_
        refine WR_tI (y := nI k2) ek2 ?_
        refine r_ic (x := (-1)) rfl rfl ?_
        refine r_iastore rfl (fx_t31 fx) (vp_ct (fx_n31 fx) (vp_in_nI (by have := i_eq ek2; have : (nI k2).toInt = ((k2 : Nat) : Int) := nI_toInt (by omega); have := i_rg c; have := i_nle c3; have : (24 : Int32).toInt = 24 := rfl; have := i_nlt c1; have : (0 : Int32).toInt = 0 := rfl; omega) (by omega))) ?_
        refine WR_h (h2 := sI (sR (sI h (ad 0) 6 0) (ad 1) k2 none) (ad 31) k2 (-1)) (congrArg (fun z => sI (sR (sI h (ad 0) 6 0) (ad 1) k2 none) (ad 31) z (-1)) ((nI_clamp (by have := i_eq ek2; have : (nI k2).toInt = ((k2 : Nat) : Int) := nI_toInt (by omega); have := i_rg c; have := i_nle c3; have : (24 : Int32).toInt = 24 := rfl; have := i_nlt c1; have : (0 : Int32).toInt = 0 := rfl; omega)) : _ = k2)) ?_
        refine r_aload rfl rfl ?_
        refine r_iload rfl rfl ?_
        refine r_if_eq (tg := 46) rfl rfl (fun q => absurd q (by decide)) (fun _ => ?_)
        refine r_ic (x := 1) rfl rfl ?_
        refine r_goto (tg := 47) rfl rfl ?_
        refine r_cv (y := 154) (ra := [.int 1]) (rest := []) rfl ⟨⟨rfl, rfl⟩, rfl, by decide⟩ (fx_t30 fx) rfl rfl (Nat.le_of_ble_eq_true rfl) ?_
        refine in_154 (Nat.le_of_ble_eq_true rfl) ?_
        show WR _ cd_154 0 [some (.ref (ad 30)), some (.int 1)] [] (sI (sR (sI h (ad 0) 6 0) (ad 1) k2 none) (ad 31) k2 (-1)) _
        refine r_aload rfl rfl ?_
        refine r_iload rfl rfl ?_
        refine r_ic (x := (-1)) rfl rfl ?_
        refine r_icmp_ge (tg := 10) rfl rfl (fun _ => ?_) (fun q => absurd q (by decide))
        refine r_ic (x := 0) rfl rfl ?_
        refine r_putI rfl ⟨rfl, rfl, rfl⟩ (fx_t30 fx) ?_
        refine r_iload rfl rfl ?_
        refine r_iret rfl ?_
        show WR _ cd_164 50 [some (.ref (ad 30)), some (.int c), some (.int 1)] [.int 1] (sI (sI (sR (sI h (ad 0) 6 0) (ad 1) k2 none) (ad 31) k2 (-1)) (ad 30) 11 0) _
        refine r_iret rfl ?_
        have cg : Chg n ad [(30, 11), (0, 6)] [31, 1] h (sI (sI (sR (sI h (ad 0) 6 0) (ad 1) k2 none) (ad 31) k2 (-1)) (ad 30) 11 0) := ((((Chg.rf.sI (fx_j fx0) (k := 6) (v := 0) (.inl (by decide))).sR (fx_j fx0) (k := k2) (v := none) (.inl (by decide))).row.sI (fx_j fx0) (k := k2) (v := (-1)) (.inl (by decide))).row.sI (fx_j fx0) (k := 11) (v := 0) (.inl (by decide)))
        refine ⟨rfl, ⟨mid, pa, np, FX.k fx0 cg.1 cg.2.1 cg.2.2 (by decide), Eq.trans (Eq.trans (I_ne (fx_ne fx (by decide))) (Eq.trans (I_ne (fx_ne fx (by decide))) (Eq.trans I_oR I_eq))) (Eq.symm I_eq), rt.k cg.2.1 (by decide), ra.k cg.2.1 (by decide), rp.k cg.2.1 (by decide), rf.k cg.2.1 (by decide), Rst.k fx0 rst cg.2.2, Ru.k fx0 ru cg.2.1 (by decide), ?_⟩, Nat.le_add_right _ _, Nat.le_add_right _ _⟩
        · refine Rs.cases rs (smS_of fx0 cg (by decide)) (fun c_ hc_ => ?_)
          by_cases e_ : c_ = k2
          · rw [e_]
            exact .inr (.inl ⟨(Eq.trans (I_ne (fx_ne fx (by decide))) I_eq), (Eq.trans R_oI (Eq.trans R_oI R_eq))⟩)
          · exact .inl ⟨c_, hc_, (Eq.trans (I_ne (fx_ne fx (by decide))) (Eq.trans (I_nk (by have := i_eq ek2; have : (nI k2).toInt = ((k2 : Nat) : Int) := nI_toInt (by omega); have := i_rg c; have := i_nle c3; have : (24 : Int32).toInt = 24 := rfl; have := i_nlt c1; have : (0 : Int32).toInt = 0 := rfl; omega)) (Eq.trans I_oR (I_ne (fx_ne fx (by decide)))))), (Eq.trans R_oI (Eq.trans R_oI (Eq.trans (R_nk (by have := i_eq ek2; have : (nI k2).toInt = ((k2 : Nat) : Int) := nI_toInt (by omega); have := i_rg c; have := i_nle c3; have : (24 : Int32).toInt = 24 := rfl; have := i_nlt c1; have : (0 : Int32).toInt = 0 := rfl; omega)) R_oI)))⟩
      · refine r_aaloadA (b := mid t4) rfl (isQ_of (fx_t1 fx) (by decide)) (vp_ct (fx_n1 fx) (vp_in_nI (by have := i_eq ek2; have : (nI k2).toInt = ((k2 : Nat) : Int) := nI_toInt (by omega); have := i_rg c; have := i_nle c3; have : (24 : Int32).toInt = 24 := rfl; have := i_nlt c1; have : (0 : Int32).toInt = 0 := rfl; omega) (by omega))) (Eq.trans (congrArg (hR (sI h (ad 0) 6 0) (ad 1)) ((nI_clamp (by have := i_eq ek2; have : (nI k2).toInt = ((k2 : Nat) : Int) := nI_toInt (by omega); have := i_rg c; have := i_nle c3; have : (24 : Int32).toInt = 24 := rfl; have := i_nlt c1; have : (0 : Int32).toInt = 0 := rfl; omega)) : _ = k2)) (Eq.trans R_oI w4)) ?_
        refine r_ifnonnullA (tg := 30) rfl rfl ?_
        refine r_aload rfl rfl ?_
        refine r_getA (b := ad 1) rfl ⟨rfl, rfl, rfl⟩ (fx_t0 fx) (fx_r0_0 fx) ?_
        refine r_iload rfl rfl ?_
        refine WR_tI (y := nI k2) ek2 ?_
        refine r_null rfl ?_
        refine r_aastore0 rfl (isQ_of (fx_t1 fx) (by decide)) (vp_ct (fx_n1 fx) (vp_in_nI (by have := i_eq ek2; have : (nI k2).toInt = ((k2 : Nat) : Int) := nI_toInt (by omega); have := i_rg c; have := i_nle c3; have : (24 : Int32).toInt = 24 := rfl; have := i_nlt c1; have : (0 : Int32).toInt = 0 := rfl; omega) (by omega))) (fun _ q => by cases q) ?_
        refine WR_h (h2 := sR (sI h (ad 0) 6 0) (ad 1) k2 none) (congrArg (fun z => sR (sI h (ad 0) 6 0) (ad 1) z none) ((nI_clamp (by have := i_eq ek2; have : (nI k2).toInt = ((k2 : Nat) : Int) := nI_toInt (by omega); have := i_rg c; have := i_nle c3; have : (24 : Int32).toInt = 24 := rfl; have := i_nlt c1; have : (0 : Int32).toInt = 0 := rfl; omega)) : _ = k2)) ?_
        have fx : FX n ad sa z0 (sR (sI h (ad 0) 6 0) (ad 1) k2 none) := FX.sRA (i := 1) fx (.inl (by decide)) (by decide)
        refine r_ic (x := 1) rfl rfl ?_
        refine r_iret rfl ?_
        show EV _ 164 [.ref (ad 30), .int c] (sR (sI h (ad 0) 6 0) (ad 1) k2 none) _
        refine in_164 (Nat.le_of_ble_eq_true rfl) ?_
        show WR _ cd_164 0 [some (.ref (ad 30)), some (.int c), none] [] (sR (sI h (ad 0) 6 0) (ad 1) k2 none) _
        refine r_iload rfl rfl ?_
        refine WR_tI (y := nI k2) ek2 ?_
        refine r_cs (y := 153) (ra := [.int (nI k2)]) (rest := []) rfl ⟨⟨rfl, rfl⟩, by decide⟩ rfl rfl (Nat.le_of_ble_eq_true rfl) ?_
        refine in_153 (Nat.le_of_ble_eq_true rfl) ?_
        show WR _ cd_153 0 [some (.int (nI k2))] [] (sR (sI h (ad 0) 6 0) (ad 1) k2 none) _
        refine r_iload rfl rfl ?_
        refine r_if_lt (tg := 14) rfl rfl (fun q => False.elim (by have : (nI k2).toInt = ((k2 : Nat) : Int) := nI_toInt (by omega); have : (0 : Int32).toInt = 0 := rfl; have := i_eq ek2; have := i_rg c; have := i_nle c3; have : (24 : Int32).toInt = 24 := rfl; have := i_nlt c1; have := i_lt q; omega)) (fun _ => ?_)
        refine r_iload rfl rfl ?_
        refine r_ic (x := 24) rfl rfl ?_
        refine r_icmp_ge (tg := 14) rfl rfl (fun q => False.elim (by have : (nI k2).toInt = ((k2 : Nat) : Int) := nI_toInt (by omega); have : (24 : Int32).toInt = 24 := rfl; have := i_eq ek2; have := i_rg c; have := i_nle c3; have := i_nlt c1; have : (0 : Int32).toInt = 0 := rfl; have := i_le q; omega)) (fun _ => ?_)
        refine r_ic (x := 1) rfl rfl ?_
        refine r_goto (tg := 15) rfl rfl ?_
        refine r_zret rfl (.inr rfl) ?_
        show WR _ cd_164 4 [some (.ref (ad 30)), some (.int c), none] [.int 1] (sR (sI h (ad 0) 6 0) (ad 1) k2 none) _
        refine r_if_ne (tg := 14) rfl rfl (fun _ => ?_) (fun q => absurd q (by decide))
        refine r_aload rfl rfl ?_
        refine r_getA (b := ad 31) rfl ⟨rfl, rfl, rfl⟩ (fx_t30 fx) (fx_r30_0 fx) ?_
        refine r_iload rfl rfl ?_
        refine WR_tI (y := nI k2) ek2 ?_
        refine r_iaload rfl (.inl (fx_t31 fx)) (vp_ct (fx_n31 fx) (vp_in_nI (by have := i_eq ek2; have : (nI k2).toInt = ((k2 : Nat) : Int) := nI_toInt (by omega); have := i_rg c; have := i_nle c3; have : (24 : Int32).toInt = 24 := rfl; have := i_nlt c1; have : (0 : Int32).toInt = 0 := rfl; omega) (by omega))) ?_
        refine WR_tI (congrArg (hI (sR (sI h (ad 0) 6 0) (ad 1) k2 none) (ad 31)) ((nI_clamp (by have := i_eq ek2; have : (nI k2).toInt = ((k2 : Nat) : Int) := nI_toInt (by omega); have := i_rg c; have := i_nle c3; have : (24 : Int32).toInt = 24 := rfl; have := i_nlt c1; have : (0 : Int32).toInt = 0 := rfl; omega)) : _ = k2)) ?_
        refine WR_tI (y := nI t4) (Eq.trans I_oR (Eq.trans (I_ne (fx_ne fx (by decide))) v4)) ?_
        refine r_ic (x := (-1)) rfl rfl ?_
        refine r_icmp_eq (tg := 28) rfl rfl (fun q => False.elim (by have : (nI t4).toInt = ((t4 : Nat) : Int) := nI_toInt (by omega); have : (-1 : Int32).toInt = -1 := rfl; have := i_eq q; omega)) (fun _ => ?_)
        refine r_ic (x := 1) rfl rfl ?_
        refine r_goto (tg := 29) rfl rfl ?_
        refine r_istore (lv' := [some (.ref (ad 30)), some (.int c), some (.int 1)]) rfl (Nat.le_of_ble_eq_true rfl) rfl ?_
        refine r_aload rfl rfl ?_
        refine r_getA (b := ad 31) rfl ⟨rfl, rfl, rfl⟩ (fx_t30 fx) (fx_r30_0 fx) ?_
        refine r_iload rfl rfl ?_
        refine WR_tI (y := nI k2) ek2 ?_
        refine r_ic (x := (-1)) rfl rfl ?_
        refine r_iastore rfl (fx_t31 fx) (vp_ct (fx_n31 fx) (vp_in_nI (by have := i_eq ek2; have : (nI k2).toInt = ((k2 : Nat) : Int) := nI_toInt (by omega); have := i_rg c; have := i_nle c3; have : (24 : Int32).toInt = 24 := rfl; have := i_nlt c1; have : (0 : Int32).toInt = 0 := rfl; omega) (by omega))) ?_
        refine WR_h (h2 := sI (sR (sI h (ad 0) 6 0) (ad 1) k2 none) (ad 31) k2 (-1)) (congrArg (fun z => sI (sR (sI h (ad 0) 6 0) (ad 1) k2 none) (ad 31) z (-1)) ((nI_clamp (by have := i_eq ek2; have : (nI k2).toInt = ((k2 : Nat) : Int) := nI_toInt (by omega); have := i_rg c; have := i_nle c3; have : (24 : Int32).toInt = 24 := rfl; have := i_nlt c1; have : (0 : Int32).toInt = 0 := rfl; omega)) : _ = k2)) ?_
        refine r_aload rfl rfl ?_
        refine r_iload rfl rfl ?_
        refine r_if_eq (tg := 46) rfl rfl (fun q => absurd q (by decide)) (fun _ => ?_)
        refine r_ic (x := 1) rfl rfl ?_
        refine r_goto (tg := 47) rfl rfl ?_
        refine r_cv (y := 154) (ra := [.int 1]) (rest := []) rfl ⟨⟨rfl, rfl⟩, rfl, by decide⟩ (fx_t30 fx) rfl rfl (Nat.le_of_ble_eq_true rfl) ?_
        refine in_154 (Nat.le_of_ble_eq_true rfl) ?_
        show WR _ cd_154 0 [some (.ref (ad 30)), some (.int 1)] [] (sI (sR (sI h (ad 0) 6 0) (ad 1) k2 none) (ad 31) k2 (-1)) _
        refine r_aload rfl rfl ?_
        refine r_iload rfl rfl ?_
        refine r_ic (x := (-1)) rfl rfl ?_
        refine r_icmp_ge (tg := 10) rfl rfl (fun _ => ?_) (fun q => absurd q (by decide))
        refine r_ic (x := 0) rfl rfl ?_
        refine r_putI rfl ⟨rfl, rfl, rfl⟩ (fx_t30 fx) ?_
        refine r_iload rfl rfl ?_
        refine r_iret rfl ?_
        show WR _ cd_164 50 [some (.ref (ad 30)), some (.int c), some (.int 1)] [.int 1] (sI (sI (sR (sI h (ad 0) 6 0) (ad 1) k2 none) (ad 31) k2 (-1)) (ad 30) 11 0) _
        refine r_iret rfl ?_
        have cg : Chg n ad [(30, 11), (0, 6)] [31, 1] h (sI (sI (sR (sI h (ad 0) 6 0) (ad 1) k2 none) (ad 31) k2 (-1)) (ad 30) 11 0) := ((((Chg.rf.sI (fx_j fx0) (k := 6) (v := 0) (.inl (by decide))).sR (fx_j fx0) (k := k2) (v := none) (.inl (by decide))).row.sI (fx_j fx0) (k := k2) (v := (-1)) (.inl (by decide))).row.sI (fx_j fx0) (k := 11) (v := 0) (.inl (by decide)))
        refine ⟨rfl, ⟨mid, pa, np, FX.k fx0 cg.1 cg.2.1 cg.2.2 (by decide), Eq.trans (Eq.trans (I_ne (fx_ne fx (by decide))) (Eq.trans (I_ne (fx_ne fx (by decide))) (Eq.trans I_oR I_eq))) (Eq.symm I_eq), rt.k cg.2.1 (by decide), ra.k cg.2.1 (by decide), rp.k cg.2.1 (by decide), rf.k cg.2.1 (by decide), Rst.k fx0 rst cg.2.2, Ru.k fx0 ru cg.2.1 (by decide), ?_⟩, Nat.le_add_right _ _, Nat.le_add_right _ _⟩
        · refine Rs.cases rs (smS_of fx0 cg (by decide)) (fun c_ hc_ => ?_)
          by_cases e_ : c_ = k2
          · rw [e_]
            exact .inr (.inl ⟨(Eq.trans (I_ne (fx_ne fx (by decide))) I_eq), (Eq.trans R_oI (Eq.trans R_oI R_eq))⟩)
          · exact .inl ⟨c_, hc_, (Eq.trans (I_ne (fx_ne fx (by decide))) (Eq.trans (I_nk (by have := i_eq ek2; have : (nI k2).toInt = ((k2 : Nat) : Int) := nI_toInt (by omega); have := i_rg c; have := i_nle c3; have : (24 : Int32).toInt = 24 := rfl; have := i_nlt c1; have : (0 : Int32).toInt = 0 := rfl; omega)) (Eq.trans I_oR (I_ne (fx_ne fx (by decide)))))), (Eq.trans R_oI (Eq.trans R_oI (Eq.trans (R_nk (by have := i_eq ek2; have : (nI k2).toInt = ((k2 : Nat) : Int) := nI_toInt (by omega); have := i_rg c; have := i_nle c3; have : (24 : Int32).toInt = 24 := rfl; have := i_nlt c1; have : (0 : Int32).toInt = 0 := rfl; omega)) R_oI)))⟩
      · refine r_aaloadA (b := mid t4) rfl (isQ_of (fx_t1 fx) (by decide)) (vp_ct (fx_n1 fx) (vp_in_nI (by have := i_eq ek2; have : (nI k2).toInt = ((k2 : Nat) : Int) := nI_toInt (by omega); have := i_rg c; have := i_nle c3; have : (24 : Int32).toInt = 24 := rfl; have := i_nlt c1; have : (0 : Int32).toInt = 0 := rfl; omega) (by omega))) (Eq.trans (congrArg (hR (sI h (ad 0) 6 0) (ad 1)) ((nI_clamp (by have := i_eq ek2; have : (nI k2).toInt = ((k2 : Nat) : Int) := nI_toInt (by omega); have := i_rg c; have := i_nle c3; have : (24 : Int32).toInt = 24 := rfl; have := i_nlt c1; have : (0 : Int32).toInt = 0 := rfl; omega)) : _ = k2)) (Eq.trans R_oI w4)) ?_
        refine r_ifnonnullA (tg := 30) rfl rfl ?_
        refine r_aload rfl rfl ?_
        refine r_getA (b := ad 1) rfl ⟨rfl, rfl, rfl⟩ (fx_t0 fx) (fx_r0_0 fx) ?_
        refine r_iload rfl rfl ?_
        refine WR_tI (y := nI k2) ek2 ?_
        refine r_null rfl ?_
        refine r_aastore0 rfl (isQ_of (fx_t1 fx) (by decide)) (vp_ct (fx_n1 fx) (vp_in_nI (by have := i_eq ek2; have : (nI k2).toInt = ((k2 : Nat) : Int) := nI_toInt (by omega); have := i_rg c; have := i_nle c3; have : (24 : Int32).toInt = 24 := rfl; have := i_nlt c1; have : (0 : Int32).toInt = 0 := rfl; omega) (by omega))) (fun _ q => by cases q) ?_
        refine WR_h (h2 := sR (sI h (ad 0) 6 0) (ad 1) k2 none) (congrArg (fun z => sR (sI h (ad 0) 6 0) (ad 1) z none) ((nI_clamp (by have := i_eq ek2; have : (nI k2).toInt = ((k2 : Nat) : Int) := nI_toInt (by omega); have := i_rg c; have := i_nle c3; have : (24 : Int32).toInt = 24 := rfl; have := i_nlt c1; have : (0 : Int32).toInt = 0 := rfl; omega)) : _ = k2)) ?_
        have fx : FX n ad sa z0 (sR (sI h (ad 0) 6 0) (ad 1) k2 none) := FX.sRA (i := 1) fx (.inl (by decide)) (by decide)
        refine r_ic (x := 1) rfl rfl ?_
        refine r_iret rfl ?_
        show EV _ 164 [.ref (ad 30), .int c] (sR (sI h (ad 0) 6 0) (ad 1) k2 none) _
        refine in_164 (Nat.le_of_ble_eq_true rfl) ?_
        show WR _ cd_164 0 [some (.ref (ad 30)), some (.int c), none] [] (sR (sI h (ad 0) 6 0) (ad 1) k2 none) _
        refine r_iload rfl rfl ?_
        refine WR_tI (y := nI k2) ek2 ?_
        refine r_cs (y := 153) (ra := [.int (nI k2)]) (rest := []) rfl ⟨⟨rfl, rfl⟩, by decide⟩ rfl rfl (Nat.le_of_ble_eq_true rfl) ?_
        refine in_153 (Nat.le_of_ble_eq_true rfl) ?_
        show WR _ cd_153 0 [some (.int (nI k2))] [] (sR (sI h (ad 0) 6 0) (ad 1) k2 none) _
        refine r_iload rfl rfl ?_
        refine r_if_lt (tg := 14) rfl rfl (fun q => False.elim (by have : (nI k2).toInt = ((k2 : Nat) : Int) := nI_toInt (by omega); have : (0 : Int32).toInt = 0 := rfl; have := i_eq ek2; have := i_rg c; have := i_nle c3; have : (24 : Int32).toInt = 24 := rfl; have := i_nlt c1; have := i_lt q; omega)) (fun _ => ?_)
        refine r_iload rfl rfl ?_
        refine r_ic (x := 24) rfl rfl ?_
        refine r_icmp_ge (tg := 14) rfl rfl (fun q => False.elim (by have : (nI k2).toInt = ((k2 : Nat) : Int) := nI_toInt (by omega); have : (24 : Int32).toInt = 24 := rfl; have := i_eq ek2; have := i_rg c; have := i_nle c3; have := i_nlt c1; have : (0 : Int32).toInt = 0 := rfl; have := i_le q; omega)) (fun _ => ?_)
        refine r_ic (x := 1) rfl rfl ?_
        refine r_goto (tg := 15) rfl rfl ?_
        refine r_zret rfl (.inr rfl) ?_
        show WR _ cd_164 4 [some (.ref (ad 30)), some (.int c), none] [.int 1] (sR (sI h (ad 0) 6 0) (ad 1) k2 none) _
        refine r_if_ne (tg := 14) rfl rfl (fun _ => ?_) (fun q => absurd q (by decide))
        refine r_aload rfl rfl ?_
        refine r_getA (b := ad 31) rfl ⟨rfl, rfl, rfl⟩ (fx_t30 fx) (fx_r30_0 fx) ?_
        refine r_iload rfl rfl ?_
        refine WR_tI (y := nI k2) ek2 ?_
        refine r_iaload rfl (.inl (fx_t31 fx)) (vp_ct (fx_n31 fx) (vp_in_nI (by have := i_eq ek2; have : (nI k2).toInt = ((k2 : Nat) : Int) := nI_toInt (by omega); have := i_rg c; have := i_nle c3; have : (24 : Int32).toInt = 24 := rfl; have := i_nlt c1; have : (0 : Int32).toInt = 0 := rfl; omega) (by omega))) ?_
        refine WR_tI (congrArg (hI (sR (sI h (ad 0) 6 0) (ad 1) k2 none) (ad 31)) ((nI_clamp (by have := i_eq ek2; have : (nI k2).toInt = ((k2 : Nat) : Int) := nI_toInt (by omega); have := i_rg c; have := i_nle c3; have : (24 : Int32).toInt = 24 := rfl; have := i_nlt c1; have : (0 : Int32).toInt = 0 := rfl; omega)) : _ = k2)) ?_
        refine WR_tI (y := nI t4) (Eq.trans I_oR (Eq.trans (I_ne (fx_ne fx (by decide))) v4)) ?_
        refine r_ic (x := (-1)) rfl rfl ?_
        refine r_icmp_eq (tg := 28) rfl rfl (fun q => False.elim (by have : (nI t4).toInt = ((t4 : Nat) : Int) := nI_toInt (by omega); have : (-1 : Int32).toInt = -1 := rfl; have := i_eq q; omega)) (fun _ => ?_)
        refine r_ic (x := 1) rfl rfl ?_
        refine r_goto (tg := 29) rfl rfl ?_
        refine r_istore (lv' := [some (.ref (ad 30)), some (.int c), some (.int 1)]) rfl (Nat.le_of_ble_eq_true rfl) rfl ?_
        refine r_aload rfl rfl ?_
        refine r_getA (b := ad 31) rfl ⟨rfl, rfl, rfl⟩ (fx_t30 fx) (fx_r30_0 fx) ?_
        refine r_iload rfl rfl ?_
        refine WR_tI (y := nI k2) ek2 ?_
        refine r_ic (x := (-1)) rfl rfl ?_
        refine r_iastore rfl (fx_t31 fx) (vp_ct (fx_n31 fx) (vp_in_nI (by have := i_eq ek2; have : (nI k2).toInt = ((k2 : Nat) : Int) := nI_toInt (by omega); have := i_rg c; have := i_nle c3; have : (24 : Int32).toInt = 24 := rfl; have := i_nlt c1; have : (0 : Int32).toInt = 0 := rfl; omega) (by omega))) ?_
        refine WR_h (h2 := sI (sR (sI h (ad 0) 6 0) (ad 1) k2 none) (ad 31) k2 (-1)) (congrArg (fun z => sI (sR (sI h (ad 0) 6 0) (ad 1) k2 none) (ad 31) z (-1)) ((nI_clamp (by have := i_eq ek2; have : (nI k2).toInt = ((k2 : Nat) : Int) := nI_toInt (by omega); have := i_rg c; have := i_nle c3; have : (24 : Int32).toInt = 24 := rfl; have := i_nlt c1; have : (0 : Int32).toInt = 0 := rfl; omega)) : _ = k2)) ?_
        refine r_aload rfl rfl ?_
        refine r_iload rfl rfl ?_
        refine r_if_eq (tg := 46) rfl rfl (fun q => absurd q (by decide)) (fun _ => ?_)
        refine r_ic (x := 1) rfl rfl ?_
        refine r_goto (tg := 47) rfl rfl ?_
        refine r_cv (y := 154) (ra := [.int 1]) (rest := []) rfl ⟨⟨rfl, rfl⟩, rfl, by decide⟩ (fx_t30 fx) rfl rfl (Nat.le_of_ble_eq_true rfl) ?_
        refine in_154 (Nat.le_of_ble_eq_true rfl) ?_
        show WR _ cd_154 0 [some (.ref (ad 30)), some (.int 1)] [] (sI (sR (sI h (ad 0) 6 0) (ad 1) k2 none) (ad 31) k2 (-1)) _
        refine r_aload rfl rfl ?_
        refine r_iload rfl rfl ?_
        refine r_ic (x := (-1)) rfl rfl ?_
        refine r_icmp_ge (tg := 10) rfl rfl (fun _ => ?_) (fun q => absurd q (by decide))
        refine r_ic (x := 0) rfl rfl ?_
        refine r_putI rfl ⟨rfl, rfl, rfl⟩ (fx_t30 fx) ?_
        refine r_iload rfl rfl ?_
        refine r_iret rfl ?_
        show WR _ cd_164 50 [some (.ref (ad 30)), some (.int c), some (.int 1)] [.int 1] (sI (sI (sR (sI h (ad 0) 6 0) (ad 1) k2 none) (ad 31) k2 (-1)) (ad 30) 11 0) _
        refine r_iret rfl ?_
        have cg : Chg n ad [(30, 11), (0, 6)] [31, 1] h (sI (sI (sR (sI h (ad 0) 6 0) (ad 1) k2 none) (ad 31) k2 (-1)) (ad 30) 11 0) := ((((Chg.rf.sI (fx_j fx0) (k := 6) (v := 0) (.inl (by decide))).sR (fx_j fx0) (k := k2) (v := none) (.inl (by decide))).row.sI (fx_j fx0) (k := k2) (v := (-1)) (.inl (by decide))).row.sI (fx_j fx0) (k := 11) (v := 0) (.inl (by decide)))
        refine ⟨rfl, ⟨mid, pa, np, FX.k fx0 cg.1 cg.2.1 cg.2.2 (by decide), Eq.trans (Eq.trans (I_ne (fx_ne fx (by decide))) (Eq.trans (I_ne (fx_ne fx (by decide))) (Eq.trans I_oR I_eq))) (Eq.symm I_eq), rt.k cg.2.1 (by decide), ra.k cg.2.1 (by decide), rp.k cg.2.1 (by decide), rf.k cg.2.1 (by decide), Rst.k fx0 rst cg.2.2, Ru.k fx0 ru cg.2.1 (by decide), ?_⟩, Nat.le_add_right _ _, Nat.le_add_right _ _⟩
        · refine Rs.cases rs (smS_of fx0 cg (by decide)) (fun c_ hc_ => ?_)
          by_cases e_ : c_ = k2
          · rw [e_]
            exact .inr (.inl ⟨(Eq.trans (I_ne (fx_ne fx (by decide))) I_eq), (Eq.trans R_oI (Eq.trans R_oI R_eq))⟩)
          · exact .inl ⟨c_, hc_, (Eq.trans (I_ne (fx_ne fx (by decide))) (Eq.trans (I_nk (by have := i_eq ek2; have : (nI k2).toInt = ((k2 : Nat) : Int) := nI_toInt (by omega); have := i_rg c; have := i_nle c3; have : (24 : Int32).toInt = 24 := rfl; have := i_nlt c1; have : (0 : Int32).toInt = 0 := rfl; omega)) (Eq.trans I_oR (I_ne (fx_ne fx (by decide)))))), (Eq.trans R_oI (Eq.trans R_oI (Eq.trans (R_nk (by have := i_eq ek2; have : (nI k2).toInt = ((k2 : Nat) : Int) := nI_toInt (by omega); have := i_rg c; have := i_nle c3; have : (24 : Int32).toInt = 24 := rfl; have := i_nlt c1; have : (0 : Int32).toInt = 0 := rfl; omega)) R_oI)))⟩

set_option maxHeartbeats 2000000 in
theorem k_set {n : Nat} {ad sa : Nat → Nat} {z0 : Nat} {h : mH} (r : Rel n ad sa z0 h) (c : Int32) (d : Int32) : AP n ad sa z0 h 23 163 [.int c, .int d] := by
  obtain ⟨mid, pa, np, fx, ry, rt, ra, rp, rf, rst, ru, rs⟩ := id r
  have fx0 := fx
  unfold AP
  refine in_23 (Nat.le_of_ble_eq_true rfl) ?_
  show WR _ cd_23 0 [some (.ref (ad 0)), some (.int c), some (.int d)] [] h _
  refine r_aload rfl rfl ?_
  refine r_ic (x := 0) rfl rfl ?_
  refine r_putI rfl ⟨rfl, rfl, rfl⟩ (fx_t0 fx) ?_
  refine r_iload rfl rfl ?_
  refine r_cs (y := 12) (ra := [.int c]) (rest := []) rfl ⟨⟨rfl, rfl⟩, by decide⟩ rfl rfl (Nat.le_of_ble_eq_true rfl) ?_
  refine in_12 (Nat.le_of_ble_eq_true rfl) ?_
  show WR _ cd_12 0 [some (.int c)] [] (sI h (ad 0) 6 0) _
  refine r_iload rfl rfl ?_
  refine r_if_lt (tg := 14) rfl rfl (fun c1 => ?_) (fun c1 => ?_)
  · refine r_ic (x := 0) rfl rfl ?_
    refine r_zret rfl (.inl rfl) ?_
    show WR _ cd_23 9 [some (.ref (ad 0)), some (.int c), some (.int d)] [.int 0] (sI h (ad 0) 6 0) _
    refine r_if_eq (tg := 19) rfl rfl (fun _ => ?_) (fun q => absurd q (by decide))
    refine r_aload rfl rfl ?_
    refine r_ic (x := (-2)) rfl rfl ?_
    refine r_cv (y := 13) (ra := [.int (-2)]) (rest := []) rfl ⟨⟨rfl, rfl⟩, rfl, by decide⟩ (fx_t0 fx) rfl rfl (Nat.le_of_ble_eq_true rfl) ?_
    refine in_13 (Nat.le_of_ble_eq_true rfl) ?_
    show WR _ cd_13 0 [some (.ref (ad 0)), some (.int (-2))] [] (sI h (ad 0) 6 0) _
    refine r_aload rfl rfl ?_
    refine r_iload rfl rfl ?_
    refine r_putI rfl ⟨rfl, rfl, rfl⟩ (fx_t0 fx) ?_
    refine r_iload rfl rfl ?_
    refine r_iret rfl ?_
    show WR _ cd_23 25 [some (.ref (ad 0)), some (.int c), some (.int d)] [.int (-2)] (sI (sI h (ad 0) 6 0) (ad 0) 6 (-2)) _
    refine r_iret rfl ?_
    show EV _ 163 [.ref (ad 30), .int c, .int d] (sI (sI h (ad 0) 6 0) (ad 0) 6 (-2)) _
    refine in_163 (Nat.le_of_ble_eq_true rfl) ?_
    show WR _ cd_163 0 [some (.ref (ad 30)), some (.int c), some (.int d), none] [] (sI (sI h (ad 0) 6 0) (ad 0) 6 (-2)) _
    refine r_iload rfl rfl ?_
    refine r_cs (y := 153) (ra := [.int c]) (rest := []) rfl ⟨⟨rfl, rfl⟩, by decide⟩ rfl rfl (Nat.le_of_ble_eq_true rfl) ?_
    refine in_153 (Nat.le_of_ble_eq_true rfl) ?_
    show WR _ cd_153 0 [some (.int c)] [] (sI (sI h (ad 0) 6 0) (ad 0) 6 (-2)) _
    refine r_iload rfl rfl ?_
    refine r_if_lt (tg := 14) rfl rfl (fun _ => ?_) (fun q => False.elim (by have := i_rg c; have : (0 : Int32).toInt = 0 := rfl; have := i_lt c1; have := i_nlt q; omega))
    refine r_ic (x := 0) rfl rfl ?_
    refine r_zret rfl (.inl rfl) ?_
    show WR _ cd_163 4 [some (.ref (ad 30)), some (.int c), some (.int d), none] [.int 0] (sI (sI h (ad 0) 6 0) (ad 0) 6 (-2)) _
    refine r_if_eq (tg := 14) rfl rfl (fun _ => ?_) (fun q => absurd q (by decide))
    refine r_aload rfl rfl ?_
    refine r_ic (x := (-2)) rfl rfl ?_
    refine r_cv (y := 154) (ra := [.int (-2)]) (rest := []) rfl ⟨⟨rfl, rfl⟩, rfl, by decide⟩ (fx_t30 fx) rfl rfl (Nat.le_of_ble_eq_true rfl) ?_
    refine in_154 (Nat.le_of_ble_eq_true rfl) ?_
    show WR _ cd_154 0 [some (.ref (ad 30)), some (.int (-2))] [] (sI (sI h (ad 0) 6 0) (ad 0) 6 (-2)) _
    refine r_aload rfl rfl ?_
    refine r_iload rfl rfl ?_
    refine r_ic (x := (-1)) rfl rfl ?_
    refine r_icmp_ge (tg := 10) rfl rfl (fun q => absurd q (by decide)) (fun _ => ?_)
    refine r_iload rfl rfl ?_
    refine r_goto (tg := 11) rfl rfl ?_
    refine r_putI rfl ⟨rfl, rfl, rfl⟩ (fx_t30 fx) ?_
    refine r_iload rfl rfl ?_
    refine r_iret rfl ?_
    show WR _ cd_163 20 [some (.ref (ad 30)), some (.int c), some (.int d), none] [.int (-2)] (sI (sI (sI h (ad 0) 6 0) (ad 0) 6 (-2)) (ad 30) 11 (-2)) _
    refine r_iret rfl ?_
    exact ⟨rfl, Rel.why r (((Chg.rf.sI (fx_j fx) (.inl (by decide))).sI (fx_j fx) (.inl (by decide))).sI (fx_j fx) (.inl (by decide))) ⟨rfl, by decide⟩ (Eq.trans (Eq.trans (I_ne (fx_ne fx (by decide))) I_eq) (Eq.symm I_eq)), Nat.le_add_right _ _, Nat.le_add_right _ _⟩
  · obtain ⟨k2, hk2, ek2⟩ := ix_of (x := c) (n := 2147483648) (by have := i_rg c; have := i_nlt c1; have : (0 : Int32).toInt = 0 := rfl; omega) (by have := i_rg c; have := i_nlt c1; have : (0 : Int32).toInt = 0 := rfl; omega)
    refine r_iload rfl rfl ?_
    refine WR_tI (y := nI k2) ek2 ?_
    refine r_ic (x := 24) rfl rfl ?_
    refine r_icmp_ge (tg := 14) rfl rfl (fun c3 => ?_) (fun c3 => ?_)
    · refine r_ic (x := 0) rfl rfl ?_
      refine r_zret rfl (.inl rfl) ?_
      show WR _ cd_23 9 [some (.ref (ad 0)), some (.int c), some (.int d)] [.int 0] (sI h (ad 0) 6 0) _
      refine r_if_eq (tg := 19) rfl rfl (fun _ => ?_) (fun q => absurd q (by decide))
      refine r_aload rfl rfl ?_
      refine r_ic (x := (-2)) rfl rfl ?_
      refine r_cv (y := 13) (ra := [.int (-2)]) (rest := []) rfl ⟨⟨rfl, rfl⟩, rfl, by decide⟩ (fx_t0 fx) rfl rfl (Nat.le_of_ble_eq_true rfl) ?_
      refine in_13 (Nat.le_of_ble_eq_true rfl) ?_
      show WR _ cd_13 0 [some (.ref (ad 0)), some (.int (-2))] [] (sI h (ad 0) 6 0) _
      refine r_aload rfl rfl ?_
      refine r_iload rfl rfl ?_
      refine r_putI rfl ⟨rfl, rfl, rfl⟩ (fx_t0 fx) ?_
      refine r_iload rfl rfl ?_
      refine r_iret rfl ?_
      show WR _ cd_23 25 [some (.ref (ad 0)), some (.int c), some (.int d)] [.int (-2)] (sI (sI h (ad 0) 6 0) (ad 0) 6 (-2)) _
      refine r_iret rfl ?_
      show EV _ 163 [.ref (ad 30), .int c, .int d] (sI (sI h (ad 0) 6 0) (ad 0) 6 (-2)) _
      refine in_163 (Nat.le_of_ble_eq_true rfl) ?_
      show WR _ cd_163 0 [some (.ref (ad 30)), some (.int c), some (.int d), none] [] (sI (sI h (ad 0) 6 0) (ad 0) 6 (-2)) _
      refine r_iload rfl rfl ?_
      refine WR_tI (y := nI k2) ek2 ?_
      refine r_cs (y := 153) (ra := [.int (nI k2)]) (rest := []) rfl ⟨⟨rfl, rfl⟩, by decide⟩ rfl rfl (Nat.le_of_ble_eq_true rfl) ?_
      refine in_153 (Nat.le_of_ble_eq_true rfl) ?_
      show WR _ cd_153 0 [some (.int (nI k2))] [] (sI (sI h (ad 0) 6 0) (ad 0) 6 (-2)) _
      refine r_iload rfl rfl ?_
      refine r_if_lt (tg := 14) rfl rfl (fun q => False.elim (by have : (nI k2).toInt = ((k2 : Nat) : Int) := nI_toInt (by omega); have : (0 : Int32).toInt = 0 := rfl; have := i_eq ek2; have := i_rg c; have := i_le c3; have : (24 : Int32).toInt = 24 := rfl; have := i_nlt c1; have := i_lt q; omega)) (fun _ => ?_)
      refine r_iload rfl rfl ?_
      refine r_ic (x := 24) rfl rfl ?_
      refine r_icmp_ge (tg := 14) rfl rfl (fun _ => ?_) (fun q => False.elim (by have : (nI k2).toInt = ((k2 : Nat) : Int) := nI_toInt (by omega); have : (24 : Int32).toInt = 24 := rfl; have := i_eq ek2; have := i_rg c; have := i_le c3; have := i_nlt c1; have : (0 : Int32).toInt = 0 := rfl; have := i_nle q; omega))
      refine r_ic (x := 0) rfl rfl ?_
      refine r_zret rfl (.inl rfl) ?_
      show WR _ cd_163 4 [some (.ref (ad 30)), some (.int c), some (.int d), none] [.int 0] (sI (sI h (ad 0) 6 0) (ad 0) 6 (-2)) _
      refine r_if_eq (tg := 14) rfl rfl (fun _ => ?_) (fun q => absurd q (by decide))
      refine r_aload rfl rfl ?_
      refine r_ic (x := (-2)) rfl rfl ?_
      refine r_cv (y := 154) (ra := [.int (-2)]) (rest := []) rfl ⟨⟨rfl, rfl⟩, rfl, by decide⟩ (fx_t30 fx) rfl rfl (Nat.le_of_ble_eq_true rfl) ?_
      refine in_154 (Nat.le_of_ble_eq_true rfl) ?_
      show WR _ cd_154 0 [some (.ref (ad 30)), some (.int (-2))] [] (sI (sI h (ad 0) 6 0) (ad 0) 6 (-2)) _
      refine r_aload rfl rfl ?_
      refine r_iload rfl rfl ?_
      refine r_ic (x := (-1)) rfl rfl ?_
      refine r_icmp_ge (tg := 10) rfl rfl (fun q => absurd q (by decide)) (fun _ => ?_)
      refine r_iload rfl rfl ?_
      refine r_goto (tg := 11) rfl rfl ?_
      refine r_putI rfl ⟨rfl, rfl, rfl⟩ (fx_t30 fx) ?_
      refine r_iload rfl rfl ?_
      refine r_iret rfl ?_
      show WR _ cd_163 20 [some (.ref (ad 30)), some (.int c), some (.int d), none] [.int (-2)] (sI (sI (sI h (ad 0) 6 0) (ad 0) 6 (-2)) (ad 30) 11 (-2)) _
      refine r_iret rfl ?_
      exact ⟨rfl, Rel.why r (((Chg.rf.sI (fx_j fx) (.inl (by decide))).sI (fx_j fx) (.inl (by decide))).sI (fx_j fx) (.inl (by decide))) ⟨rfl, by decide⟩ (Eq.trans (Eq.trans (I_ne (fx_ne fx (by decide))) I_eq) (Eq.symm I_eq)), Nat.le_add_right _ _, Nat.le_add_right _ _⟩
    · refine r_ic (x := 1) rfl rfl ?_
      refine r_goto (tg := 15) rfl rfl ?_
      refine r_zret rfl (.inr rfl) ?_
      show WR _ cd_23 9 [some (.ref (ad 0)), some (.int c), some (.int d)] [.int 1] (sI h (ad 0) 6 0) _
      refine r_if_eq (tg := 19) rfl rfl (fun q => absurd q (by decide)) (fun _ => ?_)
      refine r_iload rfl rfl ?_
      refine r_cs (y := 12) (ra := [.int d]) (rest := []) rfl ⟨⟨rfl, rfl⟩, by decide⟩ rfl rfl (Nat.le_of_ble_eq_true rfl) ?_
      refine in_12 (Nat.le_of_ble_eq_true rfl) ?_
      show WR _ cd_12 0 [some (.int d)] [] (sI h (ad 0) 6 0) _
      refine r_iload rfl rfl ?_
      refine r_if_lt (tg := 14) rfl rfl (fun c4 => ?_) (fun c4 => ?_)
      · refine r_ic (x := 0) rfl rfl ?_
        refine r_zret rfl (.inl rfl) ?_
        show WR _ cd_23 16 [some (.ref (ad 0)), some (.int c), some (.int d)] [.int 0] (sI h (ad 0) 6 0) _
        refine r_if_ne (tg := 26) rfl rfl (fun q => absurd q (by decide)) (fun _ => ?_)
        refine r_aload rfl rfl ?_
        refine r_ic (x := (-2)) rfl rfl ?_
        refine r_cv (y := 13) (ra := [.int (-2)]) (rest := []) rfl ⟨⟨rfl, rfl⟩, rfl, by decide⟩ (fx_t0 fx) rfl rfl (Nat.le_of_ble_eq_true rfl) ?_
        refine in_13 (Nat.le_of_ble_eq_true rfl) ?_
        show WR _ cd_13 0 [some (.ref (ad 0)), some (.int (-2))] [] (sI h (ad 0) 6 0) _
        refine r_aload rfl rfl ?_
        refine r_iload rfl rfl ?_
        refine r_putI rfl ⟨rfl, rfl, rfl⟩ (fx_t0 fx) ?_
        refine r_iload rfl rfl ?_
        refine r_iret rfl ?_
        show WR _ cd_23 25 [some (.ref (ad 0)), some (.int c), some (.int d)] [.int (-2)] (sI (sI h (ad 0) 6 0) (ad 0) 6 (-2)) _
        refine r_iret rfl ?_
        show EV _ 163 [.ref (ad 30), .int c, .int d] (sI (sI h (ad 0) 6 0) (ad 0) 6 (-2)) _
        refine in_163 (Nat.le_of_ble_eq_true rfl) ?_
        show WR _ cd_163 0 [some (.ref (ad 30)), some (.int c), some (.int d), none] [] (sI (sI h (ad 0) 6 0) (ad 0) 6 (-2)) _
        refine r_iload rfl rfl ?_
        refine WR_tI (y := nI k2) ek2 ?_
        refine r_cs (y := 153) (ra := [.int (nI k2)]) (rest := []) rfl ⟨⟨rfl, rfl⟩, by decide⟩ rfl rfl (Nat.le_of_ble_eq_true rfl) ?_
        refine in_153 (Nat.le_of_ble_eq_true rfl) ?_
        show WR _ cd_153 0 [some (.int (nI k2))] [] (sI (sI h (ad 0) 6 0) (ad 0) 6 (-2)) _
        refine r_iload rfl rfl ?_
        refine r_if_lt (tg := 14) rfl rfl (fun q => False.elim (by have : (nI k2).toInt = ((k2 : Nat) : Int) := nI_toInt (by omega); have : (0 : Int32).toInt = 0 := rfl; have := i_eq ek2; have := i_rg c; have := i_nle c3; have : (24 : Int32).toInt = 24 := rfl; have := i_nlt c1; have := i_lt q; omega)) (fun _ => ?_)
        refine r_iload rfl rfl ?_
        refine r_ic (x := 24) rfl rfl ?_
        refine r_icmp_ge (tg := 14) rfl rfl (fun q => False.elim (by have : (nI k2).toInt = ((k2 : Nat) : Int) := nI_toInt (by omega); have : (24 : Int32).toInt = 24 := rfl; have := i_eq ek2; have := i_rg c; have := i_nle c3; have := i_nlt c1; have : (0 : Int32).toInt = 0 := rfl; have := i_le q; omega)) (fun _ => ?_)
        refine r_ic (x := 1) rfl rfl ?_
        refine r_goto (tg := 15) rfl rfl ?_
        refine r_zret rfl (.inr rfl) ?_
        show WR _ cd_163 4 [some (.ref (ad 30)), some (.int c), some (.int d), none] [.int 1] (sI (sI h (ad 0) 6 0) (ad 0) 6 (-2)) _
        refine r_if_eq (tg := 14) rfl rfl (fun q => absurd q (by decide)) (fun _ => ?_)
        refine r_iload rfl rfl ?_
        refine r_cs (y := 153) (ra := [.int d]) (rest := []) rfl ⟨⟨rfl, rfl⟩, by decide⟩ rfl rfl (Nat.le_of_ble_eq_true rfl) ?_
        refine in_153 (Nat.le_of_ble_eq_true rfl) ?_
        show WR _ cd_153 0 [some (.int d)] [] (sI (sI h (ad 0) 6 0) (ad 0) 6 (-2)) _
        refine r_iload rfl rfl ?_
        refine r_if_lt (tg := 14) rfl rfl (fun _ => ?_) (fun q => False.elim (by have := i_rg d; have : (0 : Int32).toInt = 0 := rfl; have := i_lt c4; have := i_nlt q; omega))
        refine r_ic (x := 0) rfl rfl ?_
        refine r_zret rfl (.inl rfl) ?_
        show WR _ cd_163 11 [some (.ref (ad 30)), some (.int c), some (.int d), none] [.int 0] (sI (sI h (ad 0) 6 0) (ad 0) 6 (-2)) _
        refine r_if_ne (tg := 21) rfl rfl (fun q => absurd q (by decide)) (fun _ => ?_)
        refine r_aload rfl rfl ?_
        refine r_ic (x := (-2)) rfl rfl ?_
        refine r_cv (y := 154) (ra := [.int (-2)]) (rest := []) rfl ⟨⟨rfl, rfl⟩, rfl, by decide⟩ (fx_t30 fx) rfl rfl (Nat.le_of_ble_eq_true rfl) ?_
        refine in_154 (Nat.le_of_ble_eq_true rfl) ?_
        show WR _ cd_154 0 [some (.ref (ad 30)), some (.int (-2))] [] (sI (sI h (ad 0) 6 0) (ad 0) 6 (-2)) _
        refine r_aload rfl rfl ?_
        refine r_iload rfl rfl ?_
        refine r_ic (x := (-1)) rfl rfl ?_
        refine r_icmp_ge (tg := 10) rfl rfl (fun q => absurd q (by decide)) (fun _ => ?_)
        refine r_iload rfl rfl ?_
        refine r_goto (tg := 11) rfl rfl ?_
        refine r_putI rfl ⟨rfl, rfl, rfl⟩ (fx_t30 fx) ?_
        refine r_iload rfl rfl ?_
        refine r_iret rfl ?_
        show WR _ cd_163 20 [some (.ref (ad 30)), some (.int c), some (.int d), none] [.int (-2)] (sI (sI (sI h (ad 0) 6 0) (ad 0) 6 (-2)) (ad 30) 11 (-2)) _
        refine r_iret rfl ?_
        exact ⟨rfl, Rel.why r (((Chg.rf.sI (fx_j fx) (.inl (by decide))).sI (fx_j fx) (.inl (by decide))).sI (fx_j fx) (.inl (by decide))) ⟨rfl, by decide⟩ (Eq.trans (Eq.trans (I_ne (fx_ne fx (by decide))) I_eq) (Eq.symm I_eq)), Nat.le_add_right _ _, Nat.le_add_right _ _⟩
      · obtain ⟨k5, hk5, ek5⟩ := ix_of (x := d) (n := 2147483648) (by have := i_rg d; have := i_nlt c4; have : (0 : Int32).toInt = 0 := rfl; omega) (by have := i_rg d; have := i_nlt c4; have : (0 : Int32).toInt = 0 := rfl; omega)
        refine r_iload rfl rfl ?_
        refine WR_tI (y := nI k5) ek5 ?_
        refine r_ic (x := 24) rfl rfl ?_
        refine r_icmp_ge (tg := 14) rfl rfl (fun c6 => ?_) (fun c6 => ?_)
        · refine r_ic (x := 0) rfl rfl ?_
          refine r_zret rfl (.inl rfl) ?_
          show WR _ cd_23 16 [some (.ref (ad 0)), some (.int c), some (.int d)] [.int 0] (sI h (ad 0) 6 0) _
          refine r_if_ne (tg := 26) rfl rfl (fun q => absurd q (by decide)) (fun _ => ?_)
          refine r_aload rfl rfl ?_
          refine r_ic (x := (-2)) rfl rfl ?_
          refine r_cv (y := 13) (ra := [.int (-2)]) (rest := []) rfl ⟨⟨rfl, rfl⟩, rfl, by decide⟩ (fx_t0 fx) rfl rfl (Nat.le_of_ble_eq_true rfl) ?_
          refine in_13 (Nat.le_of_ble_eq_true rfl) ?_
          show WR _ cd_13 0 [some (.ref (ad 0)), some (.int (-2))] [] (sI h (ad 0) 6 0) _
          refine r_aload rfl rfl ?_
          refine r_iload rfl rfl ?_
          refine r_putI rfl ⟨rfl, rfl, rfl⟩ (fx_t0 fx) ?_
          refine r_iload rfl rfl ?_
          refine r_iret rfl ?_
          show WR _ cd_23 25 [some (.ref (ad 0)), some (.int c), some (.int d)] [.int (-2)] (sI (sI h (ad 0) 6 0) (ad 0) 6 (-2)) _
          refine r_iret rfl ?_
          show EV _ 163 [.ref (ad 30), .int c, .int d] (sI (sI h (ad 0) 6 0) (ad 0) 6 (-2)) _
          refine in_163 (Nat.le_of_ble_eq_true rfl) ?_
          show WR _ cd_163 0 [some (.ref (ad 30)), some (.int c), some (.int d), none] [] (sI (sI h (ad 0) 6 0) (ad 0) 6 (-2)) _
          refine r_iload rfl rfl ?_
          refine WR_tI (y := nI k2) ek2 ?_
          refine r_cs (y := 153) (ra := [.int (nI k2)]) (rest := []) rfl ⟨⟨rfl, rfl⟩, by decide⟩ rfl rfl (Nat.le_of_ble_eq_true rfl) ?_
          refine in_153 (Nat.le_of_ble_eq_true rfl) ?_
          show WR _ cd_153 0 [some (.int (nI k2))] [] (sI (sI h (ad 0) 6 0) (ad 0) 6 (-2)) _
          refine r_iload rfl rfl ?_
          refine r_if_lt (tg := 14) rfl rfl (fun q => False.elim (by have : (nI k2).toInt = ((k2 : Nat) : Int) := nI_toInt (by omega); have : (0 : Int32).toInt = 0 := rfl; have := i_eq ek2; have := i_rg c; have := i_nle c3; have : (24 : Int32).toInt = 24 := rfl; have := i_nlt c1; have := i_lt q; omega)) (fun _ => ?_)
          refine r_iload rfl rfl ?_
          refine r_ic (x := 24) rfl rfl ?_
          refine r_icmp_ge (tg := 14) rfl rfl (fun q => False.elim (by have : (nI k2).toInt = ((k2 : Nat) : Int) := nI_toInt (by omega); have : (24 : Int32).toInt = 24 := rfl; have := i_eq ek2; have := i_rg c; have := i_nle c3; have := i_nlt c1; have : (0 : Int32).toInt = 0 := rfl; have := i_le q; omega)) (fun _ => ?_)
          refine r_ic (x := 1) rfl rfl ?_
          refine r_goto (tg := 15) rfl rfl ?_
          refine r_zret rfl (.inr rfl) ?_
          show WR _ cd_163 4 [some (.ref (ad 30)), some (.int c), some (.int d), none] [.int 1] (sI (sI h (ad 0) 6 0) (ad 0) 6 (-2)) _
          refine r_if_eq (tg := 14) rfl rfl (fun q => absurd q (by decide)) (fun _ => ?_)
          refine r_iload rfl rfl ?_
          refine WR_tI (y := nI k5) ek5 ?_
          refine r_cs (y := 153) (ra := [.int (nI k5)]) (rest := []) rfl ⟨⟨rfl, rfl⟩, by decide⟩ rfl rfl (Nat.le_of_ble_eq_true rfl) ?_
          refine in_153 (Nat.le_of_ble_eq_true rfl) ?_
          show WR _ cd_153 0 [some (.int (nI k5))] [] (sI (sI h (ad 0) 6 0) (ad 0) 6 (-2)) _
          refine r_iload rfl rfl ?_
          refine r_if_lt (tg := 14) rfl rfl (fun q => False.elim (by have : (nI k5).toInt = ((k5 : Nat) : Int) := nI_toInt (by omega); have : (0 : Int32).toInt = 0 := rfl; have := i_eq ek5; have := i_rg d; have := i_le c6; have : (24 : Int32).toInt = 24 := rfl; have := i_nlt c4; have := i_lt q; omega)) (fun _ => ?_)
          refine r_iload rfl rfl ?_
          refine r_ic (x := 24) rfl rfl ?_
          refine r_icmp_ge (tg := 14) rfl rfl (fun _ => ?_) (fun q => False.elim (by have : (nI k5).toInt = ((k5 : Nat) : Int) := nI_toInt (by omega); have : (24 : Int32).toInt = 24 := rfl; have := i_eq ek5; have := i_rg d; have := i_le c6; have := i_nlt c4; have : (0 : Int32).toInt = 0 := rfl; have := i_nle q; omega))
          refine r_ic (x := 0) rfl rfl ?_
          refine r_zret rfl (.inl rfl) ?_
          show WR _ cd_163 11 [some (.ref (ad 30)), some (.int c), some (.int d), none] [.int 0] (sI (sI h (ad 0) 6 0) (ad 0) 6 (-2)) _
          refine r_if_ne (tg := 21) rfl rfl (fun q => absurd q (by decide)) (fun _ => ?_)
          refine r_aload rfl rfl ?_
          refine r_ic (x := (-2)) rfl rfl ?_
          refine r_cv (y := 154) (ra := [.int (-2)]) (rest := []) rfl ⟨⟨rfl, rfl⟩, rfl, by decide⟩ (fx_t30 fx) rfl rfl (Nat.le_of_ble_eq_true rfl) ?_
          refine in_154 (Nat.le_of_ble_eq_true rfl) ?_
          show WR _ cd_154 0 [some (.ref (ad 30)), some (.int (-2))] [] (sI (sI h (ad 0) 6 0) (ad 0) 6 (-2)) _
          refine r_aload rfl rfl ?_
          refine r_iload rfl rfl ?_
          refine r_ic (x := (-1)) rfl rfl ?_
          refine r_icmp_ge (tg := 10) rfl rfl (fun q => absurd q (by decide)) (fun _ => ?_)
          refine r_iload rfl rfl ?_
          refine r_goto (tg := 11) rfl rfl ?_
          refine r_putI rfl ⟨rfl, rfl, rfl⟩ (fx_t30 fx) ?_
          refine r_iload rfl rfl ?_
          refine r_iret rfl ?_
          show WR _ cd_163 20 [some (.ref (ad 30)), some (.int c), some (.int d), none] [.int (-2)] (sI (sI (sI h (ad 0) 6 0) (ad 0) 6 (-2)) (ad 30) 11 (-2)) _
          refine r_iret rfl ?_
          exact ⟨rfl, Rel.why r (((Chg.rf.sI (fx_j fx) (.inl (by decide))).sI (fx_j fx) (.inl (by decide))).sI (fx_j fx) (.inl (by decide))) ⟨rfl, by decide⟩ (Eq.trans (Eq.trans (I_ne (fx_ne fx (by decide))) I_eq) (Eq.symm I_eq)), Nat.le_add_right _ _, Nat.le_add_right _ _⟩
        · refine r_ic (x := 1) rfl rfl ?_
          refine r_goto (tg := 15) rfl rfl ?_
          refine r_zret rfl (.inr rfl) ?_
          show WR _ cd_23 16 [some (.ref (ad 0)), some (.int c), some (.int d)] [.int 1] (sI h (ad 0) 6 0) _
          refine r_if_ne (tg := 26) rfl rfl (fun _ => ?_) (fun q => absurd q (by decide))
          refine r_aload rfl rfl ?_
          refine r_getA (b := ad 1) rfl ⟨rfl, rfl, rfl⟩ (fx_t0 fx) (fx_r0_0 fx) ?_
          refine r_iload rfl rfl ?_
          refine WR_tI (y := nI k5) ek5 ?_
          rcases rs.cs (n := n) (sa := sa) (c := k5) (by have := i_eq ek5; have : (nI k5).toInt = ((k5 : Nat) : Int) := nI_toInt (by omega); have := i_rg d; have := i_nle c6; have : (24 : Int32).toInt = 24 := rfl; have := i_nlt c4; have : (0 : Int32).toInt = 0 := rfl; omega) with ⟨v7, w7⟩ | ⟨q7, kd7, hq7, hn7, v7, w7, dz7, tg7, s1_7, k1_7, k2_7, hk_7, we7⟩ | ⟨t7, ln7, sz7, ht7, v7, w7, dz7, tg7, r_7, tg2_7, l1_7, l2_7, hl_7, kd_7, n_7, sz_7, hs_7, al7, rw7⟩ | ⟨t7, sz7, ht7, v7, w7, dz7, tg7, r_7, tg2_7, k1_7, l2_7, k2_7, n_7, sz_7, hs_7, al7, rw7⟩ | ⟨t7, kd7, sz7, ht7, v7, w7, dz7, tg7, r_7, tg2_7, k1_7, l2_7, k2_7, hk_7, n_7, sz_7, hs_7, al7, rw7⟩
          · refine r_aaload0 rfl (isQ_of (fx_t1 fx) (by decide)) (vp_ct (fx_n1 fx) (vp_in_nI (by have := i_eq ek5; have : (nI k5).toInt = ((k5 : Nat) : Int) := nI_toInt (by omega); have := i_rg d; have := i_nle c6; have : (24 : Int32).toInt = 24 := rfl; have := i_nlt c4; have : (0 : Int32).toInt = 0 := rfl; omega) (by omega))) (Eq.trans (congrArg (hR (sI h (ad 0) 6 0) (ad 1)) ((nI_clamp (by have := i_eq ek5; have : (nI k5).toInt = ((k5 : Nat) : Int) := nI_toInt (by omega); have := i_rg d; have := i_nle c6; have : (24 : Int32).toInt = 24 := rfl; have := i_nlt c4; have : (0 : Int32).toInt = 0 := rfl; omega)) : _ = k5)) (Eq.trans R_oI w7)) ?_
            refine r_aload rfl rfl ?_
            refine r_getA (b := ad 1) rfl ⟨rfl, rfl, rfl⟩ (fx_t0 fx) (fx_r0_0 fx) ?_
            refine r_iload rfl rfl ?_
            refine WR_tI (y := nI k2) ek2 ?_
            rcases rs.cs (n := n) (sa := sa) (c := k2) (by have := i_eq ek2; have : (nI k2).toInt = ((k2 : Nat) : Int) := nI_toInt (by omega); have := i_rg c; have := i_nle c3; have : (24 : Int32).toInt = 24 := rfl; have := i_nlt c1; have : (0 : Int32).toInt = 0 := rfl; omega) with ⟨v8, w8⟩ | ⟨q8, kd8, hq8, hn8, v8, w8, dz8, tg8, s1_8, k1_8, k2_8, hk_8, we8⟩ | ⟨t8, ln8, sz8, ht8, v8, w8, dz8, tg8, r_8, tg2_8, l1_8, l2_8, hl_8, kd_8, n_8, sz_8, hs_8, al8, rw8⟩ | ⟨t8, sz8, ht8, v8, w8, dz8, tg8, r_8, tg2_8, k1_8, l2_8, k2_8, n_8, sz_8, hs_8, al8, rw8⟩ | ⟨t8, kd8, sz8, ht8, v8, w8, dz8, tg8, r_8, tg2_8, k1_8, l2_8, k2_8, hk_8, n_8, sz_8, hs_8, al8, rw8⟩
            · refine r_aaload0 rfl (isQ_of (fx_t1 fx) (by decide)) (vp_ct (fx_n1 fx) (vp_in_nI (by have := i_eq ek2; have : (nI k2).toInt = ((k2 : Nat) : Int) := nI_toInt (by omega); have := i_rg c; have := i_nle c3; have : (24 : Int32).toInt = 24 := rfl; have := i_nlt c1; have : (0 : Int32).toInt = 0 := rfl; omega) (by omega))) (Eq.trans (congrArg (hR (sI h (ad 0) 6 0) (ad 1)) ((nI_clamp (by have := i_eq ek2; have : (nI k2).toInt = ((k2 : Nat) : Int) := nI_toInt (by omega); have := i_rg c; have := i_nle c3; have : (24 : Int32).toInt = 24 := rfl; have := i_nlt c1; have : (0 : Int32).toInt = 0 := rfl; omega)) : _ = k2)) (Eq.trans R_oI w8)) ?_
              refine r_acmpNN_ne (tg := 43) rfl rfl ?_
              refine r_ic (x := 0) rfl rfl ?_
              refine r_iret rfl ?_
              show EV _ 163 [.ref (ad 30), .int c, .int d] (sI h (ad 0) 6 0) _
              refine in_163 (Nat.le_of_ble_eq_true rfl) ?_
              show WR _ cd_163 0 [some (.ref (ad 30)), some (.int c), some (.int d), none] [] (sI h (ad 0) 6 0) _
              refine r_iload rfl rfl ?_
              refine WR_tI (y := nI k2) ek2 ?_
              refine r_cs (y := 153) (ra := [.int (nI k2)]) (rest := []) rfl ⟨⟨rfl, rfl⟩, by decide⟩ rfl rfl (Nat.le_of_ble_eq_true rfl) ?_
              refine in_153 (Nat.le_of_ble_eq_true rfl) ?_
              show WR _ cd_153 0 [some (.int (nI k2))] [] (sI h (ad 0) 6 0) _
              refine r_iload rfl rfl ?_
              refine r_if_lt (tg := 14) rfl rfl (fun q => False.elim (by have : (nI k2).toInt = ((k2 : Nat) : Int) := nI_toInt (by omega); have : (0 : Int32).toInt = 0 := rfl; have := i_eq ek2; have := i_rg c; have := i_nle c3; have : (24 : Int32).toInt = 24 := rfl; have := i_nlt c1; have := i_lt q; omega)) (fun _ => ?_)
              refine r_iload rfl rfl ?_
              refine r_ic (x := 24) rfl rfl ?_
              refine r_icmp_ge (tg := 14) rfl rfl (fun q => False.elim (by have : (nI k2).toInt = ((k2 : Nat) : Int) := nI_toInt (by omega); have : (24 : Int32).toInt = 24 := rfl; have := i_eq ek2; have := i_rg c; have := i_nle c3; have := i_nlt c1; have : (0 : Int32).toInt = 0 := rfl; have := i_le q; omega)) (fun _ => ?_)
              refine r_ic (x := 1) rfl rfl ?_
              refine r_goto (tg := 15) rfl rfl ?_
              refine r_zret rfl (.inr rfl) ?_
              show WR _ cd_163 4 [some (.ref (ad 30)), some (.int c), some (.int d), none] [.int 1] (sI h (ad 0) 6 0) _
              refine r_if_eq (tg := 14) rfl rfl (fun q => absurd q (by decide)) (fun _ => ?_)
              refine r_iload rfl rfl ?_
              refine WR_tI (y := nI k5) ek5 ?_
              refine r_cs (y := 153) (ra := [.int (nI k5)]) (rest := []) rfl ⟨⟨rfl, rfl⟩, by decide⟩ rfl rfl (Nat.le_of_ble_eq_true rfl) ?_
              refine in_153 (Nat.le_of_ble_eq_true rfl) ?_
              show WR _ cd_153 0 [some (.int (nI k5))] [] (sI h (ad 0) 6 0) _
              refine r_iload rfl rfl ?_
              refine r_if_lt (tg := 14) rfl rfl (fun q => False.elim (by have : (nI k5).toInt = ((k5 : Nat) : Int) := nI_toInt (by omega); have : (0 : Int32).toInt = 0 := rfl; have := i_eq ek5; have := i_rg d; have := i_nle c6; have : (24 : Int32).toInt = 24 := rfl; have := i_nlt c4; have := i_lt q; omega)) (fun _ => ?_)
              refine r_iload rfl rfl ?_
              refine r_ic (x := 24) rfl rfl ?_
              refine r_icmp_ge (tg := 14) rfl rfl (fun q => False.elim (by have : (nI k5).toInt = ((k5 : Nat) : Int) := nI_toInt (by omega); have : (24 : Int32).toInt = 24 := rfl; have := i_eq ek5; have := i_rg d; have := i_nle c6; have := i_nlt c4; have : (0 : Int32).toInt = 0 := rfl; have := i_le q; omega)) (fun _ => ?_)
              refine r_ic (x := 1) rfl rfl ?_
              refine r_goto (tg := 15) rfl rfl ?_
              refine r_zret rfl (.inr rfl) ?_
              show WR _ cd_163 11 [some (.ref (ad 30)), some (.int c), some (.int d), none] [.int 1] (sI h (ad 0) 6 0) _
              refine r_if_ne (tg := 21) rfl rfl (fun _ => ?_) (fun q => absurd q (by decide))
              refine r_aload rfl rfl ?_
              refine r_getA (b := ad 31) rfl ⟨rfl, rfl, rfl⟩ (fx_t30 fx) (fx_r30_0 fx) ?_
              refine r_iload rfl rfl ?_
              refine WR_tI (y := nI k5) ek5 ?_
              refine r_iaload rfl (.inl (fx_t31 fx)) (vp_ct (fx_n31 fx) (vp_in_nI (by have := i_eq ek5; have : (nI k5).toInt = ((k5 : Nat) : Int) := nI_toInt (by omega); have := i_rg d; have := i_nle c6; have : (24 : Int32).toInt = 24 := rfl; have := i_nlt c4; have : (0 : Int32).toInt = 0 := rfl; omega) (by omega))) ?_
              refine WR_tI (congrArg (hI (sI h (ad 0) 6 0) (ad 31)) ((nI_clamp (by have := i_eq ek5; have : (nI k5).toInt = ((k5 : Nat) : Int) := nI_toInt (by omega); have := i_rg d; have := i_nle c6; have : (24 : Int32).toInt = 24 := rfl; have := i_nlt c4; have : (0 : Int32).toInt = 0 := rfl; omega)) : _ = k5)) ?_
              refine WR_tI (y := (-1)) (Eq.trans (I_ne (fx_ne fx (by decide))) v7) ?_
              refine r_aload rfl rfl ?_
              refine r_getA (b := ad 31) rfl ⟨rfl, rfl, rfl⟩ (fx_t30 fx) (fx_r30_0 fx) ?_
              refine r_iload rfl rfl ?_
              refine WR_tI (y := nI k2) ek2 ?_
              refine r_iaload rfl (.inl (fx_t31 fx)) (vp_ct (fx_n31 fx) (vp_in_nI (by have := i_eq ek2; have : (nI k2).toInt = ((k2 : Nat) : Int) := nI_toInt (by omega); have := i_rg c; have := i_nle c3; have : (24 : Int32).toInt = 24 := rfl; have := i_nlt c1; have : (0 : Int32).toInt = 0 := rfl; omega) (by omega))) ?_
              refine WR_tI (congrArg (hI (sI h (ad 0) 6 0) (ad 31)) ((nI_clamp (by have := i_eq ek2; have : (nI k2).toInt = ((k2 : Nat) : Int) := nI_toInt (by omega); have := i_rg c; have := i_nle c3; have : (24 : Int32).toInt = 24 := rfl; have := i_nlt c1; have : (0 : Int32).toInt = 0 := rfl; omega)) : _ = k2)) ?_
              refine WR_tI (y := (-1)) (Eq.trans (I_ne (fx_ne fx (by decide))) v8) ?_
              refine r_icmp_ne (tg := 40) rfl rfl (fun q => absurd q (by decide)) (fun _ => ?_)
              refine r_ic (x := 1) rfl rfl ?_
              refine r_goto (tg := 41) rfl rfl ?_
              refine r_istore (lv' := [some (.ref (ad 30)), some (.int c), some (.int d), some (.int 1)]) rfl (Nat.le_of_ble_eq_true rfl) rfl ?_
              refine r_aload rfl rfl ?_
              refine r_getA (b := ad 31) rfl ⟨rfl, rfl, rfl⟩ (fx_t30 fx) (fx_r30_0 fx) ?_
              refine r_iload rfl rfl ?_
              refine WR_tI (y := nI k5) ek5 ?_
              refine r_aload rfl rfl ?_
              refine r_getA (b := ad 31) rfl ⟨rfl, rfl, rfl⟩ (fx_t30 fx) (fx_r30_0 fx) ?_
              refine r_iload rfl rfl ?_
              refine WR_tI (y := nI k2) ek2 ?_
              refine r_iaload rfl (.inl (fx_t31 fx)) (vp_ct (fx_n31 fx) (vp_in_nI (by have := i_eq ek2; have : (nI k2).toInt = ((k2 : Nat) : Int) := nI_toInt (by omega); have := i_rg c; have := i_nle c3; have : (24 : Int32).toInt = 24 := rfl; have := i_nlt c1; have : (0 : Int32).toInt = 0 := rfl; omega) (by omega))) ?_
              refine WR_tI (congrArg (hI (sI h (ad 0) 6 0) (ad 31)) ((nI_clamp (by have := i_eq ek2; have : (nI k2).toInt = ((k2 : Nat) : Int) := nI_toInt (by omega); have := i_rg c; have := i_nle c3; have : (24 : Int32).toInt = 24 := rfl; have := i_nlt c1; have : (0 : Int32).toInt = 0 := rfl; omega)) : _ = k2)) ?_
              refine WR_tI (y := (-1)) (Eq.trans (I_ne (fx_ne fx (by decide))) v8) ?_
              refine r_iastore rfl (fx_t31 fx) (vp_ct (fx_n31 fx) (vp_in_nI (by have := i_eq ek5; have : (nI k5).toInt = ((k5 : Nat) : Int) := nI_toInt (by omega); have := i_rg d; have := i_nle c6; have : (24 : Int32).toInt = 24 := rfl; have := i_nlt c4; have : (0 : Int32).toInt = 0 := rfl; omega) (by omega))) ?_
              refine WR_h (h2 := sI (sI h (ad 0) 6 0) (ad 31) k5 (-1)) (congrArg (fun z => sI (sI h (ad 0) 6 0) (ad 31) z (-1)) ((nI_clamp (by have := i_eq ek5; have : (nI k5).toInt = ((k5 : Nat) : Int) := nI_toInt (by omega); have := i_rg d; have := i_nle c6; have : (24 : Int32).toInt = 24 := rfl; have := i_nlt c4; have : (0 : Int32).toInt = 0 := rfl; omega)) : _ = k5)) ?_
              refine r_aload rfl rfl ?_
              refine r_iload rfl rfl ?_
              refine r_if_eq (tg := 63) rfl rfl (fun q => absurd q (by decide)) (fun _ => ?_)
              refine r_ic (x := 0) rfl rfl ?_
              refine r_goto (tg := 64) rfl rfl ?_
              refine r_cv (y := 154) (ra := [.int 0]) (rest := []) rfl ⟨⟨rfl, rfl⟩, rfl, by decide⟩ (fx_t30 fx) rfl rfl (Nat.le_of_ble_eq_true rfl) ?_
              refine in_154 (Nat.le_of_ble_eq_true rfl) ?_
              show WR _ cd_154 0 [some (.ref (ad 30)), some (.int 0)] [] (sI (sI h (ad 0) 6 0) (ad 31) k5 (-1)) _
              refine r_aload rfl rfl ?_
              refine r_iload rfl rfl ?_
              refine r_ic (x := (-1)) rfl rfl ?_
              refine r_icmp_ge (tg := 10) rfl rfl (fun _ => ?_) (fun q => absurd q (by decide))
              refine r_ic (x := 0) rfl rfl ?_
              refine r_putI rfl ⟨rfl, rfl, rfl⟩ (fx_t30 fx) ?_
              refine r_iload rfl rfl ?_
              refine r_iret rfl ?_
              show WR _ cd_163 67 [some (.ref (ad 30)), some (.int c), some (.int d), some (.int 1)] [.int 0] (sI (sI (sI h (ad 0) 6 0) (ad 31) k5 (-1)) (ad 30) 11 0) _
              refine r_iret rfl ?_
              have cg : Chg n ad [(30, 11), (0, 6)] [31] h (sI (sI (sI h (ad 0) 6 0) (ad 31) k5 (-1)) (ad 30) 11 0) := (((Chg.rf.sI (fx_j fx0) (k := 6) (v := 0) (.inl (by decide))).sI (fx_j fx0) (k := k5) (v := (-1)) (.inl (by decide))).row.sI (fx_j fx0) (k := 11) (v := 0) (.inl (by decide)))
              refine ⟨rfl, ⟨mid, pa, np, FX.k fx0 cg.1 cg.2.1 cg.2.2 (by decide), Eq.trans (Eq.trans (I_ne (fx_ne fx (by decide))) (Eq.trans (I_ne (fx_ne fx (by decide))) I_eq)) (Eq.symm I_eq), rt.k cg.2.1 (by decide), ra.k cg.2.1 (by decide), rp.k cg.2.1 (by decide), rf.k cg.2.1 (by decide), Rst.k fx0 rst cg.2.2, Ru.k fx0 ru cg.2.1 (by decide), ?_⟩, Nat.le_add_right _ _, Nat.le_add_right _ _⟩
              · refine Rs.cases rs (smS_of fx0 cg (by decide)) (fun c_ hc_ => ?_)
                by_cases e_ : c_ = k5
                · rw [e_]
                  exact .inr (.inl ⟨(Eq.trans (I_ne (fx_ne fx (by decide))) I_eq), (Eq.trans R_oI (Eq.trans R_oI (Eq.trans R_oI w7)))⟩)
                · exact .inl ⟨c_, hc_, (Eq.trans (I_ne (fx_ne fx (by decide))) (Eq.trans (I_nk (by have := i_eq ek5; have : (nI k5).toInt = ((k5 : Nat) : Int) := nI_toInt (by omega); have := i_rg d; have := i_nle c6; have : (24 : Int32).toInt = 24 := rfl; have := i_nlt c4; have : (0 : Int32).toInt = 0 := rfl; omega)) (I_ne (fx_ne fx (by decide))))), (Eq.trans R_oI (Eq.trans R_oI R_oI))⟩
            · refine r_aaloadA (b := pa q8) rfl (isQ_of (fx_t1 fx) (by decide)) (vp_ct (fx_n1 fx) (vp_in_nI (by have := i_eq ek2; have : (nI k2).toInt = ((k2 : Nat) : Int) := nI_toInt (by omega); have := i_rg c; have := i_nle c3; have : (24 : Int32).toInt = 24 := rfl; have := i_nlt c1; have : (0 : Int32).toInt = 0 := rfl; omega) (by omega))) (Eq.trans (congrArg (hR (sI h (ad 0) 6 0) (ad 1)) ((nI_clamp (by have := i_eq ek2; have : (nI k2).toInt = ((k2 : Nat) : Int) := nI_toInt (by omega); have := i_rg c; have := i_nle c3; have : (24 : Int32).toInt = 24 := rfl; have := i_nlt c1; have : (0 : Int32).toInt = 0 := rfl; omega)) : _ = k2)) (Eq.trans R_oI w8)) ?_
              refine r_acmpNA_ne (tg := 43) rfl rfl ?_
              refine r_aload rfl rfl ?_
              refine r_getA (b := ad 1) rfl ⟨rfl, rfl, rfl⟩ (fx_t0 fx) (fx_r0_0 fx) ?_
              refine r_iload rfl rfl ?_
              refine WR_tI (y := nI k5) ek5 ?_
              refine r_aload rfl rfl ?_
              refine r_getA (b := ad 1) rfl ⟨rfl, rfl, rfl⟩ (fx_t0 fx) (fx_r0_0 fx) ?_
              refine r_iload rfl rfl ?_
              refine WR_tI (y := nI k2) ek2 ?_
              refine r_aaloadA (b := pa q8) rfl (isQ_of (fx_t1 fx) (by decide)) (vp_ct (fx_n1 fx) (vp_in_nI (by have := i_eq ek2; have : (nI k2).toInt = ((k2 : Nat) : Int) := nI_toInt (by omega); have := i_rg c; have := i_nle c3; have : (24 : Int32).toInt = 24 := rfl; have := i_nlt c1; have : (0 : Int32).toInt = 0 := rfl; omega) (by omega))) (Eq.trans (congrArg (hR (sI h (ad 0) 6 0) (ad 1)) ((nI_clamp (by have := i_eq ek2; have : (nI k2).toInt = ((k2 : Nat) : Int) := nI_toInt (by omega); have := i_rg c; have := i_nle c3; have : (24 : Int32).toInt = 24 := rfl; have := i_nlt c1; have : (0 : Int32).toInt = 0 := rfl; omega)) : _ = k2)) (Eq.trans R_oI w8)) ?_
              refine r_aastoreA rfl (isQ_of (fx_t1 fx) (by decide)) (vp_ct (fx_n1 fx) (vp_in_nI (by have := i_eq ek5; have : (nI k5).toInt = ((k5 : Nat) : Int) := nI_toInt (by omega); have := i_rg d; have := i_nle c6; have : (24 : Int32).toInt = 24 := rfl; have := i_nlt c4; have : (0 : Int32).toInt = 0 := rfl; omega) (by omega))) (okR_of (fx_t1 fx) tg8 (by decide)) ?_
              refine WR_h (h2 := sR (sI h (ad 0) 6 0) (ad 1) k5 (some (pa q8))) (congrArg (fun z => sR (sI h (ad 0) 6 0) (ad 1) z (some (pa q8))) ((nI_clamp (by have := i_eq ek5; have : (nI k5).toInt = ((k5 : Nat) : Int) := nI_toInt (by omega); have := i_rg d; have := i_nle c6; have : (24 : Int32).toInt = 24 := rfl; have := i_nlt c4; have : (0 : Int32).toInt = 0 := rfl; omega)) : _ = k5)) ?_
              have fx : FX n ad sa z0 (sR (sI h (ad 0) 6 0) (ad 1) k5 (some (pa q8))) := FX.sRA (i := 1) fx (.inl (by decide)) (by decide)
              refine r_ic (x := 1) rfl rfl ?_
              refine r_iret rfl ?_
              show EV _ 163 [.ref (ad 30), .int c, .int d] (sR (sI h (ad 0) 6 0) (ad 1) k5 (some (pa q8))) _
              refine in_163 (Nat.le_of_ble_eq_true rfl) ?_
              show WR _ cd_163 0 [some (.ref (ad 30)), some (.int c), some (.int d), none] [] (sR (sI h (ad 0) 6 0) (ad 1) k5 (some (pa q8))) _
              refine r_iload rfl rfl ?_
              refine WR_tI (y := nI k2) ek2 ?_
              refine r_cs (y := 153) (ra := [.int (nI k2)]) (rest := []) rfl ⟨⟨rfl, rfl⟩, by decide⟩ rfl rfl (Nat.le_of_ble_eq_true rfl) ?_
              refine in_153 (Nat.le_of_ble_eq_true rfl) ?_
              show WR _ cd_153 0 [some (.int (nI k2))] [] (sR (sI h (ad 0) 6 0) (ad 1) k5 (some (pa q8))) _
              refine r_iload rfl rfl ?_
              refine r_if_lt (tg := 14) rfl rfl (fun q => False.elim (by have : (nI k2).toInt = ((k2 : Nat) : Int) := nI_toInt (by omega); have : (0 : Int32).toInt = 0 := rfl; have := i_eq ek2; have := i_rg c; have := i_nle c3; have : (24 : Int32).toInt = 24 := rfl; have := i_nlt c1; have := i_lt q; omega)) (fun _ => ?_)
              refine r_iload rfl rfl ?_
              refine r_ic (x := 24) rfl rfl ?_
              refine r_icmp_ge (tg := 14) rfl rfl (fun q => False.elim (by have : (nI k2).toInt = ((k2 : Nat) : Int) := nI_toInt (by omega); have : (24 : Int32).toInt = 24 := rfl; have := i_eq ek2; have := i_rg c; have := i_nle c3; have := i_nlt c1; have : (0 : Int32).toInt = 0 := rfl; have := i_le q; omega)) (fun _ => ?_)
              refine r_ic (x := 1) rfl rfl ?_
              refine r_goto (tg := 15) rfl rfl ?_
              refine r_zret rfl (.inr rfl) ?_
              show WR _ cd_163 4 [some (.ref (ad 30)), some (.int c), some (.int d), none] [.int 1] (sR (sI h (ad 0) 6 0) (ad 1) k5 (some (pa q8))) _
              refine r_if_eq (tg := 14) rfl rfl (fun q => absurd q (by decide)) (fun _ => ?_)
              refine r_iload rfl rfl ?_
              refine WR_tI (y := nI k5) ek5 ?_
              refine r_cs (y := 153) (ra := [.int (nI k5)]) (rest := []) rfl ⟨⟨rfl, rfl⟩, by decide⟩ rfl rfl (Nat.le_of_ble_eq_true rfl) ?_
              refine in_153 (Nat.le_of_ble_eq_true rfl) ?_
              show WR _ cd_153 0 [some (.int (nI k5))] [] (sR (sI h (ad 0) 6 0) (ad 1) k5 (some (pa q8))) _
              refine r_iload rfl rfl ?_
              refine r_if_lt (tg := 14) rfl rfl (fun q => False.elim (by have : (nI k5).toInt = ((k5 : Nat) : Int) := nI_toInt (by omega); have : (0 : Int32).toInt = 0 := rfl; have := i_eq ek5; have := i_rg d; have := i_nle c6; have : (24 : Int32).toInt = 24 := rfl; have := i_nlt c4; have := i_lt q; omega)) (fun _ => ?_)
              refine r_iload rfl rfl ?_
              refine r_ic (x := 24) rfl rfl ?_
              refine r_icmp_ge (tg := 14) rfl rfl (fun q => False.elim (by have : (nI k5).toInt = ((k5 : Nat) : Int) := nI_toInt (by omega); have : (24 : Int32).toInt = 24 := rfl; have := i_eq ek5; have := i_rg d; have := i_nle c6; have := i_nlt c4; have : (0 : Int32).toInt = 0 := rfl; have := i_le q; omega)) (fun _ => ?_)
              refine r_ic (x := 1) rfl rfl ?_
              refine r_goto (tg := 15) rfl rfl ?_
              refine r_zret rfl (.inr rfl) ?_
              show WR _ cd_163 11 [some (.ref (ad 30)), some (.int c), some (.int d), none] [.int 1] (sR (sI h (ad 0) 6 0) (ad 1) k5 (some (pa q8))) _
              refine r_if_ne (tg := 21) rfl rfl (fun _ => ?_) (fun q => absurd q (by decide))
              refine r_aload rfl rfl ?_
              refine r_getA (b := ad 31) rfl ⟨rfl, rfl, rfl⟩ (fx_t30 fx) (fx_r30_0 fx) ?_
              refine r_iload rfl rfl ?_
              refine WR_tI (y := nI k5) ek5 ?_
              refine r_iaload rfl (.inl (fx_t31 fx)) (vp_ct (fx_n31 fx) (vp_in_nI (by have := i_eq ek5; have : (nI k5).toInt = ((k5 : Nat) : Int) := nI_toInt (by omega); have := i_rg d; have := i_nle c6; have : (24 : Int32).toInt = 24 := rfl; have := i_nlt c4; have : (0 : Int32).toInt = 0 := rfl; omega) (by omega))) ?_
              refine WR_tI (congrArg (hI (sR (sI h (ad 0) 6 0) (ad 1) k5 (some (pa q8))) (ad 31)) ((nI_clamp (by have := i_eq ek5; have : (nI k5).toInt = ((k5 : Nat) : Int) := nI_toInt (by omega); have := i_rg d; have := i_nle c6; have : (24 : Int32).toInt = 24 := rfl; have := i_nlt c4; have : (0 : Int32).toInt = 0 := rfl; omega)) : _ = k5)) ?_
              refine WR_tI (y := (-1)) (Eq.trans I_oR (Eq.trans (I_ne (fx_ne fx (by decide))) v7)) ?_
              refine r_aload rfl rfl ?_
              refine r_getA (b := ad 31) rfl ⟨rfl, rfl, rfl⟩ (fx_t30 fx) (fx_r30_0 fx) ?_
              refine r_iload rfl rfl ?_
              refine WR_tI (y := nI k2) ek2 ?_
              refine r_iaload rfl (.inl (fx_t31 fx)) (vp_ct (fx_n31 fx) (vp_in_nI (by have := i_eq ek2; have : (nI k2).toInt = ((k2 : Nat) : Int) := nI_toInt (by omega); have := i_rg c; have := i_nle c3; have : (24 : Int32).toInt = 24 := rfl; have := i_nlt c1; have : (0 : Int32).toInt = 0 := rfl; omega) (by omega))) ?_
              refine WR_tI (congrArg (hI (sR (sI h (ad 0) 6 0) (ad 1) k5 (some (pa q8))) (ad 31)) ((nI_clamp (by have := i_eq ek2; have : (nI k2).toInt = ((k2 : Nat) : Int) := nI_toInt (by omega); have := i_rg c; have := i_nle c3; have : (24 : Int32).toInt = 24 := rfl; have := i_nlt c1; have : (0 : Int32).toInt = 0 := rfl; omega)) : _ = k2)) ?_
              refine WR_tI (y := nI (q8 + 1000)) (Eq.trans I_oR (Eq.trans (I_ne (fx_ne fx (by decide))) v8)) ?_
              refine r_icmp_ne (tg := 40) rfl rfl (fun _ => ?_) (fun q => False.elim (by have : (-1 : Int32).toInt = -1 := rfl; have : (nI (q8 + 1000)).toInt = ((q8 + 1000 : Nat) : Int) := nI_toInt (by omega); have := i_eq q; omega))
              refine r_ic (x := 0) rfl rfl ?_
              refine r_istore (lv' := [some (.ref (ad 30)), some (.int c), some (.int d), some (.int 0)]) rfl (Nat.le_of_ble_eq_true rfl) rfl ?_
              refine r_aload rfl rfl ?_
              refine r_getA (b := ad 31) rfl ⟨rfl, rfl, rfl⟩ (fx_t30 fx) (fx_r30_0 fx) ?_
              refine r_iload rfl rfl ?_
              refine WR_tI (y := nI k5) ek5 ?_
              refine r_aload rfl rfl ?_
              refine r_getA (b := ad 31) rfl ⟨rfl, rfl, rfl⟩ (fx_t30 fx) (fx_r30_0 fx) ?_
              refine r_iload rfl rfl ?_
              refine WR_tI (y := nI k2) ek2 ?_
              refine r_iaload rfl (.inl (fx_t31 fx)) (vp_ct (fx_n31 fx) (vp_in_nI (by have := i_eq ek2; have : (nI k2).toInt = ((k2 : Nat) : Int) := nI_toInt (by omega); have := i_rg c; have := i_nle c3; have : (24 : Int32).toInt = 24 := rfl; have := i_nlt c1; have : (0 : Int32).toInt = 0 := rfl; omega) (by omega))) ?_
              refine WR_tI (congrArg (hI (sR (sI h (ad 0) 6 0) (ad 1) k5 (some (pa q8))) (ad 31)) ((nI_clamp (by have := i_eq ek2; have : (nI k2).toInt = ((k2 : Nat) : Int) := nI_toInt (by omega); have := i_rg c; have := i_nle c3; have : (24 : Int32).toInt = 24 := rfl; have := i_nlt c1; have : (0 : Int32).toInt = 0 := rfl; omega)) : _ = k2)) ?_
              refine WR_tI (y := nI (q8 + 1000)) (Eq.trans I_oR (Eq.trans (I_ne (fx_ne fx (by decide))) v8)) ?_
              refine r_iastore rfl (fx_t31 fx) (vp_ct (fx_n31 fx) (vp_in_nI (by have := i_eq ek5; have : (nI k5).toInt = ((k5 : Nat) : Int) := nI_toInt (by omega); have := i_rg d; have := i_nle c6; have : (24 : Int32).toInt = 24 := rfl; have := i_nlt c4; have : (0 : Int32).toInt = 0 := rfl; omega) (by omega))) ?_
              refine WR_h (h2 := sI (sR (sI h (ad 0) 6 0) (ad 1) k5 (some (pa q8))) (ad 31) k5 (nI (q8 + 1000))) (congrArg (fun z => sI (sR (sI h (ad 0) 6 0) (ad 1) k5 (some (pa q8))) (ad 31) z (nI (q8 + 1000))) ((nI_clamp (by have := i_eq ek5; have : (nI k5).toInt = ((k5 : Nat) : Int) := nI_toInt (by omega); have := i_rg d; have := i_nle c6; have : (24 : Int32).toInt = 24 := rfl; have := i_nlt c4; have : (0 : Int32).toInt = 0 := rfl; omega)) : _ = k5)) ?_
              refine r_aload rfl rfl ?_
              refine r_iload rfl rfl ?_
              refine r_if_eq (tg := 63) rfl rfl (fun _ => ?_) (fun q => absurd q (by decide))
              refine r_ic (x := 1) rfl rfl ?_
              refine r_cv (y := 154) (ra := [.int 1]) (rest := []) rfl ⟨⟨rfl, rfl⟩, rfl, by decide⟩ (fx_t30 fx) rfl rfl (Nat.le_of_ble_eq_true rfl) ?_
              refine in_154 (Nat.le_of_ble_eq_true rfl) ?_
              show WR _ cd_154 0 [some (.ref (ad 30)), some (.int 1)] [] (sI (sR (sI h (ad 0) 6 0) (ad 1) k5 (some (pa q8))) (ad 31) k5 (nI (q8 + 1000))) _
              refine r_aload rfl rfl ?_
              refine r_iload rfl rfl ?_
              refine r_ic (x := (-1)) rfl rfl ?_
              refine r_icmp_ge (tg := 10) rfl rfl (fun _ => ?_) (fun q => absurd q (by decide))
              refine r_ic (x := 0) rfl rfl ?_
              refine r_putI rfl ⟨rfl, rfl, rfl⟩ (fx_t30 fx) ?_
              refine r_iload rfl rfl ?_
              refine r_iret rfl ?_
              show WR _ cd_163 67 [some (.ref (ad 30)), some (.int c), some (.int d), some (.int 0)] [.int 1] (sI (sI (sR (sI h (ad 0) 6 0) (ad 1) k5 (some (pa q8))) (ad 31) k5 (nI (q8 + 1000))) (ad 30) 11 0) _
              refine r_iret rfl ?_
              have cg : Chg n ad [(30, 11), (0, 6)] [31, 1] h (sI (sI (sR (sI h (ad 0) 6 0) (ad 1) k5 (some (pa q8))) (ad 31) k5 (nI (q8 + 1000))) (ad 30) 11 0) := ((((Chg.rf.sI (fx_j fx0) (k := 6) (v := 0) (.inl (by decide))).sR (fx_j fx0) (k := k5) (v := some (pa q8)) (.inl (by decide))).row.sI (fx_j fx0) (k := k5) (v := nI (q8 + 1000)) (.inl (by decide))).row.sI (fx_j fx0) (k := 11) (v := 0) (.inl (by decide)))
              refine ⟨rfl, ⟨mid, pa, np, FX.k fx0 cg.1 cg.2.1 cg.2.2 (by decide), Eq.trans (Eq.trans (I_ne (fx_ne fx (by decide))) (Eq.trans (I_ne (fx_ne fx (by decide))) (Eq.trans I_oR I_eq))) (Eq.symm I_eq), rt.k cg.2.1 (by decide), ra.k cg.2.1 (by decide), rp.k cg.2.1 (by decide), rf.k cg.2.1 (by decide), Rst.k fx0 rst cg.2.2, Ru.k fx0 ru cg.2.1 (by decide), ?_⟩, Nat.le_add_right _ _, Nat.le_add_right _ _⟩
              · refine Rs.cases rs (smS_of fx0 cg (by decide)) (fun c_ hc_ => ?_)
                by_cases e_ : c_ = k5
                · rw [e_]
                  exact .inl ⟨k2, (by have := i_eq ek2; have : (nI k2).toInt = ((k2 : Nat) : Int) := nI_toInt (by omega); have := i_rg c; have := i_nle c3; have : (24 : Int32).toInt = 24 := rfl; have := i_nlt c1; have : (0 : Int32).toInt = 0 := rfl; omega), Eq.trans (Eq.trans (I_ne (fx_ne fx (by decide))) I_eq) (Eq.symm v8), Eq.trans (Eq.trans R_oI (Eq.trans R_oI R_eq)) (Eq.symm w8)⟩
                · exact .inl ⟨c_, hc_, (Eq.trans (I_ne (fx_ne fx (by decide))) (Eq.trans (I_nk (by have := i_eq ek5; have : (nI k5).toInt = ((k5 : Nat) : Int) := nI_toInt (by omega); have := i_rg d; have := i_nle c6; have : (24 : Int32).toInt = 24 := rfl; have := i_nlt c4; have : (0 : Int32).toInt = 0 := rfl; omega)) (Eq.trans I_oR (I_ne (fx_ne fx (by decide)))))), (Eq.trans R_oI (Eq.trans R_oI (Eq.trans (R_nk (by have := i_eq ek5; have : (nI k5).toInt = ((k5 : Nat) : Int) := nI_toInt (by omega); have := i_rg d; have := i_nle c6; have : (24 : Int32).toInt = 24 := rfl; have := i_nlt c4; have : (0 : Int32).toInt = 0 := rfl; omega)) R_oI)))⟩
            · refine r_aaloadA (b := mid t8) rfl (isQ_of (fx_t1 fx) (by decide)) (vp_ct (fx_n1 fx) (vp_in_nI (by have := i_eq ek2; have : (nI k2).toInt = ((k2 : Nat) : Int) := nI_toInt (by omega); have := i_rg c; have := i_nle c3; have : (24 : Int32).toInt = 24 := rfl; have := i_nlt c1; have : (0 : Int32).toInt = 0 := rfl; omega) (by omega))) (Eq.trans (congrArg (hR (sI h (ad 0) 6 0) (ad 1)) ((nI_clamp (by have := i_eq ek2; have : (nI k2).toInt = ((k2 : Nat) : Int) := nI_toInt (by omega); have := i_rg c; have := i_nle c3; have : (24 : Int32).toInt = 24 := rfl; have := i_nlt c1; have : (0 : Int32).toInt = 0 := rfl; omega)) : _ = k2)) (Eq.trans R_oI w8)) ?_
              refine r_acmpNA_ne (tg := 43) rfl rfl ?_
              refine r_aload rfl rfl ?_
              refine r_getA (b := ad 1) rfl ⟨rfl, rfl, rfl⟩ (fx_t0 fx) (fx_r0_0 fx) ?_
              refine r_iload rfl rfl ?_
              refine WR_tI (y := nI k5) ek5 ?_
              refine r_aload rfl rfl ?_
              refine r_getA (b := ad 1) rfl ⟨rfl, rfl, rfl⟩ (fx_t0 fx) (fx_r0_0 fx) ?_
              refine r_iload rfl rfl ?_
              refine WR_tI (y := nI k2) ek2 ?_
              refine r_aaloadA (b := mid t8) rfl (isQ_of (fx_t1 fx) (by decide)) (vp_ct (fx_n1 fx) (vp_in_nI (by have := i_eq ek2; have : (nI k2).toInt = ((k2 : Nat) : Int) := nI_toInt (by omega); have := i_rg c; have := i_nle c3; have : (24 : Int32).toInt = 24 := rfl; have := i_nlt c1; have : (0 : Int32).toInt = 0 := rfl; omega) (by omega))) (Eq.trans (congrArg (hR (sI h (ad 0) 6 0) (ad 1)) ((nI_clamp (by have := i_eq ek2; have : (nI k2).toInt = ((k2 : Nat) : Int) := nI_toInt (by omega); have := i_rg c; have := i_nle c3; have : (24 : Int32).toInt = 24 := rfl; have := i_nlt c1; have : (0 : Int32).toInt = 0 := rfl; omega)) : _ = k2)) (Eq.trans R_oI w8)) ?_
              refine r_aastoreA rfl (isQ_of (fx_t1 fx) (by decide)) (vp_ct (fx_n1 fx) (vp_in_nI (by have := i_eq ek5; have : (nI k5).toInt = ((k5 : Nat) : Int) := nI_toInt (by omega); have := i_rg d; have := i_nle c6; have : (24 : Int32).toInt = 24 := rfl; have := i_nlt c4; have : (0 : Int32).toInt = 0 := rfl; omega) (by omega))) (okR_of (fx_t1 fx) tg8 (by decide)) ?_
              refine WR_h (h2 := sR (sI h (ad 0) 6 0) (ad 1) k5 (some (mid t8))) (congrArg (fun z => sR (sI h (ad 0) 6 0) (ad 1) z (some (mid t8))) ((nI_clamp (by have := i_eq ek5; have : (nI k5).toInt = ((k5 : Nat) : Int) := nI_toInt (by omega); have := i_rg d; have := i_nle c6; have : (24 : Int32).toInt = 24 := rfl; have := i_nlt c4; have : (0 : Int32).toInt = 0 := rfl; omega)) : _ = k5)) ?_
              have fx : FX n ad sa z0 (sR (sI h (ad 0) 6 0) (ad 1) k5 (some (mid t8))) := FX.sRA (i := 1) fx (.inl (by decide)) (by decide)
              refine r_ic (x := 1) rfl rfl ?_
              refine r_iret rfl ?_
              show EV _ 163 [.ref (ad 30), .int c, .int d] (sR (sI h (ad 0) 6 0) (ad 1) k5 (some (mid t8))) _
              refine in_163 (Nat.le_of_ble_eq_true rfl) ?_
              show WR _ cd_163 0 [some (.ref (ad 30)), some (.int c), some (.int d), none] [] (sR (sI h (ad 0) 6 0) (ad 1) k5 (some (mid t8))) _
              refine r_iload rfl rfl ?_
              refine WR_tI (y := nI k2) ek2 ?_
              refine r_cs (y := 153) (ra := [.int (nI k2)]) (rest := []) rfl ⟨⟨rfl, rfl⟩, by decide⟩ rfl rfl (Nat.le_of_ble_eq_true rfl) ?_
              refine in_153 (Nat.le_of_ble_eq_true rfl) ?_
              show WR _ cd_153 0 [some (.int (nI k2))] [] (sR (sI h (ad 0) 6 0) (ad 1) k5 (some (mid t8))) _
              refine r_iload rfl rfl ?_
              refine r_if_lt (tg := 14) rfl rfl (fun q => False.elim (by have : (nI k2).toInt = ((k2 : Nat) : Int) := nI_toInt (by omega); have : (0 : Int32).toInt = 0 := rfl; have := i_eq ek2; have := i_rg c; have := i_nle c3; have : (24 : Int32).toInt = 24 := rfl; have := i_nlt c1; have := i_lt q; omega)) (fun _ => ?_)
              refine r_iload rfl rfl ?_
              refine r_ic (x := 24) rfl rfl ?_
              refine r_icmp_ge (tg := 14) rfl rfl (fun q => False.elim (by have : (nI k2).toInt = ((k2 : Nat) : Int) := nI_toInt (by omega); have : (24 : Int32).toInt = 24 := rfl; have := i_eq ek2; have := i_rg c; have := i_nle c3; have := i_nlt c1; have : (0 : Int32).toInt = 0 := rfl; have := i_le q; omega)) (fun _ => ?_)
              refine r_ic (x := 1) rfl rfl ?_
              refine r_goto (tg := 15) rfl rfl ?_
              refine r_zret rfl (.inr rfl) ?_
              show WR _ cd_163 4 [some (.ref (ad 30)), some (.int c), some (.int d), none] [.int 1] (sR (sI h (ad 0) 6 0) (ad 1) k5 (some (mid t8))) _
              refine r_if_eq (tg := 14) rfl rfl (fun q => absurd q (by decide)) (fun _ => ?_)
              refine r_iload rfl rfl ?_
              refine WR_tI (y := nI k5) ek5 ?_
              refine r_cs (y := 153) (ra := [.int (nI k5)]) (rest := []) rfl ⟨⟨rfl, rfl⟩, by decide⟩ rfl rfl (Nat.le_of_ble_eq_true rfl) ?_
              refine in_153 (Nat.le_of_ble_eq_true rfl) ?_
              show WR _ cd_153 0 [some (.int (nI k5))] [] (sR (sI h (ad 0) 6 0) (ad 1) k5 (some (mid t8))) _
              refine r_iload rfl rfl ?_
              refine r_if_lt (tg := 14) rfl rfl (fun q => False.elim (by have : (nI k5).toInt = ((k5 : Nat) : Int) := nI_toInt (by omega); have : (0 : Int32).toInt = 0 := rfl; have := i_eq ek5; have := i_rg d; have := i_nle c6; have : (24 : Int32).toInt = 24 := rfl; have := i_nlt c4; have := i_lt q; omega)) (fun _ => ?_)
              refine r_iload rfl rfl ?_
              refine r_ic (x := 24) rfl rfl ?_
              refine r_icmp_ge (tg := 14) rfl rfl (fun q => False.elim (by have : (nI k5).toInt = ((k5 : Nat) : Int) := nI_toInt (by omega); have : (24 : Int32).toInt = 24 := rfl; have := i_eq ek5; have := i_rg d; have := i_nle c6; have := i_nlt c4; have : (0 : Int32).toInt = 0 := rfl; have := i_le q; omega)) (fun _ => ?_)
              refine r_ic (x := 1) rfl rfl ?_
              refine r_goto (tg := 15) rfl rfl ?_
              refine r_zret rfl (.inr rfl) ?_
              show WR _ cd_163 11 [some (.ref (ad 30)), some (.int c), some (.int d), none] [.int 1] (sR (sI h (ad 0) 6 0) (ad 1) k5 (some (mid t8))) _
              refine r_if_ne (tg := 21) rfl rfl (fun _ => ?_) (fun q => absurd q (by decide))
              refine r_aload rfl rfl ?_
              refine r_getA (b := ad 31) rfl ⟨rfl, rfl, rfl⟩ (fx_t30 fx) (fx_r30_0 fx) ?_
              refine r_iload rfl rfl ?_
              refine WR_tI (y := nI k5) ek5 ?_
              refine r_iaload rfl (.inl (fx_t31 fx)) (vp_ct (fx_n31 fx) (vp_in_nI (by have := i_eq ek5; have : (nI k5).toInt = ((k5 : Nat) : Int) := nI_toInt (by omega); have := i_rg d; have := i_nle c6; have : (24 : Int32).toInt = 24 := rfl; have := i_nlt c4; have : (0 : Int32).toInt = 0 := rfl; omega) (by omega))) ?_
              refine WR_tI (congrArg (hI (sR (sI h (ad 0) 6 0) (ad 1) k5 (some (mid t8))) (ad 31)) ((nI_clamp (by have := i_eq ek5; have : (nI k5).toInt = ((k5 : Nat) : Int) := nI_toInt (by omega); have := i_rg d; have := i_nle c6; have : (24 : Int32).toInt = 24 := rfl; have := i_nlt c4; have : (0 : Int32).toInt = 0 := rfl; omega)) : _ = k5)) ?_
              refine WR_tI (y := (-1)) (Eq.trans I_oR (Eq.trans (I_ne (fx_ne fx (by decide))) v7)) ?_
              refine r_aload rfl rfl ?_
              refine r_getA (b := ad 31) rfl ⟨rfl, rfl, rfl⟩ (fx_t30 fx) (fx_r30_0 fx) ?_
              refine r_iload rfl rfl ?_
              refine WR_tI (y := nI k2) ek2 ?_
              refine r_iaload rfl (.inl (fx_t31 fx)) (vp_ct (fx_n31 fx) (vp_in_nI (by have := i_eq ek2; have : (nI k2).toInt = ((k2 : Nat) : Int) := nI_toInt (by omega); have := i_rg c; have := i_nle c3; have : (24 : Int32).toInt = 24 := rfl; have := i_nlt c1; have : (0 : Int32).toInt = 0 := rfl; omega) (by omega))) ?_
              refine WR_tI (congrArg (hI (sR (sI h (ad 0) 6 0) (ad 1) k5 (some (mid t8))) (ad 31)) ((nI_clamp (by have := i_eq ek2; have : (nI k2).toInt = ((k2 : Nat) : Int) := nI_toInt (by omega); have := i_rg c; have := i_nle c3; have : (24 : Int32).toInt = 24 := rfl; have := i_nlt c1; have : (0 : Int32).toInt = 0 := rfl; omega)) : _ = k2)) ?_
              refine WR_tI (y := nI t8) (Eq.trans I_oR (Eq.trans (I_ne (fx_ne fx (by decide))) v8)) ?_
              refine r_icmp_ne (tg := 40) rfl rfl (fun _ => ?_) (fun q => False.elim (by have : (-1 : Int32).toInt = -1 := rfl; have : (nI t8).toInt = ((t8 : Nat) : Int) := nI_toInt (by omega); have := i_eq q; omega))
              refine r_ic (x := 0) rfl rfl ?_
              refine r_istore (lv' := [some (.ref (ad 30)), some (.int c), some (.int d), some (.int 0)]) rfl (Nat.le_of_ble_eq_true rfl) rfl ?_
              refine r_aload rfl rfl ?_
              refine r_getA (b := ad 31) rfl ⟨rfl, rfl, rfl⟩ (fx_t30 fx) (fx_r30_0 fx) ?_
              refine r_iload rfl rfl ?_
              refine WR_tI (y := nI k5) ek5 ?_
              refine r_aload rfl rfl ?_
              refine r_getA (b := ad 31) rfl ⟨rfl, rfl, rfl⟩ (fx_t30 fx) (fx_r30_0 fx) ?_
              refine r_iload rfl rfl ?_
              refine WR_tI (y := nI k2) ek2 ?_
              refine r_iaload rfl (.inl (fx_t31 fx)) (vp_ct (fx_n31 fx) (vp_in_nI (by have := i_eq ek2; have : (nI k2).toInt = ((k2 : Nat) : Int) := nI_toInt (by omega); have := i_rg c; have := i_nle c3; have : (24 : Int32).toInt = 24 := rfl; have := i_nlt c1; have : (0 : Int32).toInt = 0 := rfl; omega) (by omega))) ?_
              refine WR_tI (congrArg (hI (sR (sI h (ad 0) 6 0) (ad 1) k5 (some (mid t8))) (ad 31)) ((nI_clamp (by have := i_eq ek2; have : (nI k2).toInt = ((k2 : Nat) : Int) := nI_toInt (by omega); have := i_rg c; have := i_nle c3; have : (24 : Int32).toInt = 24 := rfl; have := i_nlt c1; have : (0 : Int32).toInt = 0 := rfl; omega)) : _ = k2)) ?_
              refine WR_tI (y := nI t8) (Eq.trans I_oR (Eq.trans (I_ne (fx_ne fx (by decide))) v8)) ?_
              refine r_iastore rfl (fx_t31 fx) (vp_ct (fx_n31 fx) (vp_in_nI (by have := i_eq ek5; have : (nI k5).toInt = ((k5 : Nat) : Int) := nI_toInt (by omega); have := i_rg d; have := i_nle c6; have : (24 : Int32).toInt = 24 := rfl; have := i_nlt c4; have : (0 : Int32).toInt = 0 := rfl; omega) (by omega))) ?_
              refine WR_h (h2 := sI (sR (sI h (ad 0) 6 0) (ad 1) k5 (some (mid t8))) (ad 31) k5 (nI t8)) (congrArg (fun z => sI (sR (sI h (ad 0) 6 0) (ad 1) k5 (some (mid t8))) (ad 31) z (nI t8)) ((nI_clamp (by have := i_eq ek5; have : (nI k5).toInt = ((k5 : Nat) : Int) := nI_toInt (by omega); have := i_rg d; have := i_nle c6; have : (24 : Int32).toInt = 24 := rfl; have := i_nlt c4; have : (0 : Int32).toInt = 0 := rfl; omega)) : _ = k5)) ?_
              refine r_aload rfl rfl ?_
              refine r_iload rfl rfl ?_
              refine r_if_eq (tg := 63) rfl rfl (fun _ => ?_) (fun q => absurd q (by decide))
              refine r_ic (x := 1) rfl rfl ?_
              refine r_cv (y := 154) (ra := [.int 1]) (rest := []) rfl ⟨⟨rfl, rfl⟩, rfl, by decide⟩ (fx_t30 fx) rfl rfl (Nat.le_of_ble_eq_true rfl) ?_
              refine in_154 (Nat.le_of_ble_eq_true rfl) ?_
              show WR _ cd_154 0 [some (.ref (ad 30)), some (.int 1)] [] (sI (sR (sI h (ad 0) 6 0) (ad 1) k5 (some (mid t8))) (ad 31) k5 (nI t8)) _
              refine r_aload rfl rfl ?_
              refine r_iload rfl rfl ?_
              refine r_ic (x := (-1)) rfl rfl ?_
              refine r_icmp_ge (tg := 10) rfl rfl (fun _ => ?_) (fun q => absurd q (by decide))
              refine r_ic (x := 0) rfl rfl ?_
              refine r_putI rfl ⟨rfl, rfl, rfl⟩ (fx_t30 fx) ?_
              refine r_iload rfl rfl ?_
              refine r_iret rfl ?_
              show WR _ cd_163 67 [some (.ref (ad 30)), some (.int c), some (.int d), some (.int 0)] [.int 1] (sI (sI (sR (sI h (ad 0) 6 0) (ad 1) k5 (some (mid t8))) (ad 31) k5 (nI t8)) (ad 30) 11 0) _
              refine r_iret rfl ?_
              have cg : Chg n ad [(30, 11), (0, 6)] [31, 1] h (sI (sI (sR (sI h (ad 0) 6 0) (ad 1) k5 (some (mid t8))) (ad 31) k5 (nI t8)) (ad 30) 11 0) := ((((Chg.rf.sI (fx_j fx0) (k := 6) (v := 0) (.inl (by decide))).sR (fx_j fx0) (k := k5) (v := some (mid t8)) (.inl (by decide))).row.sI (fx_j fx0) (k := k5) (v := nI t8) (.inl (by decide))).row.sI (fx_j fx0) (k := 11) (v := 0) (.inl (by decide)))
              refine ⟨rfl, ⟨mid, pa, np, FX.k fx0 cg.1 cg.2.1 cg.2.2 (by decide), Eq.trans (Eq.trans (I_ne (fx_ne fx (by decide))) (Eq.trans (I_ne (fx_ne fx (by decide))) (Eq.trans I_oR I_eq))) (Eq.symm I_eq), rt.k cg.2.1 (by decide), ra.k cg.2.1 (by decide), rp.k cg.2.1 (by decide), rf.k cg.2.1 (by decide), Rst.k fx0 rst cg.2.2, Ru.k fx0 ru cg.2.1 (by decide), ?_⟩, Nat.le_add_right _ _, Nat.le_add_right _ _⟩
              · refine Rs.cases rs (smS_of fx0 cg (by decide)) (fun c_ hc_ => ?_)
                by_cases e_ : c_ = k5
                · rw [e_]
                  exact .inl ⟨k2, (by have := i_eq ek2; have : (nI k2).toInt = ((k2 : Nat) : Int) := nI_toInt (by omega); have := i_rg c; have := i_nle c3; have : (24 : Int32).toInt = 24 := rfl; have := i_nlt c1; have : (0 : Int32).toInt = 0 := rfl; omega), Eq.trans (Eq.trans (I_ne (fx_ne fx (by decide))) I_eq) (Eq.symm v8), Eq.trans (Eq.trans R_oI (Eq.trans R_oI R_eq)) (Eq.symm w8)⟩
                · exact .inl ⟨c_, hc_, (Eq.trans (I_ne (fx_ne fx (by decide))) (Eq.trans (I_nk (by have := i_eq ek5; have : (nI k5).toInt = ((k5 : Nat) : Int) := nI_toInt (by omega); have := i_rg d; have := i_nle c6; have : (24 : Int32).toInt = 24 := rfl; have := i_nlt c4; have : (0 : Int32).toInt = 0 := rfl; omega)) (Eq.trans I_oR (I_ne (fx_ne fx (by decide)))))), (Eq.trans R_oI (Eq.trans R_oI (Eq.trans (R_nk (by have := i_eq ek5; have : (nI k5).toInt = ((k5 : Nat) : Int) := nI_toInt (by omega); have := i_rg d; have := i_nle c6; have : (24 : Int32).toInt = 24 := rfl; have := i_nlt c4; have : (0 : Int32).toInt = 0 := rfl; omega)) R_oI)))⟩
            · refine r_aaloadA (b := mid t8) rfl (isQ_of (fx_t1 fx) (by decide)) (vp_ct (fx_n1 fx) (vp_in_nI (by have := i_eq ek2; have : (nI k2).toInt = ((k2 : Nat) : Int) := nI_toInt (by omega); have := i_rg c; have := i_nle c3; have : (24 : Int32).toInt = 24 := rfl; have := i_nlt c1; have : (0 : Int32).toInt = 0 := rfl; omega) (by omega))) (Eq.trans (congrArg (hR (sI h (ad 0) 6 0) (ad 1)) ((nI_clamp (by have := i_eq ek2; have : (nI k2).toInt = ((k2 : Nat) : Int) := nI_toInt (by omega); have := i_rg c; have := i_nle c3; have : (24 : Int32).toInt = 24 := rfl; have := i_nlt c1; have : (0 : Int32).toInt = 0 := rfl; omega)) : _ = k2)) (Eq.trans R_oI w8)) ?_
              refine r_acmpNA_ne (tg := 43) rfl rfl ?_
              refine r_aload rfl rfl ?_
              refine r_getA (b := ad 1) rfl ⟨rfl, rfl, rfl⟩ (fx_t0 fx) (fx_r0_0 fx) ?_
              refine r_iload rfl rfl ?_
              refine WR_tI (y := nI k5) ek5 ?_
              refine r_aload rfl rfl ?_
              refine r_getA (b := ad 1) rfl ⟨rfl, rfl, rfl⟩ (fx_t0 fx) (fx_r0_0 fx) ?_
              refine r_iload rfl rfl ?_
              refine WR_tI (y := nI k2) ek2 ?_
              refine r_aaloadA (b := mid t8) rfl (isQ_of (fx_t1 fx) (by decide)) (vp_ct (fx_n1 fx) (vp_in_nI (by have := i_eq ek2; have : (nI k2).toInt = ((k2 : Nat) : Int) := nI_toInt (by omega); have := i_rg c; have := i_nle c3; have : (24 : Int32).toInt = 24 := rfl; have := i_nlt c1; have : (0 : Int32).toInt = 0 := rfl; omega) (by omega))) (Eq.trans (congrArg (hR (sI h (ad 0) 6 0) (ad 1)) ((nI_clamp (by have := i_eq ek2; have : (nI k2).toInt = ((k2 : Nat) : Int) := nI_toInt (by omega); have := i_rg c; have := i_nle c3; have : (24 : Int32).toInt = 24 := rfl; have := i_nlt c1; have : (0 : Int32).toInt = 0 := rfl; omega)) : _ = k2)) (Eq.trans R_oI w8)) ?_
              refine r_aastoreA rfl (isQ_of (fx_t1 fx) (by decide)) (vp_ct (fx_n1 fx) (vp_in_nI (by have := i_eq ek5; have : (nI k5).toInt = ((k5 : Nat) : Int) := nI_toInt (by omega); have := i_rg d; have := i_nle c6; have : (24 : Int32).toInt = 24 := rfl; have := i_nlt c4; have : (0 : Int32).toInt = 0 := rfl; omega) (by omega))) (okR_of (fx_t1 fx) tg8 (by decide)) ?_
              refine WR_h (h2 := sR (sI h (ad 0) 6 0) (ad 1) k5 (some (mid t8))) (congrArg (fun z => sR (sI h (ad 0) 6 0) (ad 1) z (some (mid t8))) ((nI_clamp (by have := i_eq ek5; have : (nI k5).toInt = ((k5 : Nat) : Int) := nI_toInt (by omega); have := i_rg d; have := i_nle c6; have : (24 : Int32).toInt = 24 := rfl; have := i_nlt c4; have : (0 : Int32).toInt = 0 := rfl; omega)) : _ = k5)) ?_
              have fx : FX n ad sa z0 (sR (sI h (ad 0) 6 0) (ad 1) k5 (some (mid t8))) := FX.sRA (i := 1) fx (.inl (by decide)) (by decide)
              refine r_ic (x := 1) rfl rfl ?_
              refine r_iret rfl ?_
              show EV _ 163 [.ref (ad 30), .int c, .int d] (sR (sI h (ad 0) 6 0) (ad 1) k5 (some (mid t8))) _
              refine in_163 (Nat.le_of_ble_eq_true rfl) ?_
              show WR _ cd_163 0 [some (.ref (ad 30)), some (.int c), some (.int d), none] [] (sR (sI h (ad 0) 6 0) (ad 1) k5 (some (mid t8))) _
              refine r_iload rfl rfl ?_
              refine WR_tI (y := nI k2) ek2 ?_
              refine r_cs (y := 153) (ra := [.int (nI k2)]) (rest := []) rfl ⟨⟨rfl, rfl⟩, by decide⟩ rfl rfl (Nat.le_of_ble_eq_true rfl) ?_
              refine in_153 (Nat.le_of_ble_eq_true rfl) ?_
              show WR _ cd_153 0 [some (.int (nI k2))] [] (sR (sI h (ad 0) 6 0) (ad 1) k5 (some (mid t8))) _
              refine r_iload rfl rfl ?_
              refine r_if_lt (tg := 14) rfl rfl (fun q => False.elim (by have : (nI k2).toInt = ((k2 : Nat) : Int) := nI_toInt (by omega); have : (0 : Int32).toInt = 0 := rfl; have := i_eq ek2; have := i_rg c; have := i_nle c3; have : (24 : Int32).toInt = 24 := rfl; have := i_nlt c1; have := i_lt q; omega)) (fun _ => ?_)
              refine r_iload rfl rfl ?_
              refine r_ic (x := 24) rfl rfl ?_
              refine r_icmp_ge (tg := 14) rfl rfl (fun q => False.elim (by have : (nI k2).toInt = ((k2 : Nat) : Int) := nI_toInt (by omega); have : (24 : Int32).toInt = 24 := rfl; have := i_eq ek2; have := i_rg c; have := i_nle c3; have := i_nlt c1; have : (0 : Int32).toInt = 0 := rfl; have := i_le q; omega)) (fun _ => ?_)
              refine r_ic (x := 1) rfl rfl ?_
              refine r_goto (tg := 15) rfl rfl ?_
              refine r_zret rfl (.inr rfl) ?_
              show WR _ cd_163 4 [some (.ref (ad 30)), some (.int c), some (.int d), none] [.int 1] (sR (sI h (ad 0) 6 0) (ad 1) k5 (some (mid t8))) _
              refine r_if_eq (tg := 14) rfl rfl (fun q => absurd q (by decide)) (fun _ => ?_)
              refine r_iload rfl rfl ?_
              refine WR_tI (y := nI k5) ek5 ?_
              refine r_cs (y := 153) (ra := [.int (nI k5)]) (rest := []) rfl ⟨⟨rfl, rfl⟩, by decide⟩ rfl rfl (Nat.le_of_ble_eq_true rfl) ?_
              refine in_153 (Nat.le_of_ble_eq_true rfl) ?_
              show WR _ cd_153 0 [some (.int (nI k5))] [] (sR (sI h (ad 0) 6 0) (ad 1) k5 (some (mid t8))) _
              refine r_iload rfl rfl ?_
              refine r_if_lt (tg := 14) rfl rfl (fun q => False.elim (by have : (nI k5).toInt = ((k5 : Nat) : Int) := nI_toInt (by omega); have : (0 : Int32).toInt = 0 := rfl; have := i_eq ek5; have := i_rg d; have := i_nle c6; have : (24 : Int32).toInt = 24 := rfl; have := i_nlt c4; have := i_lt q; omega)) (fun _ => ?_)
              refine r_iload rfl rfl ?_
              refine r_ic (x := 24) rfl rfl ?_
              refine r_icmp_ge (tg := 14) rfl rfl (fun q => False.elim (by have : (nI k5).toInt = ((k5 : Nat) : Int) := nI_toInt (by omega); have : (24 : Int32).toInt = 24 := rfl; have := i_eq ek5; have := i_rg d; have := i_nle c6; have := i_nlt c4; have : (0 : Int32).toInt = 0 := rfl; have := i_le q; omega)) (fun _ => ?_)
              refine r_ic (x := 1) rfl rfl ?_
              refine r_goto (tg := 15) rfl rfl ?_
              refine r_zret rfl (.inr rfl) ?_
              show WR _ cd_163 11 [some (.ref (ad 30)), some (.int c), some (.int d), none] [.int 1] (sR (sI h (ad 0) 6 0) (ad 1) k5 (some (mid t8))) _
              refine r_if_ne (tg := 21) rfl rfl (fun _ => ?_) (fun q => absurd q (by decide))
              refine r_aload rfl rfl ?_
              refine r_getA (b := ad 31) rfl ⟨rfl, rfl, rfl⟩ (fx_t30 fx) (fx_r30_0 fx) ?_
              refine r_iload rfl rfl ?_
              refine WR_tI (y := nI k5) ek5 ?_
              refine r_iaload rfl (.inl (fx_t31 fx)) (vp_ct (fx_n31 fx) (vp_in_nI (by have := i_eq ek5; have : (nI k5).toInt = ((k5 : Nat) : Int) := nI_toInt (by omega); have := i_rg d; have := i_nle c6; have : (24 : Int32).toInt = 24 := rfl; have := i_nlt c4; have : (0 : Int32).toInt = 0 := rfl; omega) (by omega))) ?_
              refine WR_tI (congrArg (hI (sR (sI h (ad 0) 6 0) (ad 1) k5 (some (mid t8))) (ad 31)) ((nI_clamp (by have := i_eq ek5; have : (nI k5).toInt = ((k5 : Nat) : Int) := nI_toInt (by omega); have := i_rg d; have := i_nle c6; have : (24 : Int32).toInt = 24 := rfl; have := i_nlt c4; have : (0 : Int32).toInt = 0 := rfl; omega)) : _ = k5)) ?_
              refine WR_tI (y := (-1)) (Eq.trans I_oR (Eq.trans (I_ne (fx_ne fx (by decide))) v7)) ?_
              refine r_aload rfl rfl ?_
              refine r_getA (b := ad 31) rfl ⟨rfl, rfl, rfl⟩ (fx_t30 fx) (fx_r30_0 fx) ?_
              refine r_iload rfl rfl ?_
              refine WR_tI (y := nI k2) ek2 ?_
              refine r_iaload rfl (.inl (fx_t31 fx)) (vp_ct (fx_n31 fx) (vp_in_nI (by have := i_eq ek2; have : (nI k2).toInt = ((k2 : Nat) : Int) := nI_toInt (by omega); have := i_rg c; have := i_nle c3; have : (24 : Int32).toInt = 24 := rfl; have := i_nlt c1; have : (0 : Int32).toInt = 0 := rfl; omega) (by omega))) ?_
              refine WR_tI (congrArg (hI (sR (sI h (ad 0) 6 0) (ad 1) k5 (some (mid t8))) (ad 31)) ((nI_clamp (by have := i_eq ek2; have : (nI k2).toInt = ((k2 : Nat) : Int) := nI_toInt (by omega); have := i_rg c; have := i_nle c3; have : (24 : Int32).toInt = 24 := rfl; have := i_nlt c1; have : (0 : Int32).toInt = 0 := rfl; omega)) : _ = k2)) ?_
              refine WR_tI (y := nI t8) (Eq.trans I_oR (Eq.trans (I_ne (fx_ne fx (by decide))) v8)) ?_
              refine r_icmp_ne (tg := 40) rfl rfl (fun _ => ?_) (fun q => False.elim (by have : (-1 : Int32).toInt = -1 := rfl; have : (nI t8).toInt = ((t8 : Nat) : Int) := nI_toInt (by omega); have := i_eq q; omega))
              refine r_ic (x := 0) rfl rfl ?_
              refine r_istore (lv' := [some (.ref (ad 30)), some (.int c), some (.int d), some (.int 0)]) rfl (Nat.le_of_ble_eq_true rfl) rfl ?_
              refine r_aload rfl rfl ?_
              refine r_getA (b := ad 31) rfl ⟨rfl, rfl, rfl⟩ (fx_t30 fx) (fx_r30_0 fx) ?_
              refine r_iload rfl rfl ?_
              refine WR_tI (y := nI k5) ek5 ?_
              refine r_aload rfl rfl ?_
              refine r_getA (b := ad 31) rfl ⟨rfl, rfl, rfl⟩ (fx_t30 fx) (fx_r30_0 fx) ?_
              refine r_iload rfl rfl ?_
              refine WR_tI (y := nI k2) ek2 ?_
              refine r_iaload rfl (.inl (fx_t31 fx)) (vp_ct (fx_n31 fx) (vp_in_nI (by have := i_eq ek2; have : (nI k2).toInt = ((k2 : Nat) : Int) := nI_toInt (by omega); have := i_rg c; have := i_nle c3; have : (24 : Int32).toInt = 24 := rfl; have := i_nlt c1; have : (0 : Int32).toInt = 0 := rfl; omega) (by omega))) ?_
              refine WR_tI (congrArg (hI (sR (sI h (ad 0) 6 0) (ad 1) k5 (some (mid t8))) (ad 31)) ((nI_clamp (by have := i_eq ek2; have : (nI k2).toInt = ((k2 : Nat) : Int) := nI_toInt (by omega); have := i_rg c; have := i_nle c3; have : (24 : Int32).toInt = 24 := rfl; have := i_nlt c1; have : (0 : Int32).toInt = 0 := rfl; omega)) : _ = k2)) ?_
              refine WR_tI (y := nI t8) (Eq.trans I_oR (Eq.trans (I_ne (fx_ne fx (by decide))) v8)) ?_
              refine r_iastore rfl (fx_t31 fx) (vp_ct (fx_n31 fx) (vp_in_nI (by have := i_eq ek5; have : (nI k5).toInt = ((k5 : Nat) : Int) := nI_toInt (by omega); have := i_rg d; have := i_nle c6; have : (24 : Int32).toInt = 24 := rfl; have := i_nlt c4; have : (0 : Int32).toInt = 0 := rfl; omega) (by omega))) ?_
              refine WR_h (h2 := sI (sR (sI h (ad 0) 6 0) (ad 1) k5 (some (mid t8))) (ad 31) k5 (nI t8)) (congrArg (fun z => sI (sR (sI h (ad 0) 6 0) (ad 1) k5 (some (mid t8))) (ad 31) z (nI t8)) ((nI_clamp (by have := i_eq ek5; have : (nI k5).toInt = ((k5 : Nat) : Int) := nI_toInt (by omega); have := i_rg d; have := i_nle c6; have : (24 : Int32).toInt = 24 := rfl; have := i_nlt c4; have : (0 : Int32).toInt = 0 := rfl; omega)) : _ = k5)) ?_
              refine r_aload rfl rfl ?_
              refine r_iload rfl rfl ?_
              refine r_if_eq (tg := 63) rfl rfl (fun _ => ?_) (fun q => absurd q (by decide))
              refine r_ic (x := 1) rfl rfl ?_
              refine r_cv (y := 154) (ra := [.int 1]) (rest := []) rfl ⟨⟨rfl, rfl⟩, rfl, by decide⟩ (fx_t30 fx) rfl rfl (Nat.le_of_ble_eq_true rfl) ?_
              refine in_154 (Nat.le_of_ble_eq_true rfl) ?_
              show WR _ cd_154 0 [some (.ref (ad 30)), some (.int 1)] [] (sI (sR (sI h (ad 0) 6 0) (ad 1) k5 (some (mid t8))) (ad 31) k5 (nI t8)) _
              refine r_aload rfl rfl ?_
              refine r_iload rfl rfl ?_
              refine r_ic (x := (-1)) rfl rfl ?_
              refine r_icmp_ge (tg := 10) rfl rfl (fun _ => ?_) (fun q => absurd q (by decide))
              refine r_ic (x := 0) rfl rfl ?_
              refine r_putI rfl ⟨rfl, rfl, rfl⟩ (fx_t30 fx) ?_
              refine r_iload rfl rfl ?_
              refine r_iret rfl ?_
              show WR _ cd_163 67 [some (.ref (ad 30)), some (.int c), some (.int d), some (.int 0)] [.int 1] (sI (sI (sR (sI h (ad 0) 6 0) (ad 1) k5 (some (mid t8))) (ad 31) k5 (nI t8)) (ad 30) 11 0) _
              refine r_iret rfl ?_
              have cg : Chg n ad [(30, 11), (0, 6)] [31, 1] h (sI (sI (sR (sI h (ad 0) 6 0) (ad 1) k5 (some (mid t8))) (ad 31) k5 (nI t8)) (ad 30) 11 0) := ((((Chg.rf.sI (fx_j fx0) (k := 6) (v := 0) (.inl (by decide))).sR (fx_j fx0) (k := k5) (v := some (mid t8)) (.inl (by decide))).row.sI (fx_j fx0) (k := k5) (v := nI t8) (.inl (by decide))).row.sI (fx_j fx0) (k := 11) (v := 0) (.inl (by decide)))
              refine ⟨rfl, ⟨mid, pa, np, FX.k fx0 cg.1 cg.2.1 cg.2.2 (by decide), Eq.trans (Eq.trans (I_ne (fx_ne fx (by decide))) (Eq.trans (I_ne (fx_ne fx (by decide))) (Eq.trans I_oR I_eq))) (Eq.symm I_eq), rt.k cg.2.1 (by decide), ra.k cg.2.1 (by decide), rp.k cg.2.1 (by decide), rf.k cg.2.1 (by decide), Rst.k fx0 rst cg.2.2, Ru.k fx0 ru cg.2.1 (by decide), ?_⟩, Nat.le_add_right _ _, Nat.le_add_right _ _⟩
              · refine Rs.cases rs (smS_of fx0 cg (by decide)) (fun c_ hc_ => ?_)
                by_cases e_ : c_ = k5
                · rw [e_]
                  exact .inl ⟨k2, (by have := i_eq ek2; have : (nI k2).toInt = ((k2 : Nat) : Int) := nI_toInt (by omega); have := i_rg c; have := i_nle c3; have : (24 : Int32).toInt = 24 := rfl; have := i_nlt c1; have : (0 : Int32).toInt = 0 := rfl; omega), Eq.trans (Eq.trans (I_ne (fx_ne fx (by decide))) I_eq) (Eq.symm v8), Eq.trans (Eq.trans R_oI (Eq.trans R_oI R_eq)) (Eq.symm w8)⟩
                · exact .inl ⟨c_, hc_, (Eq.trans (I_ne (fx_ne fx (by decide))) (Eq.trans (I_nk (by have := i_eq ek5; have : (nI k5).toInt = ((k5 : Nat) : Int) := nI_toInt (by omega); have := i_rg d; have := i_nle c6; have : (24 : Int32).toInt = 24 := rfl; have := i_nlt c4; have : (0 : Int32).toInt = 0 := rfl; omega)) (Eq.trans I_oR (I_ne (fx_ne fx (by decide)))))), (Eq.trans R_oI (Eq.trans R_oI (Eq.trans (R_nk (by have := i_eq ek5; have : (nI k5).toInt = ((k5 : Nat) : Int) := nI_toInt (by omega); have := i_rg d; have := i_nle c6; have : (24 : Int32).toInt = 24 := rfl; have := i_nlt c4; have : (0 : Int32).toInt = 0 := rfl; omega)) R_oI)))⟩
            · refine r_aaloadA (b := mid t8) rfl (isQ_of (fx_t1 fx) (by decide)) (vp_ct (fx_n1 fx) (vp_in_nI (by have := i_eq ek2; have : (nI k2).toInt = ((k2 : Nat) : Int) := nI_toInt (by omega); have := i_rg c; have := i_nle c3; have : (24 : Int32).toInt = 24 := rfl; have := i_nlt c1; have : (0 : Int32).toInt = 0 := rfl; omega) (by omega))) (Eq.trans (congrArg (hR (sI h (ad 0) 6 0) (ad 1)) ((nI_clamp (by have := i_eq ek2; have : (nI k2).toInt = ((k2 : Nat) : Int) := nI_toInt (by omega); have := i_rg c; have := i_nle c3; have : (24 : Int32).toInt = 24 := rfl; have := i_nlt c1; have : (0 : Int32).toInt = 0 := rfl; omega)) : _ = k2)) (Eq.trans R_oI w8)) ?_
              refine r_acmpNA_ne (tg := 43) rfl rfl ?_
              refine r_aload rfl rfl ?_
              refine r_getA (b := ad 1) rfl ⟨rfl, rfl, rfl⟩ (fx_t0 fx) (fx_r0_0 fx) ?_
              refine r_iload rfl rfl ?_
              refine WR_tI (y := nI k5) ek5 ?_
              refine r_aload rfl rfl ?_
              refine r_getA (b := ad 1) rfl ⟨rfl, rfl, rfl⟩ (fx_t0 fx) (fx_r0_0 fx) ?_
              refine r_iload rfl rfl ?_
              refine WR_tI (y := nI k2) ek2 ?_
              refine r_aaloadA (b := mid t8) rfl (isQ_of (fx_t1 fx) (by decide)) (vp_ct (fx_n1 fx) (vp_in_nI (by have := i_eq ek2; have : (nI k2).toInt = ((k2 : Nat) : Int) := nI_toInt (by omega); have := i_rg c; have := i_nle c3; have : (24 : Int32).toInt = 24 := rfl; have := i_nlt c1; have : (0 : Int32).toInt = 0 := rfl; omega) (by omega))) (Eq.trans (congrArg (hR (sI h (ad 0) 6 0) (ad 1)) ((nI_clamp (by have := i_eq ek2; have : (nI k2).toInt = ((k2 : Nat) : Int) := nI_toInt (by omega); have := i_rg c; have := i_nle c3; have : (24 : Int32).toInt = 24 := rfl; have := i_nlt c1; have : (0 : Int32).toInt = 0 := rfl; omega)) : _ = k2)) (Eq.trans R_oI w8)) ?_
              refine r_aastoreA rfl (isQ_of (fx_t1 fx) (by decide)) (vp_ct (fx_n1 fx) (vp_in_nI (by have := i_eq ek5; have : (nI k5).toInt = ((k5 : Nat) : Int) := nI_toInt (by omega); have := i_rg d; have := i_nle c6; have : (24 : Int32).toInt = 24 := rfl; have := i_nlt c4; have : (0 : Int32).toInt = 0 := rfl; omega) (by omega))) (okR_of (fx_t1 fx) tg8 (by decide)) ?_
              refine WR_h (h2 := sR (sI h (ad 0) 6 0) (ad 1) k5 (some (mid t8))) (congrArg (fun z => sR (sI h (ad 0) 6 0) (ad 1) z (some (mid t8))) ((nI_clamp (by have := i_eq ek5; have : (nI k5).toInt = ((k5 : Nat) : Int) := nI_toInt (by omega); have := i_rg d; have := i_nle c6; have : (24 : Int32).toInt = 24 := rfl; have := i_nlt c4; have : (0 : Int32).toInt = 0 := rfl; omega)) : _ = k5)) ?_
              have fx : FX n ad sa z0 (sR (sI h (ad 0) 6 0) (ad 1) k5 (some (mid t8))) := FX.sRA (i := 1) fx (.inl (by decide)) (by decide)
              refine r_ic (x := 1) rfl rfl ?_
              refine r_iret rfl ?_
              show EV _ 163 [.ref (ad 30), .int c, .int d] (sR (sI h (ad 0) 6 0) (ad 1) k5 (some (mid t8))) _
              refine in_163 (Nat.le_of_ble_eq_true rfl) ?_
              show WR _ cd_163 0 [some (.ref (ad 30)), some (.int c), some (.int d), none] [] (sR (sI h (ad 0) 6 0) (ad 1) k5 (some (mid t8))) _
              refine r_iload rfl rfl ?_
              refine WR_tI (y := nI k2) ek2 ?_
              refine r_cs (y := 153) (ra := [.int (nI k2)]) (rest := []) rfl ⟨⟨rfl, rfl⟩, by decide⟩ rfl rfl (Nat.le_of_ble_eq_true rfl) ?_
              refine in_153 (Nat.le_of_ble_eq_true rfl) ?_
              show WR _ cd_153 0 [some (.int (nI k2))] [] (sR (sI h (ad 0) 6 0) (ad 1) k5 (some (mid t8))) _
              refine r_iload rfl rfl ?_
              refine r_if_lt (tg := 14) rfl rfl (fun q => False.elim (by have : (nI k2).toInt = ((k2 : Nat) : Int) := nI_toInt (by omega); have : (0 : Int32).toInt = 0 := rfl; have := i_eq ek2; have := i_rg c; have := i_nle c3; have : (24 : Int32).toInt = 24 := rfl; have := i_nlt c1; have := i_lt q; omega)) (fun _ => ?_)
              refine r_iload rfl rfl ?_
              refine r_ic (x := 24) rfl rfl ?_
              refine r_icmp_ge (tg := 14) rfl rfl (fun q => False.elim (by have : (nI k2).toInt = ((k2 : Nat) : Int) := nI_toInt (by omega); have : (24 : Int32).toInt = 24 := rfl; have := i_eq ek2; have := i_rg c; have := i_nle c3; have := i_nlt c1; have : (0 : Int32).toInt = 0 := rfl; have := i_le q; omega)) (fun _ => ?_)
              refine r_ic (x := 1) rfl rfl ?_
              refine r_goto (tg := 15) rfl rfl ?_
              refine r_zret rfl (.inr rfl) ?_
              show WR _ cd_163 4 [some (.ref (ad 30)), some (.int c), some (.int d), none] [.int 1] (sR (sI h (ad 0) 6 0) (ad 1) k5 (some (mid t8))) _
              refine r_if_eq (tg := 14) rfl rfl (fun q => absurd q (by decide)) (fun _ => ?_)
              refine r_iload rfl rfl ?_
              refine WR_tI (y := nI k5) ek5 ?_
              refine r_cs (y := 153) (ra := [.int (nI k5)]) (rest := []) rfl ⟨⟨rfl, rfl⟩, by decide⟩ rfl rfl (Nat.le_of_ble_eq_true rfl) ?_
              refine in_153 (Nat.le_of_ble_eq_true rfl) ?_
              show WR _ cd_153 0 [some (.int (nI k5))] [] (sR (sI h (ad 0) 6 0) (ad 1) k5 (some (mid t8))) _
              refine r_iload rfl rfl ?_
              refine r_if_lt (tg := 14) rfl rfl (fun q => False.elim (by have : (nI k5).toInt = ((k5 : Nat) : Int) := nI_toInt (by omega); have : (0 : Int32).toInt = 0 := rfl; have := i_eq ek5; have := i_rg d; have := i_nle c6; have : (24 : Int32).toInt = 24 := rfl; have := i_nlt c4; have := i_lt q; omega)) (fun _ => ?_)
              refine r_iload rfl rfl ?_
              refine r_ic (x := 24) rfl rfl ?_
              refine r_icmp_ge (tg := 14) rfl rfl (fun q => False.elim (by have : (nI k5).toInt = ((k5 : Nat) : Int) := nI_toInt (by omega); have : (24 : Int32).toInt = 24 := rfl; have := i_eq ek5; have := i_rg d; have := i_nle c6; have := i_nlt c4; have : (0 : Int32).toInt = 0 := rfl; have := i_le q; omega)) (fun _ => ?_)
              refine r_ic (x := 1) rfl rfl ?_
              refine r_goto (tg := 15) rfl rfl ?_
              refine r_zret rfl (.inr rfl) ?_
              show WR _ cd_163 11 [some (.ref (ad 30)), some (.int c), some (.int d), none] [.int 1] (sR (sI h (ad 0) 6 0) (ad 1) k5 (some (mid t8))) _
              refine r_if_ne (tg := 21) rfl rfl (fun _ => ?_) (fun q => absurd q (by decide))
              refine r_aload rfl rfl ?_
              refine r_getA (b := ad 31) rfl ⟨rfl, rfl, rfl⟩ (fx_t30 fx) (fx_r30_0 fx) ?_
              refine r_iload rfl rfl ?_
              refine WR_tI (y := nI k5) ek5 ?_
              refine r_iaload rfl (.inl (fx_t31 fx)) (vp_ct (fx_n31 fx) (vp_in_nI (by have := i_eq ek5; have : (nI k5).toInt = ((k5 : Nat) : Int) := nI_toInt (by omega); have := i_rg d; have := i_nle c6; have : (24 : Int32).toInt = 24 := rfl; have := i_nlt c4; have : (0 : Int32).toInt = 0 := rfl; omega) (by omega))) ?_
              refine WR_tI (congrArg (hI (sR (sI h (ad 0) 6 0) (ad 1) k5 (some (mid t8))) (ad 31)) ((nI_clamp (by have := i_eq ek5; have : (nI k5).toInt = ((k5 : Nat) : Int) := nI_toInt (by omega); have := i_rg d; have := i_nle c6; have : (24 : Int32).toInt = 24 := rfl; have := i_nlt c4; have : (0 : Int32).toInt = 0 := rfl; omega)) : _ = k5)) ?_
              refine WR_tI (y := (-1)) (Eq.trans I_oR (Eq.trans (I_ne (fx_ne fx (by decide))) v7)) ?_
              refine r_aload rfl rfl ?_
              refine r_getA (b := ad 31) rfl ⟨rfl, rfl, rfl⟩ (fx_t30 fx) (fx_r30_0 fx) ?_
              refine r_iload rfl rfl ?_
              refine WR_tI (y := nI k2) ek2 ?_
              refine r_iaload rfl (.inl (fx_t31 fx)) (vp_ct (fx_n31 fx) (vp_in_nI (by have := i_eq ek2; have : (nI k2).toInt = ((k2 : Nat) : Int) := nI_toInt (by omega); have := i_rg c; have := i_nle c3; have : (24 : Int32).toInt = 24 := rfl; have := i_nlt c1; have : (0 : Int32).toInt = 0 := rfl; omega) (by omega))) ?_
              refine WR_tI (congrArg (hI (sR (sI h (ad 0) 6 0) (ad 1) k5 (some (mid t8))) (ad 31)) ((nI_clamp (by have := i_eq ek2; have : (nI k2).toInt = ((k2 : Nat) : Int) := nI_toInt (by omega); have := i_rg c; have := i_nle c3; have : (24 : Int32).toInt = 24 := rfl; have := i_nlt c1; have : (0 : Int32).toInt = 0 := rfl; omega)) : _ = k2)) ?_
              refine WR_tI (y := nI t8) (Eq.trans I_oR (Eq.trans (I_ne (fx_ne fx (by decide))) v8)) ?_
              refine r_icmp_ne (tg := 40) rfl rfl (fun _ => ?_) (fun q => False.elim (by have : (-1 : Int32).toInt = -1 := rfl; have : (nI t8).toInt = ((t8 : Nat) : Int) := nI_toInt (by omega); have := i_eq q; omega))
              refine r_ic (x := 0) rfl rfl ?_
              refine r_istore (lv' := [some (.ref (ad 30)), some (.int c), some (.int d), some (.int 0)]) rfl (Nat.le_of_ble_eq_true rfl) rfl ?_
              refine r_aload rfl rfl ?_
              refine r_getA (b := ad 31) rfl ⟨rfl, rfl, rfl⟩ (fx_t30 fx) (fx_r30_0 fx) ?_
              refine r_iload rfl rfl ?_
              refine WR_tI (y := nI k5) ek5 ?_
              refine r_aload rfl rfl ?_
              refine r_getA (b := ad 31) rfl ⟨rfl, rfl, rfl⟩ (fx_t30 fx) (fx_r30_0 fx) ?_
              refine r_iload rfl rfl ?_
              refine WR_tI (y := nI k2) ek2 ?_
              refine r_iaload rfl (.inl (fx_t31 fx)) (vp_ct (fx_n31 fx) (vp_in_nI (by have := i_eq ek2; have : (nI k2).toInt = ((k2 : Nat) : Int) := nI_toInt (by omega); have := i_rg c; have := i_nle c3; have : (24 : Int32).toInt = 24 := rfl; have := i_nlt c1; have : (0 : Int32).toInt = 0 := rfl; omega) (by omega))) ?_
              refine WR_tI (congrArg (hI (sR (sI h (ad 0) 6 0) (ad 1) k5 (some (mid t8))) (ad 31)) ((nI_clamp (by have := i_eq ek2; have : (nI k2).toInt = ((k2 : Nat) : Int) := nI_toInt (by omega); have := i_rg c; have := i_nle c3; have : (24 : Int32).toInt = 24 := rfl; have := i_nlt c1; have : (0 : Int32).toInt = 0 := rfl; omega)) : _ = k2)) ?_
              refine WR_tI (y := nI t8) (Eq.trans I_oR (Eq.trans (I_ne (fx_ne fx (by decide))) v8)) ?_
              refine r_iastore rfl (fx_t31 fx) (vp_ct (fx_n31 fx) (vp_in_nI (by have := i_eq ek5; have : (nI k5).toInt = ((k5 : Nat) : Int) := nI_toInt (by omega); have := i_rg d; have := i_nle c6; have : (24 : Int32).toInt = 24 := rfl; have := i_nlt c4; have : (0 : Int32).toInt = 0 := rfl; omega) (by omega))) ?_
              refine WR_h (h2 := sI (sR (sI h (ad 0) 6 0) (ad 1) k5 (some (mid t8))) (ad 31) k5 (nI t8)) (congrArg (fun z => sI (sR (sI h (ad 0) 6 0) (ad 1) k5 (some (mid t8))) (ad 31) z (nI t8)) ((nI_clamp (by have := i_eq ek5; have : (nI k5).toInt = ((k5 : Nat) : Int) := nI_toInt (by omega); have := i_rg d; have := i_nle c6; have : (24 : Int32).toInt = 24 := rfl; have := i_nlt c4; have : (0 : Int32).toInt = 0 := rfl; omega)) : _ = k5)) ?_
              refine r_aload rfl rfl ?_
              refine r_iload rfl rfl ?_
              refine r_if_eq (tg := 63) rfl rfl (fun _ => ?_) (fun q => absurd q (by decide))
              refine r_ic (x := 1) rfl rfl ?_
              refine r_cv (y := 154) (ra := [.int 1]) (rest := []) rfl ⟨⟨rfl, rfl⟩, rfl, by decide⟩ (fx_t30 fx) rfl rfl (Nat.le_of_ble_eq_true rfl) ?_
              refine in_154 (Nat.le_of_ble_eq_true rfl) ?_
              show WR _ cd_154 0 [some (.ref (ad 30)), some (.int 1)] [] (sI (sR (sI h (ad 0) 6 0) (ad 1) k5 (some (mid t8))) (ad 31) k5 (nI t8)) _
              refine r_aload rfl rfl ?_
              refine r_iload rfl rfl ?_
              refine r_ic (x := (-1)) rfl rfl ?_
              refine r_icmp_ge (tg := 10) rfl rfl (fun _ => ?_) (fun q => absurd q (by decide))
              refine r_ic (x := 0) rfl rfl ?_
              refine r_putI rfl ⟨rfl, rfl, rfl⟩ (fx_t30 fx) ?_
              refine r_iload rfl rfl ?_
              refine r_iret rfl ?_
              show WR _ cd_163 67 [some (.ref (ad 30)), some (.int c), some (.int d), some (.int 0)] [.int 1] (sI (sI (sR (sI h (ad 0) 6 0) (ad 1) k5 (some (mid t8))) (ad 31) k5 (nI t8)) (ad 30) 11 0) _
              refine r_iret rfl ?_
              have cg : Chg n ad [(30, 11), (0, 6)] [31, 1] h (sI (sI (sR (sI h (ad 0) 6 0) (ad 1) k5 (some (mid t8))) (ad 31) k5 (nI t8)) (ad 30) 11 0) := ((((Chg.rf.sI (fx_j fx0) (k := 6) (v := 0) (.inl (by decide))).sR (fx_j fx0) (k := k5) (v := some (mid t8)) (.inl (by decide))).row.sI (fx_j fx0) (k := k5) (v := nI t8) (.inl (by decide))).row.sI (fx_j fx0) (k := 11) (v := 0) (.inl (by decide)))
              refine ⟨rfl, ⟨mid, pa, np, FX.k fx0 cg.1 cg.2.1 cg.2.2 (by decide), Eq.trans (Eq.trans (I_ne (fx_ne fx (by decide))) (Eq.trans (I_ne (fx_ne fx (by decide))) (Eq.trans I_oR I_eq))) (Eq.symm I_eq), rt.k cg.2.1 (by decide), ra.k cg.2.1 (by decide), rp.k cg.2.1 (by decide), rf.k cg.2.1 (by decide), Rst.k fx0 rst cg.2.2, Ru.k fx0 ru cg.2.1 (by decide), ?_⟩, Nat.le_add_right _ _, Nat.le_add_right _ _⟩
              · refine Rs.cases rs (smS_of fx0 cg (by decide)) (fun c_ hc_ => ?_)
                by_cases e_ : c_ = k5
                · rw [e_]
                  exact .inl ⟨k2, (by have := i_eq ek2; have : (nI k2).toInt = ((k2 : Nat) : Int) := nI_toInt (by omega); have := i_rg c; have := i_nle c3; have : (24 : Int32).toInt = 24 := rfl; have := i_nlt c1; have : (0 : Int32).toInt = 0 := rfl; omega), Eq.trans (Eq.trans (I_ne (fx_ne fx (by decide))) I_eq) (Eq.symm v8), Eq.trans (Eq.trans R_oI (Eq.trans R_oI R_eq)) (Eq.symm w8)⟩
                · exact .inl ⟨c_, hc_, (Eq.trans (I_ne (fx_ne fx (by decide))) (Eq.trans (I_nk (by have := i_eq ek5; have : (nI k5).toInt = ((k5 : Nat) : Int) := nI_toInt (by omega); have := i_rg d; have := i_nle c6; have : (24 : Int32).toInt = 24 := rfl; have := i_nlt c4; have : (0 : Int32).toInt = 0 := rfl; omega)) (Eq.trans I_oR (I_ne (fx_ne fx (by decide)))))), (Eq.trans R_oI (Eq.trans R_oI (Eq.trans (R_nk (by have := i_eq ek5; have : (nI k5).toInt = ((k5 : Nat) : Int) := nI_toInt (by omega); have := i_rg d; have := i_nle c6; have : (24 : Int32).toInt = 24 := rfl; have := i_nlt c4; have : (0 : Int32).toInt = 0 := rfl; omega)) R_oI)))⟩
          · refine r_aaloadA (b := pa q7) rfl (isQ_of (fx_t1 fx) (by decide)) (vp_ct (fx_n1 fx) (vp_in_nI (by have := i_eq ek5; have : (nI k5).toInt = ((k5 : Nat) : Int) := nI_toInt (by omega); have := i_rg d; have := i_nle c6; have : (24 : Int32).toInt = 24 := rfl; have := i_nlt c4; have : (0 : Int32).toInt = 0 := rfl; omega) (by omega))) (Eq.trans (congrArg (hR (sI h (ad 0) 6 0) (ad 1)) ((nI_clamp (by have := i_eq ek5; have : (nI k5).toInt = ((k5 : Nat) : Int) := nI_toInt (by omega); have := i_rg d; have := i_nle c6; have : (24 : Int32).toInt = 24 := rfl; have := i_nlt c4; have : (0 : Int32).toInt = 0 := rfl; omega)) : _ = k5)) (Eq.trans R_oI w7)) ?_
            refine r_aload rfl rfl ?_
            refine r_getA (b := ad 1) rfl ⟨rfl, rfl, rfl⟩ (fx_t0 fx) (fx_r0_0 fx) ?_
            refine r_iload rfl rfl ?_
            refine WR_tI (y := nI k2) ek2 ?_
            rcases rs.cs (n := n) (sa := sa) (c := k2) (by have := i_eq ek2; have : (nI k2).toInt = ((k2 : Nat) : Int) := nI_toInt (by omega); have := i_rg c; have := i_nle c3; have : (24 : Int32).toInt = 24 := rfl; have := i_nlt c1; have : (0 : Int32).toInt = 0 := rfl; omega) with ⟨v9, w9⟩ | ⟨q9, kd9, hq9, hn9, v9, w9, dz9, tg9, s1_9, k1_9, k2_9, hk_9, we9⟩ | ⟨t9, ln9, sz9, ht9, v9, w9, dz9, tg9, r_9, tg2_9, l1_9, l2_9, hl_9, kd_9, n_9, sz_9, hs_9, al9, rw9⟩ | ⟨t9, sz9, ht9, v9, w9, dz9, tg9, r_9, tg2_9, k1_9, l2_9, k2_9, n_9, sz_9, hs_9, al9, rw9⟩ | ⟨t9, kd9, sz9, ht9, v9, w9, dz9, tg9, r_9, tg2_9, k1_9, l2_9, k2_9, hk_9, n_9, sz_9, hs_9, al9, rw9⟩
            · refine r_aaload0 rfl (isQ_of (fx_t1 fx) (by decide)) (vp_ct (fx_n1 fx) (vp_in_nI (by have := i_eq ek2; have : (nI k2).toInt = ((k2 : Nat) : Int) := nI_toInt (by omega); have := i_rg c; have := i_nle c3; have : (24 : Int32).toInt = 24 := rfl; have := i_nlt c1; have : (0 : Int32).toInt = 0 := rfl; omega) (by omega))) (Eq.trans (congrArg (hR (sI h (ad 0) 6 0) (ad 1)) ((nI_clamp (by have := i_eq ek2; have : (nI k2).toInt = ((k2 : Nat) : Int) := nI_toInt (by omega); have := i_rg c; have := i_nle c3; have : (24 : Int32).toInt = 24 := rfl; have := i_nlt c1; have : (0 : Int32).toInt = 0 := rfl; omega)) : _ = k2)) (Eq.trans R_oI w9)) ?_
              refine r_acmpAN_ne (tg := 43) rfl rfl ?_
              refine r_aload rfl rfl ?_
              refine r_getA (b := ad 1) rfl ⟨rfl, rfl, rfl⟩ (fx_t0 fx) (fx_r0_0 fx) ?_
              refine r_iload rfl rfl ?_
              refine WR_tI (y := nI k5) ek5 ?_
              refine r_aload rfl rfl ?_
              refine r_getA (b := ad 1) rfl ⟨rfl, rfl, rfl⟩ (fx_t0 fx) (fx_r0_0 fx) ?_
              refine r_iload rfl rfl ?_
              refine WR_tI (y := nI k2) ek2 ?_
              refine r_aaload0 rfl (isQ_of (fx_t1 fx) (by decide)) (vp_ct (fx_n1 fx) (vp_in_nI (by have := i_eq ek2; have : (nI k2).toInt = ((k2 : Nat) : Int) := nI_toInt (by omega); have := i_rg c; have := i_nle c3; have : (24 : Int32).toInt = 24 := rfl; have := i_nlt c1; have : (0 : Int32).toInt = 0 := rfl; omega) (by omega))) (Eq.trans (congrArg (hR (sI h (ad 0) 6 0) (ad 1)) ((nI_clamp (by have := i_eq ek2; have : (nI k2).toInt = ((k2 : Nat) : Int) := nI_toInt (by omega); have := i_rg c; have := i_nle c3; have : (24 : Int32).toInt = 24 := rfl; have := i_nlt c1; have : (0 : Int32).toInt = 0 := rfl; omega)) : _ = k2)) (Eq.trans R_oI w9)) ?_
              refine r_aastore0 rfl (isQ_of (fx_t1 fx) (by decide)) (vp_ct (fx_n1 fx) (vp_in_nI (by have := i_eq ek5; have : (nI k5).toInt = ((k5 : Nat) : Int) := nI_toInt (by omega); have := i_rg d; have := i_nle c6; have : (24 : Int32).toInt = 24 := rfl; have := i_nlt c4; have : (0 : Int32).toInt = 0 := rfl; omega) (by omega))) (fun _ q => by cases q) ?_
              refine WR_h (h2 := sR (sI h (ad 0) 6 0) (ad 1) k5 none) (congrArg (fun z => sR (sI h (ad 0) 6 0) (ad 1) z none) ((nI_clamp (by have := i_eq ek5; have : (nI k5).toInt = ((k5 : Nat) : Int) := nI_toInt (by omega); have := i_rg d; have := i_nle c6; have : (24 : Int32).toInt = 24 := rfl; have := i_nlt c4; have : (0 : Int32).toInt = 0 := rfl; omega)) : _ = k5)) ?_
              have fx : FX n ad sa z0 (sR (sI h (ad 0) 6 0) (ad 1) k5 none) := FX.sRA (i := 1) fx (.inl (by decide)) (by decide)
              refine r_ic (x := 1) rfl rfl ?_
              refine r_iret rfl ?_
              show EV _ 163 [.ref (ad 30), .int c, .int d] (sR (sI h (ad 0) 6 0) (ad 1) k5 none) _
              refine in_163 (Nat.le_of_ble_eq_true rfl) ?_
              show WR _ cd_163 0 [some (.ref (ad 30)), some (.int c), some (.int d), none] [] (sR (sI h (ad 0) 6 0) (ad 1) k5 none) _
              refine r_iload rfl rfl ?_
              refine WR_tI (y := nI k2) ek2 ?_
              refine r_cs (y := 153) (ra := [.int (nI k2)]) (rest := []) rfl ⟨⟨rfl, rfl⟩, by decide⟩ rfl rfl (Nat.le_of_ble_eq_true rfl) ?_
              refine in_153 (Nat.le_of_ble_eq_true rfl) ?_
              show WR _ cd_153 0 [some (.int (nI k2))] [] (sR (sI h (ad 0) 6 0) (ad 1) k5 none) _
              refine r_iload rfl rfl ?_
              refine r_if_lt (tg := 14) rfl rfl (fun q => False.elim (by have : (nI k2).toInt = ((k2 : Nat) : Int) := nI_toInt (by omega); have : (0 : Int32).toInt = 0 := rfl; have := i_eq ek2; have := i_rg c; have := i_nle c3; have : (24 : Int32).toInt = 24 := rfl; have := i_nlt c1; have := i_lt q; omega)) (fun _ => ?_)
              refine r_iload rfl rfl ?_
              refine r_ic (x := 24) rfl rfl ?_
              refine r_icmp_ge (tg := 14) rfl rfl (fun q => False.elim (by have : (nI k2).toInt = ((k2 : Nat) : Int) := nI_toInt (by omega); have : (24 : Int32).toInt = 24 := rfl; have := i_eq ek2; have := i_rg c; have := i_nle c3; have := i_nlt c1; have : (0 : Int32).toInt = 0 := rfl; have := i_le q; omega)) (fun _ => ?_)
              refine r_ic (x := 1) rfl rfl ?_
              refine r_goto (tg := 15) rfl rfl ?_
              refine r_zret rfl (.inr rfl) ?_
              show WR _ cd_163 4 [some (.ref (ad 30)), some (.int c), some (.int d), none] [.int 1] (sR (sI h (ad 0) 6 0) (ad 1) k5 none) _
              refine r_if_eq (tg := 14) rfl rfl (fun q => absurd q (by decide)) (fun _ => ?_)
              refine r_iload rfl rfl ?_
              refine WR_tI (y := nI k5) ek5 ?_
              refine r_cs (y := 153) (ra := [.int (nI k5)]) (rest := []) rfl ⟨⟨rfl, rfl⟩, by decide⟩ rfl rfl (Nat.le_of_ble_eq_true rfl) ?_
              refine in_153 (Nat.le_of_ble_eq_true rfl) ?_
              show WR _ cd_153 0 [some (.int (nI k5))] [] (sR (sI h (ad 0) 6 0) (ad 1) k5 none) _
              refine r_iload rfl rfl ?_
              refine r_if_lt (tg := 14) rfl rfl (fun q => False.elim (by have : (nI k5).toInt = ((k5 : Nat) : Int) := nI_toInt (by omega); have : (0 : Int32).toInt = 0 := rfl; have := i_eq ek5; have := i_rg d; have := i_nle c6; have : (24 : Int32).toInt = 24 := rfl; have := i_nlt c4; have := i_lt q; omega)) (fun _ => ?_)
              refine r_iload rfl rfl ?_
              refine r_ic (x := 24) rfl rfl ?_
              refine r_icmp_ge (tg := 14) rfl rfl (fun q => False.elim (by have : (nI k5).toInt = ((k5 : Nat) : Int) := nI_toInt (by omega); have : (24 : Int32).toInt = 24 := rfl; have := i_eq ek5; have := i_rg d; have := i_nle c6; have := i_nlt c4; have : (0 : Int32).toInt = 0 := rfl; have := i_le q; omega)) (fun _ => ?_)
              refine r_ic (x := 1) rfl rfl ?_
              refine r_goto (tg := 15) rfl rfl ?_
              refine r_zret rfl (.inr rfl) ?_
              show WR _ cd_163 11 [some (.ref (ad 30)), some (.int c), some (.int d), none] [.int 1] (sR (sI h (ad 0) 6 0) (ad 1) k5 none) _
              refine r_if_ne (tg := 21) rfl rfl (fun _ => ?_) (fun q => absurd q (by decide))
              refine r_aload rfl rfl ?_
              refine r_getA (b := ad 31) rfl ⟨rfl, rfl, rfl⟩ (fx_t30 fx) (fx_r30_0 fx) ?_
              refine r_iload rfl rfl ?_
              refine WR_tI (y := nI k5) ek5 ?_
              refine r_iaload rfl (.inl (fx_t31 fx)) (vp_ct (fx_n31 fx) (vp_in_nI (by have := i_eq ek5; have : (nI k5).toInt = ((k5 : Nat) : Int) := nI_toInt (by omega); have := i_rg d; have := i_nle c6; have : (24 : Int32).toInt = 24 := rfl; have := i_nlt c4; have : (0 : Int32).toInt = 0 := rfl; omega) (by omega))) ?_
              refine WR_tI (congrArg (hI (sR (sI h (ad 0) 6 0) (ad 1) k5 none) (ad 31)) ((nI_clamp (by have := i_eq ek5; have : (nI k5).toInt = ((k5 : Nat) : Int) := nI_toInt (by omega); have := i_rg d; have := i_nle c6; have : (24 : Int32).toInt = 24 := rfl; have := i_nlt c4; have : (0 : Int32).toInt = 0 := rfl; omega)) : _ = k5)) ?_
              refine WR_tI (y := nI (q7 + 1000)) (Eq.trans I_oR (Eq.trans (I_ne (fx_ne fx (by decide))) v7)) ?_
              refine r_aload rfl rfl ?_
              refine r_getA (b := ad 31) rfl ⟨rfl, rfl, rfl⟩ (fx_t30 fx) (fx_r30_0 fx) ?_
              refine r_iload rfl rfl ?_
              refine WR_tI (y := nI k2) ek2 ?_
              refine r_iaload rfl (.inl (fx_t31 fx)) (vp_ct (fx_n31 fx) (vp_in_nI (by have := i_eq ek2; have : (nI k2).toInt = ((k2 : Nat) : Int) := nI_toInt (by omega); have := i_rg c; have := i_nle c3; have : (24 : Int32).toInt = 24 := rfl; have := i_nlt c1; have : (0 : Int32).toInt = 0 := rfl; omega) (by omega))) ?_
              refine WR_tI (congrArg (hI (sR (sI h (ad 0) 6 0) (ad 1) k5 none) (ad 31)) ((nI_clamp (by have := i_eq ek2; have : (nI k2).toInt = ((k2 : Nat) : Int) := nI_toInt (by omega); have := i_rg c; have := i_nle c3; have : (24 : Int32).toInt = 24 := rfl; have := i_nlt c1; have : (0 : Int32).toInt = 0 := rfl; omega)) : _ = k2)) ?_
              refine WR_tI (y := (-1)) (Eq.trans I_oR (Eq.trans (I_ne (fx_ne fx (by decide))) v9)) ?_
              refine r_icmp_ne (tg := 40) rfl rfl (fun _ => ?_) (fun q => False.elim (by have : (nI (q7 + 1000)).toInt = ((q7 + 1000 : Nat) : Int) := nI_toInt (by omega); have : (-1 : Int32).toInt = -1 := rfl; have := i_eq q; omega))
              refine r_ic (x := 0) rfl rfl ?_
              refine r_istore (lv' := [some (.ref (ad 30)), some (.int c), some (.int d), some (.int 0)]) rfl (Nat.le_of_ble_eq_true rfl) rfl ?_
              refine r_aload rfl rfl ?_
              refine r_getA (b := ad 31) rfl ⟨rfl, rfl, rfl⟩ (fx_t30 fx) (fx_r30_0 fx) ?_
              refine r_iload rfl rfl ?_
              refine WR_tI (y := nI k5) ek5 ?_
              refine r_aload rfl rfl ?_
              refine r_getA (b := ad 31) rfl ⟨rfl, rfl, rfl⟩ (fx_t30 fx) (fx_r30_0 fx) ?_
              refine r_iload rfl rfl ?_
              refine WR_tI (y := nI k2) ek2 ?_
              refine r_iaload rfl (.inl (fx_t31 fx)) (vp_ct (fx_n31 fx) (vp_in_nI (by have := i_eq ek2; have : (nI k2).toInt = ((k2 : Nat) : Int) := nI_toInt (by omega); have := i_rg c; have := i_nle c3; have : (24 : Int32).toInt = 24 := rfl; have := i_nlt c1; have : (0 : Int32).toInt = 0 := rfl; omega) (by omega))) ?_
              refine WR_tI (congrArg (hI (sR (sI h (ad 0) 6 0) (ad 1) k5 none) (ad 31)) ((nI_clamp (by have := i_eq ek2; have : (nI k2).toInt = ((k2 : Nat) : Int) := nI_toInt (by omega); have := i_rg c; have := i_nle c3; have : (24 : Int32).toInt = 24 := rfl; have := i_nlt c1; have : (0 : Int32).toInt = 0 := rfl; omega)) : _ = k2)) ?_
              refine WR_tI (y := (-1)) (Eq.trans I_oR (Eq.trans (I_ne (fx_ne fx (by decide))) v9)) ?_
              refine r_iastore rfl (fx_t31 fx) (vp_ct (fx_n31 fx) (vp_in_nI (by have := i_eq ek5; have : (nI k5).toInt = ((k5 : Nat) : Int) := nI_toInt (by omega); have := i_rg d; have := i_nle c6; have : (24 : Int32).toInt = 24 := rfl; have := i_nlt c4; have : (0 : Int32).toInt = 0 := rfl; omega) (by omega))) ?_
              refine WR_h (h2 := sI (sR (sI h (ad 0) 6 0) (ad 1) k5 none) (ad 31) k5 (-1)) (congrArg (fun z => sI (sR (sI h (ad 0) 6 0) (ad 1) k5 none) (ad 31) z (-1)) ((nI_clamp (by have := i_eq ek5; have : (nI k5).toInt = ((k5 : Nat) : Int) := nI_toInt (by omega); have := i_rg d; have := i_nle c6; have : (24 : Int32).toInt = 24 := rfl; have := i_nlt c4; have : (0 : Int32).toInt = 0 := rfl; omega)) : _ = k5)) ?_
              refine r_aload rfl rfl ?_
              refine r_iload rfl rfl ?_
              refine r_if_eq (tg := 63) rfl rfl (fun _ => ?_) (fun q => absurd q (by decide))
              refine r_ic (x := 1) rfl rfl ?_
              refine r_cv (y := 154) (ra := [.int 1]) (rest := []) rfl ⟨⟨rfl, rfl⟩, rfl, by decide⟩ (fx_t30 fx) rfl rfl (Nat.le_of_ble_eq_true rfl) ?_
              refine in_154 (Nat.le_of_ble_eq_true rfl) ?_
              show WR _ cd_154 0 [some (.ref (ad 30)), some (.int 1)] [] (sI (sR (sI h (ad 0) 6 0) (ad 1) k5 none) (ad 31) k5 (-1)) _
              refine r_aload rfl rfl ?_
              refine r_iload rfl rfl ?_
              refine r_ic (x := (-1)) rfl rfl ?_
              refine r_icmp_ge (tg := 10) rfl rfl (fun _ => ?_) (fun q => absurd q (by decide))
              refine r_ic (x := 0) rfl rfl ?_
              refine r_putI rfl ⟨rfl, rfl, rfl⟩ (fx_t30 fx) ?_
              refine r_iload rfl rfl ?_
              refine r_iret rfl ?_
              show WR _ cd_163 67 [some (.ref (ad 30)), some (.int c), some (.int d), some (.int 0)] [.int 1] (sI (sI (sR (sI h (ad 0) 6 0) (ad 1) k5 none) (ad 31) k5 (-1)) (ad 30) 11 0) _
              refine r_iret rfl ?_
              have cg : Chg n ad [(30, 11), (0, 6)] [31, 1] h (sI (sI (sR (sI h (ad 0) 6 0) (ad 1) k5 none) (ad 31) k5 (-1)) (ad 30) 11 0) := ((((Chg.rf.sI (fx_j fx0) (k := 6) (v := 0) (.inl (by decide))).sR (fx_j fx0) (k := k5) (v := none) (.inl (by decide))).row.sI (fx_j fx0) (k := k5) (v := (-1)) (.inl (by decide))).row.sI (fx_j fx0) (k := 11) (v := 0) (.inl (by decide)))
              refine ⟨rfl, ⟨mid, pa, np, FX.k fx0 cg.1 cg.2.1 cg.2.2 (by decide), Eq.trans (Eq.trans (I_ne (fx_ne fx (by decide))) (Eq.trans (I_ne (fx_ne fx (by decide))) (Eq.trans I_oR I_eq))) (Eq.symm I_eq), rt.k cg.2.1 (by decide), ra.k cg.2.1 (by decide), rp.k cg.2.1 (by decide), rf.k cg.2.1 (by decide), Rst.k fx0 rst cg.2.2, Ru.k fx0 ru cg.2.1 (by decide), ?_⟩, Nat.le_add_right _ _, Nat.le_add_right _ _⟩
              · refine Rs.cases rs (smS_of fx0 cg (by decide)) (fun c_ hc_ => ?_)
                by_cases e_ : c_ = k5
                · rw [e_]
                  exact .inr (.inl ⟨(Eq.trans (I_ne (fx_ne fx (by decide))) I_eq), (Eq.trans R_oI (Eq.trans R_oI R_eq))⟩)
                · exact .inl ⟨c_, hc_, (Eq.trans (I_ne (fx_ne fx (by decide))) (Eq.trans (I_nk (by have := i_eq ek5; have : (nI k5).toInt = ((k5 : Nat) : Int) := nI_toInt (by omega); have := i_rg d; have := i_nle c6; have : (24 : Int32).toInt = 24 := rfl; have := i_nlt c4; have : (0 : Int32).toInt = 0 := rfl; omega)) (Eq.trans I_oR (I_ne (fx_ne fx (by decide)))))), (Eq.trans R_oI (Eq.trans R_oI (Eq.trans (R_nk (by have := i_eq ek5; have : (nI k5).toInt = ((k5 : Nat) : Int) := nI_toInt (by omega); have := i_rg d; have := i_nle c6; have : (24 : Int32).toInt = 24 := rfl; have := i_nlt c4; have : (0 : Int32).toInt = 0 := rfl; omega)) R_oI)))⟩
            · refine r_aaloadA (b := pa q9) rfl (isQ_of (fx_t1 fx) (by decide)) (vp_ct (fx_n1 fx) (vp_in_nI (by have := i_eq ek2; have : (nI k2).toInt = ((k2 : Nat) : Int) := nI_toInt (by omega); have := i_rg c; have := i_nle c3; have : (24 : Int32).toInt = 24 := rfl; have := i_nlt c1; have : (0 : Int32).toInt = 0 := rfl; omega) (by omega))) (Eq.trans (congrArg (hR (sI h (ad 0) 6 0) (ad 1)) ((nI_clamp (by have := i_eq ek2; have : (nI k2).toInt = ((k2 : Nat) : Int) := nI_toInt (by omega); have := i_rg c; have := i_nle c3; have : (24 : Int32).toInt = 24 := rfl; have := i_nlt c1; have : (0 : Int32).toInt = 0 := rfl; omega)) : _ = k2)) (Eq.trans R_oI w9)) ?_
              refine r_acmpA_ne (tg := 43) rfl rfl (fun c10 => ?_) (fun c10 => ?_)
              · have c10e : ¬ q7 = q9 := fun e => c10 (by rw [e])
                refine r_aload rfl rfl ?_
                refine r_getA (b := ad 1) rfl ⟨rfl, rfl, rfl⟩ (fx_t0 fx) (fx_r0_0 fx) ?_
                refine r_iload rfl rfl ?_
                refine WR_tI (y := nI k5) ek5 ?_
                refine r_aload rfl rfl ?_
                refine r_getA (b := ad 1) rfl ⟨rfl, rfl, rfl⟩ (fx_t0 fx) (fx_r0_0 fx) ?_
                refine r_iload rfl rfl ?_
                refine WR_tI (y := nI k2) ek2 ?_
                refine r_aaloadA (b := pa q9) rfl (isQ_of (fx_t1 fx) (by decide)) (vp_ct (fx_n1 fx) (vp_in_nI (by have := i_eq ek2; have : (nI k2).toInt = ((k2 : Nat) : Int) := nI_toInt (by omega); have := i_rg c; have := i_nle c3; have : (24 : Int32).toInt = 24 := rfl; have := i_nlt c1; have : (0 : Int32).toInt = 0 := rfl; omega) (by omega))) (Eq.trans (congrArg (hR (sI h (ad 0) 6 0) (ad 1)) ((nI_clamp (by have := i_eq ek2; have : (nI k2).toInt = ((k2 : Nat) : Int) := nI_toInt (by omega); have := i_rg c; have := i_nle c3; have : (24 : Int32).toInt = 24 := rfl; have := i_nlt c1; have : (0 : Int32).toInt = 0 := rfl; omega)) : _ = k2)) (Eq.trans R_oI w9)) ?_
                refine r_aastoreA rfl (isQ_of (fx_t1 fx) (by decide)) (vp_ct (fx_n1 fx) (vp_in_nI (by have := i_eq ek5; have : (nI k5).toInt = ((k5 : Nat) : Int) := nI_toInt (by omega); have := i_rg d; have := i_nle c6; have : (24 : Int32).toInt = 24 := rfl; have := i_nlt c4; have : (0 : Int32).toInt = 0 := rfl; omega) (by omega))) (okR_of (fx_t1 fx) tg9 (by decide)) ?_
                refine WR_h (h2 := sR (sI h (ad 0) 6 0) (ad 1) k5 (some (pa q9))) (congrArg (fun z => sR (sI h (ad 0) 6 0) (ad 1) z (some (pa q9))) ((nI_clamp (by have := i_eq ek5; have : (nI k5).toInt = ((k5 : Nat) : Int) := nI_toInt (by omega); have := i_rg d; have := i_nle c6; have : (24 : Int32).toInt = 24 := rfl; have := i_nlt c4; have : (0 : Int32).toInt = 0 := rfl; omega)) : _ = k5)) ?_
                have fx : FX n ad sa z0 (sR (sI h (ad 0) 6 0) (ad 1) k5 (some (pa q9))) := FX.sRA (i := 1) fx (.inl (by decide)) (by decide)
                refine r_ic (x := 1) rfl rfl ?_
                refine r_iret rfl ?_
                show EV _ 163 [.ref (ad 30), .int c, .int d] (sR (sI h (ad 0) 6 0) (ad 1) k5 (some (pa q9))) _
                refine in_163 (Nat.le_of_ble_eq_true rfl) ?_
                show WR _ cd_163 0 [some (.ref (ad 30)), some (.int c), some (.int d), none] [] (sR (sI h (ad 0) 6 0) (ad 1) k5 (some (pa q9))) _
                refine r_iload rfl rfl ?_
                refine WR_tI (y := nI k2) ek2 ?_
                refine r_cs (y := 153) (ra := [.int (nI k2)]) (rest := []) rfl ⟨⟨rfl, rfl⟩, by decide⟩ rfl rfl (Nat.le_of_ble_eq_true rfl) ?_
                refine in_153 (Nat.le_of_ble_eq_true rfl) ?_
                show WR _ cd_153 0 [some (.int (nI k2))] [] (sR (sI h (ad 0) 6 0) (ad 1) k5 (some (pa q9))) _
                refine r_iload rfl rfl ?_
                refine r_if_lt (tg := 14) rfl rfl (fun q => False.elim (by have : (nI k2).toInt = ((k2 : Nat) : Int) := nI_toInt (by omega); have : (0 : Int32).toInt = 0 := rfl; have := i_eq ek2; have := i_rg c; have := i_nle c3; have : (24 : Int32).toInt = 24 := rfl; have := i_nlt c1; have := i_lt q; omega)) (fun _ => ?_)
                refine r_iload rfl rfl ?_
                refine r_ic (x := 24) rfl rfl ?_
                refine r_icmp_ge (tg := 14) rfl rfl (fun q => False.elim (by have : (nI k2).toInt = ((k2 : Nat) : Int) := nI_toInt (by omega); have : (24 : Int32).toInt = 24 := rfl; have := i_eq ek2; have := i_rg c; have := i_nle c3; have := i_nlt c1; have : (0 : Int32).toInt = 0 := rfl; have := i_le q; omega)) (fun _ => ?_)
                refine r_ic (x := 1) rfl rfl ?_
                refine r_goto (tg := 15) rfl rfl ?_
                refine r_zret rfl (.inr rfl) ?_
                show WR _ cd_163 4 [some (.ref (ad 30)), some (.int c), some (.int d), none] [.int 1] (sR (sI h (ad 0) 6 0) (ad 1) k5 (some (pa q9))) _
                refine r_if_eq (tg := 14) rfl rfl (fun q => absurd q (by decide)) (fun _ => ?_)
                refine r_iload rfl rfl ?_
                refine WR_tI (y := nI k5) ek5 ?_
                refine r_cs (y := 153) (ra := [.int (nI k5)]) (rest := []) rfl ⟨⟨rfl, rfl⟩, by decide⟩ rfl rfl (Nat.le_of_ble_eq_true rfl) ?_
                refine in_153 (Nat.le_of_ble_eq_true rfl) ?_
                show WR _ cd_153 0 [some (.int (nI k5))] [] (sR (sI h (ad 0) 6 0) (ad 1) k5 (some (pa q9))) _
                refine r_iload rfl rfl ?_
                refine r_if_lt (tg := 14) rfl rfl (fun q => False.elim (by have : (nI k5).toInt = ((k5 : Nat) : Int) := nI_toInt (by omega); have : (0 : Int32).toInt = 0 := rfl; have := i_eq ek5; have := i_rg d; have := i_nle c6; have : (24 : Int32).toInt = 24 := rfl; have := i_nlt c4; have := i_lt q; omega)) (fun _ => ?_)
                refine r_iload rfl rfl ?_
                refine r_ic (x := 24) rfl rfl ?_
                refine r_icmp_ge (tg := 14) rfl rfl (fun q => False.elim (by have : (nI k5).toInt = ((k5 : Nat) : Int) := nI_toInt (by omega); have : (24 : Int32).toInt = 24 := rfl; have := i_eq ek5; have := i_rg d; have := i_nle c6; have := i_nlt c4; have : (0 : Int32).toInt = 0 := rfl; have := i_le q; omega)) (fun _ => ?_)
                refine r_ic (x := 1) rfl rfl ?_
                refine r_goto (tg := 15) rfl rfl ?_
                refine r_zret rfl (.inr rfl) ?_
                show WR _ cd_163 11 [some (.ref (ad 30)), some (.int c), some (.int d), none] [.int 1] (sR (sI h (ad 0) 6 0) (ad 1) k5 (some (pa q9))) _
                refine r_if_ne (tg := 21) rfl rfl (fun _ => ?_) (fun q => absurd q (by decide))
                refine r_aload rfl rfl ?_
                refine r_getA (b := ad 31) rfl ⟨rfl, rfl, rfl⟩ (fx_t30 fx) (fx_r30_0 fx) ?_
                refine r_iload rfl rfl ?_
                refine WR_tI (y := nI k5) ek5 ?_
                refine r_iaload rfl (.inl (fx_t31 fx)) (vp_ct (fx_n31 fx) (vp_in_nI (by have := i_eq ek5; have : (nI k5).toInt = ((k5 : Nat) : Int) := nI_toInt (by omega); have := i_rg d; have := i_nle c6; have : (24 : Int32).toInt = 24 := rfl; have := i_nlt c4; have : (0 : Int32).toInt = 0 := rfl; omega) (by omega))) ?_
                refine WR_tI (congrArg (hI (sR (sI h (ad 0) 6 0) (ad 1) k5 (some (pa q9))) (ad 31)) ((nI_clamp (by have := i_eq ek5; have : (nI k5).toInt = ((k5 : Nat) : Int) := nI_toInt (by omega); have := i_rg d; have := i_nle c6; have : (24 : Int32).toInt = 24 := rfl; have := i_nlt c4; have : (0 : Int32).toInt = 0 := rfl; omega)) : _ = k5)) ?_
                refine WR_tI (y := nI (q7 + 1000)) (Eq.trans I_oR (Eq.trans (I_ne (fx_ne fx (by decide))) v7)) ?_
                refine r_aload rfl rfl ?_
                refine r_getA (b := ad 31) rfl ⟨rfl, rfl, rfl⟩ (fx_t30 fx) (fx_r30_0 fx) ?_
                refine r_iload rfl rfl ?_
                refine WR_tI (y := nI k2) ek2 ?_
                refine r_iaload rfl (.inl (fx_t31 fx)) (vp_ct (fx_n31 fx) (vp_in_nI (by have := i_eq ek2; have : (nI k2).toInt = ((k2 : Nat) : Int) := nI_toInt (by omega); have := i_rg c; have := i_nle c3; have : (24 : Int32).toInt = 24 := rfl; have := i_nlt c1; have : (0 : Int32).toInt = 0 := rfl; omega) (by omega))) ?_
                refine WR_tI (congrArg (hI (sR (sI h (ad 0) 6 0) (ad 1) k5 (some (pa q9))) (ad 31)) ((nI_clamp (by have := i_eq ek2; have : (nI k2).toInt = ((k2 : Nat) : Int) := nI_toInt (by omega); have := i_rg c; have := i_nle c3; have : (24 : Int32).toInt = 24 := rfl; have := i_nlt c1; have : (0 : Int32).toInt = 0 := rfl; omega)) : _ = k2)) ?_
                refine WR_tI (y := nI (q9 + 1000)) (Eq.trans I_oR (Eq.trans (I_ne (fx_ne fx (by decide))) v9)) ?_
                refine r_icmp_ne (tg := 40) rfl rfl (fun _ => ?_) (fun q => False.elim (by have : (nI (q7 + 1000)).toInt = ((q7 + 1000 : Nat) : Int) := nI_toInt (by omega); have : (nI (q9 + 1000)).toInt = ((q9 + 1000 : Nat) : Int) := nI_toInt (by omega); have := i_eq q; omega))
                refine r_ic (x := 0) rfl rfl ?_
                refine r_istore (lv' := [some (.ref (ad 30)), some (.int c), some (.int d), some (.int 0)]) rfl (Nat.le_of_ble_eq_true rfl) rfl ?_
                refine r_aload rfl rfl ?_
                refine r_getA (b := ad 31) rfl ⟨rfl, rfl, rfl⟩ (fx_t30 fx) (fx_r30_0 fx) ?_
                refine r_iload rfl rfl ?_
                refine WR_tI (y := nI k5) ek5 ?_
                refine r_aload rfl rfl ?_
                refine r_getA (b := ad 31) rfl ⟨rfl, rfl, rfl⟩ (fx_t30 fx) (fx_r30_0 fx) ?_
                refine r_iload rfl rfl ?_
                refine WR_tI (y := nI k2) ek2 ?_
                refine r_iaload rfl (.inl (fx_t31 fx)) (vp_ct (fx_n31 fx) (vp_in_nI (by have := i_eq ek2; have : (nI k2).toInt = ((k2 : Nat) : Int) := nI_toInt (by omega); have := i_rg c; have := i_nle c3; have : (24 : Int32).toInt = 24 := rfl; have := i_nlt c1; have : (0 : Int32).toInt = 0 := rfl; omega) (by omega))) ?_
                refine WR_tI (congrArg (hI (sR (sI h (ad 0) 6 0) (ad 1) k5 (some (pa q9))) (ad 31)) ((nI_clamp (by have := i_eq ek2; have : (nI k2).toInt = ((k2 : Nat) : Int) := nI_toInt (by omega); have := i_rg c; have := i_nle c3; have : (24 : Int32).toInt = 24 := rfl; have := i_nlt c1; have : (0 : Int32).toInt = 0 := rfl; omega)) : _ = k2)) ?_
                refine WR_tI (y := nI (q9 + 1000)) (Eq.trans I_oR (Eq.trans (I_ne (fx_ne fx (by decide))) v9)) ?_
                refine r_iastore rfl (fx_t31 fx) (vp_ct (fx_n31 fx) (vp_in_nI (by have := i_eq ek5; have : (nI k5).toInt = ((k5 : Nat) : Int) := nI_toInt (by omega); have := i_rg d; have := i_nle c6; have : (24 : Int32).toInt = 24 := rfl; have := i_nlt c4; have : (0 : Int32).toInt = 0 := rfl; omega) (by omega))) ?_
                refine WR_h (h2 := sI (sR (sI h (ad 0) 6 0) (ad 1) k5 (some (pa q9))) (ad 31) k5 (nI (q9 + 1000))) (congrArg (fun z => sI (sR (sI h (ad 0) 6 0) (ad 1) k5 (some (pa q9))) (ad 31) z (nI (q9 + 1000))) ((nI_clamp (by have := i_eq ek5; have : (nI k5).toInt = ((k5 : Nat) : Int) := nI_toInt (by omega); have := i_rg d; have := i_nle c6; have : (24 : Int32).toInt = 24 := rfl; have := i_nlt c4; have : (0 : Int32).toInt = 0 := rfl; omega)) : _ = k5)) ?_
                refine r_aload rfl rfl ?_
                refine r_iload rfl rfl ?_
                refine r_if_eq (tg := 63) rfl rfl (fun _ => ?_) (fun q => absurd q (by decide))
                refine r_ic (x := 1) rfl rfl ?_
                refine r_cv (y := 154) (ra := [.int 1]) (rest := []) rfl ⟨⟨rfl, rfl⟩, rfl, by decide⟩ (fx_t30 fx) rfl rfl (Nat.le_of_ble_eq_true rfl) ?_
                refine in_154 (Nat.le_of_ble_eq_true rfl) ?_
                show WR _ cd_154 0 [some (.ref (ad 30)), some (.int 1)] [] (sI (sR (sI h (ad 0) 6 0) (ad 1) k5 (some (pa q9))) (ad 31) k5 (nI (q9 + 1000))) _
                refine r_aload rfl rfl ?_
                refine r_iload rfl rfl ?_
                refine r_ic (x := (-1)) rfl rfl ?_
                refine r_icmp_ge (tg := 10) rfl rfl (fun _ => ?_) (fun q => absurd q (by decide))
                refine r_ic (x := 0) rfl rfl ?_
                refine r_putI rfl ⟨rfl, rfl, rfl⟩ (fx_t30 fx) ?_
                refine r_iload rfl rfl ?_
                refine r_iret rfl ?_
                show WR _ cd_163 67 [some (.ref (ad 30)), some (.int c), some (.int d), some (.int 0)] [.int 1] (sI (sI (sR (sI h (ad 0) 6 0) (ad 1) k5 (some (pa q9))) (ad 31) k5 (nI (q9 + 1000))) (ad 30) 11 0) _
                refine r_iret rfl ?_
                have cg : Chg n ad [(30, 11), (0, 6)] [31, 1] h (sI (sI (sR (sI h (ad 0) 6 0) (ad 1) k5 (some (pa q9))) (ad 31) k5 (nI (q9 + 1000))) (ad 30) 11 0) := ((((Chg.rf.sI (fx_j fx0) (k := 6) (v := 0) (.inl (by decide))).sR (fx_j fx0) (k := k5) (v := some (pa q9)) (.inl (by decide))).row.sI (fx_j fx0) (k := k5) (v := nI (q9 + 1000)) (.inl (by decide))).row.sI (fx_j fx0) (k := 11) (v := 0) (.inl (by decide)))
                refine ⟨rfl, ⟨mid, pa, np, FX.k fx0 cg.1 cg.2.1 cg.2.2 (by decide), Eq.trans (Eq.trans (I_ne (fx_ne fx (by decide))) (Eq.trans (I_ne (fx_ne fx (by decide))) (Eq.trans I_oR I_eq))) (Eq.symm I_eq), rt.k cg.2.1 (by decide), ra.k cg.2.1 (by decide), rp.k cg.2.1 (by decide), rf.k cg.2.1 (by decide), Rst.k fx0 rst cg.2.2, Ru.k fx0 ru cg.2.1 (by decide), ?_⟩, Nat.le_add_right _ _, Nat.le_add_right _ _⟩
                · refine Rs.cases rs (smS_of fx0 cg (by decide)) (fun c_ hc_ => ?_)
                  by_cases e_ : c_ = k5
                  · rw [e_]
                    exact .inl ⟨k2, (by have := i_eq ek2; have : (nI k2).toInt = ((k2 : Nat) : Int) := nI_toInt (by omega); have := i_rg c; have := i_nle c3; have : (24 : Int32).toInt = 24 := rfl; have := i_nlt c1; have : (0 : Int32).toInt = 0 := rfl; omega), Eq.trans (Eq.trans (I_ne (fx_ne fx (by decide))) I_eq) (Eq.symm v9), Eq.trans (Eq.trans R_oI (Eq.trans R_oI R_eq)) (Eq.symm w9)⟩
                  · exact .inl ⟨c_, hc_, (Eq.trans (I_ne (fx_ne fx (by decide))) (Eq.trans (I_nk (by have := i_eq ek5; have : (nI k5).toInt = ((k5 : Nat) : Int) := nI_toInt (by omega); have := i_rg d; have := i_nle c6; have : (24 : Int32).toInt = 24 := rfl; have := i_nlt c4; have : (0 : Int32).toInt = 0 := rfl; omega)) (Eq.trans I_oR (I_ne (fx_ne fx (by decide)))))), (Eq.trans R_oI (Eq.trans R_oI (Eq.trans (R_nk (by have := i_eq ek5; have : (nI k5).toInt = ((k5 : Nat) : Int) := nI_toInt (by omega); have := i_rg d; have := i_nle c6; have : (24 : Int32).toInt = 24 := rfl; have := i_nlt c4; have : (0 : Int32).toInt = 0 := rfl; omega)) R_oI)))⟩
              · have c10e := rs.1.2.2.2.2 _ _ (by assumption) (by assumption) c10
                refine r_ic (x := 0) rfl rfl ?_
                refine r_iret rfl ?_
                show EV _ 163 [.ref (ad 30), .int c, .int d] (sI h (ad 0) 6 0) _
                refine in_163 (Nat.le_of_ble_eq_true rfl) ?_
                show WR _ cd_163 0 [some (.ref (ad 30)), some (.int c), some (.int d), none] [] (sI h (ad 0) 6 0) _
                refine r_iload rfl rfl ?_
                refine WR_tI (y := nI k2) ek2 ?_
                refine r_cs (y := 153) (ra := [.int (nI k2)]) (rest := []) rfl ⟨⟨rfl, rfl⟩, by decide⟩ rfl rfl (Nat.le_of_ble_eq_true rfl) ?_
                refine in_153 (Nat.le_of_ble_eq_true rfl) ?_
                show WR _ cd_153 0 [some (.int (nI k2))] [] (sI h (ad 0) 6 0) _
                refine r_iload rfl rfl ?_
                refine r_if_lt (tg := 14) rfl rfl (fun q => False.elim (by have : (nI k2).toInt = ((k2 : Nat) : Int) := nI_toInt (by omega); have : (0 : Int32).toInt = 0 := rfl; have := i_eq ek2; have := i_rg c; have := i_nle c3; have : (24 : Int32).toInt = 24 := rfl; have := i_nlt c1; have := i_lt q; omega)) (fun _ => ?_)
                refine r_iload rfl rfl ?_
                refine r_ic (x := 24) rfl rfl ?_
                refine r_icmp_ge (tg := 14) rfl rfl (fun q => False.elim (by have : (nI k2).toInt = ((k2 : Nat) : Int) := nI_toInt (by omega); have : (24 : Int32).toInt = 24 := rfl; have := i_eq ek2; have := i_rg c; have := i_nle c3; have := i_nlt c1; have : (0 : Int32).toInt = 0 := rfl; have := i_le q; omega)) (fun _ => ?_)
                refine r_ic (x := 1) rfl rfl ?_
                refine r_goto (tg := 15) rfl rfl ?_
                refine r_zret rfl (.inr rfl) ?_
                show WR _ cd_163 4 [some (.ref (ad 30)), some (.int c), some (.int d), none] [.int 1] (sI h (ad 0) 6 0) _
                refine r_if_eq (tg := 14) rfl rfl (fun q => absurd q (by decide)) (fun _ => ?_)
                refine r_iload rfl rfl ?_
                refine WR_tI (y := nI k5) ek5 ?_
                refine r_cs (y := 153) (ra := [.int (nI k5)]) (rest := []) rfl ⟨⟨rfl, rfl⟩, by decide⟩ rfl rfl (Nat.le_of_ble_eq_true rfl) ?_
                refine in_153 (Nat.le_of_ble_eq_true rfl) ?_
                show WR _ cd_153 0 [some (.int (nI k5))] [] (sI h (ad 0) 6 0) _
                refine r_iload rfl rfl ?_
                refine r_if_lt (tg := 14) rfl rfl (fun q => False.elim (by have : (nI k5).toInt = ((k5 : Nat) : Int) := nI_toInt (by omega); have : (0 : Int32).toInt = 0 := rfl; have := i_eq ek5; have := i_rg d; have := i_nle c6; have : (24 : Int32).toInt = 24 := rfl; have := i_nlt c4; have := i_lt q; omega)) (fun _ => ?_)
                refine r_iload rfl rfl ?_
                refine r_ic (x := 24) rfl rfl ?_
                refine r_icmp_ge (tg := 14) rfl rfl (fun q => False.elim (by have : (nI k5).toInt = ((k5 : Nat) : Int) := nI_toInt (by omega); have : (24 : Int32).toInt = 24 := rfl; have := i_eq ek5; have := i_rg d; have := i_nle c6; have := i_nlt c4; have : (0 : Int32).toInt = 0 := rfl; have := i_le q; omega)) (fun _ => ?_)
                refine r_ic (x := 1) rfl rfl ?_
                refine r_goto (tg := 15) rfl rfl ?_
                refine r_zret rfl (.inr rfl) ?_
                show WR _ cd_163 11 [some (.ref (ad 30)), some (.int c), some (.int d), none] [.int 1] (sI h (ad 0) 6 0) _
                refine r_if_ne (tg := 21) rfl rfl (fun _ => ?_) (fun q => absurd q (by decide))
                refine r_aload rfl rfl ?_
                refine r_getA (b := ad 31) rfl ⟨rfl, rfl, rfl⟩ (fx_t30 fx) (fx_r30_0 fx) ?_
                refine r_iload rfl rfl ?_
                refine WR_tI (y := nI k5) ek5 ?_
                refine r_iaload rfl (.inl (fx_t31 fx)) (vp_ct (fx_n31 fx) (vp_in_nI (by have := i_eq ek5; have : (nI k5).toInt = ((k5 : Nat) : Int) := nI_toInt (by omega); have := i_rg d; have := i_nle c6; have : (24 : Int32).toInt = 24 := rfl; have := i_nlt c4; have : (0 : Int32).toInt = 0 := rfl; omega) (by omega))) ?_
                refine WR_tI (congrArg (hI (sI h (ad 0) 6 0) (ad 31)) ((nI_clamp (by have := i_eq ek5; have : (nI k5).toInt = ((k5 : Nat) : Int) := nI_toInt (by omega); have := i_rg d; have := i_nle c6; have : (24 : Int32).toInt = 24 := rfl; have := i_nlt c4; have : (0 : Int32).toInt = 0 := rfl; omega)) : _ = k5)) ?_
                refine WR_tI (y := nI (q7 + 1000)) (Eq.trans (I_ne (fx_ne fx (by decide))) v7) ?_
                refine r_aload rfl rfl ?_
                refine r_getA (b := ad 31) rfl ⟨rfl, rfl, rfl⟩ (fx_t30 fx) (fx_r30_0 fx) ?_
                refine r_iload rfl rfl ?_
                refine WR_tI (y := nI k2) ek2 ?_
                refine r_iaload rfl (.inl (fx_t31 fx)) (vp_ct (fx_n31 fx) (vp_in_nI (by have := i_eq ek2; have : (nI k2).toInt = ((k2 : Nat) : Int) := nI_toInt (by omega); have := i_rg c; have := i_nle c3; have : (24 : Int32).toInt = 24 := rfl; have := i_nlt c1; have : (0 : Int32).toInt = 0 := rfl; omega) (by omega))) ?_
                refine WR_tI (congrArg (hI (sI h (ad 0) 6 0) (ad 31)) ((nI_clamp (by have := i_eq ek2; have : (nI k2).toInt = ((k2 : Nat) : Int) := nI_toInt (by omega); have := i_rg c; have := i_nle c3; have : (24 : Int32).toInt = 24 := rfl; have := i_nlt c1; have : (0 : Int32).toInt = 0 := rfl; omega)) : _ = k2)) ?_
                refine WR_tI (y := nI (q9 + 1000)) (Eq.trans (I_ne (fx_ne fx (by decide))) v9) ?_
                refine r_icmp_ne (tg := 40) rfl rfl (fun q => False.elim (by have : (nI (q7 + 1000)).toInt = ((q7 + 1000 : Nat) : Int) := nI_toInt (by omega); have : (nI (q9 + 1000)).toInt = ((q9 + 1000 : Nat) : Int) := nI_toInt (by omega); have := i_neq q; omega)) (fun _ => ?_)
                refine r_ic (x := 1) rfl rfl ?_
                refine r_goto (tg := 41) rfl rfl ?_
                refine r_istore (lv' := [some (.ref (ad 30)), some (.int c), some (.int d), some (.int 1)]) rfl (Nat.le_of_ble_eq_true rfl) rfl ?_
                refine r_aload rfl rfl ?_
                refine r_getA (b := ad 31) rfl ⟨rfl, rfl, rfl⟩ (fx_t30 fx) (fx_r30_0 fx) ?_
                refine r_iload rfl rfl ?_
                refine WR_tI (y := nI k5) ek5 ?_
                refine r_aload rfl rfl ?_
                refine r_getA (b := ad 31) rfl ⟨rfl, rfl, rfl⟩ (fx_t30 fx) (fx_r30_0 fx) ?_
                refine r_iload rfl rfl ?_
                refine WR_tI (y := nI k2) ek2 ?_
                refine r_iaload rfl (.inl (fx_t31 fx)) (vp_ct (fx_n31 fx) (vp_in_nI (by have := i_eq ek2; have : (nI k2).toInt = ((k2 : Nat) : Int) := nI_toInt (by omega); have := i_rg c; have := i_nle c3; have : (24 : Int32).toInt = 24 := rfl; have := i_nlt c1; have : (0 : Int32).toInt = 0 := rfl; omega) (by omega))) ?_
                refine WR_tI (congrArg (hI (sI h (ad 0) 6 0) (ad 31)) ((nI_clamp (by have := i_eq ek2; have : (nI k2).toInt = ((k2 : Nat) : Int) := nI_toInt (by omega); have := i_rg c; have := i_nle c3; have : (24 : Int32).toInt = 24 := rfl; have := i_nlt c1; have : (0 : Int32).toInt = 0 := rfl; omega)) : _ = k2)) ?_
                refine WR_tI (y := nI (q9 + 1000)) (Eq.trans (I_ne (fx_ne fx (by decide))) v9) ?_
                refine r_iastore rfl (fx_t31 fx) (vp_ct (fx_n31 fx) (vp_in_nI (by have := i_eq ek5; have : (nI k5).toInt = ((k5 : Nat) : Int) := nI_toInt (by omega); have := i_rg d; have := i_nle c6; have : (24 : Int32).toInt = 24 := rfl; have := i_nlt c4; have : (0 : Int32).toInt = 0 := rfl; omega) (by omega))) ?_
                refine WR_h (h2 := sI (sI h (ad 0) 6 0) (ad 31) k5 (nI (q9 + 1000))) (congrArg (fun z => sI (sI h (ad 0) 6 0) (ad 31) z (nI (q9 + 1000))) ((nI_clamp (by have := i_eq ek5; have : (nI k5).toInt = ((k5 : Nat) : Int) := nI_toInt (by omega); have := i_rg d; have := i_nle c6; have : (24 : Int32).toInt = 24 := rfl; have := i_nlt c4; have : (0 : Int32).toInt = 0 := rfl; omega)) : _ = k5)) ?_
                refine r_aload rfl rfl ?_
                refine r_iload rfl rfl ?_
                refine r_if_eq (tg := 63) rfl rfl (fun q => absurd q (by decide)) (fun _ => ?_)
                refine r_ic (x := 0) rfl rfl ?_
                refine r_goto (tg := 64) rfl rfl ?_
                refine r_cv (y := 154) (ra := [.int 0]) (rest := []) rfl ⟨⟨rfl, rfl⟩, rfl, by decide⟩ (fx_t30 fx) rfl rfl (Nat.le_of_ble_eq_true rfl) ?_
                refine in_154 (Nat.le_of_ble_eq_true rfl) ?_
                show WR _ cd_154 0 [some (.ref (ad 30)), some (.int 0)] [] (sI (sI h (ad 0) 6 0) (ad 31) k5 (nI (q9 + 1000))) _
                refine r_aload rfl rfl ?_
                refine r_iload rfl rfl ?_
                refine r_ic (x := (-1)) rfl rfl ?_
                refine r_icmp_ge (tg := 10) rfl rfl (fun _ => ?_) (fun q => absurd q (by decide))
                refine r_ic (x := 0) rfl rfl ?_
                refine r_putI rfl ⟨rfl, rfl, rfl⟩ (fx_t30 fx) ?_
                refine r_iload rfl rfl ?_
                refine r_iret rfl ?_
                show WR _ cd_163 67 [some (.ref (ad 30)), some (.int c), some (.int d), some (.int 1)] [.int 0] (sI (sI (sI h (ad 0) 6 0) (ad 31) k5 (nI (q9 + 1000))) (ad 30) 11 0) _
                refine r_iret rfl ?_
                have cg : Chg n ad [(30, 11), (0, 6)] [31] h (sI (sI (sI h (ad 0) 6 0) (ad 31) k5 (nI (q9 + 1000))) (ad 30) 11 0) := (((Chg.rf.sI (fx_j fx0) (k := 6) (v := 0) (.inl (by decide))).sI (fx_j fx0) (k := k5) (v := nI (q9 + 1000)) (.inl (by decide))).row.sI (fx_j fx0) (k := 11) (v := 0) (.inl (by decide)))
                refine ⟨rfl, ⟨mid, pa, np, FX.k fx0 cg.1 cg.2.1 cg.2.2 (by decide), Eq.trans (Eq.trans (I_ne (fx_ne fx (by decide))) (Eq.trans (I_ne (fx_ne fx (by decide))) I_eq)) (Eq.symm I_eq), rt.k cg.2.1 (by decide), ra.k cg.2.1 (by decide), rp.k cg.2.1 (by decide), rf.k cg.2.1 (by decide), Rst.k fx0 rst cg.2.2, Ru.k fx0 ru cg.2.1 (by decide), ?_⟩, Nat.le_add_right _ _, Nat.le_add_right _ _⟩
                · refine Rs.cases rs (smS_of fx0 cg (by decide)) (fun c_ hc_ => ?_)
                  by_cases e_ : c_ = k5
                  · rw [e_]
                    exact .inl ⟨k2, (by have := i_eq ek2; have : (nI k2).toInt = ((k2 : Nat) : Int) := nI_toInt (by omega); have := i_rg c; have := i_nle c3; have : (24 : Int32).toInt = 24 := rfl; have := i_nlt c1; have : (0 : Int32).toInt = 0 := rfl; omega), Eq.trans (Eq.trans (I_ne (fx_ne fx (by decide))) I_eq) (Eq.symm v9), Eq.trans (Eq.trans R_oI (Eq.trans R_oI (Eq.trans R_oI w7))) (Eq.trans (congrArg some c10) (Eq.symm w9))⟩
                  · exact .inl ⟨c_, hc_, (Eq.trans (I_ne (fx_ne fx (by decide))) (Eq.trans (I_nk (by have := i_eq ek5; have : (nI k5).toInt = ((k5 : Nat) : Int) := nI_toInt (by omega); have := i_rg d; have := i_nle c6; have : (24 : Int32).toInt = 24 := rfl; have := i_nlt c4; have : (0 : Int32).toInt = 0 := rfl; omega)) (I_ne (fx_ne fx (by decide))))), (Eq.trans R_oI (Eq.trans R_oI R_oI))⟩
            · refine r_aaloadA (b := mid t9) rfl (isQ_of (fx_t1 fx) (by decide)) (vp_ct (fx_n1 fx) (vp_in_nI (by have := i_eq ek2; have : (nI k2).toInt = ((k2 : Nat) : Int) := nI_toInt (by omega); have := i_rg c; have := i_nle c3; have : (24 : Int32).toInt = 24 := rfl; have := i_nlt c1; have : (0 : Int32).toInt = 0 := rfl; omega) (by omega))) (Eq.trans (congrArg (hR (sI h (ad 0) 6 0) (ad 1)) ((nI_clamp (by have := i_eq ek2; have : (nI k2).toInt = ((k2 : Nat) : Int) := nI_toInt (by omega); have := i_rg c; have := i_nle c3; have : (24 : Int32).toInt = 24 := rfl; have := i_nlt c1; have : (0 : Int32).toInt = 0 := rfl; omega)) : _ = k2)) (Eq.trans R_oI w9)) ?_
              refine r_acmpA_ne (tg := 43) rfl rfl (fun _ => ?_) (fun q => absurd q (fun e => by have q1 := tg7; have q2 := tg9; rw [e, q2] at q1; cases q1))
              refine r_aload rfl rfl ?_
              refine r_getA (b := ad 1) rfl ⟨rfl, rfl, rfl⟩ (fx_t0 fx) (fx_r0_0 fx) ?_
              refine r_iload rfl rfl ?_
              refine WR_tI (y := nI k5) ek5 ?_
              refine r_aload rfl rfl ?_
              refine r_getA (b := ad 1) rfl ⟨rfl, rfl, rfl⟩ (fx_t0 fx) (fx_r0_0 fx) ?_
              refine r_iload rfl rfl ?_
              refine WR_tI (y := nI k2) ek2 ?_
              refine r_aaloadA (b := mid t9) rfl (isQ_of (fx_t1 fx) (by decide)) (vp_ct (fx_n1 fx) (vp_in_nI (by have := i_eq ek2; have : (nI k2).toInt = ((k2 : Nat) : Int) := nI_toInt (by omega); have := i_rg c; have := i_nle c3; have : (24 : Int32).toInt = 24 := rfl; have := i_nlt c1; have : (0 : Int32).toInt = 0 := rfl; omega) (by omega))) (Eq.trans (congrArg (hR (sI h (ad 0) 6 0) (ad 1)) ((nI_clamp (by have := i_eq ek2; have : (nI k2).toInt = ((k2 : Nat) : Int) := nI_toInt (by omega); have := i_rg c; have := i_nle c3; have : (24 : Int32).toInt = 24 := rfl; have := i_nlt c1; have : (0 : Int32).toInt = 0 := rfl; omega)) : _ = k2)) (Eq.trans R_oI w9)) ?_
              refine r_aastoreA rfl (isQ_of (fx_t1 fx) (by decide)) (vp_ct (fx_n1 fx) (vp_in_nI (by have := i_eq ek5; have : (nI k5).toInt = ((k5 : Nat) : Int) := nI_toInt (by omega); have := i_rg d; have := i_nle c6; have : (24 : Int32).toInt = 24 := rfl; have := i_nlt c4; have : (0 : Int32).toInt = 0 := rfl; omega) (by omega))) (okR_of (fx_t1 fx) tg9 (by decide)) ?_
              refine WR_h (h2 := sR (sI h (ad 0) 6 0) (ad 1) k5 (some (mid t9))) (congrArg (fun z => sR (sI h (ad 0) 6 0) (ad 1) z (some (mid t9))) ((nI_clamp (by have := i_eq ek5; have : (nI k5).toInt = ((k5 : Nat) : Int) := nI_toInt (by omega); have := i_rg d; have := i_nle c6; have : (24 : Int32).toInt = 24 := rfl; have := i_nlt c4; have : (0 : Int32).toInt = 0 := rfl; omega)) : _ = k5)) ?_
              have fx : FX n ad sa z0 (sR (sI h (ad 0) 6 0) (ad 1) k5 (some (mid t9))) := FX.sRA (i := 1) fx (.inl (by decide)) (by decide)
              refine r_ic (x := 1) rfl rfl ?_
              refine r_iret rfl ?_
              show EV _ 163 [.ref (ad 30), .int c, .int d] (sR (sI h (ad 0) 6 0) (ad 1) k5 (some (mid t9))) _
              refine in_163 (Nat.le_of_ble_eq_true rfl) ?_
              show WR _ cd_163 0 [some (.ref (ad 30)), some (.int c), some (.int d), none] [] (sR (sI h (ad 0) 6 0) (ad 1) k5 (some (mid t9))) _
              refine r_iload rfl rfl ?_
              refine WR_tI (y := nI k2) ek2 ?_
              refine r_cs (y := 153) (ra := [.int (nI k2)]) (rest := []) rfl ⟨⟨rfl, rfl⟩, by decide⟩ rfl rfl (Nat.le_of_ble_eq_true rfl) ?_
              refine in_153 (Nat.le_of_ble_eq_true rfl) ?_
              show WR _ cd_153 0 [some (.int (nI k2))] [] (sR (sI h (ad 0) 6 0) (ad 1) k5 (some (mid t9))) _
              refine r_iload rfl rfl ?_
              refine r_if_lt (tg := 14) rfl rfl (fun q => False.elim (by have : (nI k2).toInt = ((k2 : Nat) : Int) := nI_toInt (by omega); have : (0 : Int32).toInt = 0 := rfl; have := i_eq ek2; have := i_rg c; have := i_nle c3; have : (24 : Int32).toInt = 24 := rfl; have := i_nlt c1; have := i_lt q; omega)) (fun _ => ?_)
              refine r_iload rfl rfl ?_
              refine r_ic (x := 24) rfl rfl ?_
              refine r_icmp_ge (tg := 14) rfl rfl (fun q => False.elim (by have : (nI k2).toInt = ((k2 : Nat) : Int) := nI_toInt (by omega); have : (24 : Int32).toInt = 24 := rfl; have := i_eq ek2; have := i_rg c; have := i_nle c3; have := i_nlt c1; have : (0 : Int32).toInt = 0 := rfl; have := i_le q; omega)) (fun _ => ?_)
              refine r_ic (x := 1) rfl rfl ?_
              refine r_goto (tg := 15) rfl rfl ?_
              refine r_zret rfl (.inr rfl) ?_
              show WR _ cd_163 4 [some (.ref (ad 30)), some (.int c), some (.int d), none] [.int 1] (sR (sI h (ad 0) 6 0) (ad 1) k5 (some (mid t9))) _
              refine r_if_eq (tg := 14) rfl rfl (fun q => absurd q (by decide)) (fun _ => ?_)
              refine r_iload rfl rfl ?_
              refine WR_tI (y := nI k5) ek5 ?_
              refine r_cs (y := 153) (ra := [.int (nI k5)]) (rest := []) rfl ⟨⟨rfl, rfl⟩, by decide⟩ rfl rfl (Nat.le_of_ble_eq_true rfl) ?_
              refine in_153 (Nat.le_of_ble_eq_true rfl) ?_
              show WR _ cd_153 0 [some (.int (nI k5))] [] (sR (sI h (ad 0) 6 0) (ad 1) k5 (some (mid t9))) _
              refine r_iload rfl rfl ?_
              refine r_if_lt (tg := 14) rfl rfl (fun q => False.elim (by have : (nI k5).toInt = ((k5 : Nat) : Int) := nI_toInt (by omega); have : (0 : Int32).toInt = 0 := rfl; have := i_eq ek5; have := i_rg d; have := i_nle c6; have : (24 : Int32).toInt = 24 := rfl; have := i_nlt c4; have := i_lt q; omega)) (fun _ => ?_)
              refine r_iload rfl rfl ?_
              refine r_ic (x := 24) rfl rfl ?_
              refine r_icmp_ge (tg := 14) rfl rfl (fun q => False.elim (by have : (nI k5).toInt = ((k5 : Nat) : Int) := nI_toInt (by omega); have : (24 : Int32).toInt = 24 := rfl; have := i_eq ek5; have := i_rg d; have := i_nle c6; have := i_nlt c4; have : (0 : Int32).toInt = 0 := rfl; have := i_le q; omega)) (fun _ => ?_)
              refine r_ic (x := 1) rfl rfl ?_
              refine r_goto (tg := 15) rfl rfl ?_
              refine r_zret rfl (.inr rfl) ?_
              show WR _ cd_163 11 [some (.ref (ad 30)), some (.int c), some (.int d), none] [.int 1] (sR (sI h (ad 0) 6 0) (ad 1) k5 (some (mid t9))) _
              refine r_if_ne (tg := 21) rfl rfl (fun _ => ?_) (fun q => absurd q (by decide))
              refine r_aload rfl rfl ?_
              refine r_getA (b := ad 31) rfl ⟨rfl, rfl, rfl⟩ (fx_t30 fx) (fx_r30_0 fx) ?_
              refine r_iload rfl rfl ?_
              refine WR_tI (y := nI k5) ek5 ?_
              refine r_iaload rfl (.inl (fx_t31 fx)) (vp_ct (fx_n31 fx) (vp_in_nI (by have := i_eq ek5; have : (nI k5).toInt = ((k5 : Nat) : Int) := nI_toInt (by omega); have := i_rg d; have := i_nle c6; have : (24 : Int32).toInt = 24 := rfl; have := i_nlt c4; have : (0 : Int32).toInt = 0 := rfl; omega) (by omega))) ?_
              refine WR_tI (congrArg (hI (sR (sI h (ad 0) 6 0) (ad 1) k5 (some (mid t9))) (ad 31)) ((nI_clamp (by have := i_eq ek5; have : (nI k5).toInt = ((k5 : Nat) : Int) := nI_toInt (by omega); have := i_rg d; have := i_nle c6; have : (24 : Int32).toInt = 24 := rfl; have := i_nlt c4; have : (0 : Int32).toInt = 0 := rfl; omega)) : _ = k5)) ?_
              refine WR_tI (y := nI (q7 + 1000)) (Eq.trans I_oR (Eq.trans (I_ne (fx_ne fx (by decide))) v7)) ?_
              refine r_aload rfl rfl ?_
              refine r_getA (b := ad 31) rfl ⟨rfl, rfl, rfl⟩ (fx_t30 fx) (fx_r30_0 fx) ?_
              refine r_iload rfl rfl ?_
              refine WR_tI (y := nI k2) ek2 ?_
              refine r_iaload rfl (.inl (fx_t31 fx)) (vp_ct (fx_n31 fx) (vp_in_nI (by have := i_eq ek2; have : (nI k2).toInt = ((k2 : Nat) : Int) := nI_toInt (by omega); have := i_rg c; have := i_nle c3; have : (24 : Int32).toInt = 24 := rfl; have := i_nlt c1; have : (0 : Int32).toInt = 0 := rfl; omega) (by omega))) ?_
              refine WR_tI (congrArg (hI (sR (sI h (ad 0) 6 0) (ad 1) k5 (some (mid t9))) (ad 31)) ((nI_clamp (by have := i_eq ek2; have : (nI k2).toInt = ((k2 : Nat) : Int) := nI_toInt (by omega); have := i_rg c; have := i_nle c3; have : (24 : Int32).toInt = 24 := rfl; have := i_nlt c1; have : (0 : Int32).toInt = 0 := rfl; omega)) : _ = k2)) ?_
              refine WR_tI (y := nI t9) (Eq.trans I_oR (Eq.trans (I_ne (fx_ne fx (by decide))) v9)) ?_
              refine r_icmp_ne (tg := 40) rfl rfl (fun _ => ?_) (fun q => False.elim (by have : (nI (q7 + 1000)).toInt = ((q7 + 1000 : Nat) : Int) := nI_toInt (by omega); have : (nI t9).toInt = ((t9 : Nat) : Int) := nI_toInt (by omega); have := i_eq q; omega))
              refine r_ic (x := 0) rfl rfl ?_
              refine r_istore (lv' := [some (.ref (ad 30)), some (.int c), some (.int d), some (.int 0)]) rfl (Nat.le_of_ble_eq_true rfl) rfl ?_
              refine r_aload rfl rfl ?_
              refine r_getA (b := ad 31) rfl ⟨rfl, rfl, rfl⟩ (fx_t30 fx) (fx_r30_0 fx) ?_
              refine r_iload rfl rfl ?_
              refine WR_tI (y := nI k5) ek5 ?_
              refine r_aload rfl rfl ?_
              refine r_getA (b := ad 31) rfl ⟨rfl, rfl, rfl⟩ (fx_t30 fx) (fx_r30_0 fx) ?_
              refine r_iload rfl rfl ?_
              refine WR_tI (y := nI k2) ek2 ?_
              refine r_iaload rfl (.inl (fx_t31 fx)) (vp_ct (fx_n31 fx) (vp_in_nI (by have := i_eq ek2; have : (nI k2).toInt = ((k2 : Nat) : Int) := nI_toInt (by omega); have := i_rg c; have := i_nle c3; have : (24 : Int32).toInt = 24 := rfl; have := i_nlt c1; have : (0 : Int32).toInt = 0 := rfl; omega) (by omega))) ?_
              refine WR_tI (congrArg (hI (sR (sI h (ad 0) 6 0) (ad 1) k5 (some (mid t9))) (ad 31)) ((nI_clamp (by have := i_eq ek2; have : (nI k2).toInt = ((k2 : Nat) : Int) := nI_toInt (by omega); have := i_rg c; have := i_nle c3; have : (24 : Int32).toInt = 24 := rfl; have := i_nlt c1; have : (0 : Int32).toInt = 0 := rfl; omega)) : _ = k2)) ?_
              refine WR_tI (y := nI t9) (Eq.trans I_oR (Eq.trans (I_ne (fx_ne fx (by decide))) v9)) ?_
              refine r_iastore rfl (fx_t31 fx) (vp_ct (fx_n31 fx) (vp_in_nI (by have := i_eq ek5; have : (nI k5).toInt = ((k5 : Nat) : Int) := nI_toInt (by omega); have := i_rg d; have := i_nle c6; have : (24 : Int32).toInt = 24 := rfl; have := i_nlt c4; have : (0 : Int32).toInt = 0 := rfl; omega) (by omega))) ?_
              refine WR_h (h2 := sI (sR (sI h (ad 0) 6 0) (ad 1) k5 (some (mid t9))) (ad 31) k5 (nI t9)) (congrArg (fun z => sI (sR (sI h (ad 0) 6 0) (ad 1) k5 (some (mid t9))) (ad 31) z (nI t9)) ((nI_clamp (by have := i_eq ek5; have : (nI k5).toInt = ((k5 : Nat) : Int) := nI_toInt (by omega); have := i_rg d; have := i_nle c6; have : (24 : Int32).toInt = 24 := rfl; have := i_nlt c4; have : (0 : Int32).toInt = 0 := rfl; omega)) : _ = k5)) ?_
              refine r_aload rfl rfl ?_
              refine r_iload rfl rfl ?_
              refine r_if_eq (tg := 63) rfl rfl (fun _ => ?_) (fun q => absurd q (by decide))
              refine r_ic (x := 1) rfl rfl ?_
              refine r_cv (y := 154) (ra := [.int 1]) (rest := []) rfl ⟨⟨rfl, rfl⟩, rfl, by decide⟩ (fx_t30 fx) rfl rfl (Nat.le_of_ble_eq_true rfl) ?_
              refine in_154 (Nat.le_of_ble_eq_true rfl) ?_
              show WR _ cd_154 0 [some (.ref (ad 30)), some (.int 1)] [] (sI (sR (sI h (ad 0) 6 0) (ad 1) k5 (some (mid t9))) (ad 31) k5 (nI t9)) _
              refine r_aload rfl rfl ?_
              refine r_iload rfl rfl ?_
              refine r_ic (x := (-1)) rfl rfl ?_
              refine r_icmp_ge (tg := 10) rfl rfl (fun _ => ?_) (fun q => absurd q (by decide))
              refine r_ic (x := 0) rfl rfl ?_
              refine r_putI rfl ⟨rfl, rfl, rfl⟩ (fx_t30 fx) ?_
              refine r_iload rfl rfl ?_
              refine r_iret rfl ?_
              show WR _ cd_163 67 [some (.ref (ad 30)), some (.int c), some (.int d), some (.int 0)] [.int 1] (sI (sI (sR (sI h (ad 0) 6 0) (ad 1) k5 (some (mid t9))) (ad 31) k5 (nI t9)) (ad 30) 11 0) _
              refine r_iret rfl ?_
              have cg : Chg n ad [(30, 11), (0, 6)] [31, 1] h (sI (sI (sR (sI h (ad 0) 6 0) (ad 1) k5 (some (mid t9))) (ad 31) k5 (nI t9)) (ad 30) 11 0) := ((((Chg.rf.sI (fx_j fx0) (k := 6) (v := 0) (.inl (by decide))).sR (fx_j fx0) (k := k5) (v := some (mid t9)) (.inl (by decide))).row.sI (fx_j fx0) (k := k5) (v := nI t9) (.inl (by decide))).row.sI (fx_j fx0) (k := 11) (v := 0) (.inl (by decide)))
              refine ⟨rfl, ⟨mid, pa, np, FX.k fx0 cg.1 cg.2.1 cg.2.2 (by decide), Eq.trans (Eq.trans (I_ne (fx_ne fx (by decide))) (Eq.trans (I_ne (fx_ne fx (by decide))) (Eq.trans I_oR I_eq))) (Eq.symm I_eq), rt.k cg.2.1 (by decide), ra.k cg.2.1 (by decide), rp.k cg.2.1 (by decide), rf.k cg.2.1 (by decide), Rst.k fx0 rst cg.2.2, Ru.k fx0 ru cg.2.1 (by decide), ?_⟩, Nat.le_add_right _ _, Nat.le_add_right _ _⟩
              · refine Rs.cases rs (smS_of fx0 cg (by decide)) (fun c_ hc_ => ?_)
                by_cases e_ : c_ = k5
                · rw [e_]
                  exact .inl ⟨k2, (by have := i_eq ek2; have : (nI k2).toInt = ((k2 : Nat) : Int) := nI_toInt (by omega); have := i_rg c; have := i_nle c3; have : (24 : Int32).toInt = 24 := rfl; have := i_nlt c1; have : (0 : Int32).toInt = 0 := rfl; omega), Eq.trans (Eq.trans (I_ne (fx_ne fx (by decide))) I_eq) (Eq.symm v9), Eq.trans (Eq.trans R_oI (Eq.trans R_oI R_eq)) (Eq.symm w9)⟩
                · exact .inl ⟨c_, hc_, (Eq.trans (I_ne (fx_ne fx (by decide))) (Eq.trans (I_nk (by have := i_eq ek5; have : (nI k5).toInt = ((k5 : Nat) : Int) := nI_toInt (by omega); have := i_rg d; have := i_nle c6; have : (24 : Int32).toInt = 24 := rfl; have := i_nlt c4; have : (0 : Int32).toInt = 0 := rfl; omega)) (Eq.trans I_oR (I_ne (fx_ne fx (by decide)))))), (Eq.trans R_oI (Eq.trans R_oI (Eq.trans (R_nk (by have := i_eq ek5; have : (nI k5).toInt = ((k5 : Nat) : Int) := nI_toInt (by omega); have := i_rg d; have := i_nle c6; have : (24 : Int32).toInt = 24 := rfl; have := i_nlt c4; have : (0 : Int32).toInt = 0 := rfl; omega)) R_oI)))⟩
            · refine r_aaloadA (b := mid t9) rfl (isQ_of (fx_t1 fx) (by decide)) (vp_ct (fx_n1 fx) (vp_in_nI (by have := i_eq ek2; have : (nI k2).toInt = ((k2 : Nat) : Int) := nI_toInt (by omega); have := i_rg c; have := i_nle c3; have : (24 : Int32).toInt = 24 := rfl; have := i_nlt c1; have : (0 : Int32).toInt = 0 := rfl; omega) (by omega))) (Eq.trans (congrArg (hR (sI h (ad 0) 6 0) (ad 1)) ((nI_clamp (by have := i_eq ek2; have : (nI k2).toInt = ((k2 : Nat) : Int) := nI_toInt (by omega); have := i_rg c; have := i_nle c3; have : (24 : Int32).toInt = 24 := rfl; have := i_nlt c1; have : (0 : Int32).toInt = 0 := rfl; omega)) : _ = k2)) (Eq.trans R_oI w9)) ?_
              refine r_acmpA_ne (tg := 43) rfl rfl (fun _ => ?_) (fun q => absurd q (fun e => by have q1 := tg7; have q2 := tg9; rw [e, q2] at q1; cases q1))
              refine r_aload rfl rfl ?_
              refine r_getA (b := ad 1) rfl ⟨rfl, rfl, rfl⟩ (fx_t0 fx) (fx_r0_0 fx) ?_
              refine r_iload rfl rfl ?_
              refine WR_tI (y := nI k5) ek5 ?_
              refine r_aload rfl rfl ?_
              refine r_getA (b := ad 1) rfl ⟨rfl, rfl, rfl⟩ (fx_t0 fx) (fx_r0_0 fx) ?_
              refine r_iload rfl rfl ?_
              refine WR_tI (y := nI k2) ek2 ?_
              refine r_aaloadA (b := mid t9) rfl (isQ_of (fx_t1 fx) (by decide)) (vp_ct (fx_n1 fx) (vp_in_nI (by have := i_eq ek2; have : (nI k2).toInt = ((k2 : Nat) : Int) := nI_toInt (by omega); have := i_rg c; have := i_nle c3; have : (24 : Int32).toInt = 24 := rfl; have := i_nlt c1; have : (0 : Int32).toInt = 0 := rfl; omega) (by omega))) (Eq.trans (congrArg (hR (sI h (ad 0) 6 0) (ad 1)) ((nI_clamp (by have := i_eq ek2; have : (nI k2).toInt = ((k2 : Nat) : Int) := nI_toInt (by omega); have := i_rg c; have := i_nle c3; have : (24 : Int32).toInt = 24 := rfl; have := i_nlt c1; have : (0 : Int32).toInt = 0 := rfl; omega)) : _ = k2)) (Eq.trans R_oI w9)) ?_
              refine r_aastoreA rfl (isQ_of (fx_t1 fx) (by decide)) (vp_ct (fx_n1 fx) (vp_in_nI (by have := i_eq ek5; have : (nI k5).toInt = ((k5 : Nat) : Int) := nI_toInt (by omega); have := i_rg d; have := i_nle c6; have : (24 : Int32).toInt = 24 := rfl; have := i_nlt c4; have : (0 : Int32).toInt = 0 := rfl; omega) (by omega))) (okR_of (fx_t1 fx) tg9 (by decide)) ?_
              refine WR_h (h2 := sR (sI h (ad 0) 6 0) (ad 1) k5 (some (mid t9))) (congrArg (fun z => sR (sI h (ad 0) 6 0) (ad 1) z (some (mid t9))) ((nI_clamp (by have := i_eq ek5; have : (nI k5).toInt = ((k5 : Nat) : Int) := nI_toInt (by omega); have := i_rg d; have := i_nle c6; have : (24 : Int32).toInt = 24 := rfl; have := i_nlt c4; have : (0 : Int32).toInt = 0 := rfl; omega)) : _ = k5)) ?_
              have fx : FX n ad sa z0 (sR (sI h (ad 0) 6 0) (ad 1) k5 (some (mid t9))) := FX.sRA (i := 1) fx (.inl (by decide)) (by decide)
              refine r_ic (x := 1) rfl rfl ?_
              refine r_iret rfl ?_
              show EV _ 163 [.ref (ad 30), .int c, .int d] (sR (sI h (ad 0) 6 0) (ad 1) k5 (some (mid t9))) _
              refine in_163 (Nat.le_of_ble_eq_true rfl) ?_
              show WR _ cd_163 0 [some (.ref (ad 30)), some (.int c), some (.int d), none] [] (sR (sI h (ad 0) 6 0) (ad 1) k5 (some (mid t9))) _
              refine r_iload rfl rfl ?_
              refine WR_tI (y := nI k2) ek2 ?_
              refine r_cs (y := 153) (ra := [.int (nI k2)]) (rest := []) rfl ⟨⟨rfl, rfl⟩, by decide⟩ rfl rfl (Nat.le_of_ble_eq_true rfl) ?_
              refine in_153 (Nat.le_of_ble_eq_true rfl) ?_
              show WR _ cd_153 0 [some (.int (nI k2))] [] (sR (sI h (ad 0) 6 0) (ad 1) k5 (some (mid t9))) _
              refine r_iload rfl rfl ?_
              refine r_if_lt (tg := 14) rfl rfl (fun q => False.elim (by have : (nI k2).toInt = ((k2 : Nat) : Int) := nI_toInt (by omega); have : (0 : Int32).toInt = 0 := rfl; have := i_eq ek2; have := i_rg c; have := i_nle c3; have : (24 : Int32).toInt = 24 := rfl; have := i_nlt c1; have := i_lt q; omega)) (fun _ => ?_)
              refine r_iload rfl rfl ?_
              refine r_ic (x := 24) rfl rfl ?_
              refine r_icmp_ge (tg := 14) rfl rfl (fun q => False.elim (by have : (nI k2).toInt = ((k2 : Nat) : Int) := nI_toInt (by omega); have : (24 : Int32).toInt = 24 := rfl; have := i_eq ek2; have := i_rg c; have := i_nle c3; have := i_nlt c1; have : (0 : Int32).toInt = 0 := rfl; have := i_le q; omega)) (fun _ => ?_)
              refine r_ic (x := 1) rfl rfl ?_
              refine r_goto (tg := 15) rfl rfl ?_
              refine r_zret rfl (.inr rfl) ?_
              show WR _ cd_163 4 [some (.ref (ad 30)), some (.int c), some (.int d), none] [.int 1] (sR (sI h (ad 0) 6 0) (ad 1) k5 (some (mid t9))) _
              refine r_if_eq (tg := 14) rfl rfl (fun q => absurd q (by decide)) (fun _ => ?_)
              refine r_iload rfl rfl ?_
              refine WR_tI (y := nI k5) ek5 ?_
              refine r_cs (y := 153) (ra := [.int (nI k5)]) (rest := []) rfl ⟨⟨rfl, rfl⟩, by decide⟩ rfl rfl (Nat.le_of_ble_eq_true rfl) ?_
              refine in_153 (Nat.le_of_ble_eq_true rfl) ?_
              show WR _ cd_153 0 [some (.int (nI k5))] [] (sR (sI h (ad 0) 6 0) (ad 1) k5 (some (mid t9))) _
              refine r_iload rfl rfl ?_
              refine r_if_lt (tg := 14) rfl rfl (fun q => False.elim (by have : (nI k5).toInt = ((k5 : Nat) : Int) := nI_toInt (by omega); have : (0 : Int32).toInt = 0 := rfl; have := i_eq ek5; have := i_rg d; have := i_nle c6; have : (24 : Int32).toInt = 24 := rfl; have := i_nlt c4; have := i_lt q; omega)) (fun _ => ?_)
              refine r_iload rfl rfl ?_
              refine r_ic (x := 24) rfl rfl ?_
              refine r_icmp_ge (tg := 14) rfl rfl (fun q => False.elim (by have : (nI k5).toInt = ((k5 : Nat) : Int) := nI_toInt (by omega); have : (24 : Int32).toInt = 24 := rfl; have := i_eq ek5; have := i_rg d; have := i_nle c6; have := i_nlt c4; have : (0 : Int32).toInt = 0 := rfl; have := i_le q; omega)) (fun _ => ?_)
              refine r_ic (x := 1) rfl rfl ?_
              refine r_goto (tg := 15) rfl rfl ?_
              refine r_zret rfl (.inr rfl) ?_
              show WR _ cd_163 11 [some (.ref (ad 30)), some (.int c), some (.int d), none] [.int 1] (sR (sI h (ad 0) 6 0) (ad 1) k5 (some (mid t9))) _
              refine r_if_ne (tg := 21) rfl rfl (fun _ => ?_) (fun q => absurd q (by decide))
              refine r_aload rfl rfl ?_
              refine r_getA (b := ad 31) rfl ⟨rfl, rfl, rfl⟩ (fx_t30 fx) (fx_r30_0 fx) ?_
              refine r_iload rfl rfl ?_
              refine WR_tI (y := nI k5) ek5 ?_
              refine r_iaload rfl (.inl (fx_t31 fx)) (vp_ct (fx_n31 fx) (vp_in_nI (by have := i_eq ek5; have : (nI k5).toInt = ((k5 : Nat) : Int) := nI_toInt (by omega); have := i_rg d; have := i_nle c6; have : (24 : Int32).toInt = 24 := rfl; have := i_nlt c4; have : (0 : Int32).toInt = 0 := rfl; omega) (by omega))) ?_
              refine WR_tI (congrArg (hI (sR (sI h (ad 0) 6 0) (ad 1) k5 (some (mid t9))) (ad 31)) ((nI_clamp (by have := i_eq ek5; have : (nI k5).toInt = ((k5 : Nat) : Int) := nI_toInt (by omega); have := i_rg d; have := i_nle c6; have : (24 : Int32).toInt = 24 := rfl; have := i_nlt c4; have : (0 : Int32).toInt = 0 := rfl; omega)) : _ = k5)) ?_
              refine WR_tI (y := nI (q7 + 1000)) (Eq.trans I_oR (Eq.trans (I_ne (fx_ne fx (by decide))) v7)) ?_
              refine r_aload rfl rfl ?_
              refine r_getA (b := ad 31) rfl ⟨rfl, rfl, rfl⟩ (fx_t30 fx) (fx_r30_0 fx) ?_
              refine r_iload rfl rfl ?_
              refine WR_tI (y := nI k2) ek2 ?_
              refine r_iaload rfl (.inl (fx_t31 fx)) (vp_ct (fx_n31 fx) (vp_in_nI (by have := i_eq ek2; have : (nI k2).toInt = ((k2 : Nat) : Int) := nI_toInt (by omega); have := i_rg c; have := i_nle c3; have : (24 : Int32).toInt = 24 := rfl; have := i_nlt c1; have : (0 : Int32).toInt = 0 := rfl; omega) (by omega))) ?_
              refine WR_tI (congrArg (hI (sR (sI h (ad 0) 6 0) (ad 1) k5 (some (mid t9))) (ad 31)) ((nI_clamp (by have := i_eq ek2; have : (nI k2).toInt = ((k2 : Nat) : Int) := nI_toInt (by omega); have := i_rg c; have := i_nle c3; have : (24 : Int32).toInt = 24 := rfl; have := i_nlt c1; have : (0 : Int32).toInt = 0 := rfl; omega)) : _ = k2)) ?_
              refine WR_tI (y := nI t9) (Eq.trans I_oR (Eq.trans (I_ne (fx_ne fx (by decide))) v9)) ?_
              refine r_icmp_ne (tg := 40) rfl rfl (fun _ => ?_) (fun q => False.elim (by have : (nI (q7 + 1000)).toInt = ((q7 + 1000 : Nat) : Int) := nI_toInt (by omega); have : (nI t9).toInt = ((t9 : Nat) : Int) := nI_toInt (by omega); have := i_eq q; omega))
              refine r_ic (x := 0) rfl rfl ?_
              refine r_istore (lv' := [some (.ref (ad 30)), some (.int c), some (.int d), some (.int 0)]) rfl (Nat.le_of_ble_eq_true rfl) rfl ?_
              refine r_aload rfl rfl ?_
              refine r_getA (b := ad 31) rfl ⟨rfl, rfl, rfl⟩ (fx_t30 fx) (fx_r30_0 fx) ?_
              refine r_iload rfl rfl ?_
              refine WR_tI (y := nI k5) ek5 ?_
              refine r_aload rfl rfl ?_
              refine r_getA (b := ad 31) rfl ⟨rfl, rfl, rfl⟩ (fx_t30 fx) (fx_r30_0 fx) ?_
              refine r_iload rfl rfl ?_
              refine WR_tI (y := nI k2) ek2 ?_
              refine r_iaload rfl (.inl (fx_t31 fx)) (vp_ct (fx_n31 fx) (vp_in_nI (by have := i_eq ek2; have : (nI k2).toInt = ((k2 : Nat) : Int) := nI_toInt (by omega); have := i_rg c; have := i_nle c3; have : (24 : Int32).toInt = 24 := rfl; have := i_nlt c1; have : (0 : Int32).toInt = 0 := rfl; omega) (by omega))) ?_
              refine WR_tI (congrArg (hI (sR (sI h (ad 0) 6 0) (ad 1) k5 (some (mid t9))) (ad 31)) ((nI_clamp (by have := i_eq ek2; have : (nI k2).toInt = ((k2 : Nat) : Int) := nI_toInt (by omega); have := i_rg c; have := i_nle c3; have : (24 : Int32).toInt = 24 := rfl; have := i_nlt c1; have : (0 : Int32).toInt = 0 := rfl; omega)) : _ = k2)) ?_
              refine WR_tI (y := nI t9) (Eq.trans I_oR (Eq.trans (I_ne (fx_ne fx (by decide))) v9)) ?_
              refine r_iastore rfl (fx_t31 fx) (vp_ct (fx_n31 fx) (vp_in_nI (by have := i_eq ek5; have : (nI k5).toInt = ((k5 : Nat) : Int) := nI_toInt (by omega); have := i_rg d; have := i_nle c6; have : (24 : Int32).toInt = 24 := rfl; have := i_nlt c4; have : (0 : Int32).toInt = 0 := rfl; omega) (by omega))) ?_
              refine WR_h (h2 := sI (sR (sI h (ad 0) 6 0) (ad 1) k5 (some (mid t9))) (ad 31) k5 (nI t9)) (congrArg (fun z => sI (sR (sI h (ad 0) 6 0) (ad 1) k5 (some (mid t9))) (ad 31) z (nI t9)) ((nI_clamp (by have := i_eq ek5; have : (nI k5).toInt = ((k5 : Nat) : Int) := nI_toInt (by omega); have := i_rg d; have := i_nle c6; have : (24 : Int32).toInt = 24 := rfl; have := i_nlt c4; have : (0 : Int32).toInt = 0 := rfl; omega)) : _ = k5)) ?_
              refine r_aload rfl rfl ?_
              refine r_iload rfl rfl ?_
              refine r_if_eq (tg := 63) rfl rfl (fun _ => ?_) (fun q => absurd q (by decide))
              refine r_ic (x := 1) rfl rfl ?_
              refine r_cv (y := 154) (ra := [.int 1]) (rest := []) rfl ⟨⟨rfl, rfl⟩, rfl, by decide⟩ (fx_t30 fx) rfl rfl (Nat.le_of_ble_eq_true rfl) ?_
              refine in_154 (Nat.le_of_ble_eq_true rfl) ?_
              show WR _ cd_154 0 [some (.ref (ad 30)), some (.int 1)] [] (sI (sR (sI h (ad 0) 6 0) (ad 1) k5 (some (mid t9))) (ad 31) k5 (nI t9)) _
              refine r_aload rfl rfl ?_
              refine r_iload rfl rfl ?_
              refine r_ic (x := (-1)) rfl rfl ?_
              refine r_icmp_ge (tg := 10) rfl rfl (fun _ => ?_) (fun q => absurd q (by decide))
              refine r_ic (x := 0) rfl rfl ?_
              refine r_putI rfl ⟨rfl, rfl, rfl⟩ (fx_t30 fx) ?_
              refine r_iload rfl rfl ?_
              refine r_iret rfl ?_
              show WR _ cd_163 67 [some (.ref (ad 30)), some (.int c), some (.int d), some (.int 0)] [.int 1] (sI (sI (sR (sI h (ad 0) 6 0) (ad 1) k5 (some (mid t9))) (ad 31) k5 (nI t9)) (ad 30) 11 0) _
              refine r_iret rfl ?_
              have cg : Chg n ad [(30, 11), (0, 6)] [31, 1] h (sI (sI (sR (sI h (ad 0) 6 0) (ad 1) k5 (some (mid t9))) (ad 31) k5 (nI t9)) (ad 30) 11 0) := ((((Chg.rf.sI (fx_j fx0) (k := 6) (v := 0) (.inl (by decide))).sR (fx_j fx0) (k := k5) (v := some (mid t9)) (.inl (by decide))).row.sI (fx_j fx0) (k := k5) (v := nI t9) (.inl (by decide))).row.sI (fx_j fx0) (k := 11) (v := 0) (.inl (by decide)))
              refine ⟨rfl, ⟨mid, pa, np, FX.k fx0 cg.1 cg.2.1 cg.2.2 (by decide), Eq.trans (Eq.trans (I_ne (fx_ne fx (by decide))) (Eq.trans (I_ne (fx_ne fx (by decide))) (Eq.trans I_oR I_eq))) (Eq.symm I_eq), rt.k cg.2.1 (by decide), ra.k cg.2.1 (by decide), rp.k cg.2.1 (by decide), rf.k cg.2.1 (by decide), Rst.k fx0 rst cg.2.2, Ru.k fx0 ru cg.2.1 (by decide), ?_⟩, Nat.le_add_right _ _, Nat.le_add_right _ _⟩
              · refine Rs.cases rs (smS_of fx0 cg (by decide)) (fun c_ hc_ => ?_)
                by_cases e_ : c_ = k5
                · rw [e_]
                  exact .inl ⟨k2, (by have := i_eq ek2; have : (nI k2).toInt = ((k2 : Nat) : Int) := nI_toInt (by omega); have := i_rg c; have := i_nle c3; have : (24 : Int32).toInt = 24 := rfl; have := i_nlt c1; have : (0 : Int32).toInt = 0 := rfl; omega), Eq.trans (Eq.trans (I_ne (fx_ne fx (by decide))) I_eq) (Eq.symm v9), Eq.trans (Eq.trans R_oI (Eq.trans R_oI R_eq)) (Eq.symm w9)⟩
                · exact .inl ⟨c_, hc_, (Eq.trans (I_ne (fx_ne fx (by decide))) (Eq.trans (I_nk (by have := i_eq ek5; have : (nI k5).toInt = ((k5 : Nat) : Int) := nI_toInt (by omega); have := i_rg d; have := i_nle c6; have : (24 : Int32).toInt = 24 := rfl; have := i_nlt c4; have : (0 : Int32).toInt = 0 := rfl; omega)) (Eq.trans I_oR (I_ne (fx_ne fx (by decide)))))), (Eq.trans R_oI (Eq.trans R_oI (Eq.trans (R_nk (by have := i_eq ek5; have : (nI k5).toInt = ((k5 : Nat) : Int) := nI_toInt (by omega); have := i_rg d; have := i_nle c6; have : (24 : Int32).toInt = 24 := rfl; have := i_nlt c4; have : (0 : Int32).toInt = 0 := rfl; omega)) R_oI)))⟩
            · refine r_aaloadA (b := mid t9) rfl (isQ_of (fx_t1 fx) (by decide)) (vp_ct (fx_n1 fx) (vp_in_nI (by have := i_eq ek2; have : (nI k2).toInt = ((k2 : Nat) : Int) := nI_toInt (by omega); have := i_rg c; have := i_nle c3; have : (24 : Int32).toInt = 24 := rfl; have := i_nlt c1; have : (0 : Int32).toInt = 0 := rfl; omega) (by omega))) (Eq.trans (congrArg (hR (sI h (ad 0) 6 0) (ad 1)) ((nI_clamp (by have := i_eq ek2; have : (nI k2).toInt = ((k2 : Nat) : Int) := nI_toInt (by omega); have := i_rg c; have := i_nle c3; have : (24 : Int32).toInt = 24 := rfl; have := i_nlt c1; have : (0 : Int32).toInt = 0 := rfl; omega)) : _ = k2)) (Eq.trans R_oI w9)) ?_
              refine r_acmpA_ne (tg := 43) rfl rfl (fun _ => ?_) (fun q => absurd q (fun e => by have q1 := tg7; have q2 := tg9; rw [e, q2] at q1; cases q1))
              refine r_aload rfl rfl ?_
              refine r_getA (b := ad 1) rfl ⟨rfl, rfl, rfl⟩ (fx_t0 fx) (fx_r0_0 fx) ?_
              refine r_iload rfl rfl ?_
              refine WR_tI (y := nI k5) ek5 ?_
              refine r_aload rfl rfl ?_
              refine r_getA (b := ad 1) rfl ⟨rfl, rfl, rfl⟩ (fx_t0 fx) (fx_r0_0 fx) ?_
              refine r_iload rfl rfl ?_
              refine WR_tI (y := nI k2) ek2 ?_
              refine r_aaloadA (b := mid t9) rfl (isQ_of (fx_t1 fx) (by decide)) (vp_ct (fx_n1 fx) (vp_in_nI (by have := i_eq ek2; have : (nI k2).toInt = ((k2 : Nat) : Int) := nI_toInt (by omega); have := i_rg c; have := i_nle c3; have : (24 : Int32).toInt = 24 := rfl; have := i_nlt c1; have : (0 : Int32).toInt = 0 := rfl; omega) (by omega))) (Eq.trans (congrArg (hR (sI h (ad 0) 6 0) (ad 1)) ((nI_clamp (by have := i_eq ek2; have : (nI k2).toInt = ((k2 : Nat) : Int) := nI_toInt (by omega); have := i_rg c; have := i_nle c3; have : (24 : Int32).toInt = 24 := rfl; have := i_nlt c1; have : (0 : Int32).toInt = 0 := rfl; omega)) : _ = k2)) (Eq.trans R_oI w9)) ?_
              refine r_aastoreA rfl (isQ_of (fx_t1 fx) (by decide)) (vp_ct (fx_n1 fx) (vp_in_nI (by have := i_eq ek5; have : (nI k5).toInt = ((k5 : Nat) : Int) := nI_toInt (by omega); have := i_rg d; have := i_nle c6; have : (24 : Int32).toInt = 24 := rfl; have := i_nlt c4; have : (0 : Int32).toInt = 0 := rfl; omega) (by omega))) (okR_of (fx_t1 fx) tg9 (by decide)) ?_
              refine WR_h (h2 := sR (sI h (ad 0) 6 0) (ad 1) k5 (some (mid t9))) (congrArg (fun z => sR (sI h (ad 0) 6 0) (ad 1) z (some (mid t9))) ((nI_clamp (by have := i_eq ek5; have : (nI k5).toInt = ((k5 : Nat) : Int) := nI_toInt (by omega); have := i_rg d; have := i_nle c6; have : (24 : Int32).toInt = 24 := rfl; have := i_nlt c4; have : (0 : Int32).toInt = 0 := rfl; omega)) : _ = k5)) ?_
              have fx : FX n ad sa z0 (sR (sI h (ad 0) 6 0) (ad 1) k5 (some (mid t9))) := FX.sRA (i := 1) fx (.inl (by decide)) (by decide)
              refine r_ic (x := 1) rfl rfl ?_
              refine r_iret rfl ?_
              show EV _ 163 [.ref (ad 30), .int c, .int d] (sR (sI h (ad 0) 6 0) (ad 1) k5 (some (mid t9))) _
              refine in_163 (Nat.le_of_ble_eq_true rfl) ?_
              show WR _ cd_163 0 [some (.ref (ad 30)), some (.int c), some (.int d), none] [] (sR (sI h (ad 0) 6 0) (ad 1) k5 (some (mid t9))) _
              refine r_iload rfl rfl ?_
              refine WR_tI (y := nI k2) ek2 ?_
              refine r_cs (y := 153) (ra := [.int (nI k2)]) (rest := []) rfl ⟨⟨rfl, rfl⟩, by decide⟩ rfl rfl (Nat.le_of_ble_eq_true rfl) ?_
              refine in_153 (Nat.le_of_ble_eq_true rfl) ?_
              show WR _ cd_153 0 [some (.int (nI k2))] [] (sR (sI h (ad 0) 6 0) (ad 1) k5 (some (mid t9))) _
              refine r_iload rfl rfl ?_
              refine r_if_lt (tg := 14) rfl rfl (fun q => False.elim (by have : (nI k2).toInt = ((k2 : Nat) : Int) := nI_toInt (by omega); have : (0 : Int32).toInt = 0 := rfl; have := i_eq ek2; have := i_rg c; have := i_nle c3; have : (24 : Int32).toInt = 24 := rfl; have := i_nlt c1; have := i_lt q; omega)) (fun _ => ?_)
              refine r_iload rfl rfl ?_
              refine r_ic (x := 24) rfl rfl ?_
              refine r_icmp_ge (tg := 14) rfl rfl (fun q => False.elim (by have : (nI k2).toInt = ((k2 : Nat) : Int) := nI_toInt (by omega); have : (24 : Int32).toInt = 24 := rfl; have := i_eq ek2; have := i_rg c; have := i_nle c3; have := i_nlt c1; have : (0 : Int32).toInt = 0 := rfl; have := i_le q; omega)) (fun _ => ?_)
              refine r_ic (x := 1) rfl rfl ?_
              refine r_goto (tg := 15) rfl rfl ?_
              refine r_zret rfl (.inr rfl) ?_
              show WR _ cd_163 4 [some (.ref (ad 30)), some (.int c), some (.int d), none] [.int 1] (sR (sI h (ad 0) 6 0) (ad 1) k5 (some (mid t9))) _
              refine r_if_eq (tg := 14) rfl rfl (fun q => absurd q (by decide)) (fun _ => ?_)
              refine r_iload rfl rfl ?_
              refine WR_tI (y := nI k5) ek5 ?_
              refine r_cs (y := 153) (ra := [.int (nI k5)]) (rest := []) rfl ⟨⟨rfl, rfl⟩, by decide⟩ rfl rfl (Nat.le_of_ble_eq_true rfl) ?_
              refine in_153 (Nat.le_of_ble_eq_true rfl) ?_
              show WR _ cd_153 0 [some (.int (nI k5))] [] (sR (sI h (ad 0) 6 0) (ad 1) k5 (some (mid t9))) _
              refine r_iload rfl rfl ?_
              refine r_if_lt (tg := 14) rfl rfl (fun q => False.elim (by have : (nI k5).toInt = ((k5 : Nat) : Int) := nI_toInt (by omega); have : (0 : Int32).toInt = 0 := rfl; have := i_eq ek5; have := i_rg d; have := i_nle c6; have : (24 : Int32).toInt = 24 := rfl; have := i_nlt c4; have := i_lt q; omega)) (fun _ => ?_)
              refine r_iload rfl rfl ?_
              refine r_ic (x := 24) rfl rfl ?_
              refine r_icmp_ge (tg := 14) rfl rfl (fun q => False.elim (by have : (nI k5).toInt = ((k5 : Nat) : Int) := nI_toInt (by omega); have : (24 : Int32).toInt = 24 := rfl; have := i_eq ek5; have := i_rg d; have := i_nle c6; have := i_nlt c4; have : (0 : Int32).toInt = 0 := rfl; have := i_le q; omega)) (fun _ => ?_)
              refine r_ic (x := 1) rfl rfl ?_
              refine r_goto (tg := 15) rfl rfl ?_
              refine r_zret rfl (.inr rfl) ?_
              show WR _ cd_163 11 [some (.ref (ad 30)), some (.int c), some (.int d), none] [.int 1] (sR (sI h (ad 0) 6 0) (ad 1) k5 (some (mid t9))) _
              refine r_if_ne (tg := 21) rfl rfl (fun _ => ?_) (fun q => absurd q (by decide))
              refine r_aload rfl rfl ?_
              refine r_getA (b := ad 31) rfl ⟨rfl, rfl, rfl⟩ (fx_t30 fx) (fx_r30_0 fx) ?_
              refine r_iload rfl rfl ?_
              refine WR_tI (y := nI k5) ek5 ?_
              refine r_iaload rfl (.inl (fx_t31 fx)) (vp_ct (fx_n31 fx) (vp_in_nI (by have := i_eq ek5; have : (nI k5).toInt = ((k5 : Nat) : Int) := nI_toInt (by omega); have := i_rg d; have := i_nle c6; have : (24 : Int32).toInt = 24 := rfl; have := i_nlt c4; have : (0 : Int32).toInt = 0 := rfl; omega) (by omega))) ?_
              refine WR_tI (congrArg (hI (sR (sI h (ad 0) 6 0) (ad 1) k5 (some (mid t9))) (ad 31)) ((nI_clamp (by have := i_eq ek5; have : (nI k5).toInt = ((k5 : Nat) : Int) := nI_toInt (by omega); have := i_rg d; have := i_nle c6; have : (24 : Int32).toInt = 24 := rfl; have := i_nlt c4; have : (0 : Int32).toInt = 0 := rfl; omega)) : _ = k5)) ?_
              refine WR_tI (y := nI (q7 + 1000)) (Eq.trans I_oR (Eq.trans (I_ne (fx_ne fx (by decide))) v7)) ?_
              refine r_aload rfl rfl ?_
              refine r_getA (b := ad 31) rfl ⟨rfl, rfl, rfl⟩ (fx_t30 fx) (fx_r30_0 fx) ?_
              refine r_iload rfl rfl ?_
              refine WR_tI (y := nI k2) ek2 ?_
              refine r_iaload rfl (.inl (fx_t31 fx)) (vp_ct (fx_n31 fx) (vp_in_nI (by have := i_eq ek2; have : (nI k2).toInt = ((k2 : Nat) : Int) := nI_toInt (by omega); have := i_rg c; have := i_nle c3; have : (24 : Int32).toInt = 24 := rfl; have := i_nlt c1; have : (0 : Int32).toInt = 0 := rfl; omega) (by omega))) ?_
              refine WR_tI (congrArg (hI (sR (sI h (ad 0) 6 0) (ad 1) k5 (some (mid t9))) (ad 31)) ((nI_clamp (by have := i_eq ek2; have : (nI k2).toInt = ((k2 : Nat) : Int) := nI_toInt (by omega); have := i_rg c; have := i_nle c3; have : (24 : Int32).toInt = 24 := rfl; have := i_nlt c1; have : (0 : Int32).toInt = 0 := rfl; omega)) : _ = k2)) ?_
              refine WR_tI (y := nI t9) (Eq.trans I_oR (Eq.trans (I_ne (fx_ne fx (by decide))) v9)) ?_
              refine r_icmp_ne (tg := 40) rfl rfl (fun _ => ?_) (fun q => False.elim (by have : (nI (q7 + 1000)).toInt = ((q7 + 1000 : Nat) : Int) := nI_toInt (by omega); have : (nI t9).toInt = ((t9 : Nat) : Int) := nI_toInt (by omega); have := i_eq q; omega))
              refine r_ic (x := 0) rfl rfl ?_
              refine r_istore (lv' := [some (.ref (ad 30)), some (.int c), some (.int d), some (.int 0)]) rfl (Nat.le_of_ble_eq_true rfl) rfl ?_
              refine r_aload rfl rfl ?_
              refine r_getA (b := ad 31) rfl ⟨rfl, rfl, rfl⟩ (fx_t30 fx) (fx_r30_0 fx) ?_
              refine r_iload rfl rfl ?_
              refine WR_tI (y := nI k5) ek5 ?_
              refine r_aload rfl rfl ?_
              refine r_getA (b := ad 31) rfl ⟨rfl, rfl, rfl⟩ (fx_t30 fx) (fx_r30_0 fx) ?_
              refine r_iload rfl rfl ?_
              refine WR_tI (y := nI k2) ek2 ?_
              refine r_iaload rfl (.inl (fx_t31 fx)) (vp_ct (fx_n31 fx) (vp_in_nI (by have := i_eq ek2; have : (nI k2).toInt = ((k2 : Nat) : Int) := nI_toInt (by omega); have := i_rg c; have := i_nle c3; have : (24 : Int32).toInt = 24 := rfl; have := i_nlt c1; have : (0 : Int32).toInt = 0 := rfl; omega) (by omega))) ?_
              refine WR_tI (congrArg (hI (sR (sI h (ad 0) 6 0) (ad 1) k5 (some (mid t9))) (ad 31)) ((nI_clamp (by have := i_eq ek2; have : (nI k2).toInt = ((k2 : Nat) : Int) := nI_toInt (by omega); have := i_rg c; have := i_nle c3; have : (24 : Int32).toInt = 24 := rfl; have := i_nlt c1; have : (0 : Int32).toInt = 0 := rfl; omega)) : _ = k2)) ?_
              refine WR_tI (y := nI t9) (Eq.trans I_oR (Eq.trans (I_ne (fx_ne fx (by decide))) v9)) ?_
              refine r_iastore rfl (fx_t31 fx) (vp_ct (fx_n31 fx) (vp_in_nI (by have := i_eq ek5; have : (nI k5).toInt = ((k5 : Nat) : Int) := nI_toInt (by omega); have := i_rg d; have := i_nle c6; have : (24 : Int32).toInt = 24 := rfl; have := i_nlt c4; have : (0 : Int32).toInt = 0 := rfl; omega) (by omega))) ?_
              refine WR_h (h2 := sI (sR (sI h (ad 0) 6 0) (ad 1) k5 (some (mid t9))) (ad 31) k5 (nI t9)) (congrArg (fun z => sI (sR (sI h (ad 0) 6 0) (ad 1) k5 (some (mid t9))) (ad 31) z (nI t9)) ((nI_clamp (by have := i_eq ek5; have : (nI k5).toInt = ((k5 : Nat) : Int) := nI_toInt (by omega); have := i_rg d; have := i_nle c6; have : (24 : Int32).toInt = 24 := rfl; have := i_nlt c4; have : (0 : Int32).toInt = 0 := rfl; omega)) : _ = k5)) ?_
              refine r_aload rfl rfl ?_
              refine r_iload rfl rfl ?_
              refine r_if_eq (tg := 63) rfl rfl (fun _ => ?_) (fun q => absurd q (by decide))
              refine r_ic (x := 1) rfl rfl ?_
              refine r_cv (y := 154) (ra := [.int 1]) (rest := []) rfl ⟨⟨rfl, rfl⟩, rfl, by decide⟩ (fx_t30 fx) rfl rfl (Nat.le_of_ble_eq_true rfl) ?_
              refine in_154 (Nat.le_of_ble_eq_true rfl) ?_
              show WR _ cd_154 0 [some (.ref (ad 30)), some (.int 1)] [] (sI (sR (sI h (ad 0) 6 0) (ad 1) k5 (some (mid t9))) (ad 31) k5 (nI t9)) _
              refine r_aload rfl rfl ?_
              refine r_iload rfl rfl ?_
              refine r_ic (x := (-1)) rfl rfl ?_
              refine r_icmp_ge (tg := 10) rfl rfl (fun _ => ?_) (fun q => absurd q (by decide))
              refine r_ic (x := 0) rfl rfl ?_
              refine r_putI rfl ⟨rfl, rfl, rfl⟩ (fx_t30 fx) ?_
              refine r_iload rfl rfl ?_
              refine r_iret rfl ?_
              show WR _ cd_163 67 [some (.ref (ad 30)), some (.int c), some (.int d), some (.int 0)] [.int 1] (sI (sI (sR (sI h (ad 0) 6 0) (ad 1) k5 (some (mid t9))) (ad 31) k5 (nI t9)) (ad 30) 11 0) _
              refine r_iret rfl ?_
              have cg : Chg n ad [(30, 11), (0, 6)] [31, 1] h (sI (sI (sR (sI h (ad 0) 6 0) (ad 1) k5 (some (mid t9))) (ad 31) k5 (nI t9)) (ad 30) 11 0) := ((((Chg.rf.sI (fx_j fx0) (k := 6) (v := 0) (.inl (by decide))).sR (fx_j fx0) (k := k5) (v := some (mid t9)) (.inl (by decide))).row.sI (fx_j fx0) (k := k5) (v := nI t9) (.inl (by decide))).row.sI (fx_j fx0) (k := 11) (v := 0) (.inl (by decide)))
              refine ⟨rfl, ⟨mid, pa, np, FX.k fx0 cg.1 cg.2.1 cg.2.2 (by decide), Eq.trans (Eq.trans (I_ne (fx_ne fx (by decide))) (Eq.trans (I_ne (fx_ne fx (by decide))) (Eq.trans I_oR I_eq))) (Eq.symm I_eq), rt.k cg.2.1 (by decide), ra.k cg.2.1 (by decide), rp.k cg.2.1 (by decide), rf.k cg.2.1 (by decide), Rst.k fx0 rst cg.2.2, Ru.k fx0 ru cg.2.1 (by decide), ?_⟩, Nat.le_add_right _ _, Nat.le_add_right _ _⟩
              · refine Rs.cases rs (smS_of fx0 cg (by decide)) (fun c_ hc_ => ?_)
                by_cases e_ : c_ = k5
                · rw [e_]
                  exact .inl ⟨k2, (by have := i_eq ek2; have : (nI k2).toInt = ((k2 : Nat) : Int) := nI_toInt (by omega); have := i_rg c; have := i_nle c3; have : (24 : Int32).toInt = 24 := rfl; have := i_nlt c1; have : (0 : Int32).toInt = 0 := rfl; omega), Eq.trans (Eq.trans (I_ne (fx_ne fx (by decide))) I_eq) (Eq.symm v9), Eq.trans (Eq.trans R_oI (Eq.trans R_oI R_eq)) (Eq.symm w9)⟩
                · exact .inl ⟨c_, hc_, (Eq.trans (I_ne (fx_ne fx (by decide))) (Eq.trans (I_nk (by have := i_eq ek5; have : (nI k5).toInt = ((k5 : Nat) : Int) := nI_toInt (by omega); have := i_rg d; have := i_nle c6; have : (24 : Int32).toInt = 24 := rfl; have := i_nlt c4; have : (0 : Int32).toInt = 0 := rfl; omega)) (Eq.trans I_oR (I_ne (fx_ne fx (by decide)))))), (Eq.trans R_oI (Eq.trans R_oI (Eq.trans (R_nk (by have := i_eq ek5; have : (nI k5).toInt = ((k5 : Nat) : Int) := nI_toInt (by omega); have := i_rg d; have := i_nle c6; have : (24 : Int32).toInt = 24 := rfl; have := i_nlt c4; have : (0 : Int32).toInt = 0 := rfl; omega)) R_oI)))⟩
          · refine r_aaloadA (b := mid t7) rfl (isQ_of (fx_t1 fx) (by decide)) (vp_ct (fx_n1 fx) (vp_in_nI (by have := i_eq ek5; have : (nI k5).toInt = ((k5 : Nat) : Int) := nI_toInt (by omega); have := i_rg d; have := i_nle c6; have : (24 : Int32).toInt = 24 := rfl; have := i_nlt c4; have : (0 : Int32).toInt = 0 := rfl; omega) (by omega))) (Eq.trans (congrArg (hR (sI h (ad 0) 6 0) (ad 1)) ((nI_clamp (by have := i_eq ek5; have : (nI k5).toInt = ((k5 : Nat) : Int) := nI_toInt (by omega); have := i_rg d; have := i_nle c6; have : (24 : Int32).toInt = 24 := rfl; have := i_nlt c4; have : (0 : Int32).toInt = 0 := rfl; omega)) : _ = k5)) (Eq.trans R_oI w7)) ?_
            refine r_aload rfl rfl ?_
            refine r_getA (b := ad 1) rfl ⟨rfl, rfl, rfl⟩ (fx_t0 fx) (fx_r0_0 fx) ?_
            refine r_iload rfl rfl ?_
            refine WR_tI (y := nI k2) ek2 ?_
            rcases rs.cs (n := n) (sa := sa) (c := k2) (by have := i_eq ek2; have : (nI k2).toInt = ((k2 : Nat) : Int) := nI_toInt (by omega); have := i_rg c; have := i_nle c3; have : (24 : Int32).toInt = 24 := rfl; have := i_nlt c1; have : (0 : Int32).toInt = 0 := rfl; omega) with ⟨v11, w11⟩ | ⟨q11, kd11, hq11, hn11, v11, w11, dz11, tg11, s1_11, k1_11, k2_11, hk_11, we11⟩ | ⟨t11, ln11, sz11, ht11, v11, w11, dz11, tg11, r_11, tg2_11, l1_11, l2_11, hl_11, kd_11, n_11, sz_11, hs_11, al11, rw11⟩ | ⟨t11, sz11, ht11, v11, w11, dz11, tg11, r_11, tg2_11, k1_11, l2_11, k2_11, n_11, sz_11, hs_11, al11, rw11⟩ | ⟨t11, kd11, sz11, ht11, v11, w11, dz11, tg11, r_11, tg2_11, k1_11, l2_11, k2_11, hk_11, n_11, sz_11, hs_11, al11, rw11⟩
            · refine r_aaload0 rfl (isQ_of (fx_t1 fx) (by decide)) (vp_ct (fx_n1 fx) (vp_in_nI (by have := i_eq ek2; have : (nI k2).toInt = ((k2 : Nat) : Int) := nI_toInt (by omega); have := i_rg c; have := i_nle c3; have : (24 : Int32).toInt = 24 := rfl; have := i_nlt c1; have : (0 : Int32).toInt = 0 := rfl; omega) (by omega))) (Eq.trans (congrArg (hR (sI h (ad 0) 6 0) (ad 1)) ((nI_clamp (by have := i_eq ek2; have : (nI k2).toInt = ((k2 : Nat) : Int) := nI_toInt (by omega); have := i_rg c; have := i_nle c3; have : (24 : Int32).toInt = 24 := rfl; have := i_nlt c1; have : (0 : Int32).toInt = 0 := rfl; omega)) : _ = k2)) (Eq.trans R_oI w11)) ?_
              refine r_acmpAN_ne (tg := 43) rfl rfl ?_
              refine r_aload rfl rfl ?_
              refine r_getA (b := ad 1) rfl ⟨rfl, rfl, rfl⟩ (fx_t0 fx) (fx_r0_0 fx) ?_
              refine r_iload rfl rfl ?_
              refine WR_tI (y := nI k5) ek5 ?_
              refine r_aload rfl rfl ?_
              refine r_getA (b := ad 1) rfl ⟨rfl, rfl, rfl⟩ (fx_t0 fx) (fx_r0_0 fx) ?_
              refine r_iload rfl rfl ?_
              refine WR_tI (y := nI k2) ek2 ?_
              refine r_aaload0 rfl (isQ_of (fx_t1 fx) (by decide)) (vp_ct (fx_n1 fx) (vp_in_nI (by have := i_eq ek2; have : (nI k2).toInt = ((k2 : Nat) : Int) := nI_toInt (by omega); have := i_rg c; have := i_nle c3; have : (24 : Int32).toInt = 24 := rfl; have := i_nlt c1; have : (0 : Int32).toInt = 0 := rfl; omega) (by omega))) (Eq.trans (congrArg (hR (sI h (ad 0) 6 0) (ad 1)) ((nI_clamp (by have := i_eq ek2; have : (nI k2).toInt = ((k2 : Nat) : Int) := nI_toInt (by omega); have := i_rg c; have := i_nle c3; have : (24 : Int32).toInt = 24 := rfl; have := i_nlt c1; have : (0 : Int32).toInt = 0 := rfl; omega)) : _ = k2)) (Eq.trans R_oI w11)) ?_
              refine r_aastore0 rfl (isQ_of (fx_t1 fx) (by decide)) (vp_ct (fx_n1 fx) (vp_in_nI (by have := i_eq ek5; have : (nI k5).toInt = ((k5 : Nat) : Int) := nI_toInt (by omega); have := i_rg d; have := i_nle c6; have : (24 : Int32).toInt = 24 := rfl; have := i_nlt c4; have : (0 : Int32).toInt = 0 := rfl; omega) (by omega))) (fun _ q => by cases q) ?_
              refine WR_h (h2 := sR (sI h (ad 0) 6 0) (ad 1) k5 none) (congrArg (fun z => sR (sI h (ad 0) 6 0) (ad 1) z none) ((nI_clamp (by have := i_eq ek5; have : (nI k5).toInt = ((k5 : Nat) : Int) := nI_toInt (by omega); have := i_rg d; have := i_nle c6; have : (24 : Int32).toInt = 24 := rfl; have := i_nlt c4; have : (0 : Int32).toInt = 0 := rfl; omega)) : _ = k5)) ?_
              have fx : FX n ad sa z0 (sR (sI h (ad 0) 6 0) (ad 1) k5 none) := FX.sRA (i := 1) fx (.inl (by decide)) (by decide)
              refine r_ic (x := 1) rfl rfl ?_
              refine r_iret rfl ?_
              show EV _ 163 [.ref (ad 30), .int c, .int d] (sR (sI h (ad 0) 6 0) (ad 1) k5 none) _
              refine in_163 (Nat.le_of_ble_eq_true rfl) ?_
              show WR _ cd_163 0 [some (.ref (ad 30)), some (.int c), some (.int d), none] [] (sR (sI h (ad 0) 6 0) (ad 1) k5 none) _
              refine r_iload rfl rfl ?_
              refine WR_tI (y := nI k2) ek2 ?_
              refine r_cs (y := 153) (ra := [.int (nI k2)]) (rest := []) rfl ⟨⟨rfl, rfl⟩, by decide⟩ rfl rfl (Nat.le_of_ble_eq_true rfl) ?_
              refine in_153 (Nat.le_of_ble_eq_true rfl) ?_
              show WR _ cd_153 0 [some (.int (nI k2))] [] (sR (sI h (ad 0) 6 0) (ad 1) k5 none) _
              refine r_iload rfl rfl ?_
              refine r_if_lt (tg := 14) rfl rfl (fun q => False.elim (by have : (nI k2).toInt = ((k2 : Nat) : Int) := nI_toInt (by omega); have : (0 : Int32).toInt = 0 := rfl; have := i_eq ek2; have := i_rg c; have := i_nle c3; have : (24 : Int32).toInt = 24 := rfl; have := i_nlt c1; have := i_lt q; omega)) (fun _ => ?_)
              refine r_iload rfl rfl ?_
              refine r_ic (x := 24) rfl rfl ?_
              refine r_icmp_ge (tg := 14) rfl rfl (fun q => False.elim (by have : (nI k2).toInt = ((k2 : Nat) : Int) := nI_toInt (by omega); have : (24 : Int32).toInt = 24 := rfl; have := i_eq ek2; have := i_rg c; have := i_nle c3; have := i_nlt c1; have : (0 : Int32).toInt = 0 := rfl; have := i_le q; omega)) (fun _ => ?_)
              refine r_ic (x := 1) rfl rfl ?_
              refine r_goto (tg := 15) rfl rfl ?_
              refine r_zret rfl (.inr rfl) ?_
              show WR _ cd_163 4 [some (.ref (ad 30)), some (.int c), some (.int d), none] [.int 1] (sR (sI h (ad 0) 6 0) (ad 1) k5 none) _
              refine r_if_eq (tg := 14) rfl rfl (fun q => absurd q (by decide)) (fun _ => ?_)
              refine r_iload rfl rfl ?_
              refine WR_tI (y := nI k5) ek5 ?_
              refine r_cs (y := 153) (ra := [.int (nI k5)]) (rest := []) rfl ⟨⟨rfl, rfl⟩, by decide⟩ rfl rfl (Nat.le_of_ble_eq_true rfl) ?_
              refine in_153 (Nat.le_of_ble_eq_true rfl) ?_
              show WR _ cd_153 0 [some (.int (nI k5))] [] (sR (sI h (ad 0) 6 0) (ad 1) k5 none) _
              refine r_iload rfl rfl ?_
              refine r_if_lt (tg := 14) rfl rfl (fun q => False.elim (by have : (nI k5).toInt = ((k5 : Nat) : Int) := nI_toInt (by omega); have : (0 : Int32).toInt = 0 := rfl; have := i_eq ek5; have := i_rg d; have := i_nle c6; have : (24 : Int32).toInt = 24 := rfl; have := i_nlt c4; have := i_lt q; omega)) (fun _ => ?_)
              refine r_iload rfl rfl ?_
              refine r_ic (x := 24) rfl rfl ?_
              refine r_icmp_ge (tg := 14) rfl rfl (fun q => False.elim (by have : (nI k5).toInt = ((k5 : Nat) : Int) := nI_toInt (by omega); have : (24 : Int32).toInt = 24 := rfl; have := i_eq ek5; have := i_rg d; have := i_nle c6; have := i_nlt c4; have : (0 : Int32).toInt = 0 := rfl; have := i_le q; omega)) (fun _ => ?_)
              refine r_ic (x := 1) rfl rfl ?_
              refine r_goto (tg := 15) rfl rfl ?_
              refine r_zret rfl (.inr rfl) ?_
              show WR _ cd_163 11 [some (.ref (ad 30)), some (.int c), some (.int d), none] [.int 1] (sR (sI h (ad 0) 6 0) (ad 1) k5 none) _
              refine r_if_ne (tg := 21) rfl rfl (fun _ => ?_) (fun q => absurd q (by decide))
              refine r_aload rfl rfl ?_
              refine r_getA (b := ad 31) rfl ⟨rfl, rfl, rfl⟩ (fx_t30 fx) (fx_r30_0 fx) ?_
              refine r_iload rfl rfl ?_
              refine WR_tI (y := nI k5) ek5 ?_
              refine r_iaload rfl (.inl (fx_t31 fx)) (vp_ct (fx_n31 fx) (vp_in_nI (by have := i_eq ek5; have : (nI k5).toInt = ((k5 : Nat) : Int) := nI_toInt (by omega); have := i_rg d; have := i_nle c6; have : (24 : Int32).toInt = 24 := rfl; have := i_nlt c4; have : (0 : Int32).toInt = 0 := rfl; omega) (by omega))) ?_
              refine WR_tI (congrArg (hI (sR (sI h (ad 0) 6 0) (ad 1) k5 none) (ad 31)) ((nI_clamp (by have := i_eq ek5; have : (nI k5).toInt = ((k5 : Nat) : Int) := nI_toInt (by omega); have := i_rg d; have := i_nle c6; have : (24 : Int32).toInt = 24 := rfl; have := i_nlt c4; have : (0 : Int32).toInt = 0 := rfl; omega)) : _ = k5)) ?_
              refine WR_tI (y := nI t7) (Eq.trans I_oR (Eq.trans (I_ne (fx_ne fx (by decide))) v7)) ?_
              refine r_aload rfl rfl ?_
              refine r_getA (b := ad 31) rfl ⟨rfl, rfl, rfl⟩ (fx_t30 fx) (fx_r30_0 fx) ?_
              refine r_iload rfl rfl ?_
              refine WR_tI (y := nI k2) ek2 ?_
              refine r_iaload rfl (.inl (fx_t31 fx)) (vp_ct (fx_n31 fx) (vp_in_nI (by have := i_eq ek2; have : (nI k2).toInt = ((k2 : Nat) : Int) := nI_toInt (by omega); have := i_rg c; have := i_nle c3; have : (24 : Int32).toInt = 24 := rfl; have := i_nlt c1; have : (0 : Int32).toInt = 0 := rfl; omega) (by omega))) ?_
              refine WR_tI (congrArg (hI (sR (sI h (ad 0) 6 0) (ad 1) k5 none) (ad 31)) ((nI_clamp (by have := i_eq ek2; have : (nI k2).toInt = ((k2 : Nat) : Int) := nI_toInt (by omega); have := i_rg c; have := i_nle c3; have : (24 : Int32).toInt = 24 := rfl; have := i_nlt c1; have : (0 : Int32).toInt = 0 := rfl; omega)) : _ = k2)) ?_
              refine WR_tI (y := (-1)) (Eq.trans I_oR (Eq.trans (I_ne (fx_ne fx (by decide))) v11)) ?_
              refine r_icmp_ne (tg := 40) rfl rfl (fun _ => ?_) (fun q => False.elim (by have : (nI t7).toInt = ((t7 : Nat) : Int) := nI_toInt (by omega); have : (-1 : Int32).toInt = -1 := rfl; have := i_eq q; omega))
              refine r_ic (x := 0) rfl rfl ?_
              refine r_istore (lv' := [some (.ref (ad 30)), some (.int c), some (.int d), some (.int 0)]) rfl (Nat.le_of_ble_eq_true rfl) rfl ?_
              refine r_aload rfl rfl ?_
              refine r_getA (b := ad 31) rfl ⟨rfl, rfl, rfl⟩ (fx_t30 fx) (fx_r30_0 fx) ?_
              refine r_iload rfl rfl ?_
              refine WR_tI (y := nI k5) ek5 ?_
              refine r_aload rfl rfl ?_
              refine r_getA (b := ad 31) rfl ⟨rfl, rfl, rfl⟩ (fx_t30 fx) (fx_r30_0 fx) ?_
              refine r_iload rfl rfl ?_
              refine WR_tI (y := nI k2) ek2 ?_
              refine r_iaload rfl (.inl (fx_t31 fx)) (vp_ct (fx_n31 fx) (vp_in_nI (by have := i_eq ek2; have : (nI k2).toInt = ((k2 : Nat) : Int) := nI_toInt (by omega); have := i_rg c; have := i_nle c3; have : (24 : Int32).toInt = 24 := rfl; have := i_nlt c1; have : (0 : Int32).toInt = 0 := rfl; omega) (by omega))) ?_
              refine WR_tI (congrArg (hI (sR (sI h (ad 0) 6 0) (ad 1) k5 none) (ad 31)) ((nI_clamp (by have := i_eq ek2; have : (nI k2).toInt = ((k2 : Nat) : Int) := nI_toInt (by omega); have := i_rg c; have := i_nle c3; have : (24 : Int32).toInt = 24 := rfl; have := i_nlt c1; have : (0 : Int32).toInt = 0 := rfl; omega)) : _ = k2)) ?_
              refine WR_tI (y := (-1)) (Eq.trans I_oR (Eq.trans (I_ne (fx_ne fx (by decide))) v11)) ?_
              refine r_iastore rfl (fx_t31 fx) (vp_ct (fx_n31 fx) (vp_in_nI (by have := i_eq ek5; have : (nI k5).toInt = ((k5 : Nat) : Int) := nI_toInt (by omega); have := i_rg d; have := i_nle c6; have : (24 : Int32).toInt = 24 := rfl; have := i_nlt c4; have : (0 : Int32).toInt = 0 := rfl; omega) (by omega))) ?_
              refine WR_h (h2 := sI (sR (sI h (ad 0) 6 0) (ad 1) k5 none) (ad 31) k5 (-1)) (congrArg (fun z => sI (sR (sI h (ad 0) 6 0) (ad 1) k5 none) (ad 31) z (-1)) ((nI_clamp (by have := i_eq ek5; have : (nI k5).toInt = ((k5 : Nat) : Int) := nI_toInt (by omega); have := i_rg d; have := i_nle c6; have : (24 : Int32).toInt = 24 := rfl; have := i_nlt c4; have : (0 : Int32).toInt = 0 := rfl; omega)) : _ = k5)) ?_
              refine r_aload rfl rfl ?_
              refine r_iload rfl rfl ?_
              refine r_if_eq (tg := 63) rfl rfl (fun _ => ?_) (fun q => absurd q (by decide))
              refine r_ic (x := 1) rfl rfl ?_
              refine r_cv (y := 154) (ra := [.int 1]) (rest := []) rfl ⟨⟨rfl, rfl⟩, rfl, by decide⟩ (fx_t30 fx) rfl rfl (Nat.le_of_ble_eq_true rfl) ?_
              refine in_154 (Nat.le_of_ble_eq_true rfl) ?_
              show WR _ cd_154 0 [some (.ref (ad 30)), some (.int 1)] [] (sI (sR (sI h (ad 0) 6 0) (ad 1) k5 none) (ad 31) k5 (-1)) _
              refine r_aload rfl rfl ?_
              refine r_iload rfl rfl ?_
              refine r_ic (x := (-1)) rfl rfl ?_
              refine r_icmp_ge (tg := 10) rfl rfl (fun _ => ?_) (fun q => absurd q (by decide))
              refine r_ic (x := 0) rfl rfl ?_
              refine r_putI rfl ⟨rfl, rfl, rfl⟩ (fx_t30 fx) ?_
              refine r_iload rfl rfl ?_
              refine r_iret rfl ?_
              show WR _ cd_163 67 [some (.ref (ad 30)), some (.int c), some (.int d), some (.int 0)] [.int 1] (sI (sI (sR (sI h (ad 0) 6 0) (ad 1) k5 none) (ad 31) k5 (-1)) (ad 30) 11 0) _
              refine r_iret rfl ?_
              have cg : Chg n ad [(30, 11), (0, 6)] [31, 1] h (sI (sI (sR (sI h (ad 0) 6 0) (ad 1) k5 none) (ad 31) k5 (-1)) (ad 30) 11 0) := ((((Chg.rf.sI (fx_j fx0) (k := 6) (v := 0) (.inl (by decide))).sR (fx_j fx0) (k := k5) (v := none) (.inl (by decide))).row.sI (fx_j fx0) (k := k5) (v := (-1)) (.inl (by decide))).row.sI (fx_j fx0) (k := 11) (v := 0) (.inl (by decide)))
              refine ⟨rfl, ⟨mid, pa, np, FX.k fx0 cg.1 cg.2.1 cg.2.2 (by decide), Eq.trans (Eq.trans (I_ne (fx_ne fx (by decide))) (Eq.trans (I_ne (fx_ne fx (by decide))) (Eq.trans I_oR I_eq))) (Eq.symm I_eq), rt.k cg.2.1 (by decide), ra.k cg.2.1 (by decide), rp.k cg.2.1 (by decide), rf.k cg.2.1 (by decide), Rst.k fx0 rst cg.2.2, Ru.k fx0 ru cg.2.1 (by decide), ?_⟩, Nat.le_add_right _ _, Nat.le_add_right _ _⟩
              · refine Rs.cases rs (smS_of fx0 cg (by decide)) (fun c_ hc_ => ?_)
                by_cases e_ : c_ = k5
                · rw [e_]
                  exact .inr (.inl ⟨(Eq.trans (I_ne (fx_ne fx (by decide))) I_eq), (Eq.trans R_oI (Eq.trans R_oI R_eq))⟩)
                · exact .inl ⟨c_, hc_, (Eq.trans (I_ne (fx_ne fx (by decide))) (Eq.trans (I_nk (by have := i_eq ek5; have : (nI k5).toInt = ((k5 : Nat) : Int) := nI_toInt (by omega); have := i_rg d; have := i_nle c6; have : (24 : Int32).toInt = 24 := rfl; have := i_nlt c4; have : (0 : Int32).toInt = 0 := rfl; omega)) (Eq.trans I_oR (I_ne (fx_ne fx (by decide)))))), (Eq.trans R_oI (Eq.trans R_oI (Eq.trans (R_nk (by have := i_eq ek5; have : (nI k5).toInt = ((k5 : Nat) : Int) := nI_toInt (by omega); have := i_rg d; have := i_nle c6; have : (24 : Int32).toInt = 24 := rfl; have := i_nlt c4; have : (0 : Int32).toInt = 0 := rfl; omega)) R_oI)))⟩
            · refine r_aaloadA (b := pa q11) rfl (isQ_of (fx_t1 fx) (by decide)) (vp_ct (fx_n1 fx) (vp_in_nI (by have := i_eq ek2; have : (nI k2).toInt = ((k2 : Nat) : Int) := nI_toInt (by omega); have := i_rg c; have := i_nle c3; have : (24 : Int32).toInt = 24 := rfl; have := i_nlt c1; have : (0 : Int32).toInt = 0 := rfl; omega) (by omega))) (Eq.trans (congrArg (hR (sI h (ad 0) 6 0) (ad 1)) ((nI_clamp (by have := i_eq ek2; have : (nI k2).toInt = ((k2 : Nat) : Int) := nI_toInt (by omega); have := i_rg c; have := i_nle c3; have : (24 : Int32).toInt = 24 := rfl; have := i_nlt c1; have : (0 : Int32).toInt = 0 := rfl; omega)) : _ = k2)) (Eq.trans R_oI w11)) ?_
              refine r_acmpA_ne (tg := 43) rfl rfl (fun _ => ?_) (fun q => absurd q (fun e => by have q1 := tg7; have q2 := tg11; rw [e, q2] at q1; cases q1))
              refine r_aload rfl rfl ?_
              refine r_getA (b := ad 1) rfl ⟨rfl, rfl, rfl⟩ (fx_t0 fx) (fx_r0_0 fx) ?_
              refine r_iload rfl rfl ?_
              refine WR_tI (y := nI k5) ek5 ?_
              refine r_aload rfl rfl ?_
              refine r_getA (b := ad 1) rfl ⟨rfl, rfl, rfl⟩ (fx_t0 fx) (fx_r0_0 fx) ?_
              refine r_iload rfl rfl ?_
              refine WR_tI (y := nI k2) ek2 ?_
              refine r_aaloadA (b := pa q11) rfl (isQ_of (fx_t1 fx) (by decide)) (vp_ct (fx_n1 fx) (vp_in_nI (by have := i_eq ek2; have : (nI k2).toInt = ((k2 : Nat) : Int) := nI_toInt (by omega); have := i_rg c; have := i_nle c3; have : (24 : Int32).toInt = 24 := rfl; have := i_nlt c1; have : (0 : Int32).toInt = 0 := rfl; omega) (by omega))) (Eq.trans (congrArg (hR (sI h (ad 0) 6 0) (ad 1)) ((nI_clamp (by have := i_eq ek2; have : (nI k2).toInt = ((k2 : Nat) : Int) := nI_toInt (by omega); have := i_rg c; have := i_nle c3; have : (24 : Int32).toInt = 24 := rfl; have := i_nlt c1; have : (0 : Int32).toInt = 0 := rfl; omega)) : _ = k2)) (Eq.trans R_oI w11)) ?_
              refine r_aastoreA rfl (isQ_of (fx_t1 fx) (by decide)) (vp_ct (fx_n1 fx) (vp_in_nI (by have := i_eq ek5; have : (nI k5).toInt = ((k5 : Nat) : Int) := nI_toInt (by omega); have := i_rg d; have := i_nle c6; have : (24 : Int32).toInt = 24 := rfl; have := i_nlt c4; have : (0 : Int32).toInt = 0 := rfl; omega) (by omega))) (okR_of (fx_t1 fx) tg11 (by decide)) ?_
              refine WR_h (h2 := sR (sI h (ad 0) 6 0) (ad 1) k5 (some (pa q11))) (congrArg (fun z => sR (sI h (ad 0) 6 0) (ad 1) z (some (pa q11))) ((nI_clamp (by have := i_eq ek5; have : (nI k5).toInt = ((k5 : Nat) : Int) := nI_toInt (by omega); have := i_rg d; have := i_nle c6; have : (24 : Int32).toInt = 24 := rfl; have := i_nlt c4; have : (0 : Int32).toInt = 0 := rfl; omega)) : _ = k5)) ?_
              have fx : FX n ad sa z0 (sR (sI h (ad 0) 6 0) (ad 1) k5 (some (pa q11))) := FX.sRA (i := 1) fx (.inl (by decide)) (by decide)
              refine r_ic (x := 1) rfl rfl ?_
              refine r_iret rfl ?_
              show EV _ 163 [.ref (ad 30), .int c, .int d] (sR (sI h (ad 0) 6 0) (ad 1) k5 (some (pa q11))) _
              refine in_163 (Nat.le_of_ble_eq_true rfl) ?_
              show WR _ cd_163 0 [some (.ref (ad 30)), some (.int c), some (.int d), none] [] (sR (sI h (ad 0) 6 0) (ad 1) k5 (some (pa q11))) _
              refine r_iload rfl rfl ?_
              refine WR_tI (y := nI k2) ek2 ?_
              refine r_cs (y := 153) (ra := [.int (nI k2)]) (rest := []) rfl ⟨⟨rfl, rfl⟩, by decide⟩ rfl rfl (Nat.le_of_ble_eq_true rfl) ?_
              refine in_153 (Nat.le_of_ble_eq_true rfl) ?_
              show WR _ cd_153 0 [some (.int (nI k2))] [] (sR (sI h (ad 0) 6 0) (ad 1) k5 (some (pa q11))) _
              refine r_iload rfl rfl ?_
              refine r_if_lt (tg := 14) rfl rfl (fun q => False.elim (by have : (nI k2).toInt = ((k2 : Nat) : Int) := nI_toInt (by omega); have : (0 : Int32).toInt = 0 := rfl; have := i_eq ek2; have := i_rg c; have := i_nle c3; have : (24 : Int32).toInt = 24 := rfl; have := i_nlt c1; have := i_lt q; omega)) (fun _ => ?_)
              refine r_iload rfl rfl ?_
              refine r_ic (x := 24) rfl rfl ?_
              refine r_icmp_ge (tg := 14) rfl rfl (fun q => False.elim (by have : (nI k2).toInt = ((k2 : Nat) : Int) := nI_toInt (by omega); have : (24 : Int32).toInt = 24 := rfl; have := i_eq ek2; have := i_rg c; have := i_nle c3; have := i_nlt c1; have : (0 : Int32).toInt = 0 := rfl; have := i_le q; omega)) (fun _ => ?_)
              refine r_ic (x := 1) rfl rfl ?_
              refine r_goto (tg := 15) rfl rfl ?_
              refine r_zret rfl (.inr rfl) ?_
              show WR _ cd_163 4 [some (.ref (ad 30)), some (.int c), some (.int d), none] [.int 1] (sR (sI h (ad 0) 6 0) (ad 1) k5 (some (pa q11))) _
              refine r_if_eq (tg := 14) rfl rfl (fun q => absurd q (by decide)) (fun _ => ?_)
              refine r_iload rfl rfl ?_
              refine WR_tI (y := nI k5) ek5 ?_
              refine r_cs (y := 153) (ra := [.int (nI k5)]) (rest := []) rfl ⟨⟨rfl, rfl⟩, by decide⟩ rfl rfl (Nat.le_of_ble_eq_true rfl) ?_
              refine in_153 (Nat.le_of_ble_eq_true rfl) ?_
              show WR _ cd_153 0 [some (.int (nI k5))] [] (sR (sI h (ad 0) 6 0) (ad 1) k5 (some (pa q11))) _
              refine r_iload rfl rfl ?_
              refine r_if_lt (tg := 14) rfl rfl (fun q => False.elim (by have : (nI k5).toInt = ((k5 : Nat) : Int) := nI_toInt (by omega); have : (0 : Int32).toInt = 0 := rfl; have := i_eq ek5; have := i_rg d; have := i_nle c6; have : (24 : Int32).toInt = 24 := rfl; have := i_nlt c4; have := i_lt q; omega)) (fun _ => ?_)
              refine r_iload rfl rfl ?_
              refine r_ic (x := 24) rfl rfl ?_
              refine r_icmp_ge (tg := 14) rfl rfl (fun q => False.elim (by have : (nI k5).toInt = ((k5 : Nat) : Int) := nI_toInt (by omega); have : (24 : Int32).toInt = 24 := rfl; have := i_eq ek5; have := i_rg d; have := i_nle c6; have := i_nlt c4; have : (0 : Int32).toInt = 0 := rfl; have := i_le q; omega)) (fun _ => ?_)
              refine r_ic (x := 1) rfl rfl ?_
              refine r_goto (tg := 15) rfl rfl ?_
              refine r_zret rfl (.inr rfl) ?_
              show WR _ cd_163 11 [some (.ref (ad 30)), some (.int c), some (.int d), none] [.int 1] (sR (sI h (ad 0) 6 0) (ad 1) k5 (some (pa q11))) _
              refine r_if_ne (tg := 21) rfl rfl (fun _ => ?_) (fun q => absurd q (by decide))
              refine r_aload rfl rfl ?_
              refine r_getA (b := ad 31) rfl ⟨rfl, rfl, rfl⟩ (fx_t30 fx) (fx_r30_0 fx) ?_
              refine r_iload rfl rfl ?_
              refine WR_tI (y := nI k5) ek5 ?_
              refine r_iaload rfl (.inl (fx_t31 fx)) (vp_ct (fx_n31 fx) (vp_in_nI (by have := i_eq ek5; have : (nI k5).toInt = ((k5 : Nat) : Int) := nI_toInt (by omega); have := i_rg d; have := i_nle c6; have : (24 : Int32).toInt = 24 := rfl; have := i_nlt c4; have : (0 : Int32).toInt = 0 := rfl; omega) (by omega))) ?_
              refine WR_tI (congrArg (hI (sR (sI h (ad 0) 6 0) (ad 1) k5 (some (pa q11))) (ad 31)) ((nI_clamp (by have := i_eq ek5; have : (nI k5).toInt = ((k5 : Nat) : Int) := nI_toInt (by omega); have := i_rg d; have := i_nle c6; have : (24 : Int32).toInt = 24 := rfl; have := i_nlt c4; have : (0 : Int32).toInt = 0 := rfl; omega)) : _ = k5)) ?_
              refine WR_tI (y := nI t7) (Eq.trans I_oR (Eq.trans (I_ne (fx_ne fx (by decide))) v7)) ?_
              refine r_aload rfl rfl ?_
              refine r_getA (b := ad 31) rfl ⟨rfl, rfl, rfl⟩ (fx_t30 fx) (fx_r30_0 fx) ?_
              refine r_iload rfl rfl ?_
              refine WR_tI (y := nI k2) ek2 ?_
              refine r_iaload rfl (.inl (fx_t31 fx)) (vp_ct (fx_n31 fx) (vp_in_nI (by have := i_eq ek2; have : (nI k2).toInt = ((k2 : Nat) : Int) := nI_toInt (by omega); have := i_rg c; have := i_nle c3; have : (24 : Int32).toInt = 24 := rfl; have := i_nlt c1; have : (0 : Int32).toInt = 0 := rfl; omega) (by omega))) ?_
              refine WR_tI (congrArg (hI (sR (sI h (ad 0) 6 0) (ad 1) k5 (some (pa q11))) (ad 31)) ((nI_clamp (by have := i_eq ek2; have : (nI k2).toInt = ((k2 : Nat) : Int) := nI_toInt (by omega); have := i_rg c; have := i_nle c3; have : (24 : Int32).toInt = 24 := rfl; have := i_nlt c1; have : (0 : Int32).toInt = 0 := rfl; omega)) : _ = k2)) ?_
              refine WR_tI (y := nI (q11 + 1000)) (Eq.trans I_oR (Eq.trans (I_ne (fx_ne fx (by decide))) v11)) ?_
              refine r_icmp_ne (tg := 40) rfl rfl (fun _ => ?_) (fun q => False.elim (by have : (nI t7).toInt = ((t7 : Nat) : Int) := nI_toInt (by omega); have : (nI (q11 + 1000)).toInt = ((q11 + 1000 : Nat) : Int) := nI_toInt (by omega); have := i_eq q; omega))
              refine r_ic (x := 0) rfl rfl ?_
              refine r_istore (lv' := [some (.ref (ad 30)), some (.int c), some (.int d), some (.int 0)]) rfl (Nat.le_of_ble_eq_true rfl) rfl ?_
              refine r_aload rfl rfl ?_
              refine r_getA (b := ad 31) rfl ⟨rfl, rfl, rfl⟩ (fx_t30 fx) (fx_r30_0 fx) ?_
              refine r_iload rfl rfl ?_
              refine WR_tI (y := nI k5) ek5 ?_
              refine r_aload rfl rfl ?_
              refine r_getA (b := ad 31) rfl ⟨rfl, rfl, rfl⟩ (fx_t30 fx) (fx_r30_0 fx) ?_
              refine r_iload rfl rfl ?_
              refine WR_tI (y := nI k2) ek2 ?_
              refine r_iaload rfl (.inl (fx_t31 fx)) (vp_ct (fx_n31 fx) (vp_in_nI (by have := i_eq ek2; have : (nI k2).toInt = ((k2 : Nat) : Int) := nI_toInt (by omega); have := i_rg c; have := i_nle c3; have : (24 : Int32).toInt = 24 := rfl; have := i_nlt c1; have : (0 : Int32).toInt = 0 := rfl; omega) (by omega))) ?_
              refine WR_tI (congrArg (hI (sR (sI h (ad 0) 6 0) (ad 1) k5 (some (pa q11))) (ad 31)) ((nI_clamp (by have := i_eq ek2; have : (nI k2).toInt = ((k2 : Nat) : Int) := nI_toInt (by omega); have := i_rg c; have := i_nle c3; have : (24 : Int32).toInt = 24 := rfl; have := i_nlt c1; have : (0 : Int32).toInt = 0 := rfl; omega)) : _ = k2)) ?_
              refine WR_tI (y := nI (q11 + 1000)) (Eq.trans I_oR (Eq.trans (I_ne (fx_ne fx (by decide))) v11)) ?_
              refine r_iastore rfl (fx_t31 fx) (vp_ct (fx_n31 fx) (vp_in_nI (by have := i_eq ek5; have : (nI k5).toInt = ((k5 : Nat) : Int) := nI_toInt (by omega); have := i_rg d; have := i_nle c6; have : (24 : Int32).toInt = 24 := rfl; have := i_nlt c4; have : (0 : Int32).toInt = 0 := rfl; omega) (by omega))) ?_
              refine WR_h (h2 := sI (sR (sI h (ad 0) 6 0) (ad 1) k5 (some (pa q11))) (ad 31) k5 (nI (q11 + 1000))) (congrArg (fun z => sI (sR (sI h (ad 0) 6 0) (ad 1) k5 (some (pa q11))) (ad 31) z (nI (q11 + 1000))) ((nI_clamp (by have := i_eq ek5; have : (nI k5).toInt = ((k5 : Nat) : Int) := nI_toInt (by omega); have := i_rg d; have := i_nle c6; have : (24 : Int32).toInt = 24 := rfl; have := i_nlt c4; have : (0 : Int32).toInt = 0 := rfl; omega)) : _ = k5)) ?_
              refine r_aload rfl rfl ?_
              refine r_iload rfl rfl ?_
              refine r_if_eq (tg := 63) rfl rfl (fun _ => ?_) (fun q => absurd q (by decide))
              refine r_ic (x := 1) rfl rfl ?_
              refine r_cv (y := 154) (ra := [.int 1]) (rest := []) rfl ⟨⟨rfl, rfl⟩, rfl, by decide⟩ (fx_t30 fx) rfl rfl (Nat.le_of_ble_eq_true rfl) ?_
              refine in_154 (Nat.le_of_ble_eq_true rfl) ?_
              show WR _ cd_154 0 [some (.ref (ad 30)), some (.int 1)] [] (sI (sR (sI h (ad 0) 6 0) (ad 1) k5 (some (pa q11))) (ad 31) k5 (nI (q11 + 1000))) _
              refine r_aload rfl rfl ?_
              refine r_iload rfl rfl ?_
              refine r_ic (x := (-1)) rfl rfl ?_
              refine r_icmp_ge (tg := 10) rfl rfl (fun _ => ?_) (fun q => absurd q (by decide))
              refine r_ic (x := 0) rfl rfl ?_
              refine r_putI rfl ⟨rfl, rfl, rfl⟩ (fx_t30 fx) ?_
              refine r_iload rfl rfl ?_
              refine r_iret rfl ?_
              show WR _ cd_163 67 [some (.ref (ad 30)), some (.int c), some (.int d), some (.int 0)] [.int 1] (sI (sI (sR (sI h (ad 0) 6 0) (ad 1) k5 (some (pa q11))) (ad 31) k5 (nI (q11 + 1000))) (ad 30) 11 0) _
              refine r_iret rfl ?_
              have cg : Chg n ad [(30, 11), (0, 6)] [31, 1] h (sI (sI (sR (sI h (ad 0) 6 0) (ad 1) k5 (some (pa q11))) (ad 31) k5 (nI (q11 + 1000))) (ad 30) 11 0) := ((((Chg.rf.sI (fx_j fx0) (k := 6) (v := 0) (.inl (by decide))).sR (fx_j fx0) (k := k5) (v := some (pa q11)) (.inl (by decide))).row.sI (fx_j fx0) (k := k5) (v := nI (q11 + 1000)) (.inl (by decide))).row.sI (fx_j fx0) (k := 11) (v := 0) (.inl (by decide)))
              refine ⟨rfl, ⟨mid, pa, np, FX.k fx0 cg.1 cg.2.1 cg.2.2 (by decide), Eq.trans (Eq.trans (I_ne (fx_ne fx (by decide))) (Eq.trans (I_ne (fx_ne fx (by decide))) (Eq.trans I_oR I_eq))) (Eq.symm I_eq), rt.k cg.2.1 (by decide), ra.k cg.2.1 (by decide), rp.k cg.2.1 (by decide), rf.k cg.2.1 (by decide), Rst.k fx0 rst cg.2.2, Ru.k fx0 ru cg.2.1 (by decide), ?_⟩, Nat.le_add_right _ _, Nat.le_add_right _ _⟩
              · refine Rs.cases rs (smS_of fx0 cg (by decide)) (fun c_ hc_ => ?_)
                by_cases e_ : c_ = k5
                · rw [e_]
                  exact .inl ⟨k2, (by have := i_eq ek2; have : (nI k2).toInt = ((k2 : Nat) : Int) := nI_toInt (by omega); have := i_rg c; have := i_nle c3; have : (24 : Int32).toInt = 24 := rfl; have := i_nlt c1; have : (0 : Int32).toInt = 0 := rfl; omega), Eq.trans (Eq.trans (I_ne (fx_ne fx (by decide))) I_eq) (Eq.symm v11), Eq.trans (Eq.trans R_oI (Eq.trans R_oI R_eq)) (Eq.symm w11)⟩
                · exact .inl ⟨c_, hc_, (Eq.trans (I_ne (fx_ne fx (by decide))) (Eq.trans (I_nk (by have := i_eq ek5; have : (nI k5).toInt = ((k5 : Nat) : Int) := nI_toInt (by omega); have := i_rg d; have := i_nle c6; have : (24 : Int32).toInt = 24 := rfl; have := i_nlt c4; have : (0 : Int32).toInt = 0 := rfl; omega)) (Eq.trans I_oR (I_ne (fx_ne fx (by decide)))))), (Eq.trans R_oI (Eq.trans R_oI (Eq.trans (R_nk (by have := i_eq ek5; have : (nI k5).toInt = ((k5 : Nat) : Int) := nI_toInt (by omega); have := i_rg d; have := i_nle c6; have : (24 : Int32).toInt = 24 := rfl; have := i_nlt c4; have : (0 : Int32).toInt = 0 := rfl; omega)) R_oI)))⟩
            · refine r_aaloadA (b := mid t11) rfl (isQ_of (fx_t1 fx) (by decide)) (vp_ct (fx_n1 fx) (vp_in_nI (by have := i_eq ek2; have : (nI k2).toInt = ((k2 : Nat) : Int) := nI_toInt (by omega); have := i_rg c; have := i_nle c3; have : (24 : Int32).toInt = 24 := rfl; have := i_nlt c1; have : (0 : Int32).toInt = 0 := rfl; omega) (by omega))) (Eq.trans (congrArg (hR (sI h (ad 0) 6 0) (ad 1)) ((nI_clamp (by have := i_eq ek2; have : (nI k2).toInt = ((k2 : Nat) : Int) := nI_toInt (by omega); have := i_rg c; have := i_nle c3; have : (24 : Int32).toInt = 24 := rfl; have := i_nlt c1; have : (0 : Int32).toInt = 0 := rfl; omega)) : _ = k2)) (Eq.trans R_oI w11)) ?_
              refine r_acmpA_ne (tg := 43) rfl rfl (fun c12 => ?_) (fun c12 => ?_)
              · have c12e : ¬ t7 = t11 := fun e => c12 (by rw [e])
                refine r_aload rfl rfl ?_
                refine r_getA (b := ad 1) rfl ⟨rfl, rfl, rfl⟩ (fx_t0 fx) (fx_r0_0 fx) ?_
                refine r_iload rfl rfl ?_
                refine WR_tI (y := nI k5) ek5 ?_
                refine r_aload rfl rfl ?_
                refine r_getA (b := ad 1) rfl ⟨rfl, rfl, rfl⟩ (fx_t0 fx) (fx_r0_0 fx) ?_
                refine r_iload rfl rfl ?_
                refine WR_tI (y := nI k2) ek2 ?_
                refine r_aaloadA (b := mid t11) rfl (isQ_of (fx_t1 fx) (by decide)) (vp_ct (fx_n1 fx) (vp_in_nI (by have := i_eq ek2; have : (nI k2).toInt = ((k2 : Nat) : Int) := nI_toInt (by omega); have := i_rg c; have := i_nle c3; have : (24 : Int32).toInt = 24 := rfl; have := i_nlt c1; have : (0 : Int32).toInt = 0 := rfl; omega) (by omega))) (Eq.trans (congrArg (hR (sI h (ad 0) 6 0) (ad 1)) ((nI_clamp (by have := i_eq ek2; have : (nI k2).toInt = ((k2 : Nat) : Int) := nI_toInt (by omega); have := i_rg c; have := i_nle c3; have : (24 : Int32).toInt = 24 := rfl; have := i_nlt c1; have : (0 : Int32).toInt = 0 := rfl; omega)) : _ = k2)) (Eq.trans R_oI w11)) ?_
                refine r_aastoreA rfl (isQ_of (fx_t1 fx) (by decide)) (vp_ct (fx_n1 fx) (vp_in_nI (by have := i_eq ek5; have : (nI k5).toInt = ((k5 : Nat) : Int) := nI_toInt (by omega); have := i_rg d; have := i_nle c6; have : (24 : Int32).toInt = 24 := rfl; have := i_nlt c4; have : (0 : Int32).toInt = 0 := rfl; omega) (by omega))) (okR_of (fx_t1 fx) tg11 (by decide)) ?_
                refine WR_h (h2 := sR (sI h (ad 0) 6 0) (ad 1) k5 (some (mid t11))) (congrArg (fun z => sR (sI h (ad 0) 6 0) (ad 1) z (some (mid t11))) ((nI_clamp (by have := i_eq ek5; have : (nI k5).toInt = ((k5 : Nat) : Int) := nI_toInt (by omega); have := i_rg d; have := i_nle c6; have : (24 : Int32).toInt = 24 := rfl; have := i_nlt c4; have : (0 : Int32).toInt = 0 := rfl; omega)) : _ = k5)) ?_
                have fx : FX n ad sa z0 (sR (sI h (ad 0) 6 0) (ad 1) k5 (some (mid t11))) := FX.sRA (i := 1) fx (.inl (by decide)) (by decide)
                refine r_ic (x := 1) rfl rfl ?_
                refine r_iret rfl ?_
                show EV _ 163 [.ref (ad 30), .int c, .int d] (sR (sI h (ad 0) 6 0) (ad 1) k5 (some (mid t11))) _
                refine in_163 (Nat.le_of_ble_eq_true rfl) ?_
                show WR _ cd_163 0 [some (.ref (ad 30)), some (.int c), some (.int d), none] [] (sR (sI h (ad 0) 6 0) (ad 1) k5 (some (mid t11))) _
                refine r_iload rfl rfl ?_
                refine WR_tI (y := nI k2) ek2 ?_
                refine r_cs (y := 153) (ra := [.int (nI k2)]) (rest := []) rfl ⟨⟨rfl, rfl⟩, by decide⟩ rfl rfl (Nat.le_of_ble_eq_true rfl) ?_
                refine in_153 (Nat.le_of_ble_eq_true rfl) ?_
                show WR _ cd_153 0 [some (.int (nI k2))] [] (sR (sI h (ad 0) 6 0) (ad 1) k5 (some (mid t11))) _
                refine r_iload rfl rfl ?_
                refine r_if_lt (tg := 14) rfl rfl (fun q => False.elim (by have : (nI k2).toInt = ((k2 : Nat) : Int) := nI_toInt (by omega); have : (0 : Int32).toInt = 0 := rfl; have := i_eq ek2; have := i_rg c; have := i_nle c3; have : (24 : Int32).toInt = 24 := rfl; have := i_nlt c1; have := i_lt q; omega)) (fun _ => ?_)
                refine r_iload rfl rfl ?_
                refine r_ic (x := 24) rfl rfl ?_
                refine r_icmp_ge (tg := 14) rfl rfl (fun q => False.elim (by have : (nI k2).toInt = ((k2 : Nat) : Int) := nI_toInt (by omega); have : (24 : Int32).toInt = 24 := rfl; have := i_eq ek2; have := i_rg c; have := i_nle c3; have := i_nlt c1; have : (0 : Int32).toInt = 0 := rfl; have := i_le q; omega)) (fun _ => ?_)
                refine r_ic (x := 1) rfl rfl ?_
                refine r_goto (tg := 15) rfl rfl ?_
                refine r_zret rfl (.inr rfl) ?_
                show WR _ cd_163 4 [some (.ref (ad 30)), some (.int c), some (.int d), none] [.int 1] (sR (sI h (ad 0) 6 0) (ad 1) k5 (some (mid t11))) _
                refine r_if_eq (tg := 14) rfl rfl (fun q => absurd q (by decide)) (fun _ => ?_)
                refine r_iload rfl rfl ?_
                refine WR_tI (y := nI k5) ek5 ?_
                refine r_cs (y := 153) (ra := [.int (nI k5)]) (rest := []) rfl ⟨⟨rfl, rfl⟩, by decide⟩ rfl rfl (Nat.le_of_ble_eq_true rfl) ?_
                refine in_153 (Nat.le_of_ble_eq_true rfl) ?_
                show WR _ cd_153 0 [some (.int (nI k5))] [] (sR (sI h (ad 0) 6 0) (ad 1) k5 (some (mid t11))) _
                refine r_iload rfl rfl ?_
                refine r_if_lt (tg := 14) rfl rfl (fun q => False.elim (by have : (nI k5).toInt = ((k5 : Nat) : Int) := nI_toInt (by omega); have : (0 : Int32).toInt = 0 := rfl; have := i_eq ek5; have := i_rg d; have := i_nle c6; have : (24 : Int32).toInt = 24 := rfl; have := i_nlt c4; have := i_lt q; omega)) (fun _ => ?_)
                refine r_iload rfl rfl ?_
                refine r_ic (x := 24) rfl rfl ?_
                refine r_icmp_ge (tg := 14) rfl rfl (fun q => False.elim (by have : (nI k5).toInt = ((k5 : Nat) : Int) := nI_toInt (by omega); have : (24 : Int32).toInt = 24 := rfl; have := i_eq ek5; have := i_rg d; have := i_nle c6; have := i_nlt c4; have : (0 : Int32).toInt = 0 := rfl; have := i_le q; omega)) (fun _ => ?_)
                refine r_ic (x := 1) rfl rfl ?_
                refine r_goto (tg := 15) rfl rfl ?_
                refine r_zret rfl (.inr rfl) ?_
                show WR _ cd_163 11 [some (.ref (ad 30)), some (.int c), some (.int d), none] [.int 1] (sR (sI h (ad 0) 6 0) (ad 1) k5 (some (mid t11))) _
                refine r_if_ne (tg := 21) rfl rfl (fun _ => ?_) (fun q => absurd q (by decide))
                refine r_aload rfl rfl ?_
                refine r_getA (b := ad 31) rfl ⟨rfl, rfl, rfl⟩ (fx_t30 fx) (fx_r30_0 fx) ?_
                refine r_iload rfl rfl ?_
                refine WR_tI (y := nI k5) ek5 ?_
                refine r_iaload rfl (.inl (fx_t31 fx)) (vp_ct (fx_n31 fx) (vp_in_nI (by have := i_eq ek5; have : (nI k5).toInt = ((k5 : Nat) : Int) := nI_toInt (by omega); have := i_rg d; have := i_nle c6; have : (24 : Int32).toInt = 24 := rfl; have := i_nlt c4; have : (0 : Int32).toInt = 0 := rfl; omega) (by omega))) ?_
                refine WR_tI (congrArg (hI (sR (sI h (ad 0) 6 0) (ad 1) k5 (some (mid t11))) (ad 31)) ((nI_clamp (by have := i_eq ek5; have : (nI k5).toInt = ((k5 : Nat) : Int) := nI_toInt (by omega); have := i_rg d; have := i_nle c6; have : (24 : Int32).toInt = 24 := rfl; have := i_nlt c4; have : (0 : Int32).toInt = 0 := rfl; omega)) : _ = k5)) ?_
                refine WR_tI (y := nI t7) (Eq.trans I_oR (Eq.trans (I_ne (fx_ne fx (by decide))) v7)) ?_
                refine r_aload rfl rfl ?_
                refine r_getA (b := ad 31) rfl ⟨rfl, rfl, rfl⟩ (fx_t30 fx) (fx_r30_0 fx) ?_
                refine r_iload rfl rfl ?_
                refine WR_tI (y := nI k2) ek2 ?_
                refine r_iaload rfl (.inl (fx_t31 fx)) (vp_ct (fx_n31 fx) (vp_in_nI (by have := i_eq ek2; have : (nI k2).toInt = ((k2 : Nat) : Int) := nI_toInt (by omega); have := i_rg c; have := i_nle c3; have : (24 : Int32).toInt = 24 := rfl; have := i_nlt c1; have : (0 : Int32).toInt = 0 := rfl; omega) (by omega))) ?_
                refine WR_tI (congrArg (hI (sR (sI h (ad 0) 6 0) (ad 1) k5 (some (mid t11))) (ad 31)) ((nI_clamp (by have := i_eq ek2; have : (nI k2).toInt = ((k2 : Nat) : Int) := nI_toInt (by omega); have := i_rg c; have := i_nle c3; have : (24 : Int32).toInt = 24 := rfl; have := i_nlt c1; have : (0 : Int32).toInt = 0 := rfl; omega)) : _ = k2)) ?_
                refine WR_tI (y := nI t11) (Eq.trans I_oR (Eq.trans (I_ne (fx_ne fx (by decide))) v11)) ?_
                refine r_icmp_ne (tg := 40) rfl rfl (fun _ => ?_) (fun q => False.elim (by have : (nI t7).toInt = ((t7 : Nat) : Int) := nI_toInt (by omega); have : (nI t11).toInt = ((t11 : Nat) : Int) := nI_toInt (by omega); have := i_eq q; omega))
                refine r_ic (x := 0) rfl rfl ?_
                refine r_istore (lv' := [some (.ref (ad 30)), some (.int c), some (.int d), some (.int 0)]) rfl (Nat.le_of_ble_eq_true rfl) rfl ?_
                refine r_aload rfl rfl ?_
                refine r_getA (b := ad 31) rfl ⟨rfl, rfl, rfl⟩ (fx_t30 fx) (fx_r30_0 fx) ?_
                refine r_iload rfl rfl ?_
                refine WR_tI (y := nI k5) ek5 ?_
                refine r_aload rfl rfl ?_
                refine r_getA (b := ad 31) rfl ⟨rfl, rfl, rfl⟩ (fx_t30 fx) (fx_r30_0 fx) ?_
                refine r_iload rfl rfl ?_
                refine WR_tI (y := nI k2) ek2 ?_
                refine r_iaload rfl (.inl (fx_t31 fx)) (vp_ct (fx_n31 fx) (vp_in_nI (by have := i_eq ek2; have : (nI k2).toInt = ((k2 : Nat) : Int) := nI_toInt (by omega); have := i_rg c; have := i_nle c3; have : (24 : Int32).toInt = 24 := rfl; have := i_nlt c1; have : (0 : Int32).toInt = 0 := rfl; omega) (by omega))) ?_
                refine WR_tI (congrArg (hI (sR (sI h (ad 0) 6 0) (ad 1) k5 (some (mid t11))) (ad 31)) ((nI_clamp (by have := i_eq ek2; have : (nI k2).toInt = ((k2 : Nat) : Int) := nI_toInt (by omega); have := i_rg c; have := i_nle c3; have : (24 : Int32).toInt = 24 := rfl; have := i_nlt c1; have : (0 : Int32).toInt = 0 := rfl; omega)) : _ = k2)) ?_
                refine WR_tI (y := nI t11) (Eq.trans I_oR (Eq.trans (I_ne (fx_ne fx (by decide))) v11)) ?_
                refine r_iastore rfl (fx_t31 fx) (vp_ct (fx_n31 fx) (vp_in_nI (by have := i_eq ek5; have : (nI k5).toInt = ((k5 : Nat) : Int) := nI_toInt (by omega); have := i_rg d; have := i_nle c6; have : (24 : Int32).toInt = 24 := rfl; have := i_nlt c4; have : (0 : Int32).toInt = 0 := rfl; omega) (by omega))) ?_
                refine WR_h (h2 := sI (sR (sI h (ad 0) 6 0) (ad 1) k5 (some (mid t11))) (ad 31) k5 (nI t11)) (congrArg (fun z => sI (sR (sI h (ad 0) 6 0) (ad 1) k5 (some (mid t11))) (ad 31) z (nI t11)) ((nI_clamp (by have := i_eq ek5; have : (nI k5).toInt = ((k5 : Nat) : Int) := nI_toInt (by omega); have := i_rg d; have := i_nle c6; have : (24 : Int32).toInt = 24 := rfl; have := i_nlt c4; have : (0 : Int32).toInt = 0 := rfl; omega)) : _ = k5)) ?_
                refine r_aload rfl rfl ?_
                refine r_iload rfl rfl ?_
                refine r_if_eq (tg := 63) rfl rfl (fun _ => ?_) (fun q => absurd q (by decide))
                refine r_ic (x := 1) rfl rfl ?_
                refine r_cv (y := 154) (ra := [.int 1]) (rest := []) rfl ⟨⟨rfl, rfl⟩, rfl, by decide⟩ (fx_t30 fx) rfl rfl (Nat.le_of_ble_eq_true rfl) ?_
                refine in_154 (Nat.le_of_ble_eq_true rfl) ?_
                show WR _ cd_154 0 [some (.ref (ad 30)), some (.int 1)] [] (sI (sR (sI h (ad 0) 6 0) (ad 1) k5 (some (mid t11))) (ad 31) k5 (nI t11)) _
                refine r_aload rfl rfl ?_
                refine r_iload rfl rfl ?_
                refine r_ic (x := (-1)) rfl rfl ?_
                refine r_icmp_ge (tg := 10) rfl rfl (fun _ => ?_) (fun q => absurd q (by decide))
                refine r_ic (x := 0) rfl rfl ?_
                refine r_putI rfl ⟨rfl, rfl, rfl⟩ (fx_t30 fx) ?_
                refine r_iload rfl rfl ?_
                refine r_iret rfl ?_
                show WR _ cd_163 67 [some (.ref (ad 30)), some (.int c), some (.int d), some (.int 0)] [.int 1] (sI (sI (sR (sI h (ad 0) 6 0) (ad 1) k5 (some (mid t11))) (ad 31) k5 (nI t11)) (ad 30) 11 0) _
                refine r_iret rfl ?_
                have cg : Chg n ad [(30, 11), (0, 6)] [31, 1] h (sI (sI (sR (sI h (ad 0) 6 0) (ad 1) k5 (some (mid t11))) (ad 31) k5 (nI t11)) (ad 30) 11 0) := ((((Chg.rf.sI (fx_j fx0) (k := 6) (v := 0) (.inl (by decide))).sR (fx_j fx0) (k := k5) (v := some (mid t11)) (.inl (by decide))).row.sI (fx_j fx0) (k := k5) (v := nI t11) (.inl (by decide))).row.sI (fx_j fx0) (k := 11) (v := 0) (.inl (by decide)))
                refine ⟨rfl, ⟨mid, pa, np, FX.k fx0 cg.1 cg.2.1 cg.2.2 (by decide), Eq.trans (Eq.trans (I_ne (fx_ne fx (by decide))) (Eq.trans (I_ne (fx_ne fx (by decide))) (Eq.trans I_oR I_eq))) (Eq.symm I_eq), rt.k cg.2.1 (by decide), ra.k cg.2.1 (by decide), rp.k cg.2.1 (by decide), rf.k cg.2.1 (by decide), Rst.k fx0 rst cg.2.2, Ru.k fx0 ru cg.2.1 (by decide), ?_⟩, Nat.le_add_right _ _, Nat.le_add_right _ _⟩
                · refine Rs.cases rs (smS_of fx0 cg (by decide)) (fun c_ hc_ => ?_)
                  by_cases e_ : c_ = k5
                  · rw [e_]
                    exact .inl ⟨k2, (by have := i_eq ek2; have : (nI k2).toInt = ((k2 : Nat) : Int) := nI_toInt (by omega); have := i_rg c; have := i_nle c3; have : (24 : Int32).toInt = 24 := rfl; have := i_nlt c1; have : (0 : Int32).toInt = 0 := rfl; omega), Eq.trans (Eq.trans (I_ne (fx_ne fx (by decide))) I_eq) (Eq.symm v11), Eq.trans (Eq.trans R_oI (Eq.trans R_oI R_eq)) (Eq.symm w11)⟩
                  · exact .inl ⟨c_, hc_, (Eq.trans (I_ne (fx_ne fx (by decide))) (Eq.trans (I_nk (by have := i_eq ek5; have : (nI k5).toInt = ((k5 : Nat) : Int) := nI_toInt (by omega); have := i_rg d; have := i_nle c6; have : (24 : Int32).toInt = 24 := rfl; have := i_nlt c4; have : (0 : Int32).toInt = 0 := rfl; omega)) (Eq.trans I_oR (I_ne (fx_ne fx (by decide)))))), (Eq.trans R_oI (Eq.trans R_oI (Eq.trans (R_nk (by have := i_eq ek5; have : (nI k5).toInt = ((k5 : Nat) : Int) := nI_toInt (by omega); have := i_rg d; have := i_nle c6; have : (24 : Int32).toInt = 24 := rfl; have := i_nlt c4; have : (0 : Int32).toInt = 0 := rfl; omega)) R_oI)))⟩
              · have c12e := rs.2.2.1 _ _ (by assumption) (by assumption) (.inl ⟨k5, (by have := i_eq ek5; have : (nI k5).toInt = ((k5 : Nat) : Int) := nI_toInt (by omega); have := i_rg d; have := i_nle c6; have : (24 : Int32).toInt = 24 := rfl; have := i_nlt c4; have : (0 : Int32).toInt = 0 := rfl; omega), v7⟩) (.inl ⟨k2, (by have := i_eq ek2; have : (nI k2).toInt = ((k2 : Nat) : Int) := nI_toInt (by omega); have := i_rg c; have := i_nle c3; have : (24 : Int32).toInt = 24 := rfl; have := i_nlt c1; have : (0 : Int32).toInt = 0 := rfl; omega), v11⟩) c12
                refine r_ic (x := 0) rfl rfl ?_
                refine r_iret rfl ?_
                show EV _ 163 [.ref (ad 30), .int c, .int d] (sI h (ad 0) 6 0) _
                refine in_163 (Nat.le_of_ble_eq_true rfl) ?_
                show WR _ cd_163 0 [some (.ref (ad 30)), some (.int c), some (.int d), none] [] (sI h (ad 0) 6 0) _
                refine r_iload rfl rfl ?_
                refine WR_tI (y := nI k2) ek2 ?_
                refine r_cs (y := 153) (ra := [.int (nI k2)]) (rest := []) rfl ⟨⟨rfl, rfl⟩, by decide⟩ rfl rfl (Nat.le_of_ble_eq_true rfl) ?_
                refine in_153 (Nat.le_of_ble_eq_true rfl) ?_
                show WR _ cd_153 0 [some (.int (nI k2))] [] (sI h (ad 0) 6 0) _
                refine r_iload rfl rfl ?_
                refine r_if_lt (tg := 14) rfl rfl (fun q => False.elim (by have : (nI k2).toInt = ((k2 : Nat) : Int) := nI_toInt (by omega); have : (0 : Int32).toInt = 0 := rfl; have := i_eq ek2; have := i_rg c; have := i_nle c3; have : (24 : Int32).toInt = 24 := rfl; have := i_nlt c1; have := i_lt q; omega)) (fun _ => ?_)
                refine r_iload rfl rfl ?_
                refine r_ic (x := 24) rfl rfl ?_
                refine r_icmp_ge (tg := 14) rfl rfl (fun q => False.elim (by have : (nI k2).toInt = ((k2 : Nat) : Int) := nI_toInt (by omega); have : (24 : Int32).toInt = 24 := rfl; have := i_eq ek2; have := i_rg c; have := i_nle c3; have := i_nlt c1; have : (0 : Int32).toInt = 0 := rfl; have := i_le q; omega)) (fun _ => ?_)
                refine r_ic (x := 1) rfl rfl ?_
                refine r_goto (tg := 15) rfl rfl ?_
                refine r_zret rfl (.inr rfl) ?_
                show WR _ cd_163 4 [some (.ref (ad 30)), some (.int c), some (.int d), none] [.int 1] (sI h (ad 0) 6 0) _
                refine r_if_eq (tg := 14) rfl rfl (fun q => absurd q (by decide)) (fun _ => ?_)
                refine r_iload rfl rfl ?_
                refine WR_tI (y := nI k5) ek5 ?_
                refine r_cs (y := 153) (ra := [.int (nI k5)]) (rest := []) rfl ⟨⟨rfl, rfl⟩, by decide⟩ rfl rfl (Nat.le_of_ble_eq_true rfl) ?_
                refine in_153 (Nat.le_of_ble_eq_true rfl) ?_
                show WR _ cd_153 0 [some (.int (nI k5))] [] (sI h (ad 0) 6 0) _
                refine r_iload rfl rfl ?_
                refine r_if_lt (tg := 14) rfl rfl (fun q => False.elim (by have : (nI k5).toInt = ((k5 : Nat) : Int) := nI_toInt (by omega); have : (0 : Int32).toInt = 0 := rfl; have := i_eq ek5; have := i_rg d; have := i_nle c6; have : (24 : Int32).toInt = 24 := rfl; have := i_nlt c4; have := i_lt q; omega)) (fun _ => ?_)
                refine r_iload rfl rfl ?_
                refine r_ic (x := 24) rfl rfl ?_
                refine r_icmp_ge (tg := 14) rfl rfl (fun q => False.elim (by have : (nI k5).toInt = ((k5 : Nat) : Int) := nI_toInt (by omega); have : (24 : Int32).toInt = 24 := rfl; have := i_eq ek5; have := i_rg d; have := i_nle c6; have := i_nlt c4; have : (0 : Int32).toInt = 0 := rfl; have := i_le q; omega)) (fun _ => ?_)
                refine r_ic (x := 1) rfl rfl ?_
                refine r_goto (tg := 15) rfl rfl ?_
                refine r_zret rfl (.inr rfl) ?_
                show WR _ cd_163 11 [some (.ref (ad 30)), some (.int c), some (.int d), none] [.int 1] (sI h (ad 0) 6 0) _
                refine r_if_ne (tg := 21) rfl rfl (fun _ => ?_) (fun q => absurd q (by decide))
                refine r_aload rfl rfl ?_
                refine r_getA (b := ad 31) rfl ⟨rfl, rfl, rfl⟩ (fx_t30 fx) (fx_r30_0 fx) ?_
                refine r_iload rfl rfl ?_
                refine WR_tI (y := nI k5) ek5 ?_
                refine r_iaload rfl (.inl (fx_t31 fx)) (vp_ct (fx_n31 fx) (vp_in_nI (by have := i_eq ek5; have : (nI k5).toInt = ((k5 : Nat) : Int) := nI_toInt (by omega); have := i_rg d; have := i_nle c6; have : (24 : Int32).toInt = 24 := rfl; have := i_nlt c4; have : (0 : Int32).toInt = 0 := rfl; omega) (by omega))) ?_
                refine WR_tI (congrArg (hI (sI h (ad 0) 6 0) (ad 31)) ((nI_clamp (by have := i_eq ek5; have : (nI k5).toInt = ((k5 : Nat) : Int) := nI_toInt (by omega); have := i_rg d; have := i_nle c6; have : (24 : Int32).toInt = 24 := rfl; have := i_nlt c4; have : (0 : Int32).toInt = 0 := rfl; omega)) : _ = k5)) ?_
                refine WR_tI (y := nI t7) (Eq.trans (I_ne (fx_ne fx (by decide))) v7) ?_
                refine r_aload rfl rfl ?_
                refine r_getA (b := ad 31) rfl ⟨rfl, rfl, rfl⟩ (fx_t30 fx) (fx_r30_0 fx) ?_
                refine r_iload rfl rfl ?_
                refine WR_tI (y := nI k2) ek2 ?_
                refine r_iaload rfl (.inl (fx_t31 fx)) (vp_ct (fx_n31 fx) (vp_in_nI (by have := i_eq ek2; have : (nI k2).toInt = ((k2 : Nat) : Int) := nI_toInt (by omega); have := i_rg c; have := i_nle c3; have : (24 : Int32).toInt = 24 := rfl; have := i_nlt c1; have : (0 : Int32).toInt = 0 := rfl; omega) (by omega))) ?_
                refine WR_tI (congrArg (hI (sI h (ad 0) 6 0) (ad 31)) ((nI_clamp (by have := i_eq ek2; have : (nI k2).toInt = ((k2 : Nat) : Int) := nI_toInt (by omega); have := i_rg c; have := i_nle c3; have : (24 : Int32).toInt = 24 := rfl; have := i_nlt c1; have : (0 : Int32).toInt = 0 := rfl; omega)) : _ = k2)) ?_
                refine WR_tI (y := nI t11) (Eq.trans (I_ne (fx_ne fx (by decide))) v11) ?_
                refine r_icmp_ne (tg := 40) rfl rfl (fun q => False.elim (by have : (nI t7).toInt = ((t7 : Nat) : Int) := nI_toInt (by omega); have : (nI t11).toInt = ((t11 : Nat) : Int) := nI_toInt (by omega); have := i_neq q; omega)) (fun _ => ?_)
                refine r_ic (x := 1) rfl rfl ?_
                refine r_goto (tg := 41) rfl rfl ?_
                refine r_istore (lv' := [some (.ref (ad 30)), some (.int c), some (.int d), some (.int 1)]) rfl (Nat.le_of_ble_eq_true rfl) rfl ?_
                refine r_aload rfl rfl ?_
                refine r_getA (b := ad 31) rfl ⟨rfl, rfl, rfl⟩ (fx_t30 fx) (fx_r30_0 fx) ?_
                refine r_iload rfl rfl ?_
                refine WR_tI (y := nI k5) ek5 ?_
                refine r_aload rfl rfl ?_
                refine r_getA (b := ad 31) rfl ⟨rfl, rfl, rfl⟩ (fx_t30 fx) (fx_r30_0 fx) ?_
                refine r_iload rfl rfl ?_
                refine WR_tI (y := nI k2) ek2 ?_
                refine r_iaload rfl (.inl (fx_t31 fx)) (vp_ct (fx_n31 fx) (vp_in_nI (by have := i_eq ek2; have : (nI k2).toInt = ((k2 : Nat) : Int) := nI_toInt (by omega); have := i_rg c; have := i_nle c3; have : (24 : Int32).toInt = 24 := rfl; have := i_nlt c1; have : (0 : Int32).toInt = 0 := rfl; omega) (by omega))) ?_
                refine WR_tI (congrArg (hI (sI h (ad 0) 6 0) (ad 31)) ((nI_clamp (by have := i_eq ek2; have : (nI k2).toInt = ((k2 : Nat) : Int) := nI_toInt (by omega); have := i_rg c; have := i_nle c3; have : (24 : Int32).toInt = 24 := rfl; have := i_nlt c1; have : (0 : Int32).toInt = 0 := rfl; omega)) : _ = k2)) ?_
                refine WR_tI (y := nI t11) (Eq.trans (I_ne (fx_ne fx (by decide))) v11) ?_
                refine r_iastore rfl (fx_t31 fx) (vp_ct (fx_n31 fx) (vp_in_nI (by have := i_eq ek5; have : (nI k5).toInt = ((k5 : Nat) : Int) := nI_toInt (by omega); have := i_rg d; have := i_nle c6; have : (24 : Int32).toInt = 24 := rfl; have := i_nlt c4; have : (0 : Int32).toInt = 0 := rfl; omega) (by omega))) ?_
                refine WR_h (h2 := sI (sI h (ad 0) 6 0) (ad 31) k5 (nI t11)) (congrArg (fun z => sI (sI h (ad 0) 6 0) (ad 31) z (nI t11)) ((nI_clamp (by have := i_eq ek5; have : (nI k5).toInt = ((k5 : Nat) : Int) := nI_toInt (by omega); have := i_rg d; have := i_nle c6; have : (24 : Int32).toInt = 24 := rfl; have := i_nlt c4; have : (0 : Int32).toInt = 0 := rfl; omega)) : _ = k5)) ?_
                refine r_aload rfl rfl ?_
                refine r_iload rfl rfl ?_
                refine r_if_eq (tg := 63) rfl rfl (fun q => absurd q (by decide)) (fun _ => ?_)
                refine r_ic (x := 0) rfl rfl ?_
                refine r_goto (tg := 64) rfl rfl ?_
                refine r_cv (y := 154) (ra := [.int 0]) (rest := []) rfl ⟨⟨rfl, rfl⟩, rfl, by decide⟩ (fx_t30 fx) rfl rfl (Nat.le_of_ble_eq_true rfl) ?_
                refine in_154 (Nat.le_of_ble_eq_true rfl) ?_
                show WR _ cd_154 0 [some (.ref (ad 30)), some (.int 0)] [] (sI (sI h (ad 0) 6 0) (ad 31) k5 (nI t11)) _
                refine r_aload rfl rfl ?_
                refine r_iload rfl rfl ?_
                refine r_ic (x := (-1)) rfl rfl ?_
                refine r_icmp_ge (tg := 10) rfl rfl (fun _ => ?_) (fun q => absurd q (by decide))
                refine r_ic (x := 0) rfl rfl ?_
                refine r_putI rfl ⟨rfl, rfl, rfl⟩ (fx_t30 fx) ?_
                refine r_iload rfl rfl ?_
                refine r_iret rfl ?_
                show WR _ cd_163 67 [some (.ref (ad 30)), some (.int c), some (.int d), some (.int 1)] [.int 0] (sI (sI (sI h (ad 0) 6 0) (ad 31) k5 (nI t11)) (ad 30) 11 0) _
                refine r_iret rfl ?_
                have cg : Chg n ad [(30, 11), (0, 6)] [31] h (sI (sI (sI h (ad 0) 6 0) (ad 31) k5 (nI t11)) (ad 30) 11 0) := (((Chg.rf.sI (fx_j fx0) (k := 6) (v := 0) (.inl (by decide))).sI (fx_j fx0) (k := k5) (v := nI t11) (.inl (by decide))).row.sI (fx_j fx0) (k := 11) (v := 0) (.inl (by decide)))
                refine ⟨rfl, ⟨mid, pa, np, FX.k fx0 cg.1 cg.2.1 cg.2.2 (by decide), Eq.trans (Eq.trans (I_ne (fx_ne fx (by decide))) (Eq.trans (I_ne (fx_ne fx (by decide))) I_eq)) (Eq.symm I_eq), rt.k cg.2.1 (by decide), ra.k cg.2.1 (by decide), rp.k cg.2.1 (by decide), rf.k cg.2.1 (by decide), Rst.k fx0 rst cg.2.2, Ru.k fx0 ru cg.2.1 (by decide), ?_⟩, Nat.le_add_right _ _, Nat.le_add_right _ _⟩
                · refine Rs.cases rs (smS_of fx0 cg (by decide)) (fun c_ hc_ => ?_)
                  by_cases e_ : c_ = k5
                  · rw [e_]
                    exact .inl ⟨k2, (by have := i_eq ek2; have : (nI k2).toInt = ((k2 : Nat) : Int) := nI_toInt (by omega); have := i_rg c; have := i_nle c3; have : (24 : Int32).toInt = 24 := rfl; have := i_nlt c1; have : (0 : Int32).toInt = 0 := rfl; omega), Eq.trans (Eq.trans (I_ne (fx_ne fx (by decide))) I_eq) (Eq.symm v11), Eq.trans (Eq.trans R_oI (Eq.trans R_oI (Eq.trans R_oI w7))) (Eq.trans (congrArg some c12) (Eq.symm w11))⟩
                  · exact .inl ⟨c_, hc_, (Eq.trans (I_ne (fx_ne fx (by decide))) (Eq.trans (I_nk (by have := i_eq ek5; have : (nI k5).toInt = ((k5 : Nat) : Int) := nI_toInt (by omega); have := i_rg d; have := i_nle c6; have : (24 : Int32).toInt = 24 := rfl; have := i_nlt c4; have : (0 : Int32).toInt = 0 := rfl; omega)) (I_ne (fx_ne fx (by decide))))), (Eq.trans R_oI (Eq.trans R_oI R_oI))⟩
            · refine r_aaloadA (b := mid t11) rfl (isQ_of (fx_t1 fx) (by decide)) (vp_ct (fx_n1 fx) (vp_in_nI (by have := i_eq ek2; have : (nI k2).toInt = ((k2 : Nat) : Int) := nI_toInt (by omega); have := i_rg c; have := i_nle c3; have : (24 : Int32).toInt = 24 := rfl; have := i_nlt c1; have : (0 : Int32).toInt = 0 := rfl; omega) (by omega))) (Eq.trans (congrArg (hR (sI h (ad 0) 6 0) (ad 1)) ((nI_clamp (by have := i_eq ek2; have : (nI k2).toInt = ((k2 : Nat) : Int) := nI_toInt (by omega); have := i_rg c; have := i_nle c3; have : (24 : Int32).toInt = 24 := rfl; have := i_nlt c1; have : (0 : Int32).toInt = 0 := rfl; omega)) : _ = k2)) (Eq.trans R_oI w11)) ?_
              have c13e : ¬ t7 = t11 := fun e => by have q1 := tg7; have q2 := tg11; rw [e, q2] at q1; cases q1
              refine r_acmpA_ne (tg := 43) rfl rfl (fun _ => ?_) (fun q => absurd q (fun e => by have q1 := tg7; have q2 := tg11; rw [e, q2] at q1; cases q1))
              refine r_aload rfl rfl ?_
              refine r_getA (b := ad 1) rfl ⟨rfl, rfl, rfl⟩ (fx_t0 fx) (fx_r0_0 fx) ?_
              refine r_iload rfl rfl ?_
              refine WR_tI (y := nI k5) ek5 ?_
              refine r_aload rfl rfl ?_
              refine r_getA (b := ad 1) rfl ⟨rfl, rfl, rfl⟩ (fx_t0 fx) (fx_r0_0 fx) ?_
              refine r_iload rfl rfl ?_
              refine WR_tI (y := nI k2) ek2 ?_
              refine r_aaloadA (b := mid t11) rfl (isQ_of (fx_t1 fx) (by decide)) (vp_ct (fx_n1 fx) (vp_in_nI (by have := i_eq ek2; have : (nI k2).toInt = ((k2 : Nat) : Int) := nI_toInt (by omega); have := i_rg c; have := i_nle c3; have : (24 : Int32).toInt = 24 := rfl; have := i_nlt c1; have : (0 : Int32).toInt = 0 := rfl; omega) (by omega))) (Eq.trans (congrArg (hR (sI h (ad 0) 6 0) (ad 1)) ((nI_clamp (by have := i_eq ek2; have : (nI k2).toInt = ((k2 : Nat) : Int) := nI_toInt (by omega); have := i_rg c; have := i_nle c3; have : (24 : Int32).toInt = 24 := rfl; have := i_nlt c1; have : (0 : Int32).toInt = 0 := rfl; omega)) : _ = k2)) (Eq.trans R_oI w11)) ?_
              refine r_aastoreA rfl (isQ_of (fx_t1 fx) (by decide)) (vp_ct (fx_n1 fx) (vp_in_nI (by have := i_eq ek5; have : (nI k5).toInt = ((k5 : Nat) : Int) := nI_toInt (by omega); have := i_rg d; have := i_nle c6; have : (24 : Int32).toInt = 24 := rfl; have := i_nlt c4; have : (0 : Int32).toInt = 0 := rfl; omega) (by omega))) (okR_of (fx_t1 fx) tg11 (by decide)) ?_
              refine WR_h (h2 := sR (sI h (ad 0) 6 0) (ad 1) k5 (some (mid t11))) (congrArg (fun z => sR (sI h (ad 0) 6 0) (ad 1) z (some (mid t11))) ((nI_clamp (by have := i_eq ek5; have : (nI k5).toInt = ((k5 : Nat) : Int) := nI_toInt (by omega); have := i_rg d; have := i_nle c6; have : (24 : Int32).toInt = 24 := rfl; have := i_nlt c4; have : (0 : Int32).toInt = 0 := rfl; omega)) : _ = k5)) ?_
              have fx : FX n ad sa z0 (sR (sI h (ad 0) 6 0) (ad 1) k5 (some (mid t11))) := FX.sRA (i := 1) fx (.inl (by decide)) (by decide)
              refine r_ic (x := 1) rfl rfl ?_
              refine r_iret rfl ?_
              show EV _ 163 [.ref (ad 30), .int c, .int d] (sR (sI h (ad 0) 6 0) (ad 1) k5 (some (mid t11))) _
              refine in_163 (Nat.le_of_ble_eq_true rfl) ?_
              show WR _ cd_163 0 [some (.ref (ad 30)), some (.int c), some (.int d), none] [] (sR (sI h (ad 0) 6 0) (ad 1) k5 (some (mid t11))) _
              refine r_iload rfl rfl ?_
              refine WR_tI (y := nI k2) ek2 ?_
              refine r_cs (y := 153) (ra := [.int (nI k2)]) (rest := []) rfl ⟨⟨rfl, rfl⟩, by decide⟩ rfl rfl (Nat.le_of_ble_eq_true rfl) ?_
              refine in_153 (Nat.le_of_ble_eq_true rfl) ?_
              show WR _ cd_153 0 [some (.int (nI k2))] [] (sR (sI h (ad 0) 6 0) (ad 1) k5 (some (mid t11))) _
              refine r_iload rfl rfl ?_
              refine r_if_lt (tg := 14) rfl rfl (fun q => False.elim (by have : (nI k2).toInt = ((k2 : Nat) : Int) := nI_toInt (by omega); have : (0 : Int32).toInt = 0 := rfl; have := i_eq ek2; have := i_rg c; have := i_nle c3; have : (24 : Int32).toInt = 24 := rfl; have := i_nlt c1; have := i_lt q; omega)) (fun _ => ?_)
              refine r_iload rfl rfl ?_
              refine r_ic (x := 24) rfl rfl ?_
              refine r_icmp_ge (tg := 14) rfl rfl (fun q => False.elim (by have : (nI k2).toInt = ((k2 : Nat) : Int) := nI_toInt (by omega); have : (24 : Int32).toInt = 24 := rfl; have := i_eq ek2; have := i_rg c; have := i_nle c3; have := i_nlt c1; have : (0 : Int32).toInt = 0 := rfl; have := i_le q; omega)) (fun _ => ?_)
              refine r_ic (x := 1) rfl rfl ?_
              refine r_goto (tg := 15) rfl rfl ?_
              refine r_zret rfl (.inr rfl) ?_
              show WR _ cd_163 4 [some (.ref (ad 30)), some (.int c), some (.int d), none] [.int 1] (sR (sI h (ad 0) 6 0) (ad 1) k5 (some (mid t11))) _
              refine r_if_eq (tg := 14) rfl rfl (fun q => absurd q (by decide)) (fun _ => ?_)
              refine r_iload rfl rfl ?_
              refine WR_tI (y := nI k5) ek5 ?_
              refine r_cs (y := 153) (ra := [.int (nI k5)]) (rest := []) rfl ⟨⟨rfl, rfl⟩, by decide⟩ rfl rfl (Nat.le_of_ble_eq_true rfl) ?_
              refine in_153 (Nat.le_of_ble_eq_true rfl) ?_
              show WR _ cd_153 0 [some (.int (nI k5))] [] (sR (sI h (ad 0) 6 0) (ad 1) k5 (some (mid t11))) _
              refine r_iload rfl rfl ?_
              refine r_if_lt (tg := 14) rfl rfl (fun q => False.elim (by have : (nI k5).toInt = ((k5 : Nat) : Int) := nI_toInt (by omega); have : (0 : Int32).toInt = 0 := rfl; have := i_eq ek5; have := i_rg d; have := i_nle c6; have : (24 : Int32).toInt = 24 := rfl; have := i_nlt c4; have := i_lt q; omega)) (fun _ => ?_)
              refine r_iload rfl rfl ?_
              refine r_ic (x := 24) rfl rfl ?_
              refine r_icmp_ge (tg := 14) rfl rfl (fun q => False.elim (by have : (nI k5).toInt = ((k5 : Nat) : Int) := nI_toInt (by omega); have : (24 : Int32).toInt = 24 := rfl; have := i_eq ek5; have := i_rg d; have := i_nle c6; have := i_nlt c4; have : (0 : Int32).toInt = 0 := rfl; have := i_le q; omega)) (fun _ => ?_)
              refine r_ic (x := 1) rfl rfl ?_
              refine r_goto (tg := 15) rfl rfl ?_
              refine r_zret rfl (.inr rfl) ?_
              show WR _ cd_163 11 [some (.ref (ad 30)), some (.int c), some (.int d), none] [.int 1] (sR (sI h (ad 0) 6 0) (ad 1) k5 (some (mid t11))) _
              refine r_if_ne (tg := 21) rfl rfl (fun _ => ?_) (fun q => absurd q (by decide))
              refine r_aload rfl rfl ?_
              refine r_getA (b := ad 31) rfl ⟨rfl, rfl, rfl⟩ (fx_t30 fx) (fx_r30_0 fx) ?_
              refine r_iload rfl rfl ?_
              refine WR_tI (y := nI k5) ek5 ?_
              refine r_iaload rfl (.inl (fx_t31 fx)) (vp_ct (fx_n31 fx) (vp_in_nI (by have := i_eq ek5; have : (nI k5).toInt = ((k5 : Nat) : Int) := nI_toInt (by omega); have := i_rg d; have := i_nle c6; have : (24 : Int32).toInt = 24 := rfl; have := i_nlt c4; have : (0 : Int32).toInt = 0 := rfl; omega) (by omega))) ?_
              refine WR_tI (congrArg (hI (sR (sI h (ad 0) 6 0) (ad 1) k5 (some (mid t11))) (ad 31)) ((nI_clamp (by have := i_eq ek5; have : (nI k5).toInt = ((k5 : Nat) : Int) := nI_toInt (by omega); have := i_rg d; have := i_nle c6; have : (24 : Int32).toInt = 24 := rfl; have := i_nlt c4; have : (0 : Int32).toInt = 0 := rfl; omega)) : _ = k5)) ?_
              refine WR_tI (y := nI t7) (Eq.trans I_oR (Eq.trans (I_ne (fx_ne fx (by decide))) v7)) ?_
              refine r_aload rfl rfl ?_
              refine r_getA (b := ad 31) rfl ⟨rfl, rfl, rfl⟩ (fx_t30 fx) (fx_r30_0 fx) ?_
              refine r_iload rfl rfl ?_
              refine WR_tI (y := nI k2) ek2 ?_
              refine r_iaload rfl (.inl (fx_t31 fx)) (vp_ct (fx_n31 fx) (vp_in_nI (by have := i_eq ek2; have : (nI k2).toInt = ((k2 : Nat) : Int) := nI_toInt (by omega); have := i_rg c; have := i_nle c3; have : (24 : Int32).toInt = 24 := rfl; have := i_nlt c1; have : (0 : Int32).toInt = 0 := rfl; omega) (by omega))) ?_
              refine WR_tI (congrArg (hI (sR (sI h (ad 0) 6 0) (ad 1) k5 (some (mid t11))) (ad 31)) ((nI_clamp (by have := i_eq ek2; have : (nI k2).toInt = ((k2 : Nat) : Int) := nI_toInt (by omega); have := i_rg c; have := i_nle c3; have : (24 : Int32).toInt = 24 := rfl; have := i_nlt c1; have : (0 : Int32).toInt = 0 := rfl; omega)) : _ = k2)) ?_
              refine WR_tI (y := nI t11) (Eq.trans I_oR (Eq.trans (I_ne (fx_ne fx (by decide))) v11)) ?_
              refine r_icmp_ne (tg := 40) rfl rfl (fun _ => ?_) (fun q => False.elim (by have : (nI t7).toInt = ((t7 : Nat) : Int) := nI_toInt (by omega); have : (nI t11).toInt = ((t11 : Nat) : Int) := nI_toInt (by omega); have := i_eq q; omega))
              refine r_ic (x := 0) rfl rfl ?_
              refine r_istore (lv' := [some (.ref (ad 30)), some (.int c), some (.int d), some (.int 0)]) rfl (Nat.le_of_ble_eq_true rfl) rfl ?_
              refine r_aload rfl rfl ?_
              refine r_getA (b := ad 31) rfl ⟨rfl, rfl, rfl⟩ (fx_t30 fx) (fx_r30_0 fx) ?_
              refine r_iload rfl rfl ?_
              refine WR_tI (y := nI k5) ek5 ?_
              refine r_aload rfl rfl ?_
              refine r_getA (b := ad 31) rfl ⟨rfl, rfl, rfl⟩ (fx_t30 fx) (fx_r30_0 fx) ?_
              refine r_iload rfl rfl ?_
              refine WR_tI (y := nI k2) ek2 ?_
              refine r_iaload rfl (.inl (fx_t31 fx)) (vp_ct (fx_n31 fx) (vp_in_nI (by have := i_eq ek2; have : (nI k2).toInt = ((k2 : Nat) : Int) := nI_toInt (by omega); have := i_rg c; have := i_nle c3; have : (24 : Int32).toInt = 24 := rfl; have := i_nlt c1; have : (0 : Int32).toInt = 0 := rfl; omega) (by omega))) ?_
              refine WR_tI (congrArg (hI (sR (sI h (ad 0) 6 0) (ad 1) k5 (some (mid t11))) (ad 31)) ((nI_clamp (by have := i_eq ek2; have : (nI k2).toInt = ((k2 : Nat) : Int) := nI_toInt (by omega); have := i_rg c; have := i_nle c3; have : (24 : Int32).toInt = 24 := rfl; have := i_nlt c1; have : (0 : Int32).toInt = 0 := rfl; omega)) : _ = k2)) ?_
              refine WR_tI (y := nI t11) (Eq.trans I_oR (Eq.trans (I_ne (fx_ne fx (by decide))) v11)) ?_
              refine r_iastore rfl (fx_t31 fx) (vp_ct (fx_n31 fx) (vp_in_nI (by have := i_eq ek5; have : (nI k5).toInt = ((k5 : Nat) : Int) := nI_toInt (by omega); have := i_rg d; have := i_nle c6; have : (24 : Int32).toInt = 24 := rfl; have := i_nlt c4; have : (0 : Int32).toInt = 0 := rfl; omega) (by omega))) ?_
              refine WR_h (h2 := sI (sR (sI h (ad 0) 6 0) (ad 1) k5 (some (mid t11))) (ad 31) k5 (nI t11)) (congrArg (fun z => sI (sR (sI h (ad 0) 6 0) (ad 1) k5 (some (mid t11))) (ad 31) z (nI t11)) ((nI_clamp (by have := i_eq ek5; have : (nI k5).toInt = ((k5 : Nat) : Int) := nI_toInt (by omega); have := i_rg d; have := i_nle c6; have : (24 : Int32).toInt = 24 := rfl; have := i_nlt c4; have : (0 : Int32).toInt = 0 := rfl; omega)) : _ = k5)) ?_
              refine r_aload rfl rfl ?_
              refine r_iload rfl rfl ?_
              refine r_if_eq (tg := 63) rfl rfl (fun _ => ?_) (fun q => absurd q (by decide))
              refine r_ic (x := 1) rfl rfl ?_
              refine r_cv (y := 154) (ra := [.int 1]) (rest := []) rfl ⟨⟨rfl, rfl⟩, rfl, by decide⟩ (fx_t30 fx) rfl rfl (Nat.le_of_ble_eq_true rfl) ?_
              refine in_154 (Nat.le_of_ble_eq_true rfl) ?_
              show WR _ cd_154 0 [some (.ref (ad 30)), some (.int 1)] [] (sI (sR (sI h (ad 0) 6 0) (ad 1) k5 (some (mid t11))) (ad 31) k5 (nI t11)) _
              refine r_aload rfl rfl ?_
              refine r_iload rfl rfl ?_
              refine r_ic (x := (-1)) rfl rfl ?_
              refine r_icmp_ge (tg := 10) rfl rfl (fun _ => ?_) (fun q => absurd q (by decide))
              refine r_ic (x := 0) rfl rfl ?_
              refine r_putI rfl ⟨rfl, rfl, rfl⟩ (fx_t30 fx) ?_
              refine r_iload rfl rfl ?_
              refine r_iret rfl ?_
              show WR _ cd_163 67 [some (.ref (ad 30)), some (.int c), some (.int d), some (.int 0)] [.int 1] (sI (sI (sR (sI h (ad 0) 6 0) (ad 1) k5 (some (mid t11))) (ad 31) k5 (nI t11)) (ad 30) 11 0) _
              refine r_iret rfl ?_
              have cg : Chg n ad [(30, 11), (0, 6)] [31, 1] h (sI (sI (sR (sI h (ad 0) 6 0) (ad 1) k5 (some (mid t11))) (ad 31) k5 (nI t11)) (ad 30) 11 0) := ((((Chg.rf.sI (fx_j fx0) (k := 6) (v := 0) (.inl (by decide))).sR (fx_j fx0) (k := k5) (v := some (mid t11)) (.inl (by decide))).row.sI (fx_j fx0) (k := k5) (v := nI t11) (.inl (by decide))).row.sI (fx_j fx0) (k := 11) (v := 0) (.inl (by decide)))
              refine ⟨rfl, ⟨mid, pa, np, FX.k fx0 cg.1 cg.2.1 cg.2.2 (by decide), Eq.trans (Eq.trans (I_ne (fx_ne fx (by decide))) (Eq.trans (I_ne (fx_ne fx (by decide))) (Eq.trans I_oR I_eq))) (Eq.symm I_eq), rt.k cg.2.1 (by decide), ra.k cg.2.1 (by decide), rp.k cg.2.1 (by decide), rf.k cg.2.1 (by decide), Rst.k fx0 rst cg.2.2, Ru.k fx0 ru cg.2.1 (by decide), ?_⟩, Nat.le_add_right _ _, Nat.le_add_right _ _⟩
              · refine Rs.cases rs (smS_of fx0 cg (by decide)) (fun c_ hc_ => ?_)
                by_cases e_ : c_ = k5
                · rw [e_]
                  exact .inl ⟨k2, (by have := i_eq ek2; have : (nI k2).toInt = ((k2 : Nat) : Int) := nI_toInt (by omega); have := i_rg c; have := i_nle c3; have : (24 : Int32).toInt = 24 := rfl; have := i_nlt c1; have : (0 : Int32).toInt = 0 := rfl; omega), Eq.trans (Eq.trans (I_ne (fx_ne fx (by decide))) I_eq) (Eq.symm v11), Eq.trans (Eq.trans R_oI (Eq.trans R_oI R_eq)) (Eq.symm w11)⟩
                · exact .inl ⟨c_, hc_, (Eq.trans (I_ne (fx_ne fx (by decide))) (Eq.trans (I_nk (by have := i_eq ek5; have : (nI k5).toInt = ((k5 : Nat) : Int) := nI_toInt (by omega); have := i_rg d; have := i_nle c6; have : (24 : Int32).toInt = 24 := rfl; have := i_nlt c4; have : (0 : Int32).toInt = 0 := rfl; omega)) (Eq.trans I_oR (I_ne (fx_ne fx (by decide)))))), (Eq.trans R_oI (Eq.trans R_oI (Eq.trans (R_nk (by have := i_eq ek5; have : (nI k5).toInt = ((k5 : Nat) : Int) := nI_toInt (by omega); have := i_rg d; have := i_nle c6; have : (24 : Int32).toInt = 24 := rfl; have := i_nlt c4; have : (0 : Int32).toInt = 0 := rfl; omega)) R_oI)))⟩
            · refine r_aaloadA (b := mid t11) rfl (isQ_of (fx_t1 fx) (by decide)) (vp_ct (fx_n1 fx) (vp_in_nI (by have := i_eq ek2; have : (nI k2).toInt = ((k2 : Nat) : Int) := nI_toInt (by omega); have := i_rg c; have := i_nle c3; have : (24 : Int32).toInt = 24 := rfl; have := i_nlt c1; have : (0 : Int32).toInt = 0 := rfl; omega) (by omega))) (Eq.trans (congrArg (hR (sI h (ad 0) 6 0) (ad 1)) ((nI_clamp (by have := i_eq ek2; have : (nI k2).toInt = ((k2 : Nat) : Int) := nI_toInt (by omega); have := i_rg c; have := i_nle c3; have : (24 : Int32).toInt = 24 := rfl; have := i_nlt c1; have : (0 : Int32).toInt = 0 := rfl; omega)) : _ = k2)) (Eq.trans R_oI w11)) ?_
              have c14e : ¬ t7 = t11 := fun e => by have q1 := tg7; have q2 := tg11; rw [e, q2] at q1; cases q1
              refine r_acmpA_ne (tg := 43) rfl rfl (fun _ => ?_) (fun q => absurd q (fun e => by have q1 := tg7; have q2 := tg11; rw [e, q2] at q1; cases q1))
              refine r_aload rfl rfl ?_
              refine r_getA (b := ad 1) rfl ⟨rfl, rfl, rfl⟩ (fx_t0 fx) (fx_r0_0 fx) ?_
              refine r_iload rfl rfl ?_
              refine WR_tI (y := nI k5) ek5 ?_
              refine r_aload rfl rfl ?_
              refine r_getA (b := ad 1) rfl ⟨rfl, rfl, rfl⟩ (fx_t0 fx) (fx_r0_0 fx) ?_
              refine r_iload rfl rfl ?_
              refine WR_tI (y := nI k2) ek2 ?_
              refine r_aaloadA (b := mid t11) rfl (isQ_of (fx_t1 fx) (by decide)) (vp_ct (fx_n1 fx) (vp_in_nI (by have := i_eq ek2; have : (nI k2).toInt = ((k2 : Nat) : Int) := nI_toInt (by omega); have := i_rg c; have := i_nle c3; have : (24 : Int32).toInt = 24 := rfl; have := i_nlt c1; have : (0 : Int32).toInt = 0 := rfl; omega) (by omega))) (Eq.trans (congrArg (hR (sI h (ad 0) 6 0) (ad 1)) ((nI_clamp (by have := i_eq ek2; have : (nI k2).toInt = ((k2 : Nat) : Int) := nI_toInt (by omega); have := i_rg c; have := i_nle c3; have : (24 : Int32).toInt = 24 := rfl; have := i_nlt c1; have : (0 : Int32).toInt = 0 := rfl; omega)) : _ = k2)) (Eq.trans R_oI w11)) ?_
              refine r_aastoreA rfl (isQ_of (fx_t1 fx) (by decide)) (vp_ct (fx_n1 fx) (vp_in_nI (by have := i_eq ek5; have : (nI k5).toInt = ((k5 : Nat) : Int) := nI_toInt (by omega); have := i_rg d; have := i_nle c6; have : (24 : Int32).toInt = 24 := rfl; have := i_nlt c4; have : (0 : Int32).toInt = 0 := rfl; omega) (by omega))) (okR_of (fx_t1 fx) tg11 (by decide)) ?_
              refine WR_h (h2 := sR (sI h (ad 0) 6 0) (ad 1) k5 (some (mid t11))) (congrArg (fun z => sR (sI h (ad 0) 6 0) (ad 1) z (some (mid t11))) ((nI_clamp (by have := i_eq ek5; have : (nI k5).toInt = ((k5 : Nat) : Int) := nI_toInt (by omega); have := i_rg d; have := i_nle c6; have : (24 : Int32).toInt = 24 := rfl; have := i_nlt c4; have : (0 : Int32).toInt = 0 := rfl; omega)) : _ = k5)) ?_
              have fx : FX n ad sa z0 (sR (sI h (ad 0) 6 0) (ad 1) k5 (some (mid t11))) := FX.sRA (i := 1) fx (.inl (by decide)) (by decide)
              refine r_ic (x := 1) rfl rfl ?_
              refine r_iret rfl ?_
              show EV _ 163 [.ref (ad 30), .int c, .int d] (sR (sI h (ad 0) 6 0) (ad 1) k5 (some (mid t11))) _
              refine in_163 (Nat.le_of_ble_eq_true rfl) ?_
              show WR _ cd_163 0 [some (.ref (ad 30)), some (.int c), some (.int d), none] [] (sR (sI h (ad 0) 6 0) (ad 1) k5 (some (mid t11))) _
              refine r_iload rfl rfl ?_
              refine WR_tI (y := nI k2) ek2 ?_
              refine r_cs (y := 153) (ra := [.int (nI k2)]) (rest := []) rfl ⟨⟨rfl, rfl⟩, by decide⟩ rfl rfl (Nat.le_of_ble_eq_true rfl) ?_
              refine in_153 (Nat.le_of_ble_eq_true rfl) ?_
              show WR _ cd_153 0 [some (.int (nI k2))] [] (sR (sI h (ad 0) 6 0) (ad 1) k5 (some (mid t11))) _
              refine r_iload rfl rfl ?_
              refine r_if_lt (tg := 14) rfl rfl (fun q => False.elim (by have : (nI k2).toInt = ((k2 : Nat) : Int) := nI_toInt (by omega); have : (0 : Int32).toInt = 0 := rfl; have := i_eq ek2; have := i_rg c; have := i_nle c3; have : (24 : Int32).toInt = 24 := rfl; have := i_nlt c1; have := i_lt q; omega)) (fun _ => ?_)
              refine r_iload rfl rfl ?_
              refine r_ic (x := 24) rfl rfl ?_
              refine r_icmp_ge (tg := 14) rfl rfl (fun q => False.elim (by have : (nI k2).toInt = ((k2 : Nat) : Int) := nI_toInt (by omega); have : (24 : Int32).toInt = 24 := rfl; have := i_eq ek2; have := i_rg c; have := i_nle c3; have := i_nlt c1; have : (0 : Int32).toInt = 0 := rfl; have := i_le q; omega)) (fun _ => ?_)
              refine r_ic (x := 1) rfl rfl ?_
              refine r_goto (tg := 15) rfl rfl ?_
              refine r_zret rfl (.inr rfl) ?_
              show WR _ cd_163 4 [some (.ref (ad 30)), some (.int c), some (.int d), none] [.int 1] (sR (sI h (ad 0) 6 0) (ad 1) k5 (some (mid t11))) _
              refine r_if_eq (tg := 14) rfl rfl (fun q => absurd q (by decide)) (fun _ => ?_)
              refine r_iload rfl rfl ?_
              refine WR_tI (y := nI k5) ek5 ?_
              refine r_cs (y := 153) (ra := [.int (nI k5)]) (rest := []) rfl ⟨⟨rfl, rfl⟩, by decide⟩ rfl rfl (Nat.le_of_ble_eq_true rfl) ?_
              refine in_153 (Nat.le_of_ble_eq_true rfl) ?_
              show WR _ cd_153 0 [some (.int (nI k5))] [] (sR (sI h (ad 0) 6 0) (ad 1) k5 (some (mid t11))) _
              refine r_iload rfl rfl ?_
              refine r_if_lt (tg := 14) rfl rfl (fun q => False.elim (by have : (nI k5).toInt = ((k5 : Nat) : Int) := nI_toInt (by omega); have : (0 : Int32).toInt = 0 := rfl; have := i_eq ek5; have := i_rg d; have := i_nle c6; have : (24 : Int32).toInt = 24 := rfl; have := i_nlt c4; have := i_lt q; omega)) (fun _ => ?_)
              refine r_iload rfl rfl ?_
              refine r_ic (x := 24) rfl rfl ?_
              refine r_icmp_ge (tg := 14) rfl rfl (fun q => False.elim (by have : (nI k5).toInt = ((k5 : Nat) : Int) := nI_toInt (by omega); have : (24 : Int32).toInt = 24 := rfl; have := i_eq ek5; have := i_rg d; have := i_nle c6; have := i_nlt c4; have : (0 : Int32).toInt = 0 := rfl; have := i_le q; omega)) (fun _ => ?_)
              refine r_ic (x := 1) rfl rfl ?_
              refine r_goto (tg := 15) rfl rfl ?_
              refine r_zret rfl (.inr rfl) ?_
              show WR _ cd_163 11 [some (.ref (ad 30)), some (.int c), some (.int d), none] [.int 1] (sR (sI h (ad 0) 6 0) (ad 1) k5 (some (mid t11))) _
              refine r_if_ne (tg := 21) rfl rfl (fun _ => ?_) (fun q => absurd q (by decide))
              refine r_aload rfl rfl ?_
              refine r_getA (b := ad 31) rfl ⟨rfl, rfl, rfl⟩ (fx_t30 fx) (fx_r30_0 fx) ?_
              refine r_iload rfl rfl ?_
              refine WR_tI (y := nI k5) ek5 ?_
              refine r_iaload rfl (.inl (fx_t31 fx)) (vp_ct (fx_n31 fx) (vp_in_nI (by have := i_eq ek5; have : (nI k5).toInt = ((k5 : Nat) : Int) := nI_toInt (by omega); have := i_rg d; have := i_nle c6; have : (24 : Int32).toInt = 24 := rfl; have := i_nlt c4; have : (0 : Int32).toInt = 0 := rfl; omega) (by omega))) ?_
              refine WR_tI (congrArg (hI (sR (sI h (ad 0) 6 0) (ad 1) k5 (some (mid t11))) (ad 31)) ((nI_clamp (by have := i_eq ek5; have : (nI k5).toInt = ((k5 : Nat) : Int) := nI_toInt (by omega); have := i_rg d; have := i_nle c6; have : (24 : Int32).toInt = 24 := rfl; have := i_nlt c4; have : (0 : Int32).toInt = 0 := rfl; omega)) : _ = k5)) ?_
              refine WR_tI (y := nI t7) (Eq.trans I_oR (Eq.trans (I_ne (fx_ne fx (by decide))) v7)) ?_
              refine r_aload rfl rfl ?_
              refine r_getA (b := ad 31) rfl ⟨rfl, rfl, rfl⟩ (fx_t30 fx) (fx_r30_0 fx) ?_
              refine r_iload rfl rfl ?_
              refine WR_tI (y := nI k2) ek2 ?_
              refine r_iaload rfl (.inl (fx_t31 fx)) (vp_ct (fx_n31 fx) (vp_in_nI (by have := i_eq ek2; have : (nI k2).toInt = ((k2 : Nat) : Int) := nI_toInt (by omega); have := i_rg c; have := i_nle c3; have : (24 : Int32).toInt = 24 := rfl; have := i_nlt c1; have : (0 : Int32).toInt = 0 := rfl; omega) (by omega))) ?_
              refine WR_tI (congrArg (hI (sR (sI h (ad 0) 6 0) (ad 1) k5 (some (mid t11))) (ad 31)) ((nI_clamp (by have := i_eq ek2; have : (nI k2).toInt = ((k2 : Nat) : Int) := nI_toInt (by omega); have := i_rg c; have := i_nle c3; have : (24 : Int32).toInt = 24 := rfl; have := i_nlt c1; have : (0 : Int32).toInt = 0 := rfl; omega)) : _ = k2)) ?_
              refine WR_tI (y := nI t11) (Eq.trans I_oR (Eq.trans (I_ne (fx_ne fx (by decide))) v11)) ?_
              refine r_icmp_ne (tg := 40) rfl rfl (fun _ => ?_) (fun q => False.elim (by have : (nI t7).toInt = ((t7 : Nat) : Int) := nI_toInt (by omega); have : (nI t11).toInt = ((t11 : Nat) : Int) := nI_toInt (by omega); have := i_eq q; omega))
              refine r_ic (x := 0) rfl rfl ?_
              refine r_istore (lv' := [some (.ref (ad 30)), some (.int c), some (.int d), some (.int 0)]) rfl (Nat.le_of_ble_eq_true rfl) rfl ?_
              refine r_aload rfl rfl ?_
              refine r_getA (b := ad 31) rfl ⟨rfl, rfl, rfl⟩ (fx_t30 fx) (fx_r30_0 fx) ?_
              refine r_iload rfl rfl ?_
              refine WR_tI (y := nI k5) ek5 ?_
              refine r_aload rfl rfl ?_
              refine r_getA (b := ad 31) rfl ⟨rfl, rfl, rfl⟩ (fx_t30 fx) (fx_r30_0 fx) ?_
              refine r_iload rfl rfl ?_
              refine WR_tI (y := nI k2) ek2 ?_
              refine r_iaload rfl (.inl (fx_t31 fx)) (vp_ct (fx_n31 fx) (vp_in_nI (by have := i_eq ek2; have : (nI k2).toInt = ((k2 : Nat) : Int) := nI_toInt (by omega); have := i_rg c; have := i_nle c3; have : (24 : Int32).toInt = 24 := rfl; have := i_nlt c1; have : (0 : Int32).toInt = 0 := rfl; omega) (by omega))) ?_
              refine WR_tI (congrArg (hI (sR (sI h (ad 0) 6 0) (ad 1) k5 (some (mid t11))) (ad 31)) ((nI_clamp (by have := i_eq ek2; have : (nI k2).toInt = ((k2 : Nat) : Int) := nI_toInt (by omega); have := i_rg c; have := i_nle c3; have : (24 : Int32).toInt = 24 := rfl; have := i_nlt c1; have : (0 : Int32).toInt = 0 := rfl; omega)) : _ = k2)) ?_
              refine WR_tI (y := nI t11) (Eq.trans I_oR (Eq.trans (I_ne (fx_ne fx (by decide))) v11)) ?_
              refine r_iastore rfl (fx_t31 fx) (vp_ct (fx_n31 fx) (vp_in_nI (by have := i_eq ek5; have : (nI k5).toInt = ((k5 : Nat) : Int) := nI_toInt (by omega); have := i_rg d; have := i_nle c6; have : (24 : Int32).toInt = 24 := rfl; have := i_nlt c4; have : (0 : Int32).toInt = 0 := rfl; omega) (by omega))) ?_
              refine WR_h (h2 := sI (sR (sI h (ad 0) 6 0) (ad 1) k5 (some (mid t11))) (ad 31) k5 (nI t11)) (congrArg (fun z => sI (sR (sI h (ad 0) 6 0) (ad 1) k5 (some (mid t11))) (ad 31) z (nI t11)) ((nI_clamp (by have := i_eq ek5; have : (nI k5).toInt = ((k5 : Nat) : Int) := nI_toInt (by omega); have := i_rg d; have := i_nle c6; have : (24 : Int32).toInt = 24 := rfl; have := i_nlt c4; have : (0 : Int32).toInt = 0 := rfl; omega)) : _ = k5)) ?_
              refine r_aload rfl rfl ?_
              refine r_iload rfl rfl ?_
              refine r_if_eq (tg := 63) rfl rfl (fun _ => ?_) (fun q => absurd q (by decide))
              refine r_ic (x := 1) rfl rfl ?_
              refine r_cv (y := 154) (ra := [.int 1]) (rest := []) rfl ⟨⟨rfl, rfl⟩, rfl, by decide⟩ (fx_t30 fx) rfl rfl (Nat.le_of_ble_eq_true rfl) ?_
              refine in_154 (Nat.le_of_ble_eq_true rfl) ?_
              show WR _ cd_154 0 [some (.ref (ad 30)), some (.int 1)] [] (sI (sR (sI h (ad 0) 6 0) (ad 1) k5 (some (mid t11))) (ad 31) k5 (nI t11)) _
              refine r_aload rfl rfl ?_
              refine r_iload rfl rfl ?_
              refine r_ic (x := (-1)) rfl rfl ?_
              refine r_icmp_ge (tg := 10) rfl rfl (fun _ => ?_) (fun q => absurd q (by decide))
              refine r_ic (x := 0) rfl rfl ?_
              refine r_putI rfl ⟨rfl, rfl, rfl⟩ (fx_t30 fx) ?_
              refine r_iload rfl rfl ?_
              refine r_iret rfl ?_
              show WR _ cd_163 67 [some (.ref (ad 30)), some (.int c), some (.int d), some (.int 0)] [.int 1] (sI (sI (sR (sI h (ad 0) 6 0) (ad 1) k5 (some (mid t11))) (ad 31) k5 (nI t11)) (ad 30) 11 0) _
              refine r_iret rfl ?_
              have cg : Chg n ad [(30, 11), (0, 6)] [31, 1] h (sI (sI (sR (sI h (ad 0) 6 0) (ad 1) k5 (some (mid t11))) (ad 31) k5 (nI t11)) (ad 30) 11 0) := ((((Chg.rf.sI (fx_j fx0) (k := 6) (v := 0) (.inl (by decide))).sR (fx_j fx0) (k := k5) (v := some (mid t11)) (.inl (by decide))).row.sI (fx_j fx0) (k := k5) (v := nI t11) (.inl (by decide))).row.sI (fx_j fx0) (k := 11) (v := 0) (.inl (by decide)))
              refine ⟨rfl, ⟨mid, pa, np, FX.k fx0 cg.1 cg.2.1 cg.2.2 (by decide), Eq.trans (Eq.trans (I_ne (fx_ne fx (by decide))) (Eq.trans (I_ne (fx_ne fx (by decide))) (Eq.trans I_oR I_eq))) (Eq.symm I_eq), rt.k cg.2.1 (by decide), ra.k cg.2.1 (by decide), rp.k cg.2.1 (by decide), rf.k cg.2.1 (by decide), Rst.k fx0 rst cg.2.2, Ru.k fx0 ru cg.2.1 (by decide), ?_⟩, Nat.le_add_right _ _, Nat.le_add_right _ _⟩
              · refine Rs.cases rs (smS_of fx0 cg (by decide)) (fun c_ hc_ => ?_)
                by_cases e_ : c_ = k5
                · rw [e_]
                  exact .inl ⟨k2, (by have := i_eq ek2; have : (nI k2).toInt = ((k2 : Nat) : Int) := nI_toInt (by omega); have := i_rg c; have := i_nle c3; have : (24 : Int32).toInt = 24 := rfl; have := i_nlt c1; have : (0 : Int32).toInt = 0 := rfl; omega), Eq.trans (Eq.trans (I_ne (fx_ne fx (by decide))) I_eq) (Eq.symm v11), Eq.trans (Eq.trans R_oI (Eq.trans R_oI R_eq)) (Eq.symm w11)⟩
                · exact .inl ⟨c_, hc_, (Eq.trans (I_ne (fx_ne fx (by decide))) (Eq.trans (I_nk (by have := i_eq ek5; have : (nI k5).toInt = ((k5 : Nat) : Int) := nI_toInt (by omega); have := i_rg d; have := i_nle c6; have : (24 : Int32).toInt = 24 := rfl; have := i_nlt c4; have : (0 : Int32).toInt = 0 := rfl; omega)) (Eq.trans I_oR (I_ne (fx_ne fx (by decide)))))), (Eq.trans R_oI (Eq.trans R_oI (Eq.trans (R_nk (by have := i_eq ek5; have : (nI k5).toInt = ((k5 : Nat) : Int) := nI_toInt (by omega); have := i_rg d; have := i_nle c6; have : (24 : Int32).toInt = 24 := rfl; have := i_nlt c4; have : (0 : Int32).toInt = 0 := rfl; omega)) R_oI)))⟩
          · refine r_aaloadA (b := mid t7) rfl (isQ_of (fx_t1 fx) (by decide)) (vp_ct (fx_n1 fx) (vp_in_nI (by have := i_eq ek5; have : (nI k5).toInt = ((k5 : Nat) : Int) := nI_toInt (by omega); have := i_rg d; have := i_nle c6; have : (24 : Int32).toInt = 24 := rfl; have := i_nlt c4; have : (0 : Int32).toInt = 0 := rfl; omega) (by omega))) (Eq.trans (congrArg (hR (sI h (ad 0) 6 0) (ad 1)) ((nI_clamp (by have := i_eq ek5; have : (nI k5).toInt = ((k5 : Nat) : Int) := nI_toInt (by omega); have := i_rg d; have := i_nle c6; have : (24 : Int32).toInt = 24 := rfl; have := i_nlt c4; have : (0 : Int32).toInt = 0 := rfl; omega)) : _ = k5)) (Eq.trans R_oI w7)) ?_
            refine r_aload rfl rfl ?_
            refine r_getA (b := ad 1) rfl ⟨rfl, rfl, rfl⟩ (fx_t0 fx) (fx_r0_0 fx) ?_
            refine r_iload rfl rfl ?_
            refine WR_tI (y := nI k2) ek2 ?_
            rcases rs.cs (n := n) (sa := sa) (c := k2) (by have := i_eq ek2; have : (nI k2).toInt = ((k2 : Nat) : Int) := nI_toInt (by omega); have := i_rg c; have := i_nle c3; have : (24 : Int32).toInt = 24 := rfl; have := i_nlt c1; have : (0 : Int32).toInt = 0 := rfl; omega) with ⟨v15, w15⟩ | ⟨q15, kd15, hq15, hn15, v15, w15, dz15, tg15, s1_15, k1_15, k2_15, hk_15, we15⟩ | ⟨t15, ln15, sz15, ht15, v15, w15, dz15, tg15, r_15, tg2_15, l1_15, l2_15, hl_15, kd_15, n_15, sz_15, hs_15, al15, rw15⟩ | ⟨t15, sz15, ht15, v15, w15, dz15, tg15, r_15, tg2_15, k1_15, l2_15, k2_15, n_15, sz_15, hs_15, al15, rw15⟩ | ⟨t15, kd15, sz15, ht15, v15, w15, dz15, tg15, r_15, tg2_15, k1_15, l2_15, k2_15, hk_15, n_15, sz_15, hs_15, al15, rw15⟩
            · refine r_aaload0 rfl (isQ_of (fx_t1 fx) (by decide)) (vp_ct (fx_n1 fx) (vp_in_nI (by have := i_eq ek2; have : (nI k2).toInt = ((k2 : Nat) : Int) := nI_toInt (by omega); have := i_rg c; have := i_nle c3; have : (24 : Int32).toInt = 24 := rfl; have := i_nlt c1; have : (0 : Int32).toInt = 0 := rfl; omega) (by omega))) (Eq.trans (congrArg (hR (sI h (ad 0) 6 0) (ad 1)) ((nI_clamp (by have := i_eq ek2; have : (nI k2).toInt = ((k2 : Nat) : Int) := nI_toInt (by omega); have := i_rg c; have := i_nle c3; have : (24 : Int32).toInt = 24 := rfl; have := i_nlt c1; have : (0 : Int32).toInt = 0 := rfl; omega)) : _ = k2)) (Eq.trans R_oI w15)) ?_
              refine r_acmpAN_ne (tg := 43) rfl rfl ?_
              refine r_aload rfl rfl ?_
              refine r_getA (b := ad 1) rfl ⟨rfl, rfl, rfl⟩ (fx_t0 fx) (fx_r0_0 fx) ?_
              refine r_iload rfl rfl ?_
              refine WR_tI (y := nI k5) ek5 ?_
              refine r_aload rfl rfl ?_
              refine r_getA (b := ad 1) rfl ⟨rfl, rfl, rfl⟩ (fx_t0 fx) (fx_r0_0 fx) ?_
              refine r_iload rfl rfl ?_
              refine WR_tI (y := nI k2) ek2 ?_
              refine r_aaload0 rfl (isQ_of (fx_t1 fx) (by decide)) (vp_ct (fx_n1 fx) (vp_in_nI (by have := i_eq ek2; have : (nI k2).toInt = ((k2 : Nat) : Int) := nI_toInt (by omega); have := i_rg c; have := i_nle c3; have : (24 : Int32).toInt = 24 := rfl; have := i_nlt c1; have : (0 : Int32).toInt = 0 := rfl; omega) (by omega))) (Eq.trans (congrArg (hR (sI h (ad 0) 6 0) (ad 1)) ((nI_clamp (by have := i_eq ek2; have : (nI k2).toInt = ((k2 : Nat) : Int) := nI_toInt (by omega); have := i_rg c; have := i_nle c3; have : (24 : Int32).toInt = 24 := rfl; have := i_nlt c1; have : (0 : Int32).toInt = 0 := rfl; omega)) : _ = k2)) (Eq.trans R_oI w15)) ?_
              refine r_aastore0 rfl (isQ_of (fx_t1 fx) (by decide)) (vp_ct (fx_n1 fx) (vp_in_nI (by have := i_eq ek5; have : (nI k5).toInt = ((k5 : Nat) : Int) := nI_toInt (by omega); have := i_rg d; have := i_nle c6; have : (24 : Int32).toInt = 24 := rfl; have := i_nlt c4; have : (0 : Int32).toInt = 0 := rfl; omega) (by omega))) (fun _ q => by cases q) ?_
              refine WR_h (h2 := sR (sI h (ad 0) 6 0) (ad 1) k5 none) (congrArg (fun z => sR (sI h (ad 0) 6 0) (ad 1) z none) ((nI_clamp (by have := i_eq ek5; have : (nI k5).toInt = ((k5 : Nat) : Int) := nI_toInt (by omega); have := i_rg d; have := i_nle c6; have : (24 : Int32).toInt = 24 := rfl; have := i_nlt c4; have : (0 : Int32).toInt = 0 := rfl; omega)) : _ = k5)) ?_
              have fx : FX n ad sa z0 (sR (sI h (ad 0) 6 0) (ad 1) k5 none) := FX.sRA (i := 1) fx (.inl (by decide)) (by decide)
              refine r_ic (x := 1) rfl rfl ?_
              refine r_iret rfl ?_
              show EV _ 163 [.ref (ad 30), .int c, .int d] (sR (sI h (ad 0) 6 0) (ad 1) k5 none) _
              refine in_163 (Nat.le_of_ble_eq_true rfl) ?_
              show WR _ cd_163 0 [some (.ref (ad 30)), some (.int c), some (.int d), none] [] (sR (sI h (ad 0) 6 0) (ad 1) k5 none) _
              refine r_iload rfl rfl ?_
              refine WR_tI (y := nI k2) ek2 ?_
              refine r_cs (y := 153) (ra := [.int (nI k2)]) (rest := []) rfl ⟨⟨rfl, rfl⟩, by decide⟩ rfl rfl (Nat.le_of_ble_eq_true rfl) ?_
              refine in_153 (Nat.le_of_ble_eq_true rfl) ?_
              show WR _ cd_153 0 [some (.int (nI k2))] [] (sR (sI h (ad 0) 6 0) (ad 1) k5 none) _
              refine r_iload rfl rfl ?_
              refine r_if_lt (tg := 14) rfl rfl (fun q => False.elim (by have : (nI k2).toInt = ((k2 : Nat) : Int) := nI_toInt (by omega); have : (0 : Int32).toInt = 0 := rfl; have := i_eq ek2; have := i_rg c; have := i_nle c3; have : (24 : Int32).toInt = 24 := rfl; have := i_nlt c1; have := i_lt q; omega)) (fun _ => ?_)
              refine r_iload rfl rfl ?_
              refine r_ic (x := 24) rfl rfl ?_
              refine r_icmp_ge (tg := 14) rfl rfl (fun q => False.elim (by have : (nI k2).toInt = ((k2 : Nat) : Int) := nI_toInt (by omega); have : (24 : Int32).toInt = 24 := rfl; have := i_eq ek2; have := i_rg c; have := i_nle c3; have := i_nlt c1; have : (0 : Int32).toInt = 0 := rfl; have := i_le q; omega)) (fun _ => ?_)
              refine r_ic (x := 1) rfl rfl ?_
              refine r_goto (tg := 15) rfl rfl ?_
              refine r_zret rfl (.inr rfl) ?_
              show WR _ cd_163 4 [some (.ref (ad 30)), some (.int c), some (.int d), none] [.int 1] (sR (sI h (ad 0) 6 0) (ad 1) k5 none) _
              refine r_if_eq (tg := 14) rfl rfl (fun q => absurd q (by decide)) (fun _ => ?_)
              refine r_iload rfl rfl ?_
              refine WR_tI (y := nI k5) ek5 ?_
              refine r_cs (y := 153) (ra := [.int (nI k5)]) (rest := []) rfl ⟨⟨rfl, rfl⟩, by decide⟩ rfl rfl (Nat.le_of_ble_eq_true rfl) ?_
              refine in_153 (Nat.le_of_ble_eq_true rfl) ?_
              show WR _ cd_153 0 [some (.int (nI k5))] [] (sR (sI h (ad 0) 6 0) (ad 1) k5 none) _
              refine r_iload rfl rfl ?_
              refine r_if_lt (tg := 14) rfl rfl (fun q => False.elim (by have : (nI k5).toInt = ((k5 : Nat) : Int) := nI_toInt (by omega); have : (0 : Int32).toInt = 0 := rfl; have := i_eq ek5; have := i_rg d; have := i_nle c6; have : (24 : Int32).toInt = 24 := rfl; have := i_nlt c4; have := i_lt q; omega)) (fun _ => ?_)
              refine r_iload rfl rfl ?_
              refine r_ic (x := 24) rfl rfl ?_
              refine r_icmp_ge (tg := 14) rfl rfl (fun q => False.elim (by have : (nI k5).toInt = ((k5 : Nat) : Int) := nI_toInt (by omega); have : (24 : Int32).toInt = 24 := rfl; have := i_eq ek5; have := i_rg d; have := i_nle c6; have := i_nlt c4; have : (0 : Int32).toInt = 0 := rfl; have := i_le q; omega)) (fun _ => ?_)
              refine r_ic (x := 1) rfl rfl ?_
              refine r_goto (tg := 15) rfl rfl ?_
              refine r_zret rfl (.inr rfl) ?_
              show WR _ cd_163 11 [some (.ref (ad 30)), some (.int c), some (.int d), none] [.int 1] (sR (sI h (ad 0) 6 0) (ad 1) k5 none) _
              refine r_if_ne (tg := 21) rfl rfl (fun _ => ?_) (fun q => absurd q (by decide))
              refine r_aload rfl rfl ?_
              refine r_getA (b := ad 31) rfl ⟨rfl, rfl, rfl⟩ (fx_t30 fx) (fx_r30_0 fx) ?_
              refine r_iload rfl rfl ?_
              refine WR_tI (y := nI k5) ek5 ?_
              refine r_iaload rfl (.inl (fx_t31 fx)) (vp_ct (fx_n31 fx) (vp_in_nI (by have := i_eq ek5; have : (nI k5).toInt = ((k5 : Nat) : Int) := nI_toInt (by omega); have := i_rg d; have := i_nle c6; have : (24 : Int32).toInt = 24 := rfl; have := i_nlt c4; have : (0 : Int32).toInt = 0 := rfl; omega) (by omega))) ?_
              refine WR_tI (congrArg (hI (sR (sI h (ad 0) 6 0) (ad 1) k5 none) (ad 31)) ((nI_clamp (by have := i_eq ek5; have : (nI k5).toInt = ((k5 : Nat) : Int) := nI_toInt (by omega); have := i_rg d; have := i_nle c6; have : (24 : Int32).toInt = 24 := rfl; have := i_nlt c4; have : (0 : Int32).toInt = 0 := rfl; omega)) : _ = k5)) ?_
              refine WR_tI (y := nI t7) (Eq.trans I_oR (Eq.trans (I_ne (fx_ne fx (by decide))) v7)) ?_
              refine r_aload rfl rfl ?_
              refine r_getA (b := ad 31) rfl ⟨rfl, rfl, rfl⟩ (fx_t30 fx) (fx_r30_0 fx) ?_
              refine r_iload rfl rfl ?_
              refine WR_tI (y := nI k2) ek2 ?_
              refine r_iaload rfl (.inl (fx_t31 fx)) (vp_ct (fx_n31 fx) (vp_in_nI (by have := i_eq ek2; have : (nI k2).toInt = ((k2 : Nat) : Int) := nI_toInt (by omega); have := i_rg c; have := i_nle c3; have : (24 : Int32).toInt = 24 := rfl; have := i_nlt c1; have : (0 : Int32).toInt = 0 := rfl; omega) (by omega))) ?_
              refine WR_tI (congrArg (hI (sR (sI h (ad 0) 6 0) (ad 1) k5 none) (ad 31)) ((nI_clamp (by have := i_eq ek2; have : (nI k2).toInt = ((k2 : Nat) : Int) := nI_toInt (by omega); have := i_rg c; have := i_nle c3; have : (24 : Int32).toInt = 24 := rfl; have := i_nlt c1; have : (0 : Int32).toInt = 0 := rfl; omega)) : _ = k2)) ?_
              refine WR_tI (y := (-1)) (Eq.trans I_oR (Eq.trans (I_ne (fx_ne fx (by decide))) v15)) ?_
              refine r_icmp_ne (tg := 40) rfl rfl (fun _ => ?_) (fun q => False.elim (by have : (nI t7).toInt = ((t7 : Nat) : Int) := nI_toInt (by omega); have : (-1 : Int32).toInt = -1 := rfl; have := i_eq q; omega))
              refine r_ic (x := 0) rfl rfl ?_
              refine r_istore (lv' := [some (.ref (ad 30)), some (.int c), some (.int d), some (.int 0)]) rfl (Nat.le_of_ble_eq_true rfl) rfl ?_
              refine r_aload rfl rfl ?_
              refine r_getA (b := ad 31) rfl ⟨rfl, rfl, rfl⟩ (fx_t30 fx) (fx_r30_0 fx) ?_
              refine r_iload rfl rfl ?_
              refine WR_tI (y := nI k5) ek5 ?_
              refine r_aload rfl rfl ?_
              refine r_getA (b := ad 31) rfl ⟨rfl, rfl, rfl⟩ (fx_t30 fx) (fx_r30_0 fx) ?_
              refine r_iload rfl rfl ?_
              refine WR_tI (y := nI k2) ek2 ?_
              refine r_iaload rfl (.inl (fx_t31 fx)) (vp_ct (fx_n31 fx) (vp_in_nI (by have := i_eq ek2; have : (nI k2).toInt = ((k2 : Nat) : Int) := nI_toInt (by omega); have := i_rg c; have := i_nle c3; have : (24 : Int32).toInt = 24 := rfl; have := i_nlt c1; have : (0 : Int32).toInt = 0 := rfl; omega) (by omega))) ?_
              refine WR_tI (congrArg (hI (sR (sI h (ad 0) 6 0) (ad 1) k5 none) (ad 31)) ((nI_clamp (by have := i_eq ek2; have : (nI k2).toInt = ((k2 : Nat) : Int) := nI_toInt (by omega); have := i_rg c; have := i_nle c3; have : (24 : Int32).toInt = 24 := rfl; have := i_nlt c1; have : (0 : Int32).toInt = 0 := rfl; omega)) : _ = k2)) ?_
              refine WR_tI (y := (-1)) (Eq.trans I_oR (Eq.trans (I_ne (fx_ne fx (by decide))) v15)) ?_
              refine r_iastore rfl (fx_t31 fx) (vp_ct (fx_n31 fx) (vp_in_nI (by have := i_eq ek5; have : (nI k5).toInt = ((k5 : Nat) : Int) := nI_toInt (by omega); have := i_rg d; have := i_nle c6; have : (24 : Int32).toInt = 24 := rfl; have := i_nlt c4; have : (0 : Int32).toInt = 0 := rfl; omega) (by omega))) ?_
              refine WR_h (h2 := sI (sR (sI h (ad 0) 6 0) (ad 1) k5 none) (ad 31) k5 (-1)) (congrArg (fun z => sI (sR (sI h (ad 0) 6 0) (ad 1) k5 none) (ad 31) z (-1)) ((nI_clamp (by have := i_eq ek5; have : (nI k5).toInt = ((k5 : Nat) : Int) := nI_toInt (by omega); have := i_rg d; have := i_nle c6; have : (24 : Int32).toInt = 24 := rfl; have := i_nlt c4; have : (0 : Int32).toInt = 0 := rfl; omega)) : _ = k5)) ?_
              refine r_aload rfl rfl ?_
              refine r_iload rfl rfl ?_
              refine r_if_eq (tg := 63) rfl rfl (fun _ => ?_) (fun q => absurd q (by decide))
              refine r_ic (x := 1) rfl rfl ?_
              refine r_cv (y := 154) (ra := [.int 1]) (rest := []) rfl ⟨⟨rfl, rfl⟩, rfl, by decide⟩ (fx_t30 fx) rfl rfl (Nat.le_of_ble_eq_true rfl) ?_
              refine in_154 (Nat.le_of_ble_eq_true rfl) ?_
              show WR _ cd_154 0 [some (.ref (ad 30)), some (.int 1)] [] (sI (sR (sI h (ad 0) 6 0) (ad 1) k5 none) (ad 31) k5 (-1)) _
              refine r_aload rfl rfl ?_
              refine r_iload rfl rfl ?_
              refine r_ic (x := (-1)) rfl rfl ?_
              refine r_icmp_ge (tg := 10) rfl rfl (fun _ => ?_) (fun q => absurd q (by decide))
              refine r_ic (x := 0) rfl rfl ?_
              refine r_putI rfl ⟨rfl, rfl, rfl⟩ (fx_t30 fx) ?_
              refine r_iload rfl rfl ?_
              refine r_iret rfl ?_
              show WR _ cd_163 67 [some (.ref (ad 30)), some (.int c), some (.int d), some (.int 0)] [.int 1] (sI (sI (sR (sI h (ad 0) 6 0) (ad 1) k5 none) (ad 31) k5 (-1)) (ad 30) 11 0) _
              refine r_iret rfl ?_
              have cg : Chg n ad [(30, 11), (0, 6)] [31, 1] h (sI (sI (sR (sI h (ad 0) 6 0) (ad 1) k5 none) (ad 31) k5 (-1)) (ad 30) 11 0) := ((((Chg.rf.sI (fx_j fx0) (k := 6) (v := 0) (.inl (by decide))).sR (fx_j fx0) (k := k5) (v := none) (.inl (by decide))).row.sI (fx_j fx0) (k := k5) (v := (-1)) (.inl (by decide))).row.sI (fx_j fx0) (k := 11) (v := 0) (.inl (by decide)))
              refine ⟨rfl, ⟨mid, pa, np, FX.k fx0 cg.1 cg.2.1 cg.2.2 (by decide), Eq.trans (Eq.trans (I_ne (fx_ne fx (by decide))) (Eq.trans (I_ne (fx_ne fx (by decide))) (Eq.trans I_oR I_eq))) (Eq.symm I_eq), rt.k cg.2.1 (by decide), ra.k cg.2.1 (by decide), rp.k cg.2.1 (by decide), rf.k cg.2.1 (by decide), Rst.k fx0 rst cg.2.2, Ru.k fx0 ru cg.2.1 (by decide), ?_⟩, Nat.le_add_right _ _, Nat.le_add_right _ _⟩
              · refine Rs.cases rs (smS_of fx0 cg (by decide)) (fun c_ hc_ => ?_)
                by_cases e_ : c_ = k5
                · rw [e_]
                  exact .inr (.inl ⟨(Eq.trans (I_ne (fx_ne fx (by decide))) I_eq), (Eq.trans R_oI (Eq.trans R_oI R_eq))⟩)
                · exact .inl ⟨c_, hc_, (Eq.trans (I_ne (fx_ne fx (by decide))) (Eq.trans (I_nk (by have := i_eq ek5; have : (nI k5).toInt = ((k5 : Nat) : Int) := nI_toInt (by omega); have := i_rg d; have := i_nle c6; have : (24 : Int32).toInt = 24 := rfl; have := i_nlt c4; have : (0 : Int32).toInt = 0 := rfl; omega)) (Eq.trans I_oR (I_ne (fx_ne fx (by decide)))))), (Eq.trans R_oI (Eq.trans R_oI (Eq.trans (R_nk (by have := i_eq ek5; have : (nI k5).toInt = ((k5 : Nat) : Int) := nI_toInt (by omega); have := i_rg d; have := i_nle c6; have : (24 : Int32).toInt = 24 := rfl; have := i_nlt c4; have : (0 : Int32).toInt = 0 := rfl; omega)) R_oI)))⟩
            · refine r_aaloadA (b := pa q15) rfl (isQ_of (fx_t1 fx) (by decide)) (vp_ct (fx_n1 fx) (vp_in_nI (by have := i_eq ek2; have : (nI k2).toInt = ((k2 : Nat) : Int) := nI_toInt (by omega); have := i_rg c; have := i_nle c3; have : (24 : Int32).toInt = 24 := rfl; have := i_nlt c1; have : (0 : Int32).toInt = 0 := rfl; omega) (by omega))) (Eq.trans (congrArg (hR (sI h (ad 0) 6 0) (ad 1)) ((nI_clamp (by have := i_eq ek2; have : (nI k2).toInt = ((k2 : Nat) : Int) := nI_toInt (by omega); have := i_rg c; have := i_nle c3; have : (24 : Int32).toInt = 24 := rfl; have := i_nlt c1; have : (0 : Int32).toInt = 0 := rfl; omega)) : _ = k2)) (Eq.trans R_oI w15)) ?_
              refine r_acmpA_ne (tg := 43) rfl rfl (fun _ => ?_) (fun q => absurd q (fun e => by have q1 := tg7; have q2 := tg15; rw [e, q2] at q1; cases q1))
              refine r_aload rfl rfl ?_
              refine r_getA (b := ad 1) rfl ⟨rfl, rfl, rfl⟩ (fx_t0 fx) (fx_r0_0 fx) ?_
              refine r_iload rfl rfl ?_
              refine WR_tI (y := nI k5) ek5 ?_
              refine r_aload rfl rfl ?_
              refine r_getA (b := ad 1) rfl ⟨rfl, rfl, rfl⟩ (fx_t0 fx) (fx_r0_0 fx) ?_
              refine r_iload rfl rfl ?_
              refine WR_tI (y := nI k2) ek2 ?_
              refine r_aaloadA (b := pa q15) rfl (isQ_of (fx_t1 fx) (by decide)) (vp_ct (fx_n1 fx) (vp_in_nI (by have := i_eq ek2; have : (nI k2).toInt = ((k2 : Nat) : Int) := nI_toInt (by omega); have := i_rg c; have := i_nle c3; have : (24 : Int32).toInt = 24 := rfl; have := i_nlt c1; have : (0 : Int32).toInt = 0 := rfl; omega) (by omega))) (Eq.trans (congrArg (hR (sI h (ad 0) 6 0) (ad 1)) ((nI_clamp (by have := i_eq ek2; have : (nI k2).toInt = ((k2 : Nat) : Int) := nI_toInt (by omega); have := i_rg c; have := i_nle c3; have : (24 : Int32).toInt = 24 := rfl; have := i_nlt c1; have : (0 : Int32).toInt = 0 := rfl; omega)) : _ = k2)) (Eq.trans R_oI w15)) ?_
              refine r_aastoreA rfl (isQ_of (fx_t1 fx) (by decide)) (vp_ct (fx_n1 fx) (vp_in_nI (by have := i_eq ek5; have : (nI k5).toInt = ((k5 : Nat) : Int) := nI_toInt (by omega); have := i_rg d; have := i_nle c6; have : (24 : Int32).toInt = 24 := rfl; have := i_nlt c4; have : (0 : Int32).toInt = 0 := rfl; omega) (by omega))) (okR_of (fx_t1 fx) tg15 (by decide)) ?_
              refine WR_h (h2 := sR (sI h (ad 0) 6 0) (ad 1) k5 (some (pa q15))) (congrArg (fun z => sR (sI h (ad 0) 6 0) (ad 1) z (some (pa q15))) ((nI_clamp (by have := i_eq ek5; have : (nI k5).toInt = ((k5 : Nat) : Int) := nI_toInt (by omega); have := i_rg d; have := i_nle c6; have : (24 : Int32).toInt = 24 := rfl; have := i_nlt c4; have : (0 : Int32).toInt = 0 := rfl; omega)) : _ = k5)) ?_
              have fx : FX n ad sa z0 (sR (sI h (ad 0) 6 0) (ad 1) k5 (some (pa q15))) := FX.sRA (i := 1) fx (.inl (by decide)) (by decide)
              refine r_ic (x := 1) rfl rfl ?_
              refine r_iret rfl ?_
              show EV _ 163 [.ref (ad 30), .int c, .int d] (sR (sI h (ad 0) 6 0) (ad 1) k5 (some (pa q15))) _
              refine in_163 (Nat.le_of_ble_eq_true rfl) ?_
              show WR _ cd_163 0 [some (.ref (ad 30)), some (.int c), some (.int d), none] [] (sR (sI h (ad 0) 6 0) (ad 1) k5 (some (pa q15))) _
              refine r_iload rfl rfl ?_
              refine WR_tI (y := nI k2) ek2 ?_
              refine r_cs (y := 153) (ra := [.int (nI k2)]) (rest := []) rfl ⟨⟨rfl, rfl⟩, by decide⟩ rfl rfl (Nat.le_of_ble_eq_true rfl) ?_
              refine in_153 (Nat.le_of_ble_eq_true rfl) ?_
              show WR _ cd_153 0 [some (.int (nI k2))] [] (sR (sI h (ad 0) 6 0) (ad 1) k5 (some (pa q15))) _
              refine r_iload rfl rfl ?_
              refine r_if_lt (tg := 14) rfl rfl (fun q => False.elim (by have : (nI k2).toInt = ((k2 : Nat) : Int) := nI_toInt (by omega); have : (0 : Int32).toInt = 0 := rfl; have := i_eq ek2; have := i_rg c; have := i_nle c3; have : (24 : Int32).toInt = 24 := rfl; have := i_nlt c1; have := i_lt q; omega)) (fun _ => ?_)
              refine r_iload rfl rfl ?_
              refine r_ic (x := 24) rfl rfl ?_
              refine r_icmp_ge (tg := 14) rfl rfl (fun q => False.elim (by have : (nI k2).toInt = ((k2 : Nat) : Int) := nI_toInt (by omega); have : (24 : Int32).toInt = 24 := rfl; have := i_eq ek2; have := i_rg c; have := i_nle c3; have := i_nlt c1; have : (0 : Int32).toInt = 0 := rfl; have := i_le q; omega)) (fun _ => ?_)
              refine r_ic (x := 1) rfl rfl ?_
              refine r_goto (tg := 15) rfl rfl ?_
              refine r_zret rfl (.inr rfl) ?_
              show WR _ cd_163 4 [some (.ref (ad 30)), some (.int c), some (.int d), none] [.int 1] (sR (sI h (ad 0) 6 0) (ad 1) k5 (some (pa q15))) _
              refine r_if_eq (tg := 14) rfl rfl (fun q => absurd q (by decide)) (fun _ => ?_)
              refine r_iload rfl rfl ?_
              refine WR_tI (y := nI k5) ek5 ?_
              refine r_cs (y := 153) (ra := [.int (nI k5)]) (rest := []) rfl ⟨⟨rfl, rfl⟩, by decide⟩ rfl rfl (Nat.le_of_ble_eq_true rfl) ?_
              refine in_153 (Nat.le_of_ble_eq_true rfl) ?_
              show WR _ cd_153 0 [some (.int (nI k5))] [] (sR (sI h (ad 0) 6 0) (ad 1) k5 (some (pa q15))) _
              refine r_iload rfl rfl ?_
              refine r_if_lt (tg := 14) rfl rfl (fun q => False.elim (by have : (nI k5).toInt = ((k5 : Nat) : Int) := nI_toInt (by omega); have : (0 : Int32).toInt = 0 := rfl; have := i_eq ek5; have := i_rg d; have := i_nle c6; have : (24 : Int32).toInt = 24 := rfl; have := i_nlt c4; have := i_lt q; omega)) (fun _ => ?_)
              refine r_iload rfl rfl ?_
              refine r_ic (x := 24) rfl rfl ?_
              refine r_icmp_ge (tg := 14) rfl rfl (fun q => False.elim (by have : (nI k5).toInt = ((k5 : Nat) : Int) := nI_toInt (by omega); have : (24 : Int32).toInt = 24 := rfl; have := i_eq ek5; have := i_rg d; have := i_nle c6; have := i_nlt c4; have : (0 : Int32).toInt = 0 := rfl; have := i_le q; omega)) (fun _ => ?_)
              refine r_ic (x := 1) rfl rfl ?_
              refine r_goto (tg := 15) rfl rfl ?_
              refine r_zret rfl (.inr rfl) ?_
              show WR _ cd_163 11 [some (.ref (ad 30)), some (.int c), some (.int d), none] [.int 1] (sR (sI h (ad 0) 6 0) (ad 1) k5 (some (pa q15))) _
              refine r_if_ne (tg := 21) rfl rfl (fun _ => ?_) (fun q => absurd q (by decide))
              refine r_aload rfl rfl ?_
              refine r_getA (b := ad 31) rfl ⟨rfl, rfl, rfl⟩ (fx_t30 fx) (fx_r30_0 fx) ?_
              refine r_iload rfl rfl ?_
              refine WR_tI (y := nI k5) ek5 ?_
              refine r_iaload rfl (.inl (fx_t31 fx)) (vp_ct (fx_n31 fx) (vp_in_nI (by have := i_eq ek5; have : (nI k5).toInt = ((k5 : Nat) : Int) := nI_toInt (by omega); have := i_rg d; have := i_nle c6; have : (24 : Int32).toInt = 24 := rfl; have := i_nlt c4; have : (0 : Int32).toInt = 0 := rfl; omega) (by omega))) ?_
              refine WR_tI (congrArg (hI (sR (sI h (ad 0) 6 0) (ad 1) k5 (some (pa q15))) (ad 31)) ((nI_clamp (by have := i_eq ek5; have : (nI k5).toInt = ((k5 : Nat) : Int) := nI_toInt (by omega); have := i_rg d; have := i_nle c6; have : (24 : Int32).toInt = 24 := rfl; have := i_nlt c4; have : (0 : Int32).toInt = 0 := rfl; omega)) : _ = k5)) ?_
              refine WR_tI (y := nI t7) (Eq.trans I_oR (Eq.trans (I_ne (fx_ne fx (by decide))) v7)) ?_
              refine r_aload rfl rfl ?_
              refine r_getA (b := ad 31) rfl ⟨rfl, rfl, rfl⟩ (fx_t30 fx) (fx_r30_0 fx) ?_
              refine r_iload rfl rfl ?_
              refine WR_tI (y := nI k2) ek2 ?_
              refine r_iaload rfl (.inl (fx_t31 fx)) (vp_ct (fx_n31 fx) (vp_in_nI (by have := i_eq ek2; have : (nI k2).toInt = ((k2 : Nat) : Int) := nI_toInt (by omega); have := i_rg c; have := i_nle c3; have : (24 : Int32).toInt = 24 := rfl; have := i_nlt c1; have : (0 : Int32).toInt = 0 := rfl; omega) (by omega))) ?_
              refine WR_tI (congrArg (hI (sR (sI h (ad 0) 6 0) (ad 1) k5 (some (pa q15))) (ad 31)) ((nI_clamp (by have := i_eq ek2; have : (nI k2).toInt = ((k2 : Nat) : Int) := nI_toInt (by omega); have := i_rg c; have := i_nle c3; have : (24 : Int32).toInt = 24 := rfl; have := i_nlt c1; have : (0 : Int32).toInt = 0 := rfl; omega)) : _ = k2)) ?_
              refine WR_tI (y := nI (q15 + 1000)) (Eq.trans I_oR (Eq.trans (I_ne (fx_ne fx (by decide))) v15)) ?_
              refine r_icmp_ne (tg := 40) rfl rfl (fun _ => ?_) (fun q => False.elim (by have : (nI t7).toInt = ((t7 : Nat) : Int) := nI_toInt (by omega); have : (nI (q15 + 1000)).toInt = ((q15 + 1000 : Nat) : Int) := nI_toInt (by omega); have := i_eq q; omega))
              refine r_ic (x := 0) rfl rfl ?_
              refine r_istore (lv' := [some (.ref (ad 30)), some (.int c), some (.int d), some (.int 0)]) rfl (Nat.le_of_ble_eq_true rfl) rfl ?_
              refine r_aload rfl rfl ?_
              refine r_getA (b := ad 31) rfl ⟨rfl, rfl, rfl⟩ (fx_t30 fx) (fx_r30_0 fx) ?_
              refine r_iload rfl rfl ?_
              refine WR_tI (y := nI k5) ek5 ?_
              refine r_aload rfl rfl ?_
              refine r_getA (b := ad 31) rfl ⟨rfl, rfl, rfl⟩ (fx_t30 fx) (fx_r30_0 fx) ?_
              refine r_iload rfl rfl ?_
              refine WR_tI (y := nI k2) ek2 ?_
              refine r_iaload rfl (.inl (fx_t31 fx)) (vp_ct (fx_n31 fx) (vp_in_nI (by have := i_eq ek2; have : (nI k2).toInt = ((k2 : Nat) : Int) := nI_toInt (by omega); have := i_rg c; have := i_nle c3; have : (24 : Int32).toInt = 24 := rfl; have := i_nlt c1; have : (0 : Int32).toInt = 0 := rfl; omega) (by omega))) ?_
              refine WR_tI (congrArg (hI (sR (sI h (ad 0) 6 0) (ad 1) k5 (some (pa q15))) (ad 31)) ((nI_clamp (by have := i_eq ek2; have : (nI k2).toInt = ((k2 : Nat) : Int) := nI_toInt (by omega); have := i_rg c; have := i_nle c3; have : (24 : Int32).toInt = 24 := rfl; have := i_nlt c1; have : (0 : Int32).toInt = 0 := rfl; omega)) : _ = k2)) ?_
              refine WR_tI (y := nI (q15 + 1000)) (Eq.trans I_oR (Eq.trans (I_ne (fx_ne fx (by decide))) v15)) ?_
              refine r_iastore rfl (fx_t31 fx) (vp_ct (fx_n31 fx) (vp_in_nI (by have := i_eq ek5; have : (nI k5).toInt = ((k5 : Nat) : Int) := nI_toInt (by omega); have := i_rg d; have := i_nle c6; have : (24 : Int32).toInt = 24 := rfl; have := i_nlt c4; have : (0 : Int32).toInt = 0 := rfl; omega) (by omega))) ?_
              refine WR_h (h2 := sI (sR (sI h (ad 0) 6 0) (ad 1) k5 (some (pa q15))) (ad 31) k5 (nI (q15 + 1000))) (congrArg (fun z => sI (sR (sI h (ad 0) 6 0) (ad 1) k5 (some (pa q15))) (ad 31) z (nI (q15 + 1000))) ((nI_clamp (by have := i_eq ek5; have : (nI k5).toInt = ((k5 : Nat) : Int) := nI_toInt (by omega); have := i_rg d; have := i_nle c6; have : (24 : Int32).toInt = 24 := rfl; have := i_nlt c4; have : (0 : Int32).toInt = 0 := rfl; omega)) : _ = k5)) ?_
              refine r_aload rfl rfl ?_
              refine r_iload rfl rfl ?_
              refine r_if_eq (tg := 63) rfl rfl (fun _ => ?_) (fun q => absurd q (by decide))
              refine r_ic (x := 1) rfl rfl ?_
              refine r_cv (y := 154) (ra := [.int 1]) (rest := []) rfl ⟨⟨rfl, rfl⟩, rfl, by decide⟩ (fx_t30 fx) rfl rfl (Nat.le_of_ble_eq_true rfl) ?_
              refine in_154 (Nat.le_of_ble_eq_true rfl) ?_
              show WR _ cd_154 0 [some (.ref (ad 30)), some (.int 1)] [] (sI (sR (sI h (ad 0) 6 0) (ad 1) k5 (some (pa q15))) (ad 31) k5 (nI (q15 + 1000))) _
              refine r_aload rfl rfl ?_
              refine r_iload rfl rfl ?_
              refine r_ic (x := (-1)) rfl rfl ?_
              refine r_icmp_ge (tg := 10) rfl rfl (fun _ => ?_) (fun q => absurd q (by decide))
              refine r_ic (x := 0) rfl rfl ?_
              refine r_putI rfl ⟨rfl, rfl, rfl⟩ (fx_t30 fx) ?_
              refine r_iload rfl rfl ?_
              refine r_iret rfl ?_
              show WR _ cd_163 67 [some (.ref (ad 30)), some (.int c), some (.int d), some (.int 0)] [.int 1] (sI (sI (sR (sI h (ad 0) 6 0) (ad 1) k5 (some (pa q15))) (ad 31) k5 (nI (q15 + 1000))) (ad 30) 11 0) _
              refine r_iret rfl ?_
              have cg : Chg n ad [(30, 11), (0, 6)] [31, 1] h (sI (sI (sR (sI h (ad 0) 6 0) (ad 1) k5 (some (pa q15))) (ad 31) k5 (nI (q15 + 1000))) (ad 30) 11 0) := ((((Chg.rf.sI (fx_j fx0) (k := 6) (v := 0) (.inl (by decide))).sR (fx_j fx0) (k := k5) (v := some (pa q15)) (.inl (by decide))).row.sI (fx_j fx0) (k := k5) (v := nI (q15 + 1000)) (.inl (by decide))).row.sI (fx_j fx0) (k := 11) (v := 0) (.inl (by decide)))
              refine ⟨rfl, ⟨mid, pa, np, FX.k fx0 cg.1 cg.2.1 cg.2.2 (by decide), Eq.trans (Eq.trans (I_ne (fx_ne fx (by decide))) (Eq.trans (I_ne (fx_ne fx (by decide))) (Eq.trans I_oR I_eq))) (Eq.symm I_eq), rt.k cg.2.1 (by decide), ra.k cg.2.1 (by decide), rp.k cg.2.1 (by decide), rf.k cg.2.1 (by decide), Rst.k fx0 rst cg.2.2, Ru.k fx0 ru cg.2.1 (by decide), ?_⟩, Nat.le_add_right _ _, Nat.le_add_right _ _⟩
              · refine Rs.cases rs (smS_of fx0 cg (by decide)) (fun c_ hc_ => ?_)
                by_cases e_ : c_ = k5
                · rw [e_]
                  exact .inl ⟨k2, (by have := i_eq ek2; have : (nI k2).toInt = ((k2 : Nat) : Int) := nI_toInt (by omega); have := i_rg c; have := i_nle c3; have : (24 : Int32).toInt = 24 := rfl; have := i_nlt c1; have : (0 : Int32).toInt = 0 := rfl; omega), Eq.trans (Eq.trans (I_ne (fx_ne fx (by decide))) I_eq) (Eq.symm v15), Eq.trans (Eq.trans R_oI (Eq.trans R_oI R_eq)) (Eq.symm w15)⟩
                · exact .inl ⟨c_, hc_, (Eq.trans (I_ne (fx_ne fx (by decide))) (Eq.trans (I_nk (by have := i_eq ek5; have : (nI k5).toInt = ((k5 : Nat) : Int) := nI_toInt (by omega); have := i_rg d; have := i_nle c6; have : (24 : Int32).toInt = 24 := rfl; have := i_nlt c4; have : (0 : Int32).toInt = 0 := rfl; omega)) (Eq.trans I_oR (I_ne (fx_ne fx (by decide)))))), (Eq.trans R_oI (Eq.trans R_oI (Eq.trans (R_nk (by have := i_eq ek5; have : (nI k5).toInt = ((k5 : Nat) : Int) := nI_toInt (by omega); have := i_rg d; have := i_nle c6; have : (24 : Int32).toInt = 24 := rfl; have := i_nlt c4; have : (0 : Int32).toInt = 0 := rfl; omega)) R_oI)))⟩
            · refine r_aaloadA (b := mid t15) rfl (isQ_of (fx_t1 fx) (by decide)) (vp_ct (fx_n1 fx) (vp_in_nI (by have := i_eq ek2; have : (nI k2).toInt = ((k2 : Nat) : Int) := nI_toInt (by omega); have := i_rg c; have := i_nle c3; have : (24 : Int32).toInt = 24 := rfl; have := i_nlt c1; have : (0 : Int32).toInt = 0 := rfl; omega) (by omega))) (Eq.trans (congrArg (hR (sI h (ad 0) 6 0) (ad 1)) ((nI_clamp (by have := i_eq ek2; have : (nI k2).toInt = ((k2 : Nat) : Int) := nI_toInt (by omega); have := i_rg c; have := i_nle c3; have : (24 : Int32).toInt = 24 := rfl; have := i_nlt c1; have : (0 : Int32).toInt = 0 := rfl; omega)) : _ = k2)) (Eq.trans R_oI w15)) ?_
              have c16e : ¬ t7 = t15 := fun e => by have q1 := tg7; have q2 := tg15; rw [e, q2] at q1; cases q1
              refine r_acmpA_ne (tg := 43) rfl rfl (fun _ => ?_) (fun q => absurd q (fun e => by have q1 := tg7; have q2 := tg15; rw [e, q2] at q1; cases q1))
              refine r_aload rfl rfl ?_
              refine r_getA (b := ad 1) rfl ⟨rfl, rfl, rfl⟩ (fx_t0 fx) (fx_r0_0 fx) ?_
              refine r_iload rfl rfl ?_
              refine WR_tI (y := nI k5) ek5 ?_
              refine r_aload rfl rfl ?_
              refine r_getA (b := ad 1) rfl ⟨rfl, rfl, rfl⟩ (fx_t0 fx) (fx_r0_0 fx) ?_
              refine r_iload rfl rfl ?_
              refine WR_tI (y := nI k2) ek2 ?_
              refine r_aaloadA (b := mid t15) rfl (isQ_of (fx_t1 fx) (by decide)) (vp_ct (fx_n1 fx) (vp_in_nI (by have := i_eq ek2; have : (nI k2).toInt = ((k2 : Nat) : Int) := nI_toInt (by omega); have := i_rg c; have := i_nle c3; have : (24 : Int32).toInt = 24 := rfl; have := i_nlt c1; have : (0 : Int32).toInt = 0 := rfl; omega) (by omega))) (Eq.trans (congrArg (hR (sI h (ad 0) 6 0) (ad 1)) ((nI_clamp (by have := i_eq ek2; have : (nI k2).toInt = ((k2 : Nat) : Int) := nI_toInt (by omega); have := i_rg c; have := i_nle c3; have : (24 : Int32).toInt = 24 := rfl; have := i_nlt c1; have : (0 : Int32).toInt = 0 := rfl; omega)) : _ = k2)) (Eq.trans R_oI w15)) ?_
              refine r_aastoreA rfl (isQ_of (fx_t1 fx) (by decide)) (vp_ct (fx_n1 fx) (vp_in_nI (by have := i_eq ek5; have : (nI k5).toInt = ((k5 : Nat) : Int) := nI_toInt (by omega); have := i_rg d; have := i_nle c6; have : (24 : Int32).toInt = 24 := rfl; have := i_nlt c4; have : (0 : Int32).toInt = 0 := rfl; omega) (by omega))) (okR_of (fx_t1 fx) tg15 (by decide)) ?_
              refine WR_h (h2 := sR (sI h (ad 0) 6 0) (ad 1) k5 (some (mid t15))) (congrArg (fun z => sR (sI h (ad 0) 6 0) (ad 1) z (some (mid t15))) ((nI_clamp (by have := i_eq ek5; have : (nI k5).toInt = ((k5 : Nat) : Int) := nI_toInt (by omega); have := i_rg d; have := i_nle c6; have : (24 : Int32).toInt = 24 := rfl; have := i_nlt c4; have : (0 : Int32).toInt = 0 := rfl; omega)) : _ = k5)) ?_
              have fx : FX n ad sa z0 (sR (sI h (ad 0) 6 0) (ad 1) k5 (some (mid t15))) := FX.sRA (i := 1) fx (.inl (by decide)) (by decide)
              refine r_ic (x := 1) rfl rfl ?_
              refine r_iret rfl ?_
              show EV _ 163 [.ref (ad 30), .int c, .int d] (sR (sI h (ad 0) 6 0) (ad 1) k5 (some (mid t15))) _
              refine in_163 (Nat.le_of_ble_eq_true rfl) ?_
              show WR _ cd_163 0 [some (.ref (ad 30)), some (.int c), some (.int d), none] [] (sR (sI h (ad 0) 6 0) (ad 1) k5 (some (mid t15))) _
              refine r_iload rfl rfl ?_
              refine WR_tI (y := nI k2) ek2 ?_
              refine r_cs (y := 153) (ra := [.int (nI k2)]) (rest := []) rfl ⟨⟨rfl, rfl⟩, by decide⟩ rfl rfl (Nat.le_of_ble_eq_true rfl) ?_
              refine in_153 (Nat.le_of_ble_eq_true rfl) ?_
              show WR _ cd_153 0 [some (.int (nI k2))] [] (sR (sI h (ad 0) 6 0) (ad 1) k5 (some (mid t15))) _
              refine r_iload rfl rfl ?_
              refine r_if_lt (tg := 14) rfl rfl (fun q => False.elim (by have : (nI k2).toInt = ((k2 : Nat) : Int) := nI_toInt (by omega); have : (0 : Int32).toInt = 0 := rfl; have := i_eq ek2; have := i_rg c; have := i_nle c3; have : (24 : Int32).toInt = 24 := rfl; have := i_nlt c1; have := i_lt q; omega)) (fun _ => ?_)
              refine r_iload rfl rfl ?_
              refine r_ic (x := 24) rfl rfl ?_
              refine r_icmp_ge (tg := 14) rfl rfl (fun q => False.elim (by have : (nI k2).toInt = ((k2 : Nat) : Int) := nI_toInt (by omega); have : (24 : Int32).toInt = 24 := rfl; have := i_eq ek2; have := i_rg c; have := i_nle c3; have := i_nlt c1; have : (0 : Int32).toInt = 0 := rfl; have := i_le q; omega)) (fun _ => ?_)
              refine r_ic (x := 1) rfl rfl ?_
              refine r_goto (tg := 15) rfl rfl ?_
              refine r_zret rfl (.inr rfl) ?_
              show WR _ cd_163 4 [some (.ref (ad 30)), some (.int c), some (.int d), none] [.int 1] (sR (sI h (ad 0) 6 0) (ad 1) k5 (some (mid t15))) _
              refine r_if_eq (tg := 14) rfl rfl (fun q => absurd q (by decide)) (fun _ => ?_)
              refine r_iload rfl rfl ?_
              refine WR_tI (y := nI k5) ek5 ?_
              refine r_cs (y := 153) (ra := [.int (nI k5)]) (rest := []) rfl ⟨⟨rfl, rfl⟩, by decide⟩ rfl rfl (Nat.le_of_ble_eq_true rfl) ?_
              refine in_153 (Nat.le_of_ble_eq_true rfl) ?_
              show WR _ cd_153 0 [some (.int (nI k5))] [] (sR (sI h (ad 0) 6 0) (ad 1) k5 (some (mid t15))) _
              refine r_iload rfl rfl ?_
              refine r_if_lt (tg := 14) rfl rfl (fun q => False.elim (by have : (nI k5).toInt = ((k5 : Nat) : Int) := nI_toInt (by omega); have : (0 : Int32).toInt = 0 := rfl; have := i_eq ek5; have := i_rg d; have := i_nle c6; have : (24 : Int32).toInt = 24 := rfl; have := i_nlt c4; have := i_lt q; omega)) (fun _ => ?_)
              refine r_iload rfl rfl ?_
              refine r_ic (x := 24) rfl rfl ?_
              refine r_icmp_ge (tg := 14) rfl rfl (fun q => False.elim (by have : (nI k5).toInt = ((k5 : Nat) : Int) := nI_toInt (by omega); have : (24 : Int32).toInt = 24 := rfl; have := i_eq ek5; have := i_rg d; have := i_nle c6; have := i_nlt c4; have : (0 : Int32).toInt = 0 := rfl; have := i_le q; omega)) (fun _ => ?_)
              refine r_ic (x := 1) rfl rfl ?_
              refine r_goto (tg := 15) rfl rfl ?_
              refine r_zret rfl (.inr rfl) ?_
              show WR _ cd_163 11 [some (.ref (ad 30)), some (.int c), some (.int d), none] [.int 1] (sR (sI h (ad 0) 6 0) (ad 1) k5 (some (mid t15))) _
              refine r_if_ne (tg := 21) rfl rfl (fun _ => ?_) (fun q => absurd q (by decide))
              refine r_aload rfl rfl ?_
              refine r_getA (b := ad 31) rfl ⟨rfl, rfl, rfl⟩ (fx_t30 fx) (fx_r30_0 fx) ?_
              refine r_iload rfl rfl ?_
              refine WR_tI (y := nI k5) ek5 ?_
              refine r_iaload rfl (.inl (fx_t31 fx)) (vp_ct (fx_n31 fx) (vp_in_nI (by have := i_eq ek5; have : (nI k5).toInt = ((k5 : Nat) : Int) := nI_toInt (by omega); have := i_rg d; have := i_nle c6; have : (24 : Int32).toInt = 24 := rfl; have := i_nlt c4; have : (0 : Int32).toInt = 0 := rfl; omega) (by omega))) ?_
              refine WR_tI (congrArg (hI (sR (sI h (ad 0) 6 0) (ad 1) k5 (some (mid t15))) (ad 31)) ((nI_clamp (by have := i_eq ek5; have : (nI k5).toInt = ((k5 : Nat) : Int) := nI_toInt (by omega); have := i_rg d; have := i_nle c6; have : (24 : Int32).toInt = 24 := rfl; have := i_nlt c4; have : (0 : Int32).toInt = 0 := rfl; omega)) : _ = k5)) ?_
              refine WR_tI (y := nI t7) (Eq.trans I_oR (Eq.trans (I_ne (fx_ne fx (by decide))) v7)) ?_
              refine r_aload rfl rfl ?_
              refine r_getA (b := ad 31) rfl ⟨rfl, rfl, rfl⟩ (fx_t30 fx) (fx_r30_0 fx) ?_
              refine r_iload rfl rfl ?_
              refine WR_tI (y := nI k2) ek2 ?_
              refine r_iaload rfl (.inl (fx_t31 fx)) (vp_ct (fx_n31 fx) (vp_in_nI (by have := i_eq ek2; have : (nI k2).toInt = ((k2 : Nat) : Int) := nI_toInt (by omega); have := i_rg c; have := i_nle c3; have : (24 : Int32).toInt = 24 := rfl; have := i_nlt c1; have : (0 : Int32).toInt = 0 := rfl; omega) (by omega))) ?_
              refine WR_tI (congrArg (hI (sR (sI h (ad 0) 6 0) (ad 1) k5 (some (mid t15))) (ad 31)) ((nI_clamp (by have := i_eq ek2; have : (nI k2).toInt = ((k2 : Nat) : Int) := nI_toInt (by omega); have := i_rg c; have := i_nle c3; have : (24 : Int32).toInt = 24 := rfl; have := i_nlt c1; have : (0 : Int32).toInt = 0 := rfl; omega)) : _ = k2)) ?_
              refine WR_tI (y := nI t15) (Eq.trans I_oR (Eq.trans (I_ne (fx_ne fx (by decide))) v15)) ?_
              refine r_icmp_ne (tg := 40) rfl rfl (fun _ => ?_) (fun q => False.elim (by have : (nI t7).toInt = ((t7 : Nat) : Int) := nI_toInt (by omega); have : (nI t15).toInt = ((t15 : Nat) : Int) := nI_toInt (by omega); have := i_eq q; omega))
              refine r_ic (x := 0) rfl rfl ?_
              refine r_istore (lv' := [some (.ref (ad 30)), some (.int c), some (.int d), some (.int 0)]) rfl (Nat.le_of_ble_eq_true rfl) rfl ?_
              refine r_aload rfl rfl ?_
              refine r_getA (b := ad 31) rfl ⟨rfl, rfl, rfl⟩ (fx_t30 fx) (fx_r30_0 fx) ?_
              refine r_iload rfl rfl ?_
              refine WR_tI (y := nI k5) ek5 ?_
              refine r_aload rfl rfl ?_
              refine r_getA (b := ad 31) rfl ⟨rfl, rfl, rfl⟩ (fx_t30 fx) (fx_r30_0 fx) ?_
              refine r_iload rfl rfl ?_
              refine WR_tI (y := nI k2) ek2 ?_
              refine r_iaload rfl (.inl (fx_t31 fx)) (vp_ct (fx_n31 fx) (vp_in_nI (by have := i_eq ek2; have : (nI k2).toInt = ((k2 : Nat) : Int) := nI_toInt (by omega); have := i_rg c; have := i_nle c3; have : (24 : Int32).toInt = 24 := rfl; have := i_nlt c1; have : (0 : Int32).toInt = 0 := rfl; omega) (by omega))) ?_
              refine WR_tI (congrArg (hI (sR (sI h (ad 0) 6 0) (ad 1) k5 (some (mid t15))) (ad 31)) ((nI_clamp (by have := i_eq ek2; have : (nI k2).toInt = ((k2 : Nat) : Int) := nI_toInt (by omega); have := i_rg c; have := i_nle c3; have : (24 : Int32).toInt = 24 := rfl; have := i_nlt c1; have : (0 : Int32).toInt = 0 := rfl; omega)) : _ = k2)) ?_
              refine WR_tI (y := nI t15) (Eq.trans I_oR (Eq.trans (I_ne (fx_ne fx (by decide))) v15)) ?_
              refine r_iastore rfl (fx_t31 fx) (vp_ct (fx_n31 fx) (vp_in_nI (by have := i_eq ek5; have : (nI k5).toInt = ((k5 : Nat) : Int) := nI_toInt (by omega); have := i_rg d; have := i_nle c6; have : (24 : Int32).toInt = 24 := rfl; have := i_nlt c4; have : (0 : Int32).toInt = 0 := rfl; omega) (by omega))) ?_
              refine WR_h (h2 := sI (sR (sI h (ad 0) 6 0) (ad 1) k5 (some (mid t15))) (ad 31) k5 (nI t15)) (congrArg (fun z => sI (sR (sI h (ad 0) 6 0) (ad 1) k5 (some (mid t15))) (ad 31) z (nI t15)) ((nI_clamp (by have := i_eq ek5; have : (nI k5).toInt = ((k5 : Nat) : Int) := nI_toInt (by omega); have := i_rg d; have := i_nle c6; have : (24 : Int32).toInt = 24 := rfl; have := i_nlt c4; have : (0 : Int32).toInt = 0 := rfl; omega)) : _ = k5)) ?_
              refine r_aload rfl rfl ?_
              refine r_iload rfl rfl ?_
              refine r_if_eq (tg := 63) rfl rfl (fun _ => ?_) (fun q => absurd q (by decide))
              refine r_ic (x := 1) rfl rfl ?_
              refine r_cv (y := 154) (ra := [.int 1]) (rest := []) rfl ⟨⟨rfl, rfl⟩, rfl, by decide⟩ (fx_t30 fx) rfl rfl (Nat.le_of_ble_eq_true rfl) ?_
              refine in_154 (Nat.le_of_ble_eq_true rfl) ?_
              show WR _ cd_154 0 [some (.ref (ad 30)), some (.int 1)] [] (sI (sR (sI h (ad 0) 6 0) (ad 1) k5 (some (mid t15))) (ad 31) k5 (nI t15)) _
              refine r_aload rfl rfl ?_
              refine r_iload rfl rfl ?_
              refine r_ic (x := (-1)) rfl rfl ?_
              refine r_icmp_ge (tg := 10) rfl rfl (fun _ => ?_) (fun q => absurd q (by decide))
              refine r_ic (x := 0) rfl rfl ?_
              refine r_putI rfl ⟨rfl, rfl, rfl⟩ (fx_t30 fx) ?_
              refine r_iload rfl rfl ?_
              refine r_iret rfl ?_
              show WR _ cd_163 67 [some (.ref (ad 30)), some (.int c), some (.int d), some (.int 0)] [.int 1] (sI (sI (sR (sI h (ad 0) 6 0) (ad 1) k5 (some (mid t15))) (ad 31) k5 (nI t15)) (ad 30) 11 0) _
              refine r_iret rfl ?_
              have cg : Chg n ad [(30, 11), (0, 6)] [31, 1] h (sI (sI (sR (sI h (ad 0) 6 0) (ad 1) k5 (some (mid t15))) (ad 31) k5 (nI t15)) (ad 30) 11 0) := ((((Chg.rf.sI (fx_j fx0) (k := 6) (v := 0) (.inl (by decide))).sR (fx_j fx0) (k := k5) (v := some (mid t15)) (.inl (by decide))).row.sI (fx_j fx0) (k := k5) (v := nI t15) (.inl (by decide))).row.sI (fx_j fx0) (k := 11) (v := 0) (.inl (by decide)))
              refine ⟨rfl, ⟨mid, pa, np, FX.k fx0 cg.1 cg.2.1 cg.2.2 (by decide), Eq.trans (Eq.trans (I_ne (fx_ne fx (by decide))) (Eq.trans (I_ne (fx_ne fx (by decide))) (Eq.trans I_oR I_eq))) (Eq.symm I_eq), rt.k cg.2.1 (by decide), ra.k cg.2.1 (by decide), rp.k cg.2.1 (by decide), rf.k cg.2.1 (by decide), Rst.k fx0 rst cg.2.2, Ru.k fx0 ru cg.2.1 (by decide), ?_⟩, Nat.le_add_right _ _, Nat.le_add_right _ _⟩
              · refine Rs.cases rs (smS_of fx0 cg (by decide)) (fun c_ hc_ => ?_)
                by_cases e_ : c_ = k5
                · rw [e_]
                  exact .inl ⟨k2, (by have := i_eq ek2; have : (nI k2).toInt = ((k2 : Nat) : Int) := nI_toInt (by omega); have := i_rg c; have := i_nle c3; have : (24 : Int32).toInt = 24 := rfl; have := i_nlt c1; have : (0 : Int32).toInt = 0 := rfl; omega), Eq.trans (Eq.trans (I_ne (fx_ne fx (by decide))) I_eq) (Eq.symm v15), Eq.trans (Eq.trans R_oI (Eq.trans R_oI R_eq)) (Eq.symm w15)⟩
                · exact .inl ⟨c_, hc_, (Eq.trans (I_ne (fx_ne fx (by decide))) (Eq.trans (I_nk (by have := i_eq ek5; have : (nI k5).toInt = ((k5 : Nat) : Int) := nI_toInt (by omega); have := i_rg d; have := i_nle c6; have : (24 : Int32).toInt = 24 := rfl; have := i_nlt c4; have : (0 : Int32).toInt = 0 := rfl; omega)) (Eq.trans I_oR (I_ne (fx_ne fx (by decide)))))), (Eq.trans R_oI (Eq.trans R_oI (Eq.trans (R_nk (by have := i_eq ek5; have : (nI k5).toInt = ((k5 : Nat) : Int) := nI_toInt (by omega); have := i_rg d; have := i_nle c6; have : (24 : Int32).toInt = 24 := rfl; have := i_nlt c4; have : (0 : Int32).toInt = 0 := rfl; omega)) R_oI)))⟩
            · refine r_aaloadA (b := mid t15) rfl (isQ_of (fx_t1 fx) (by decide)) (vp_ct (fx_n1 fx) (vp_in_nI (by have := i_eq ek2; have : (nI k2).toInt = ((k2 : Nat) : Int) := nI_toInt (by omega); have := i_rg c; have := i_nle c3; have : (24 : Int32).toInt = 24 := rfl; have := i_nlt c1; have : (0 : Int32).toInt = 0 := rfl; omega) (by omega))) (Eq.trans (congrArg (hR (sI h (ad 0) 6 0) (ad 1)) ((nI_clamp (by have := i_eq ek2; have : (nI k2).toInt = ((k2 : Nat) : Int) := nI_toInt (by omega); have := i_rg c; have := i_nle c3; have : (24 : Int32).toInt = 24 := rfl; have := i_nlt c1; have : (0 : Int32).toInt = 0 := rfl; omega)) : _ = k2)) (Eq.trans R_oI w15)) ?_
              refine r_acmpA_ne (tg := 43) rfl rfl (fun c17 => ?_) (fun c17 => ?_)
              · have c17e : ¬ t7 = t15 := fun e => c17 (by rw [e])
                refine r_aload rfl rfl ?_
                refine r_getA (b := ad 1) rfl ⟨rfl, rfl, rfl⟩ (fx_t0 fx) (fx_r0_0 fx) ?_
                refine r_iload rfl rfl ?_
                refine WR_tI (y := nI k5) ek5 ?_
                refine r_aload rfl rfl ?_
                refine r_getA (b := ad 1) rfl ⟨rfl, rfl, rfl⟩ (fx_t0 fx) (fx_r0_0 fx) ?_
                refine r_iload rfl rfl ?_
                refine WR_tI (y := nI k2) ek2 ?_
                refine r_aaloadA (b := mid t15) rfl (isQ_of (fx_t1 fx) (by decide)) (vp_ct (fx_n1 fx) (vp_in_nI (by have := i_eq ek2; have : (nI k2).toInt = ((k2 : Nat) : Int) := nI_toInt (by omega); have := i_rg c; have := i_nle c3; have : (24 : Int32).toInt = 24 := rfl; have := i_nlt c1; have : (0 : Int32).toInt = 0 := rfl; omega) (by omega))) (Eq.trans (congrArg (hR (sI h (ad 0) 6 0) (ad 1)) ((nI_clamp (by have := i_eq ek2; have : (nI k2).toInt = ((k2 : Nat) : Int) := nI_toInt (by omega); have := i_rg c; have := i_nle c3; have : (24 : Int32).toInt = 24 := rfl; have := i_nlt c1; have : (0 : Int32).toInt = 0 := rfl; omega)) : _ = k2)) (Eq.trans R_oI w15)) ?_
                refine r_aastoreA rfl (isQ_of (fx_t1 fx) (by decide)) (vp_ct (fx_n1 fx) (vp_in_nI (by have := i_eq ek5; have : (nI k5).toInt = ((k5 : Nat) : Int) := nI_toInt (by omega); have := i_rg d; have := i_nle c6; have : (24 : Int32).toInt = 24 := rfl; have := i_nlt c4; have : (0 : Int32).toInt = 0 := rfl; omega) (by omega))) (okR_of (fx_t1 fx) tg15 (by decide)) ?_
                refine WR_h (h2 := sR (sI h (ad 0) 6 0) (ad 1) k5 (some (mid t15))) (congrArg (fun z => sR (sI h (ad 0) 6 0) (ad 1) z (some (mid t15))) ((nI_clamp (by have := i_eq ek5; have : (nI k5).toInt = ((k5 : Nat) : Int) := nI_toInt (by omega); have := i_rg d; have := i_nle c6; have : (24 : Int32).toInt = 24 := rfl; have := i_nlt c4; have : (0 : Int32).toInt = 0 := rfl; omega)) : _ = k5)) ?_
                have fx : FX n ad sa z0 (sR (sI h (ad 0) 6 0) (ad 1) k5 (some (mid t15))) := FX.sRA (i := 1) fx (.inl (by decide)) (by decide)
                refine r_ic (x := 1) rfl rfl ?_
                refine r_iret rfl ?_
                show EV _ 163 [.ref (ad 30), .int c, .int d] (sR (sI h (ad 0) 6 0) (ad 1) k5 (some (mid t15))) _
                refine in_163 (Nat.le_of_ble_eq_true rfl) ?_
                show WR _ cd_163 0 [some (.ref (ad 30)), some (.int c), some (.int d), none] [] (sR (sI h (ad 0) 6 0) (ad 1) k5 (some (mid t15))) _
                refine r_iload rfl rfl ?_
                refine WR_tI (y := nI k2) ek2 ?_
                refine r_cs (y := 153) (ra := [.int (nI k2)]) (rest := []) rfl ⟨⟨rfl, rfl⟩, by decide⟩ rfl rfl (Nat.le_of_ble_eq_true rfl) ?_
                refine in_153 (Nat.le_of_ble_eq_true rfl) ?_
                show WR _ cd_153 0 [some (.int (nI k2))] [] (sR (sI h (ad 0) 6 0) (ad 1) k5 (some (mid t15))) _
                refine r_iload rfl rfl ?_
                refine r_if_lt (tg := 14) rfl rfl (fun q => False.elim (by have : (nI k2).toInt = ((k2 : Nat) : Int) := nI_toInt (by omega); have : (0 : Int32).toInt = 0 := rfl; have := i_eq ek2; have := i_rg c; have := i_nle c3; have : (24 : Int32).toInt = 24 := rfl; have := i_nlt c1; have := i_lt q; omega)) (fun _ => ?_)
                refine r_iload rfl rfl ?_
                refine r_ic (x := 24) rfl rfl ?_
                refine r_icmp_ge (tg := 14) rfl rfl (fun q => False.elim (by have : (nI k2).toInt = ((k2 : Nat) : Int) := nI_toInt (by omega); have : (24 : Int32).toInt = 24 := rfl; have := i_eq ek2; have := i_rg c; have := i_nle c3; have := i_nlt c1; have : (0 : Int32).toInt = 0 := rfl; have := i_le q; omega)) (fun _ => ?_)
                refine r_ic (x := 1) rfl rfl ?_
                refine r_goto (tg := 15) rfl rfl ?_
                refine r_zret rfl (.inr rfl) ?_
                show WR _ cd_163 4 [some (.ref (ad 30)), some (.int c), some (.int d), none] [.int 1] (sR (sI h (ad 0) 6 0) (ad 1) k5 (some (mid t15))) _
                refine r_if_eq (tg := 14) rfl rfl (fun q => absurd q (by decide)) (fun _ => ?_)
                refine r_iload rfl rfl ?_
                refine WR_tI (y := nI k5) ek5 ?_
                refine r_cs (y := 153) (ra := [.int (nI k5)]) (rest := []) rfl ⟨⟨rfl, rfl⟩, by decide⟩ rfl rfl (Nat.le_of_ble_eq_true rfl) ?_
                refine in_153 (Nat.le_of_ble_eq_true rfl) ?_
                show WR _ cd_153 0 [some (.int (nI k5))] [] (sR (sI h (ad 0) 6 0) (ad 1) k5 (some (mid t15))) _
                refine r_iload rfl rfl ?_
                refine r_if_lt (tg := 14) rfl rfl (fun q => False.elim (by have : (nI k5).toInt = ((k5 : Nat) : Int) := nI_toInt (by omega); have : (0 : Int32).toInt = 0 := rfl; have := i_eq ek5; have := i_rg d; have := i_nle c6; have : (24 : Int32).toInt = 24 := rfl; have := i_nlt c4; have := i_lt q; omega)) (fun _ => ?_)
                refine r_iload rfl rfl ?_
                refine r_ic (x := 24) rfl rfl ?_
                refine r_icmp_ge (tg := 14) rfl rfl (fun q => False.elim (by have : (nI k5).toInt = ((k5 : Nat) : Int) := nI_toInt (by omega); have : (24 : Int32).toInt = 24 := rfl; have := i_eq ek5; have := i_rg d; have := i_nle c6; have := i_nlt c4; have : (0 : Int32).toInt = 0 := rfl; have := i_le q; omega)) (fun _ => ?_)
                refine r_ic (x := 1) rfl rfl ?_
                refine r_goto (tg := 15) rfl rfl ?_
                refine r_zret rfl (.inr rfl) ?_
                show WR _ cd_163 11 [some (.ref (ad 30)), some (.int c), some (.int d), none] [.int 1] (sR (sI h (ad 0) 6 0) (ad 1) k5 (some (mid t15))) _
                refine r_if_ne (tg := 21) rfl rfl (fun _ => ?_) (fun q => absurd q (by decide))
                refine r_aload rfl rfl ?_
                refine r_getA (b := ad 31) rfl ⟨rfl, rfl, rfl⟩ (fx_t30 fx) (fx_r30_0 fx) ?_
                refine r_iload rfl rfl ?_
                refine WR_tI (y := nI k5) ek5 ?_
                refine r_iaload rfl (.inl (fx_t31 fx)) (vp_ct (fx_n31 fx) (vp_in_nI (by have := i_eq ek5; have : (nI k5).toInt = ((k5 : Nat) : Int) := nI_toInt (by omega); have := i_rg d; have := i_nle c6; have : (24 : Int32).toInt = 24 := rfl; have := i_nlt c4; have : (0 : Int32).toInt = 0 := rfl; omega) (by omega))) ?_
                refine WR_tI (congrArg (hI (sR (sI h (ad 0) 6 0) (ad 1) k5 (some (mid t15))) (ad 31)) ((nI_clamp (by have := i_eq ek5; have : (nI k5).toInt = ((k5 : Nat) : Int) := nI_toInt (by omega); have := i_rg d; have := i_nle c6; have : (24 : Int32).toInt = 24 := rfl; have := i_nlt c4; have : (0 : Int32).toInt = 0 := rfl; omega)) : _ = k5)) ?_
                refine WR_tI (y := nI t7) (Eq.trans I_oR (Eq.trans (I_ne (fx_ne fx (by decide))) v7)) ?_
                refine r_aload rfl rfl ?_
                refine r_getA (b := ad 31) rfl ⟨rfl, rfl, rfl⟩ (fx_t30 fx) (fx_r30_0 fx) ?_
                refine r_iload rfl rfl ?_
                refine WR_tI (y := nI k2) ek2 ?_
                refine r_iaload rfl (.inl (fx_t31 fx)) (vp_ct (fx_n31 fx) (vp_in_nI (by have := i_eq ek2; have : (nI k2).toInt = ((k2 : Nat) : Int) := nI_toInt (by omega); have := i_rg c; have := i_nle c3; have : (24 : Int32).toInt = 24 := rfl; have := i_nlt c1; have : (0 : Int32).toInt = 0 := rfl; omega) (by omega))) ?_
                refine WR_tI (congrArg (hI (sR (sI h (ad 0) 6 0) (ad 1) k5 (some (mid t15))) (ad 31)) ((nI_clamp (by have := i_eq ek2; have : (nI k2).toInt = ((k2 : Nat) : Int) := nI_toInt (by omega); have := i_rg c; have := i_nle c3; have : (24 : Int32).toInt = 24 := rfl; have := i_nlt c1; have : (0 : Int32).toInt = 0 := rfl; omega)) : _ = k2)) ?_
                refine WR_tI (y := nI t15) (Eq.trans I_oR (Eq.trans (I_ne (fx_ne fx (by decide))) v15)) ?_
                refine r_icmp_ne (tg := 40) rfl rfl (fun _ => ?_) (fun q => False.elim (by have : (nI t7).toInt = ((t7 : Nat) : Int) := nI_toInt (by omega); have : (nI t15).toInt = ((t15 : Nat) : Int) := nI_toInt (by omega); have := i_eq q; omega))
                refine r_ic (x := 0) rfl rfl ?_
                refine r_istore (lv' := [some (.ref (ad 30)), some (.int c), some (.int d), some (.int 0)]) rfl (Nat.le_of_ble_eq_true rfl) rfl ?_
                refine r_aload rfl rfl ?_
                refine r_getA (b := ad 31) rfl ⟨rfl, rfl, rfl⟩ (fx_t30 fx) (fx_r30_0 fx) ?_
                refine r_iload rfl rfl ?_
                refine WR_tI (y := nI k5) ek5 ?_
                refine r_aload rfl rfl ?_
                refine r_getA (b := ad 31) rfl ⟨rfl, rfl, rfl⟩ (fx_t30 fx) (fx_r30_0 fx) ?_
                refine r_iload rfl rfl ?_
                refine WR_tI (y := nI k2) ek2 ?_
                refine r_iaload rfl (.inl (fx_t31 fx)) (vp_ct (fx_n31 fx) (vp_in_nI (by have := i_eq ek2; have : (nI k2).toInt = ((k2 : Nat) : Int) := nI_toInt (by omega); have := i_rg c; have := i_nle c3; have : (24 : Int32).toInt = 24 := rfl; have := i_nlt c1; have : (0 : Int32).toInt = 0 := rfl; omega) (by omega))) ?_
                refine WR_tI (congrArg (hI (sR (sI h (ad 0) 6 0) (ad 1) k5 (some (mid t15))) (ad 31)) ((nI_clamp (by have := i_eq ek2; have : (nI k2).toInt = ((k2 : Nat) : Int) := nI_toInt (by omega); have := i_rg c; have := i_nle c3; have : (24 : Int32).toInt = 24 := rfl; have := i_nlt c1; have : (0 : Int32).toInt = 0 := rfl; omega)) : _ = k2)) ?_
                refine WR_tI (y := nI t15) (Eq.trans I_oR (Eq.trans (I_ne (fx_ne fx (by decide))) v15)) ?_
                refine r_iastore rfl (fx_t31 fx) (vp_ct (fx_n31 fx) (vp_in_nI (by have := i_eq ek5; have : (nI k5).toInt = ((k5 : Nat) : Int) := nI_toInt (by omega); have := i_rg d; have := i_nle c6; have : (24 : Int32).toInt = 24 := rfl; have := i_nlt c4; have : (0 : Int32).toInt = 0 := rfl; omega) (by omega))) ?_
                refine WR_h (h2 := sI (sR (sI h (ad 0) 6 0) (ad 1) k5 (some (mid t15))) (ad 31) k5 (nI t15)) (congrArg (fun z => sI (sR (sI h (ad 0) 6 0) (ad 1) k5 (some (mid t15))) (ad 31) z (nI t15)) ((nI_clamp (by have := i_eq ek5; have : (nI k5).toInt = ((k5 : Nat) : Int) := nI_toInt (by omega); have := i_rg d; have := i_nle c6; have : (24 : Int32).toInt = 24 := rfl; have := i_nlt c4; have : (0 : Int32).toInt = 0 := rfl; omega)) : _ = k5)) ?_
                refine r_aload rfl rfl ?_
                refine r_iload rfl rfl ?_
                refine r_if_eq (tg := 63) rfl rfl (fun _ => ?_) (fun q => absurd q (by decide))
                refine r_ic (x := 1) rfl rfl ?_
                refine r_cv (y := 154) (ra := [.int 1]) (rest := []) rfl ⟨⟨rfl, rfl⟩, rfl, by decide⟩ (fx_t30 fx) rfl rfl (Nat.le_of_ble_eq_true rfl) ?_
                refine in_154 (Nat.le_of_ble_eq_true rfl) ?_
                show WR _ cd_154 0 [some (.ref (ad 30)), some (.int 1)] [] (sI (sR (sI h (ad 0) 6 0) (ad 1) k5 (some (mid t15))) (ad 31) k5 (nI t15)) _
                refine r_aload rfl rfl ?_
                refine r_iload rfl rfl ?_
                refine r_ic (x := (-1)) rfl rfl ?_
                refine r_icmp_ge (tg := 10) rfl rfl (fun _ => ?_) (fun q => absurd q (by decide))
                refine r_ic (x := 0) rfl rfl ?_
                refine r_putI rfl ⟨rfl, rfl, rfl⟩ (fx_t30 fx) ?_
                refine r_iload rfl rfl ?_
                refine r_iret rfl ?_
                show WR _ cd_163 67 [some (.ref (ad 30)), some (.int c), some (.int d), some (.int 0)] [.int 1] (sI (sI (sR (sI h (ad 0) 6 0) (ad 1) k5 (some (mid t15))) (ad 31) k5 (nI t15)) (ad 30) 11 0) _
                refine r_iret rfl ?_
                have cg : Chg n ad [(30, 11), (0, 6)] [31, 1] h (sI (sI (sR (sI h (ad 0) 6 0) (ad 1) k5 (some (mid t15))) (ad 31) k5 (nI t15)) (ad 30) 11 0) := ((((Chg.rf.sI (fx_j fx0) (k := 6) (v := 0) (.inl (by decide))).sR (fx_j fx0) (k := k5) (v := some (mid t15)) (.inl (by decide))).row.sI (fx_j fx0) (k := k5) (v := nI t15) (.inl (by decide))).row.sI (fx_j fx0) (k := 11) (v := 0) (.inl (by decide)))
                refine ⟨rfl, ⟨mid, pa, np, FX.k fx0 cg.1 cg.2.1 cg.2.2 (by decide), Eq.trans (Eq.trans (I_ne (fx_ne fx (by decide))) (Eq.trans (I_ne (fx_ne fx (by decide))) (Eq.trans I_oR I_eq))) (Eq.symm I_eq), rt.k cg.2.1 (by decide), ra.k cg.2.1 (by decide), rp.k cg.2.1 (by decide), rf.k cg.2.1 (by decide), Rst.k fx0 rst cg.2.2, Ru.k fx0 ru cg.2.1 (by decide), ?_⟩, Nat.le_add_right _ _, Nat.le_add_right _ _⟩
                · refine Rs.cases rs (smS_of fx0 cg (by decide)) (fun c_ hc_ => ?_)
                  by_cases e_ : c_ = k5
                  · rw [e_]
                    exact .inl ⟨k2, (by have := i_eq ek2; have : (nI k2).toInt = ((k2 : Nat) : Int) := nI_toInt (by omega); have := i_rg c; have := i_nle c3; have : (24 : Int32).toInt = 24 := rfl; have := i_nlt c1; have : (0 : Int32).toInt = 0 := rfl; omega), Eq.trans (Eq.trans (I_ne (fx_ne fx (by decide))) I_eq) (Eq.symm v15), Eq.trans (Eq.trans R_oI (Eq.trans R_oI R_eq)) (Eq.symm w15)⟩
                  · exact .inl ⟨c_, hc_, (Eq.trans (I_ne (fx_ne fx (by decide))) (Eq.trans (I_nk (by have := i_eq ek5; have : (nI k5).toInt = ((k5 : Nat) : Int) := nI_toInt (by omega); have := i_rg d; have := i_nle c6; have : (24 : Int32).toInt = 24 := rfl; have := i_nlt c4; have : (0 : Int32).toInt = 0 := rfl; omega)) (Eq.trans I_oR (I_ne (fx_ne fx (by decide)))))), (Eq.trans R_oI (Eq.trans R_oI (Eq.trans (R_nk (by have := i_eq ek5; have : (nI k5).toInt = ((k5 : Nat) : Int) := nI_toInt (by omega); have := i_rg d; have := i_nle c6; have : (24 : Int32).toInt = 24 := rfl; have := i_nlt c4; have : (0 : Int32).toInt = 0 := rfl; omega)) R_oI)))⟩
              · have c17e := rs.2.2.1 _ _ (by assumption) (by assumption) (.inl ⟨k5, (by have := i_eq ek5; have : (nI k5).toInt = ((k5 : Nat) : Int) := nI_toInt (by omega); have := i_rg d; have := i_nle c6; have : (24 : Int32).toInt = 24 := rfl; have := i_nlt c4; have : (0 : Int32).toInt = 0 := rfl; omega), v7⟩) (.inl ⟨k2, (by have := i_eq ek2; have : (nI k2).toInt = ((k2 : Nat) : Int) := nI_toInt (by omega); have := i_rg c; have := i_nle c3; have : (24 : Int32).toInt = 24 := rfl; have := i_nlt c1; have : (0 : Int32).toInt = 0 := rfl; omega), v15⟩) c17
                refine r_ic (x := 0) rfl rfl ?_
                refine r_iret rfl ?_
                show EV _ 163 [.ref (ad 30), .int c, .int d] (sI h (ad 0) 6 0) _
                refine in_163 (Nat.le_of_ble_eq_true rfl) ?_
                show WR _ cd_163 0 [some (.ref (ad 30)), some (.int c), some (.int d), none] [] (sI h (ad 0) 6 0) _
                refine r_iload rfl rfl ?_
                refine WR_tI (y := nI k2) ek2 ?_
                refine r_cs (y := 153) (ra := [.int (nI k2)]) (rest := []) rfl ⟨⟨rfl, rfl⟩, by decide⟩ rfl rfl (Nat.le_of_ble_eq_true rfl) ?_
                refine in_153 (Nat.le_of_ble_eq_true rfl) ?_
                show WR _ cd_153 0 [some (.int (nI k2))] [] (sI h (ad 0) 6 0) _
                refine r_iload rfl rfl ?_
                refine r_if_lt (tg := 14) rfl rfl (fun q => False.elim (by have : (nI k2).toInt = ((k2 : Nat) : Int) := nI_toInt (by omega); have : (0 : Int32).toInt = 0 := rfl; have := i_eq ek2; have := i_rg c; have := i_nle c3; have : (24 : Int32).toInt = 24 := rfl; have := i_nlt c1; have := i_lt q; omega)) (fun _ => ?_)
                refine r_iload rfl rfl ?_
                refine r_ic (x := 24) rfl rfl ?_
                refine r_icmp_ge (tg := 14) rfl rfl (fun q => False.elim (by have : (nI k2).toInt = ((k2 : Nat) : Int) := nI_toInt (by omega); have : (24 : Int32).toInt = 24 := rfl; have := i_eq ek2; have := i_rg c; have := i_nle c3; have := i_nlt c1; have : (0 : Int32).toInt = 0 := rfl; have := i_le q; omega)) (fun _ => ?_)
                refine r_ic (x := 1) rfl rfl ?_
                refine r_goto (tg := 15) rfl rfl ?_
                refine r_zret rfl (.inr rfl) ?_
                show WR _ cd_163 4 [some (.ref (ad 30)), some (.int c), some (.int d), none] [.int 1] (sI h (ad 0) 6 0) _
                refine r_if_eq (tg := 14) rfl rfl (fun q => absurd q (by decide)) (fun _ => ?_)
                refine r_iload rfl rfl ?_
                refine WR_tI (y := nI k5) ek5 ?_
                refine r_cs (y := 153) (ra := [.int (nI k5)]) (rest := []) rfl ⟨⟨rfl, rfl⟩, by decide⟩ rfl rfl (Nat.le_of_ble_eq_true rfl) ?_
                refine in_153 (Nat.le_of_ble_eq_true rfl) ?_
                show WR _ cd_153 0 [some (.int (nI k5))] [] (sI h (ad 0) 6 0) _
                refine r_iload rfl rfl ?_
                refine r_if_lt (tg := 14) rfl rfl (fun q => False.elim (by have : (nI k5).toInt = ((k5 : Nat) : Int) := nI_toInt (by omega); have : (0 : Int32).toInt = 0 := rfl; have := i_eq ek5; have := i_rg d; have := i_nle c6; have : (24 : Int32).toInt = 24 := rfl; have := i_nlt c4; have := i_lt q; omega)) (fun _ => ?_)
                refine r_iload rfl rfl ?_
                refine r_ic (x := 24) rfl rfl ?_
                refine r_icmp_ge (tg := 14) rfl rfl (fun q => False.elim (by have : (nI k5).toInt = ((k5 : Nat) : Int) := nI_toInt (by omega); have : (24 : Int32).toInt = 24 := rfl; have := i_eq ek5; have := i_rg d; have := i_nle c6; have := i_nlt c4; have : (0 : Int32).toInt = 0 := rfl; have := i_le q; omega)) (fun _ => ?_)
                refine r_ic (x := 1) rfl rfl ?_
                refine r_goto (tg := 15) rfl rfl ?_
                refine r_zret rfl (.inr rfl) ?_
                show WR _ cd_163 11 [some (.ref (ad 30)), some (.int c), some (.int d), none] [.int 1] (sI h (ad 0) 6 0) _
                refine r_if_ne (tg := 21) rfl rfl (fun _ => ?_) (fun q => absurd q (by decide))
                refine r_aload rfl rfl ?_
                refine r_getA (b := ad 31) rfl ⟨rfl, rfl, rfl⟩ (fx_t30 fx) (fx_r30_0 fx) ?_
                refine r_iload rfl rfl ?_
                refine WR_tI (y := nI k5) ek5 ?_
                refine r_iaload rfl (.inl (fx_t31 fx)) (vp_ct (fx_n31 fx) (vp_in_nI (by have := i_eq ek5; have : (nI k5).toInt = ((k5 : Nat) : Int) := nI_toInt (by omega); have := i_rg d; have := i_nle c6; have : (24 : Int32).toInt = 24 := rfl; have := i_nlt c4; have : (0 : Int32).toInt = 0 := rfl; omega) (by omega))) ?_
                refine WR_tI (congrArg (hI (sI h (ad 0) 6 0) (ad 31)) ((nI_clamp (by have := i_eq ek5; have : (nI k5).toInt = ((k5 : Nat) : Int) := nI_toInt (by omega); have := i_rg d; have := i_nle c6; have : (24 : Int32).toInt = 24 := rfl; have := i_nlt c4; have : (0 : Int32).toInt = 0 := rfl; omega)) : _ = k5)) ?_
                refine WR_tI (y := nI t7) (Eq.trans (I_ne (fx_ne fx (by decide))) v7) ?_
                refine r_aload rfl rfl ?_
                refine r_getA (b := ad 31) rfl ⟨rfl, rfl, rfl⟩ (fx_t30 fx) (fx_r30_0 fx) ?_
                refine r_iload rfl rfl ?_
                refine WR_tI (y := nI k2) ek2 ?_
                refine r_iaload rfl (.inl (fx_t31 fx)) (vp_ct (fx_n31 fx) (vp_in_nI (by have := i_eq ek2; have : (nI k2).toInt = ((k2 : Nat) : Int) := nI_toInt (by omega); have := i_rg c; have := i_nle c3; have : (24 : Int32).toInt = 24 := rfl; have := i_nlt c1; have : (0 : Int32).toInt = 0 := rfl; omega) (by omega))) ?_
                refine WR_tI (congrArg (hI (sI h (ad 0) 6 0) (ad 31)) ((nI_clamp (by have := i_eq ek2; have : (nI k2).toInt = ((k2 : Nat) : Int) := nI_toInt (by omega); have := i_rg c; have := i_nle c3; have : (24 : Int32).toInt = 24 := rfl; have := i_nlt c1; have : (0 : Int32).toInt = 0 := rfl; omega)) : _ = k2)) ?_
                refine WR_tI (y := nI t15) (Eq.trans (I_ne (fx_ne fx (by decide))) v15) ?_
                refine r_icmp_ne (tg := 40) rfl rfl (fun q => False.elim (by have : (nI t7).toInt = ((t7 : Nat) : Int) := nI_toInt (by omega); have : (nI t15).toInt = ((t15 : Nat) : Int) := nI_toInt (by omega); have := i_neq q; omega)) (fun _ => ?_)
                refine r_ic (x := 1) rfl rfl ?_
                refine r_goto (tg := 41) rfl rfl ?_
                refine r_istore (lv' := [some (.ref (ad 30)), some (.int c), some (.int d), some (.int 1)]) rfl (Nat.le_of_ble_eq_true rfl) rfl ?_
                refine r_aload rfl rfl ?_
                refine r_getA (b := ad 31) rfl ⟨rfl, rfl, rfl⟩ (fx_t30 fx) (fx_r30_0 fx) ?_
                refine r_iload rfl rfl ?_
                refine WR_tI (y := nI k5) ek5 ?_
                refine r_aload rfl rfl ?_
                refine r_getA (b := ad 31) rfl ⟨rfl, rfl, rfl⟩ (fx_t30 fx) (fx_r30_0 fx) ?_
                refine r_iload rfl rfl ?_
                refine WR_tI (y := nI k2) ek2 ?_
                refine r_iaload rfl (.inl (fx_t31 fx)) (vp_ct (fx_n31 fx) (vp_in_nI (by have := i_eq ek2; have : (nI k2).toInt = ((k2 : Nat) : Int) := nI_toInt (by omega); have := i_rg c; have := i_nle c3; have : (24 : Int32).toInt = 24 := rfl; have := i_nlt c1; have : (0 : Int32).toInt = 0 := rfl; omega) (by omega))) ?_
                refine WR_tI (congrArg (hI (sI h (ad 0) 6 0) (ad 31)) ((nI_clamp (by have := i_eq ek2; have : (nI k2).toInt = ((k2 : Nat) : Int) := nI_toInt (by omega); have := i_rg c; have := i_nle c3; have : (24 : Int32).toInt = 24 := rfl; have := i_nlt c1; have : (0 : Int32).toInt = 0 := rfl; omega)) : _ = k2)) ?_
                refine WR_tI (y := nI t15) (Eq.trans (I_ne (fx_ne fx (by decide))) v15) ?_
                refine r_iastore rfl (fx_t31 fx) (vp_ct (fx_n31 fx) (vp_in_nI (by have := i_eq ek5; have : (nI k5).toInt = ((k5 : Nat) : Int) := nI_toInt (by omega); have := i_rg d; have := i_nle c6; have : (24 : Int32).toInt = 24 := rfl; have := i_nlt c4; have : (0 : Int32).toInt = 0 := rfl; omega) (by omega))) ?_
                refine WR_h (h2 := sI (sI h (ad 0) 6 0) (ad 31) k5 (nI t15)) (congrArg (fun z => sI (sI h (ad 0) 6 0) (ad 31) z (nI t15)) ((nI_clamp (by have := i_eq ek5; have : (nI k5).toInt = ((k5 : Nat) : Int) := nI_toInt (by omega); have := i_rg d; have := i_nle c6; have : (24 : Int32).toInt = 24 := rfl; have := i_nlt c4; have : (0 : Int32).toInt = 0 := rfl; omega)) : _ = k5)) ?_
                refine r_aload rfl rfl ?_
                refine r_iload rfl rfl ?_
                refine r_if_eq (tg := 63) rfl rfl (fun q => absurd q (by decide)) (fun _ => ?_)
                refine r_ic (x := 0) rfl rfl ?_
                refine r_goto (tg := 64) rfl rfl ?_
                refine r_cv (y := 154) (ra := [.int 0]) (rest := []) rfl ⟨⟨rfl, rfl⟩, rfl, by decide⟩ (fx_t30 fx) rfl rfl (Nat.le_of_ble_eq_true rfl) ?_
                refine in_154 (Nat.le_of_ble_eq_true rfl) ?_
                show WR _ cd_154 0 [some (.ref (ad 30)), some (.int 0)] [] (sI (sI h (ad 0) 6 0) (ad 31) k5 (nI t15)) _
                refine r_aload rfl rfl ?_
                refine r_iload rfl rfl ?_
                refine r_ic (x := (-1)) rfl rfl ?_
                refine r_icmp_ge (tg := 10) rfl rfl (fun _ => ?_) (fun q => absurd q (by decide))
                refine r_ic (x := 0) rfl rfl ?_
                refine r_putI rfl ⟨rfl, rfl, rfl⟩ (fx_t30 fx) ?_
                refine r_iload rfl rfl ?_
                refine r_iret rfl ?_
                show WR _ cd_163 67 [some (.ref (ad 30)), some (.int c), some (.int d), some (.int 1)] [.int 0] (sI (sI (sI h (ad 0) 6 0) (ad 31) k5 (nI t15)) (ad 30) 11 0) _
                refine r_iret rfl ?_
                have cg : Chg n ad [(30, 11), (0, 6)] [31] h (sI (sI (sI h (ad 0) 6 0) (ad 31) k5 (nI t15)) (ad 30) 11 0) := (((Chg.rf.sI (fx_j fx0) (k := 6) (v := 0) (.inl (by decide))).sI (fx_j fx0) (k := k5) (v := nI t15) (.inl (by decide))).row.sI (fx_j fx0) (k := 11) (v := 0) (.inl (by decide)))
                refine ⟨rfl, ⟨mid, pa, np, FX.k fx0 cg.1 cg.2.1 cg.2.2 (by decide), Eq.trans (Eq.trans (I_ne (fx_ne fx (by decide))) (Eq.trans (I_ne (fx_ne fx (by decide))) I_eq)) (Eq.symm I_eq), rt.k cg.2.1 (by decide), ra.k cg.2.1 (by decide), rp.k cg.2.1 (by decide), rf.k cg.2.1 (by decide), Rst.k fx0 rst cg.2.2, Ru.k fx0 ru cg.2.1 (by decide), ?_⟩, Nat.le_add_right _ _, Nat.le_add_right _ _⟩
                · refine Rs.cases rs (smS_of fx0 cg (by decide)) (fun c_ hc_ => ?_)
                  by_cases e_ : c_ = k5
                  · rw [e_]
                    exact .inl ⟨k2, (by have := i_eq ek2; have : (nI k2).toInt = ((k2 : Nat) : Int) := nI_toInt (by omega); have := i_rg c; have := i_nle c3; have : (24 : Int32).toInt = 24 := rfl; have := i_nlt c1; have : (0 : Int32).toInt = 0 := rfl; omega), Eq.trans (Eq.trans (I_ne (fx_ne fx (by decide))) I_eq) (Eq.symm v15), Eq.trans (Eq.trans R_oI (Eq.trans R_oI (Eq.trans R_oI w7))) (Eq.trans (congrArg some c17) (Eq.symm w15))⟩
                  · exact .inl ⟨c_, hc_, (Eq.trans (I_ne (fx_ne fx (by decide))) (Eq.trans (I_nk (by have := i_eq ek5; have : (nI k5).toInt = ((k5 : Nat) : Int) := nI_toInt (by omega); have := i_rg d; have := i_nle c6; have : (24 : Int32).toInt = 24 := rfl; have := i_nlt c4; have : (0 : Int32).toInt = 0 := rfl; omega)) (I_ne (fx_ne fx (by decide))))), (Eq.trans R_oI (Eq.trans R_oI R_oI))⟩
            · refine r_aaloadA (b := mid t15) rfl (isQ_of (fx_t1 fx) (by decide)) (vp_ct (fx_n1 fx) (vp_in_nI (by have := i_eq ek2; have : (nI k2).toInt = ((k2 : Nat) : Int) := nI_toInt (by omega); have := i_rg c; have := i_nle c3; have : (24 : Int32).toInt = 24 := rfl; have := i_nlt c1; have : (0 : Int32).toInt = 0 := rfl; omega) (by omega))) (Eq.trans (congrArg (hR (sI h (ad 0) 6 0) (ad 1)) ((nI_clamp (by have := i_eq ek2; have : (nI k2).toInt = ((k2 : Nat) : Int) := nI_toInt (by omega); have := i_rg c; have := i_nle c3; have : (24 : Int32).toInt = 24 := rfl; have := i_nlt c1; have : (0 : Int32).toInt = 0 := rfl; omega)) : _ = k2)) (Eq.trans R_oI w15)) ?_
              refine r_acmpA_ne (tg := 43) rfl rfl (fun c18 => ?_) (fun c18 => ?_)
              · have c18e : ¬ t7 = t15 := fun e => c18 (by rw [e])
                refine r_aload rfl rfl ?_
                refine r_getA (b := ad 1) rfl ⟨rfl, rfl, rfl⟩ (fx_t0 fx) (fx_r0_0 fx) ?_
                refine r_iload rfl rfl ?_
                refine WR_tI (y := nI k5) ek5 ?_
                refine r_aload rfl rfl ?_
                refine r_getA (b := ad 1) rfl ⟨rfl, rfl, rfl⟩ (fx_t0 fx) (fx_r0_0 fx) ?_
                refine r_iload rfl rfl ?_
                refine WR_tI (y := nI k2) ek2 ?_
                refine r_aaloadA (b := mid t15) rfl (isQ_of (fx_t1 fx) (by decide)) (vp_ct (fx_n1 fx) (vp_in_nI (by have := i_eq ek2; have : (nI k2).toInt = ((k2 : Nat) : Int) := nI_toInt (by omega); have := i_rg c; have := i_nle c3; have : (24 : Int32).toInt = 24 := rfl; have := i_nlt c1; have : (0 : Int32).toInt = 0 := rfl; omega) (by omega))) (Eq.trans (congrArg (hR (sI h (ad 0) 6 0) (ad 1)) ((nI_clamp (by have := i_eq ek2; have : (nI k2).toInt = ((k2 : Nat) : Int) := nI_toInt (by omega); have := i_rg c; have := i_nle c3; have : (24 : Int32).toInt = 24 := rfl; have := i_nlt c1; have : (0 : Int32).toInt = 0 := rfl; omega)) : _ = k2)) (Eq.trans R_oI w15)) ?_
                refine r_aastoreA rfl (isQ_of (fx_t1 fx) (by decide)) (vp_ct (fx_n1 fx) (vp_in_nI (by have := i_eq ek5; have : (nI k5).toInt = ((k5 : Nat) : Int) := nI_toInt (by omega); have := i_rg d; have := i_nle c6; have : (24 : Int32).toInt = 24 := rfl; have := i_nlt c4; have : (0 : Int32).toInt = 0 := rfl; omega) (by omega))) (okR_of (fx_t1 fx) tg15 (by decide)) ?_
                refine WR_h (h2 := sR (sI h (ad 0) 6 0) (ad 1) k5 (some (mid t15))) (congrArg (fun z => sR (sI h (ad 0) 6 0) (ad 1) z (some (mid t15))) ((nI_clamp (by have := i_eq ek5; have : (nI k5).toInt = ((k5 : Nat) : Int) := nI_toInt (by omega); have := i_rg d; have := i_nle c6; have : (24 : Int32).toInt = 24 := rfl; have := i_nlt c4; have : (0 : Int32).toInt = 0 := rfl; omega)) : _ = k5)) ?_
                have fx : FX n ad sa z0 (sR (sI h (ad 0) 6 0) (ad 1) k5 (some (mid t15))) := FX.sRA (i := 1) fx (.inl (by decide)) (by decide)
                refine r_ic (x := 1) rfl rfl ?_
                refine r_iret rfl ?_
                show EV _ 163 [.ref (ad 30), .int c, .int d] (sR (sI h (ad 0) 6 0) (ad 1) k5 (some (mid t15))) _
                refine in_163 (Nat.le_of_ble_eq_true rfl) ?_
                show WR _ cd_163 0 [some (.ref (ad 30)), some (.int c), some (.int d), none] [] (sR (sI h (ad 0) 6 0) (ad 1) k5 (some (mid t15))) _
                refine r_iload rfl rfl ?_
                refine WR_tI (y := nI k2) ek2 ?_
                refine r_cs (y := 153) (ra := [.int (nI k2)]) (rest := []) rfl ⟨⟨rfl, rfl⟩, by decide⟩ rfl rfl (Nat.le_of_ble_eq_true rfl) ?_
                refine in_153 (Nat.le_of_ble_eq_true rfl) ?_
                show WR _ cd_153 0 [some (.int (nI k2))] [] (sR (sI h (ad 0) 6 0) (ad 1) k5 (some (mid t15))) _
                refine r_iload rfl rfl ?_
                refine r_if_lt (tg := 14) rfl rfl (fun q => False.elim (by have : (nI k2).toInt = ((k2 : Nat) : Int) := nI_toInt (by omega); have : (0 : Int32).toInt = 0 := rfl; have := i_eq ek2; have := i_rg c; have := i_nle c3; have : (24 : Int32).toInt = 24 := rfl; have := i_nlt c1; have := i_lt q; omega)) (fun _ => ?_)
                refine r_iload rfl rfl ?_
                refine r_ic (x := 24) rfl rfl ?_
                refine r_icmp_ge (tg := 14) rfl rfl (fun q => False.elim (by have : (nI k2).toInt = ((k2 : Nat) : Int) := nI_toInt (by omega); have : (24 : Int32).toInt = 24 := rfl; have := i_eq ek2; have := i_rg c; have := i_nle c3; have := i_nlt c1; have : (0 : Int32).toInt = 0 := rfl; have := i_le q; omega)) (fun _ => ?_)
                refine r_ic (x := 1) rfl rfl ?_
                refine r_goto (tg := 15) rfl rfl ?_
                refine r_zret rfl (.inr rfl) ?_
                show WR _ cd_163 4 [some (.ref (ad 30)), some (.int c), some (.int d), none] [.int 1] (sR (sI h (ad 0) 6 0) (ad 1) k5 (some (mid t15))) _
                refine r_if_eq (tg := 14) rfl rfl (fun q => absurd q (by decide)) (fun _ => ?_)
                refine r_iload rfl rfl ?_
                refine WR_tI (y := nI k5) ek5 ?_
                refine r_cs (y := 153) (ra := [.int (nI k5)]) (rest := []) rfl ⟨⟨rfl, rfl⟩, by decide⟩ rfl rfl (Nat.le_of_ble_eq_true rfl) ?_
                refine in_153 (Nat.le_of_ble_eq_true rfl) ?_
                show WR _ cd_153 0 [some (.int (nI k5))] [] (sR (sI h (ad 0) 6 0) (ad 1) k5 (some (mid t15))) _
                refine r_iload rfl rfl ?_
                refine r_if_lt (tg := 14) rfl rfl (fun q => False.elim (by have : (nI k5).toInt = ((k5 : Nat) : Int) := nI_toInt (by omega); have : (0 : Int32).toInt = 0 := rfl; have := i_eq ek5; have := i_rg d; have := i_nle c6; have : (24 : Int32).toInt = 24 := rfl; have := i_nlt c4; have := i_lt q; omega)) (fun _ => ?_)
                refine r_iload rfl rfl ?_
                refine r_ic (x := 24) rfl rfl ?_
                refine r_icmp_ge (tg := 14) rfl rfl (fun q => False.elim (by have : (nI k5).toInt = ((k5 : Nat) : Int) := nI_toInt (by omega); have : (24 : Int32).toInt = 24 := rfl; have := i_eq ek5; have := i_rg d; have := i_nle c6; have := i_nlt c4; have : (0 : Int32).toInt = 0 := rfl; have := i_le q; omega)) (fun _ => ?_)
                refine r_ic (x := 1) rfl rfl ?_
                refine r_goto (tg := 15) rfl rfl ?_
                refine r_zret rfl (.inr rfl) ?_
                show WR _ cd_163 11 [some (.ref (ad 30)), some (.int c), some (.int d), none] [.int 1] (sR (sI h (ad 0) 6 0) (ad 1) k5 (some (mid t15))) _
                refine r_if_ne (tg := 21) rfl rfl (fun _ => ?_) (fun q => absurd q (by decide))
                refine r_aload rfl rfl ?_
                refine r_getA (b := ad 31) rfl ⟨rfl, rfl, rfl⟩ (fx_t30 fx) (fx_r30_0 fx) ?_
                refine r_iload rfl rfl ?_
                refine WR_tI (y := nI k5) ek5 ?_
                refine r_iaload rfl (.inl (fx_t31 fx)) (vp_ct (fx_n31 fx) (vp_in_nI (by have := i_eq ek5; have : (nI k5).toInt = ((k5 : Nat) : Int) := nI_toInt (by omega); have := i_rg d; have := i_nle c6; have : (24 : Int32).toInt = 24 := rfl; have := i_nlt c4; have : (0 : Int32).toInt = 0 := rfl; omega) (by omega))) ?_
                refine WR_tI (congrArg (hI (sR (sI h (ad 0) 6 0) (ad 1) k5 (some (mid t15))) (ad 31)) ((nI_clamp (by have := i_eq ek5; have : (nI k5).toInt = ((k5 : Nat) : Int) := nI_toInt (by omega); have := i_rg d; have := i_nle c6; have : (24 : Int32).toInt = 24 := rfl; have := i_nlt c4; have : (0 : Int32).toInt = 0 := rfl; omega)) : _ = k5)) ?_
                refine WR_tI (y := nI t7) (Eq.trans I_oR (Eq.trans (I_ne (fx_ne fx (by decide))) v7)) ?_
                refine r_aload rfl rfl ?_
                refine r_getA (b := ad 31) rfl ⟨rfl, rfl, rfl⟩ (fx_t30 fx) (fx_r30_0 fx) ?_
                refine r_iload rfl rfl ?_
                refine WR_tI (y := nI k2) ek2 ?_
                refine r_iaload rfl (.inl (fx_t31 fx)) (vp_ct (fx_n31 fx) (vp_in_nI (by have := i_eq ek2; have : (nI k2).toInt = ((k2 : Nat) : Int) := nI_toInt (by omega); have := i_rg c; have := i_nle c3; have : (24 : Int32).toInt = 24 := rfl; have := i_nlt c1; have : (0 : Int32).toInt = 0 := rfl; omega) (by omega))) ?_
                refine WR_tI (congrArg (hI (sR (sI h (ad 0) 6 0) (ad 1) k5 (some (mid t15))) (ad 31)) ((nI_clamp (by have := i_eq ek2; have : (nI k2).toInt = ((k2 : Nat) : Int) := nI_toInt (by omega); have := i_rg c; have := i_nle c3; have : (24 : Int32).toInt = 24 := rfl; have := i_nlt c1; have : (0 : Int32).toInt = 0 := rfl; omega)) : _ = k2)) ?_
                refine WR_tI (y := nI t15) (Eq.trans I_oR (Eq.trans (I_ne (fx_ne fx (by decide))) v15)) ?_
                refine r_icmp_ne (tg := 40) rfl rfl (fun _ => ?_) (fun q => False.elim (by have : (nI t7).toInt = ((t7 : Nat) : Int) := nI_toInt (by omega); have : (nI t15).toInt = ((t15 : Nat) : Int) := nI_toInt (by omega); have := i_eq q; omega))
                refine r_ic (x := 0) rfl rfl ?_
                refine r_istore (lv' := [some (.ref (ad 30)), some (.int c), some (.int d), some (.int 0)]) rfl (Nat.le_of_ble_eq_true rfl) rfl ?_
                refine r_aload rfl rfl ?_
                refine r_getA (b := ad 31) rfl ⟨rfl, rfl, rfl⟩ (fx_t30 fx) (fx_r30_0 fx) ?_
                refine r_iload rfl rfl ?_
                refine WR_tI (y := nI k5) ek5 ?_
                refine r_aload rfl rfl ?_
                refine r_getA (b := ad 31) rfl ⟨rfl, rfl, rfl⟩ (fx_t30 fx) (fx_r30_0 fx) ?_
                refine r_iload rfl rfl ?_
                refine WR_tI (y := nI k2) ek2 ?_
                refine r_iaload rfl (.inl (fx_t31 fx)) (vp_ct (fx_n31 fx) (vp_in_nI (by have := i_eq ek2; have : (nI k2).toInt = ((k2 : Nat) : Int) := nI_toInt (by omega); have := i_rg c; have := i_nle c3; have : (24 : Int32).toInt = 24 := rfl; have := i_nlt c1; have : (0 : Int32).toInt = 0 := rfl; omega) (by omega))) ?_
                refine WR_tI (congrArg (hI (sR (sI h (ad 0) 6 0) (ad 1) k5 (some (mid t15))) (ad 31)) ((nI_clamp (by have := i_eq ek2; have : (nI k2).toInt = ((k2 : Nat) : Int) := nI_toInt (by omega); have := i_rg c; have := i_nle c3; have : (24 : Int32).toInt = 24 := rfl; have := i_nlt c1; have : (0 : Int32).toInt = 0 := rfl; omega)) : _ = k2)) ?_
                refine WR_tI (y := nI t15) (Eq.trans I_oR (Eq.trans (I_ne (fx_ne fx (by decide))) v15)) ?_
                refine r_iastore rfl (fx_t31 fx) (vp_ct (fx_n31 fx) (vp_in_nI (by have := i_eq ek5; have : (nI k5).toInt = ((k5 : Nat) : Int) := nI_toInt (by omega); have := i_rg d; have := i_nle c6; have : (24 : Int32).toInt = 24 := rfl; have := i_nlt c4; have : (0 : Int32).toInt = 0 := rfl; omega) (by omega))) ?_
                refine WR_h (h2 := sI (sR (sI h (ad 0) 6 0) (ad 1) k5 (some (mid t15))) (ad 31) k5 (nI t15)) (congrArg (fun z => sI (sR (sI h (ad 0) 6 0) (ad 1) k5 (some (mid t15))) (ad 31) z (nI t15)) ((nI_clamp (by have := i_eq ek5; have : (nI k5).toInt = ((k5 : Nat) : Int) := nI_toInt (by omega); have := i_rg d; have := i_nle c6; have : (24 : Int32).toInt = 24 := rfl; have := i_nlt c4; have : (0 : Int32).toInt = 0 := rfl; omega)) : _ = k5)) ?_
                refine r_aload rfl rfl ?_
                refine r_iload rfl rfl ?_
                refine r_if_eq (tg := 63) rfl rfl (fun _ => ?_) (fun q => absurd q (by decide))
                refine r_ic (x := 1) rfl rfl ?_
                refine r_cv (y := 154) (ra := [.int 1]) (rest := []) rfl ⟨⟨rfl, rfl⟩, rfl, by decide⟩ (fx_t30 fx) rfl rfl (Nat.le_of_ble_eq_true rfl) ?_
                refine in_154 (Nat.le_of_ble_eq_true rfl) ?_
                show WR _ cd_154 0 [some (.ref (ad 30)), some (.int 1)] [] (sI (sR (sI h (ad 0) 6 0) (ad 1) k5 (some (mid t15))) (ad 31) k5 (nI t15)) _
                refine r_aload rfl rfl ?_
                refine r_iload rfl rfl ?_
                refine r_ic (x := (-1)) rfl rfl ?_
                refine r_icmp_ge (tg := 10) rfl rfl (fun _ => ?_) (fun q => absurd q (by decide))
                refine r_ic (x := 0) rfl rfl ?_
                refine r_putI rfl ⟨rfl, rfl, rfl⟩ (fx_t30 fx) ?_
                refine r_iload rfl rfl ?_
                refine r_iret rfl ?_
                show WR _ cd_163 67 [some (.ref (ad 30)), some (.int c), some (.int d), some (.int 0)] [.int 1] (sI (sI (sR (sI h (ad 0) 6 0) (ad 1) k5 (some (mid t15))) (ad 31) k5 (nI t15)) (ad 30) 11 0) _
                refine r_iret rfl ?_
                have cg : Chg n ad [(30, 11), (0, 6)] [31, 1] h (sI (sI (sR (sI h (ad 0) 6 0) (ad 1) k5 (some (mid t15))) (ad 31) k5 (nI t15)) (ad 30) 11 0) := ((((Chg.rf.sI (fx_j fx0) (k := 6) (v := 0) (.inl (by decide))).sR (fx_j fx0) (k := k5) (v := some (mid t15)) (.inl (by decide))).row.sI (fx_j fx0) (k := k5) (v := nI t15) (.inl (by decide))).row.sI (fx_j fx0) (k := 11) (v := 0) (.inl (by decide)))
                refine ⟨rfl, ⟨mid, pa, np, FX.k fx0 cg.1 cg.2.1 cg.2.2 (by decide), Eq.trans (Eq.trans (I_ne (fx_ne fx (by decide))) (Eq.trans (I_ne (fx_ne fx (by decide))) (Eq.trans I_oR I_eq))) (Eq.symm I_eq), rt.k cg.2.1 (by decide), ra.k cg.2.1 (by decide), rp.k cg.2.1 (by decide), rf.k cg.2.1 (by decide), Rst.k fx0 rst cg.2.2, Ru.k fx0 ru cg.2.1 (by decide), ?_⟩, Nat.le_add_right _ _, Nat.le_add_right _ _⟩
                · refine Rs.cases rs (smS_of fx0 cg (by decide)) (fun c_ hc_ => ?_)
                  by_cases e_ : c_ = k5
                  · rw [e_]
                    exact .inl ⟨k2, (by have := i_eq ek2; have : (nI k2).toInt = ((k2 : Nat) : Int) := nI_toInt (by omega); have := i_rg c; have := i_nle c3; have : (24 : Int32).toInt = 24 := rfl; have := i_nlt c1; have : (0 : Int32).toInt = 0 := rfl; omega), Eq.trans (Eq.trans (I_ne (fx_ne fx (by decide))) I_eq) (Eq.symm v15), Eq.trans (Eq.trans R_oI (Eq.trans R_oI R_eq)) (Eq.symm w15)⟩
                  · exact .inl ⟨c_, hc_, (Eq.trans (I_ne (fx_ne fx (by decide))) (Eq.trans (I_nk (by have := i_eq ek5; have : (nI k5).toInt = ((k5 : Nat) : Int) := nI_toInt (by omega); have := i_rg d; have := i_nle c6; have : (24 : Int32).toInt = 24 := rfl; have := i_nlt c4; have : (0 : Int32).toInt = 0 := rfl; omega)) (Eq.trans I_oR (I_ne (fx_ne fx (by decide)))))), (Eq.trans R_oI (Eq.trans R_oI (Eq.trans (R_nk (by have := i_eq ek5; have : (nI k5).toInt = ((k5 : Nat) : Int) := nI_toInt (by omega); have := i_rg d; have := i_nle c6; have : (24 : Int32).toInt = 24 := rfl; have := i_nlt c4; have : (0 : Int32).toInt = 0 := rfl; omega)) R_oI)))⟩
              · have c18e := rs.2.2.1 _ _ (by assumption) (by assumption) (.inl ⟨k5, (by have := i_eq ek5; have : (nI k5).toInt = ((k5 : Nat) : Int) := nI_toInt (by omega); have := i_rg d; have := i_nle c6; have : (24 : Int32).toInt = 24 := rfl; have := i_nlt c4; have : (0 : Int32).toInt = 0 := rfl; omega), v7⟩) (.inl ⟨k2, (by have := i_eq ek2; have : (nI k2).toInt = ((k2 : Nat) : Int) := nI_toInt (by omega); have := i_rg c; have := i_nle c3; have : (24 : Int32).toInt = 24 := rfl; have := i_nlt c1; have : (0 : Int32).toInt = 0 := rfl; omega), v15⟩) c18
                refine r_ic (x := 0) rfl rfl ?_
                refine r_iret rfl ?_
                show EV _ 163 [.ref (ad 30), .int c, .int d] (sI h (ad 0) 6 0) _
                refine in_163 (Nat.le_of_ble_eq_true rfl) ?_
                show WR _ cd_163 0 [some (.ref (ad 30)), some (.int c), some (.int d), none] [] (sI h (ad 0) 6 0) _
                refine r_iload rfl rfl ?_
                refine WR_tI (y := nI k2) ek2 ?_
                refine r_cs (y := 153) (ra := [.int (nI k2)]) (rest := []) rfl ⟨⟨rfl, rfl⟩, by decide⟩ rfl rfl (Nat.le_of_ble_eq_true rfl) ?_
                refine in_153 (Nat.le_of_ble_eq_true rfl) ?_
                show WR _ cd_153 0 [some (.int (nI k2))] [] (sI h (ad 0) 6 0) _
                refine r_iload rfl rfl ?_
                refine r_if_lt (tg := 14) rfl rfl (fun q => False.elim (by have : (nI k2).toInt = ((k2 : Nat) : Int) := nI_toInt (by omega); have : (0 : Int32).toInt = 0 := rfl; have := i_eq ek2; have := i_rg c; have := i_nle c3; have : (24 : Int32).toInt = 24 := rfl; have := i_nlt c1; have := i_lt q; omega)) (fun _ => ?_)
                refine r_iload rfl rfl ?_
                refine r_ic (x := 24) rfl rfl ?_
                refine r_icmp_ge (tg := 14) rfl rfl (fun q => False.elim (by have : (nI k2).toInt = ((k2 : Nat) : Int) := nI_toInt (by omega); have : (24 : Int32).toInt = 24 := rfl; have := i_eq ek2; have := i_rg c; have := i_nle c3; have := i_nlt c1; have : (0 : Int32).toInt = 0 := rfl; have := i_le q; omega)) (fun _ => ?_)
                refine r_ic (x := 1) rfl rfl ?_
                refine r_goto (tg := 15) rfl rfl ?_
                refine r_zret rfl (.inr rfl) ?_
                show WR _ cd_163 4 [some (.ref (ad 30)), some (.int c), some (.int d), none] [.int 1] (sI h (ad 0) 6 0) _
                refine r_if_eq (tg := 14) rfl rfl (fun q => absurd q (by decide)) (fun _ => ?_)
                refine r_iload rfl rfl ?_
                refine WR_tI (y := nI k5) ek5 ?_
                refine r_cs (y := 153) (ra := [.int (nI k5)]) (rest := []) rfl ⟨⟨rfl, rfl⟩, by decide⟩ rfl rfl (Nat.le_of_ble_eq_true rfl) ?_
                refine in_153 (Nat.le_of_ble_eq_true rfl) ?_
                show WR _ cd_153 0 [some (.int (nI k5))] [] (sI h (ad 0) 6 0) _
                refine r_iload rfl rfl ?_
                refine r_if_lt (tg := 14) rfl rfl (fun q => False.elim (by have : (nI k5).toInt = ((k5 : Nat) : Int) := nI_toInt (by omega); have : (0 : Int32).toInt = 0 := rfl; have := i_eq ek5; have := i_rg d; have := i_nle c6; have : (24 : Int32).toInt = 24 := rfl; have := i_nlt c4; have := i_lt q; omega)) (fun _ => ?_)
                refine r_iload rfl rfl ?_
                refine r_ic (x := 24) rfl rfl ?_
                refine r_icmp_ge (tg := 14) rfl rfl (fun q => False.elim (by have : (nI k5).toInt = ((k5 : Nat) : Int) := nI_toInt (by omega); have : (24 : Int32).toInt = 24 := rfl; have := i_eq ek5; have := i_rg d; have := i_nle c6; have := i_nlt c4; have : (0 : Int32).toInt = 0 := rfl; have := i_le q; omega)) (fun _ => ?_)
                refine r_ic (x := 1) rfl rfl ?_
                refine r_goto (tg := 15) rfl rfl ?_
                refine r_zret rfl (.inr rfl) ?_
                show WR _ cd_163 11 [some (.ref (ad 30)), some (.int c), some (.int d), none] [.int 1] (sI h (ad 0) 6 0) _
                refine r_if_ne (tg := 21) rfl rfl (fun _ => ?_) (fun q => absurd q (by decide))
                refine r_aload rfl rfl ?_
                refine r_getA (b := ad 31) rfl ⟨rfl, rfl, rfl⟩ (fx_t30 fx) (fx_r30_0 fx) ?_
                refine r_iload rfl rfl ?_
                refine WR_tI (y := nI k5) ek5 ?_
                refine r_iaload rfl (.inl (fx_t31 fx)) (vp_ct (fx_n31 fx) (vp_in_nI (by have := i_eq ek5; have : (nI k5).toInt = ((k5 : Nat) : Int) := nI_toInt (by omega); have := i_rg d; have := i_nle c6; have : (24 : Int32).toInt = 24 := rfl; have := i_nlt c4; have : (0 : Int32).toInt = 0 := rfl; omega) (by omega))) ?_
                refine WR_tI (congrArg (hI (sI h (ad 0) 6 0) (ad 31)) ((nI_clamp (by have := i_eq ek5; have : (nI k5).toInt = ((k5 : Nat) : Int) := nI_toInt (by omega); have := i_rg d; have := i_nle c6; have : (24 : Int32).toInt = 24 := rfl; have := i_nlt c4; have : (0 : Int32).toInt = 0 := rfl; omega)) : _ = k5)) ?_
                refine WR_tI (y := nI t7) (Eq.trans (I_ne (fx_ne fx (by decide))) v7) ?_
                refine r_aload rfl rfl ?_
                refine r_getA (b := ad 31) rfl ⟨rfl, rfl, rfl⟩ (fx_t30 fx) (fx_r30_0 fx) ?_
                refine r_iload rfl rfl ?_
                refine WR_tI (y := nI k2) ek2 ?_
                refine r_iaload rfl (.inl (fx_t31 fx)) (vp_ct (fx_n31 fx) (vp_in_nI (by have := i_eq ek2; have : (nI k2).toInt = ((k2 : Nat) : Int) := nI_toInt (by omega); have := i_rg c; have := i_nle c3; have : (24 : Int32).toInt = 24 := rfl; have := i_nlt c1; have : (0 : Int32).toInt = 0 := rfl; omega) (by omega))) ?_
                refine WR_tI (congrArg (hI (sI h (ad 0) 6 0) (ad 31)) ((nI_clamp (by have := i_eq ek2; have : (nI k2).toInt = ((k2 : Nat) : Int) := nI_toInt (by omega); have := i_rg c; have := i_nle c3; have : (24 : Int32).toInt = 24 := rfl; have := i_nlt c1; have : (0 : Int32).toInt = 0 := rfl; omega)) : _ = k2)) ?_
                refine WR_tI (y := nI t15) (Eq.trans (I_ne (fx_ne fx (by decide))) v15) ?_
                refine r_icmp_ne (tg := 40) rfl rfl (fun q => False.elim (by have : (nI t7).toInt = ((t7 : Nat) : Int) := nI_toInt (by omega); have : (nI t15).toInt = ((t15 : Nat) : Int) := nI_toInt (by omega); have := i_neq q; omega)) (fun _ => ?_)
                refine r_ic (x := 1) rfl rfl ?_
                refine r_goto (tg := 41) rfl rfl ?_
                refine r_istore (lv' := [some (.ref (ad 30)), some (.int c), some (.int d), some (.int 1)]) rfl (Nat.le_of_ble_eq_true rfl) rfl ?_
                refine r_aload rfl rfl ?_
                refine r_getA (b := ad 31) rfl ⟨rfl, rfl, rfl⟩ (fx_t30 fx) (fx_r30_0 fx) ?_
                refine r_iload rfl rfl ?_
                refine WR_tI (y := nI k5) ek5 ?_
                refine r_aload rfl rfl ?_
                refine r_getA (b := ad 31) rfl ⟨rfl, rfl, rfl⟩ (fx_t30 fx) (fx_r30_0 fx) ?_
                refine r_iload rfl rfl ?_
                refine WR_tI (y := nI k2) ek2 ?_
                refine r_iaload rfl (.inl (fx_t31 fx)) (vp_ct (fx_n31 fx) (vp_in_nI (by have := i_eq ek2; have : (nI k2).toInt = ((k2 : Nat) : Int) := nI_toInt (by omega); have := i_rg c; have := i_nle c3; have : (24 : Int32).toInt = 24 := rfl; have := i_nlt c1; have : (0 : Int32).toInt = 0 := rfl; omega) (by omega))) ?_
                refine WR_tI (congrArg (hI (sI h (ad 0) 6 0) (ad 31)) ((nI_clamp (by have := i_eq ek2; have : (nI k2).toInt = ((k2 : Nat) : Int) := nI_toInt (by omega); have := i_rg c; have := i_nle c3; have : (24 : Int32).toInt = 24 := rfl; have := i_nlt c1; have : (0 : Int32).toInt = 0 := rfl; omega)) : _ = k2)) ?_
                refine WR_tI (y := nI t15) (Eq.trans (I_ne (fx_ne fx (by decide))) v15) ?_
                refine r_iastore rfl (fx_t31 fx) (vp_ct (fx_n31 fx) (vp_in_nI (by have := i_eq ek5; have : (nI k5).toInt = ((k5 : Nat) : Int) := nI_toInt (by omega); have := i_rg d; have := i_nle c6; have : (24 : Int32).toInt = 24 := rfl; have := i_nlt c4; have : (0 : Int32).toInt = 0 := rfl; omega) (by omega))) ?_
                refine WR_h (h2 := sI (sI h (ad 0) 6 0) (ad 31) k5 (nI t15)) (congrArg (fun z => sI (sI h (ad 0) 6 0) (ad 31) z (nI t15)) ((nI_clamp (by have := i_eq ek5; have : (nI k5).toInt = ((k5 : Nat) : Int) := nI_toInt (by omega); have := i_rg d; have := i_nle c6; have : (24 : Int32).toInt = 24 := rfl; have := i_nlt c4; have : (0 : Int32).toInt = 0 := rfl; omega)) : _ = k5)) ?_
                refine r_aload rfl rfl ?_
                refine r_iload rfl rfl ?_
                refine r_if_eq (tg := 63) rfl rfl (fun q => absurd q (by decide)) (fun _ => ?_)
                refine r_ic (x := 0) rfl rfl ?_
                refine r_goto (tg := 64) rfl rfl ?_
                refine r_cv (y := 154) (ra := [.int 0]) (rest := []) rfl ⟨⟨rfl, rfl⟩, rfl, by decide⟩ (fx_t30 fx) rfl rfl (Nat.le_of_ble_eq_true rfl) ?_
                refine in_154 (Nat.le_of_ble_eq_true rfl) ?_
                show WR _ cd_154 0 [some (.ref (ad 30)), some (.int 0)] [] (sI (sI h (ad 0) 6 0) (ad 31) k5 (nI t15)) _
                refine r_aload rfl rfl ?_
                refine r_iload rfl rfl ?_
                refine r_ic (x := (-1)) rfl rfl ?_
                refine r_icmp_ge (tg := 10) rfl rfl (fun _ => ?_) (fun q => absurd q (by decide))
                refine r_ic (x := 0) rfl rfl ?_
                refine r_putI rfl ⟨rfl, rfl, rfl⟩ (fx_t30 fx) ?_
                refine r_iload rfl rfl ?_
                refine r_iret rfl ?_
                show WR _ cd_163 67 [some (.ref (ad 30)), some (.int c), some (.int d), some (.int 1)] [.int 0] (sI (sI (sI h (ad 0) 6 0) (ad 31) k5 (nI t15)) (ad 30) 11 0) _
                refine r_iret rfl ?_
                have cg : Chg n ad [(30, 11), (0, 6)] [31] h (sI (sI (sI h (ad 0) 6 0) (ad 31) k5 (nI t15)) (ad 30) 11 0) := (((Chg.rf.sI (fx_j fx0) (k := 6) (v := 0) (.inl (by decide))).sI (fx_j fx0) (k := k5) (v := nI t15) (.inl (by decide))).row.sI (fx_j fx0) (k := 11) (v := 0) (.inl (by decide)))
                refine ⟨rfl, ⟨mid, pa, np, FX.k fx0 cg.1 cg.2.1 cg.2.2 (by decide), Eq.trans (Eq.trans (I_ne (fx_ne fx (by decide))) (Eq.trans (I_ne (fx_ne fx (by decide))) I_eq)) (Eq.symm I_eq), rt.k cg.2.1 (by decide), ra.k cg.2.1 (by decide), rp.k cg.2.1 (by decide), rf.k cg.2.1 (by decide), Rst.k fx0 rst cg.2.2, Ru.k fx0 ru cg.2.1 (by decide), ?_⟩, Nat.le_add_right _ _, Nat.le_add_right _ _⟩
                · refine Rs.cases rs (smS_of fx0 cg (by decide)) (fun c_ hc_ => ?_)
                  by_cases e_ : c_ = k5
                  · rw [e_]
                    exact .inl ⟨k2, (by have := i_eq ek2; have : (nI k2).toInt = ((k2 : Nat) : Int) := nI_toInt (by omega); have := i_rg c; have := i_nle c3; have : (24 : Int32).toInt = 24 := rfl; have := i_nlt c1; have : (0 : Int32).toInt = 0 := rfl; omega), Eq.trans (Eq.trans (I_ne (fx_ne fx (by decide))) I_eq) (Eq.symm v15), Eq.trans (Eq.trans R_oI (Eq.trans R_oI (Eq.trans R_oI w7))) (Eq.trans (congrArg some c18) (Eq.symm w15))⟩
                  · exact .inl ⟨c_, hc_, (Eq.trans (I_ne (fx_ne fx (by decide))) (Eq.trans (I_nk (by have := i_eq ek5; have : (nI k5).toInt = ((k5 : Nat) : Int) := nI_toInt (by omega); have := i_rg d; have := i_nle c6; have : (24 : Int32).toInt = 24 := rfl; have := i_nlt c4; have : (0 : Int32).toInt = 0 := rfl; omega)) (I_ne (fx_ne fx (by decide))))), (Eq.trans R_oI (Eq.trans R_oI R_oI))⟩
          · refine r_aaloadA (b := mid t7) rfl (isQ_of (fx_t1 fx) (by decide)) (vp_ct (fx_n1 fx) (vp_in_nI (by have := i_eq ek5; have : (nI k5).toInt = ((k5 : Nat) : Int) := nI_toInt (by omega); have := i_rg d; have := i_nle c6; have : (24 : Int32).toInt = 24 := rfl; have := i_nlt c4; have : (0 : Int32).toInt = 0 := rfl; omega) (by omega))) (Eq.trans (congrArg (hR (sI h (ad 0) 6 0) (ad 1)) ((nI_clamp (by have := i_eq ek5; have : (nI k5).toInt = ((k5 : Nat) : Int) := nI_toInt (by omega); have := i_rg d; have := i_nle c6; have : (24 : Int32).toInt = 24 := rfl; have := i_nlt c4; have : (0 : Int32).toInt = 0 := rfl; omega)) : _ = k5)) (Eq.trans R_oI w7)) ?_
            refine r_aload rfl rfl ?_
            refine r_getA (b := ad 1) rfl ⟨rfl, rfl, rfl⟩ (fx_t0 fx) (fx_r0_0 fx) ?_
            refine r_iload rfl rfl ?_
            refine WR_tI (y := nI k2) ek2 ?_
            rcases rs.cs (n := n) (sa := sa) (c := k2) (by have := i_eq ek2; have : (nI k2).toInt = ((k2 : Nat) : Int) := nI_toInt (by omega); have := i_rg c; have := i_nle c3; have : (24 : Int32).toInt = 24 := rfl; have := i_nlt c1; have : (0 : Int32).toInt = 0 := rfl; omega) with ⟨v19, w19⟩ | ⟨q19, kd19, hq19, hn19, v19, w19, dz19, tg19, s1_19, k1_19, k2_19, hk_19, we19⟩ | ⟨t19, ln19, sz19, ht19, v19, w19, dz19, tg19, r_19, tg2_19, l1_19, l2_19, hl_19, kd_19, n_19, sz_19, hs_19, al19, rw19⟩ | ⟨t19, sz19, ht19, v19, w19, dz19, tg19, r_19, tg2_19, k1_19, l2_19, k2_19, n_19, sz_19, hs_19, al19, rw19⟩ | ⟨t19, kd19, sz19, ht19, v19, w19, dz19, tg19, r_19, tg2_19, k1_19, l2_19, k2_19, hk_19, n_19, sz_19, hs_19, al19, rw19⟩
            · refine r_aaload0 rfl (isQ_of (fx_t1 fx) (by decide)) (vp_ct (fx_n1 fx) (vp_in_nI (by have := i_eq ek2; have : (nI k2).toInt = ((k2 : Nat) : Int) := nI_toInt (by omega); have := i_rg c; have := i_nle c3; have : (24 : Int32).toInt = 24 := rfl; have := i_nlt c1; have : (0 : Int32).toInt = 0 := rfl; omega) (by omega))) (Eq.trans (congrArg (hR (sI h (ad 0) 6 0) (ad 1)) ((nI_clamp (by have := i_eq ek2; have : (nI k2).toInt = ((k2 : Nat) : Int) := nI_toInt (by omega); have := i_rg c; have := i_nle c3; have : (24 : Int32).toInt = 24 := rfl; have := i_nlt c1; have : (0 : Int32).toInt = 0 := rfl; omega)) : _ = k2)) (Eq.trans R_oI w19)) ?_
              refine r_acmpAN_ne (tg := 43) rfl rfl ?_
              refine r_aload rfl rfl ?_
              refine r_getA (b := ad 1) rfl ⟨rfl, rfl, rfl⟩ (fx_t0 fx) (fx_r0_0 fx) ?_
              refine r_iload rfl rfl ?_
              refine WR_tI (y := nI k5) ek5 ?_
              refine r_aload rfl rfl ?_
              refine r_getA (b := ad 1) rfl ⟨rfl, rfl, rfl⟩ (fx_t0 fx) (fx_r0_0 fx) ?_
              refine r_iload rfl rfl ?_
              refine WR_tI (y := nI k2) ek2 ?_
              refine r_aaload0 rfl (isQ_of (fx_t1 fx) (by decide)) (vp_ct (fx_n1 fx) (vp_in_nI (by have := i_eq ek2; have : (nI k2).toInt = ((k2 : Nat) : Int) := nI_toInt (by omega); have := i_rg c; have := i_nle c3; have : (24 : Int32).toInt = 24 := rfl; have := i_nlt c1; have : (0 : Int32).toInt = 0 := rfl; omega) (by omega))) (Eq.trans (congrArg (hR (sI h (ad 0) 6 0) (ad 1)) ((nI_clamp (by have := i_eq ek2; have : (nI k2).toInt = ((k2 : Nat) : Int) := nI_toInt (by omega); have := i_rg c; have := i_nle c3; have : (24 : Int32).toInt = 24 := rfl; have := i_nlt c1; have : (0 : Int32).toInt = 0 := rfl; omega)) : _ = k2)) (Eq.trans R_oI w19)) ?_
              refine r_aastore0 rfl (isQ_of (fx_t1 fx) (by decide)) (vp_ct (fx_n1 fx) (vp_in_nI (by have := i_eq ek5; have : (nI k5).toInt = ((k5 : Nat) : Int) := nI_toInt (by omega); have := i_rg d; have := i_nle c6; have : (24 : Int32).toInt = 24 := rfl; have := i_nlt c4; have : (0 : Int32).toInt = 0 := rfl; omega) (by omega))) (fun _ q => by cases q) ?_
              refine WR_h (h2 := sR (sI h (ad 0) 6 0) (ad 1) k5 none) (congrArg (fun z => sR (sI h (ad 0) 6 0) (ad 1) z none) ((nI_clamp (by have := i_eq ek5; have : (nI k5).toInt = ((k5 : Nat) : Int) := nI_toInt (by omega); have := i_rg d; have := i_nle c6; have : (24 : Int32).toInt = 24 := rfl; have := i_nlt c4; have : (0 : Int32).toInt = 0 := rfl; omega)) : _ = k5)) ?_
              have fx : FX n ad sa z0 (sR (sI h (ad 0) 6 0) (ad 1) k5 none) := FX.sRA (i := 1) fx (.inl (by decide)) (by decide)
              refine r_ic (x := 1) rfl rfl ?_
              refine r_iret rfl ?_
              show EV _ 163 [.ref (ad 30), .int c, .int d] (sR (sI h (ad 0) 6 0) (ad 1) k5 none) _
              refine in_163 (Nat.le_of_ble_eq_true rfl) ?_
              show WR _ cd_163 0 [some (.ref (ad 30)), some (.int c), some (.int d), none] [] (sR (sI h (ad 0) 6 0) (ad 1) k5 none) _
              refine r_iload rfl rfl ?_
              refine WR_tI (y := nI k2) ek2 ?_
              refine r_cs (y := 153) (ra := [.int (nI k2)]) (rest := []) rfl ⟨⟨rfl, rfl⟩, by decide⟩ rfl rfl (Nat.le_of_ble_eq_true rfl) ?_
              refine in_153 (Nat.le_of_ble_eq_true rfl) ?_
              show WR _ cd_153 0 [some (.int (nI k2))] [] (sR (sI h (ad 0) 6 0) (ad 1) k5 none) _
              refine r_iload rfl rfl ?_
              refine r_if_lt (tg := 14) rfl rfl (fun q => False.elim (by have : (nI k2).toInt = ((k2 : Nat) : Int) := nI_toInt (by omega); have : (0 : Int32).toInt = 0 := rfl; have := i_eq ek2; have := i_rg c; have := i_nle c3; have : (24 : Int32).toInt = 24 := rfl; have := i_nlt c1; have := i_lt q; omega)) (fun _ => ?_)
              refine r_iload rfl rfl ?_
              refine r_ic (x := 24) rfl rfl ?_
              refine r_icmp_ge (tg := 14) rfl rfl (fun q => False.elim (by have : (nI k2).toInt = ((k2 : Nat) : Int) := nI_toInt (by omega); have : (24 : Int32).toInt = 24 := rfl; have := i_eq ek2; have := i_rg c; have := i_nle c3; have := i_nlt c1; have : (0 : Int32).toInt = 0 := rfl; have := i_le q; omega)) (fun _ => ?_)
              refine r_ic (x := 1) rfl rfl ?_
              refine r_goto (tg := 15) rfl rfl ?_
              refine r_zret rfl (.inr rfl) ?_
              show WR _ cd_163 4 [some (.ref (ad 30)), some (.int c), some (.int d), none] [.int 1] (sR (sI h (ad 0) 6 0) (ad 1) k5 none) _
              refine r_if_eq (tg := 14) rfl rfl (fun q => absurd q (by decide)) (fun _ => ?_)
              refine r_iload rfl rfl ?_
              refine WR_tI (y := nI k5) ek5 ?_
              refine r_cs (y := 153) (ra := [.int (nI k5)]) (rest := []) rfl ⟨⟨rfl, rfl⟩, by decide⟩ rfl rfl (Nat.le_of_ble_eq_true rfl) ?_
              refine in_153 (Nat.le_of_ble_eq_true rfl) ?_
              show WR _ cd_153 0 [some (.int (nI k5))] [] (sR (sI h (ad 0) 6 0) (ad 1) k5 none) _
              refine r_iload rfl rfl ?_
              refine r_if_lt (tg := 14) rfl rfl (fun q => False.elim (by have : (nI k5).toInt = ((k5 : Nat) : Int) := nI_toInt (by omega); have : (0 : Int32).toInt = 0 := rfl; have := i_eq ek5; have := i_rg d; have := i_nle c6; have : (24 : Int32).toInt = 24 := rfl; have := i_nlt c4; have := i_lt q; omega)) (fun _ => ?_)
              refine r_iload rfl rfl ?_
              refine r_ic (x := 24) rfl rfl ?_
              refine r_icmp_ge (tg := 14) rfl rfl (fun q => False.elim (by have : (nI k5).toInt = ((k5 : Nat) : Int) := nI_toInt (by omega); have : (24 : Int32).toInt = 24 := rfl; have := i_eq ek5; have := i_rg d; have := i_nle c6; have := i_nlt c4; have : (0 : Int32).toInt = 0 := rfl; have := i_le q; omega)) (fun _ => ?_)
              refine r_ic (x := 1) rfl rfl ?_
              refine r_goto (tg := 15) rfl rfl ?_
              refine r_zret rfl (.inr rfl) ?_
              show WR _ cd_163 11 [some (.ref (ad 30)), some (.int c), some (.int d), none] [.int 1] (sR (sI h (ad 0) 6 0) (ad 1) k5 none) _
              refine r_if_ne (tg := 21) rfl rfl (fun _ => ?_) (fun q => absurd q (by decide))
              refine r_aload rfl rfl ?_
              refine r_getA (b := ad 31) rfl ⟨rfl, rfl, rfl⟩ (fx_t30 fx) (fx_r30_0 fx) ?_
              refine r_iload rfl rfl ?_
              refine WR_tI (y := nI k5) ek5 ?_
              refine r_iaload rfl (.inl (fx_t31 fx)) (vp_ct (fx_n31 fx) (vp_in_nI (by have := i_eq ek5; have : (nI k5).toInt = ((k5 : Nat) : Int) := nI_toInt (by omega); have := i_rg d; have := i_nle c6; have : (24 : Int32).toInt = 24 := rfl; have := i_nlt c4; have : (0 : Int32).toInt = 0 := rfl; omega) (by omega))) ?_
              refine WR_tI (congrArg (hI (sR (sI h (ad 0) 6 0) (ad 1) k5 none) (ad 31)) ((nI_clamp (by have := i_eq ek5; have : (nI k5).toInt = ((k5 : Nat) : Int) := nI_toInt (by omega); have := i_rg d; have := i_nle c6; have : (24 : Int32).toInt = 24 := rfl; have := i_nlt c4; have : (0 : Int32).toInt = 0 := rfl; omega)) : _ = k5)) ?_
              refine WR_tI (y := nI t7) (Eq.trans I_oR (Eq.trans (I_ne (fx_ne fx (by decide))) v7)) ?_
              refine r_aload rfl rfl ?_
              refine r_getA (b := ad 31) rfl ⟨rfl, rfl, rfl⟩ (fx_t30 fx) (fx_r30_0 fx) ?_
              refine r_iload rfl rfl ?_
              refine WR_tI (y := nI k2) ek2 ?_
              refine r_iaload rfl (.inl (fx_t31 fx)) (vp_ct (fx_n31 fx) (vp_in_nI (by have := i_eq ek2; have : (nI k2).toInt = ((k2 : Nat) : Int) := nI_toInt (by omega); have := i_rg c; have := i_nle c3; have : (24 : Int32).toInt = 24 := rfl; have := i_nlt c1; have : (0 : Int32).toInt = 0 := rfl; omega) (by omega))) ?_
              refine WR_tI (congrArg (hI (sR (sI h (ad 0) 6 0) (ad 1) k5 none) (ad 31)) ((nI_clamp (by have := i_eq ek2; have : (nI k2).toInt = ((k2 : Nat) : Int) := nI_toInt (by omega); have := i_rg c; have := i_nle c3; have : (24 : Int32).toInt = 24 := rfl; have := i_nlt c1; have : (0 : Int32).toInt = 0 := rfl; omega)) : _ = k2)) ?_
              refine WR_tI (y := (-1)) (Eq.trans I_oR (Eq.trans (I_ne (fx_ne fx (by decide))) v19)) ?_
              refine r_icmp_ne (tg := 40) rfl rfl (fun _ => ?_) (fun q => False.elim (by have : (nI t7).toInt = ((t7 : Nat) : Int) := nI_toInt (by omega); have : (-1 : Int32).toInt = -1 := rfl; have := i_eq q; omega))
              refine r_ic (x := 0) rfl rfl ?_
              refine r_istore (lv' := [some (.ref (ad 30)), some (.int c), some (.int d), some (.int 0)]) rfl (Nat.le_of_ble_eq_true rfl) rfl ?_
              refine r_aload rfl rfl ?_
              refine r_getA (b := ad 31) rfl ⟨rfl, rfl, rfl⟩ (fx_t30 fx) (fx_r30_0 fx) ?_
              refine r_iload rfl rfl ?_
              refine WR_tI (y := nI k5) ek5 ?_
              refine r_aload rfl rfl ?_
              refine r_getA (b := ad 31) rfl ⟨rfl, rfl, rfl⟩ (fx_t30 fx) (fx_r30_0 fx) ?_
              refine r_iload rfl rfl ?_
              refine WR_tI (y := nI k2) ek2 ?_
              refine r_iaload rfl (.inl (fx_t31 fx)) (vp_ct (fx_n31 fx) (vp_in_nI (by have := i_eq ek2; have : (nI k2).toInt = ((k2 : Nat) : Int) := nI_toInt (by omega); have := i_rg c; have := i_nle c3; have : (24 : Int32).toInt = 24 := rfl; have := i_nlt c1; have : (0 : Int32).toInt = 0 := rfl; omega) (by omega))) ?_
              refine WR_tI (congrArg (hI (sR (sI h (ad 0) 6 0) (ad 1) k5 none) (ad 31)) ((nI_clamp (by have := i_eq ek2; have : (nI k2).toInt = ((k2 : Nat) : Int) := nI_toInt (by omega); have := i_rg c; have := i_nle c3; have : (24 : Int32).toInt = 24 := rfl; have := i_nlt c1; have : (0 : Int32).toInt = 0 := rfl; omega)) : _ = k2)) ?_
              refine WR_tI (y := (-1)) (Eq.trans I_oR (Eq.trans (I_ne (fx_ne fx (by decide))) v19)) ?_
              refine r_iastore rfl (fx_t31 fx) (vp_ct (fx_n31 fx) (vp_in_nI (by have := i_eq ek5; have : (nI k5).toInt = ((k5 : Nat) : Int) := nI_toInt (by omega); have := i_rg d; have := i_nle c6; have : (24 : Int32).toInt = 24 := rfl; have := i_nlt c4; have : (0 : Int32).toInt = 0 := rfl; omega) (by omega))) ?_
              refine WR_h (h2 := sI (sR (sI h (ad 0) 6 0) (ad 1) k5 none) (ad 31) k5 (-1)) (congrArg (fun z => sI (sR (sI h (ad 0) 6 0) (ad 1) k5 none) (ad 31) z (-1)) ((nI_clamp (by have := i_eq ek5; have : (nI k5).toInt = ((k5 : Nat) : Int) := nI_toInt (by omega); have := i_rg d; have := i_nle c6; have : (24 : Int32).toInt = 24 := rfl; have := i_nlt c4; have : (0 : Int32).toInt = 0 := rfl; omega)) : _ = k5)) ?_
              refine r_aload rfl rfl ?_
              refine r_iload rfl rfl ?_
              refine r_if_eq (tg := 63) rfl rfl (fun _ => ?_) (fun q => absurd q (by decide))
              refine r_ic (x := 1) rfl rfl ?_
              refine r_cv (y := 154) (ra := [.int 1]) (rest := []) rfl ⟨⟨rfl, rfl⟩, rfl, by decide⟩ (fx_t30 fx) rfl rfl (Nat.le_of_ble_eq_true rfl) ?_
              refine in_154 (Nat.le_of_ble_eq_true rfl) ?_
              show WR _ cd_154 0 [some (.ref (ad 30)), some (.int 1)] [] (sI (sR (sI h (ad 0) 6 0) (ad 1) k5 none) (ad 31) k5 (-1)) _
              refine r_aload rfl rfl ?_
              refine r_iload rfl rfl ?_
              refine r_ic (x := (-1)) rfl rfl ?_
              refine r_icmp_ge (tg := 10) rfl rfl (fun _ => ?_) (fun q => absurd q (by decide))
              refine r_ic (x := 0) rfl rfl ?_
              refine r_putI rfl ⟨rfl, rfl, rfl⟩ (fx_t30 fx) ?_
              refine r_iload rfl rfl ?_
              refine r_iret rfl ?_
              show WR _ cd_163 67 [some (.ref (ad 30)), some (.int c), some (.int d), some (.int 0)] [.int 1] (sI (sI (sR (sI h (ad 0) 6 0) (ad 1) k5 none) (ad 31) k5 (-1)) (ad 30) 11 0) _
              refine r_iret rfl ?_
              have cg : Chg n ad [(30, 11), (0, 6)] [31, 1] h (sI (sI (sR (sI h (ad 0) 6 0) (ad 1) k5 none) (ad 31) k5 (-1)) (ad 30) 11 0) := ((((Chg.rf.sI (fx_j fx0) (k := 6) (v := 0) (.inl (by decide))).sR (fx_j fx0) (k := k5) (v := none) (.inl (by decide))).row.sI (fx_j fx0) (k := k5) (v := (-1)) (.inl (by decide))).row.sI (fx_j fx0) (k := 11) (v := 0) (.inl (by decide)))
              refine ⟨rfl, ⟨mid, pa, np, FX.k fx0 cg.1 cg.2.1 cg.2.2 (by decide), Eq.trans (Eq.trans (I_ne (fx_ne fx (by decide))) (Eq.trans (I_ne (fx_ne fx (by decide))) (Eq.trans I_oR I_eq))) (Eq.symm I_eq), rt.k cg.2.1 (by decide), ra.k cg.2.1 (by decide), rp.k cg.2.1 (by decide), rf.k cg.2.1 (by decide), Rst.k fx0 rst cg.2.2, Ru.k fx0 ru cg.2.1 (by decide), ?_⟩, Nat.le_add_right _ _, Nat.le_add_right _ _⟩
              · refine Rs.cases rs (smS_of fx0 cg (by decide)) (fun c_ hc_ => ?_)
                by_cases e_ : c_ = k5
                · rw [e_]
                  exact .inr (.inl ⟨(Eq.trans (I_ne (fx_ne fx (by decide))) I_eq), (Eq.trans R_oI (Eq.trans R_oI R_eq))⟩)
                · exact .inl ⟨c_, hc_, (Eq.trans (I_ne (fx_ne fx (by decide))) (Eq.trans (I_nk (by have := i_eq ek5; have : (nI k5).toInt = ((k5 : Nat) : Int) := nI_toInt (by omega); have := i_rg d; have := i_nle c6; have : (24 : Int32).toInt = 24 := rfl; have := i_nlt c4; have : (0 : Int32).toInt = 0 := rfl; omega)) (Eq.trans I_oR (I_ne (fx_ne fx (by decide)))))), (Eq.trans R_oI (Eq.trans R_oI (Eq.trans (R_nk (by have := i_eq ek5; have : (nI k5).toInt = ((k5 : Nat) : Int) := nI_toInt (by omega); have := i_rg d; have := i_nle c6; have : (24 : Int32).toInt = 24 := rfl; have := i_nlt c4; have : (0 : Int32).toInt = 0 := rfl; omega)) R_oI)))⟩
            · refine r_aaloadA (b := pa q19) rfl (isQ_of (fx_t1 fx) (by decide)) (vp_ct (fx_n1 fx) (vp_in_nI (by have := i_eq ek2; have : (nI k2).toInt = ((k2 : Nat) : Int) := nI_toInt (by omega); have := i_rg c; have := i_nle c3; have : (24 : Int32).toInt = 24 := rfl; have := i_nlt c1; have : (0 : Int32).toInt = 0 := rfl; omega) (by omega))) (Eq.trans (congrArg (hR (sI h (ad 0) 6 0) (ad 1)) ((nI_clamp (by have := i_eq ek2; have : (nI k2).toInt = ((k2 : Nat) : Int) := nI_toInt (by omega); have := i_rg c; have := i_nle c3; have : (24 : Int32).toInt = 24 := rfl; have := i_nlt c1; have : (0 : Int32).toInt = 0 := rfl; omega)) : _ = k2)) (Eq.trans R_oI w19)) ?_
              refine r_acmpA_ne (tg := 43) rfl rfl (fun _ => ?_) (fun q => absurd q (fun e => by have q1 := tg7; have q2 := tg19; rw [e, q2] at q1; cases q1))
              refine r_aload rfl rfl ?_
              refine r_getA (b := ad 1) rfl ⟨rfl, rfl, rfl⟩ (fx_t0 fx) (fx_r0_0 fx) ?_
              refine r_iload rfl rfl ?_
              refine WR_tI (y := nI k5) ek5 ?_
              refine r_aload rfl rfl ?_
              refine r_getA (b := ad 1) rfl ⟨rfl, rfl, rfl⟩ (fx_t0 fx) (fx_r0_0 fx) ?_
              refine r_iload rfl rfl ?_
              refine WR_tI (y := nI k2) ek2 ?_
              refine r_aaloadA (b := pa q19) rfl (isQ_of (fx_t1 fx) (by decide)) (vp_ct (fx_n1 fx) (vp_in_nI (by have := i_eq ek2; have : (nI k2).toInt = ((k2 : Nat) : Int) := nI_toInt (by omega); have := i_rg c; have := i_nle c3; have : (24 : Int32).toInt = 24 := rfl; have := i_nlt c1; have : (0 : Int32).toInt = 0 := rfl; omega) (by omega))) (Eq.trans (congrArg (hR (sI h (ad 0) 6 0) (ad 1)) ((nI_clamp (by have := i_eq ek2; have : (nI k2).toInt = ((k2 : Nat) : Int) := nI_toInt (by omega); have := i_rg c; have := i_nle c3; have : (24 : Int32).toInt = 24 := rfl; have := i_nlt c1; have : (0 : Int32).toInt = 0 := rfl; omega)) : _ = k2)) (Eq.trans R_oI w19)) ?_
              refine r_aastoreA rfl (isQ_of (fx_t1 fx) (by decide)) (vp_ct (fx_n1 fx) (vp_in_nI (by have := i_eq ek5; have : (nI k5).toInt = ((k5 : Nat) : Int) := nI_toInt (by omega); have := i_rg d; have := i_nle c6; have : (24 : Int32).toInt = 24 := rfl; have := i_nlt c4; have : (0 : Int32).toInt = 0 := rfl; omega) (by omega))) (okR_of (fx_t1 fx) tg19 (by decide)) ?_
              refine WR_h (h2 := sR (sI h (ad 0) 6 0) (ad 1) k5 (some (pa q19))) (congrArg (fun z => sR (sI h (ad 0) 6 0) (ad 1) z (some (pa q19))) ((nI_clamp (by have := i_eq ek5; have : (nI k5).toInt = ((k5 : Nat) : Int) := nI_toInt (by omega); have := i_rg d; have := i_nle c6; have : (24 : Int32).toInt = 24 := rfl; have := i_nlt c4; have : (0 : Int32).toInt = 0 := rfl; omega)) : _ = k5)) ?_
              have fx : FX n ad sa z0 (sR (sI h (ad 0) 6 0) (ad 1) k5 (some (pa q19))) := FX.sRA (i := 1) fx (.inl (by decide)) (by decide)
              refine r_ic (x := 1) rfl rfl ?_
              refine r_iret rfl ?_
              show EV _ 163 [.ref (ad 30), .int c, .int d] (sR (sI h (ad 0) 6 0) (ad 1) k5 (some (pa q19))) _
              refine in_163 (Nat.le_of_ble_eq_true rfl) ?_
              show WR _ cd_163 0 [some (.ref (ad 30)), some (.int c), some (.int d), none] [] (sR (sI h (ad 0) 6 0) (ad 1) k5 (some (pa q19))) _
              refine r_iload rfl rfl ?_
              refine WR_tI (y := nI k2) ek2 ?_
              refine r_cs (y := 153) (ra := [.int (nI k2)]) (rest := []) rfl ⟨⟨rfl, rfl⟩, by decide⟩ rfl rfl (Nat.le_of_ble_eq_true rfl) ?_
              refine in_153 (Nat.le_of_ble_eq_true rfl) ?_
              show WR _ cd_153 0 [some (.int (nI k2))] [] (sR (sI h (ad 0) 6 0) (ad 1) k5 (some (pa q19))) _
              refine r_iload rfl rfl ?_
              refine r_if_lt (tg := 14) rfl rfl (fun q => False.elim (by have : (nI k2).toInt = ((k2 : Nat) : Int) := nI_toInt (by omega); have : (0 : Int32).toInt = 0 := rfl; have := i_eq ek2; have := i_rg c; have := i_nle c3; have : (24 : Int32).toInt = 24 := rfl; have := i_nlt c1; have := i_lt q; omega)) (fun _ => ?_)
              refine r_iload rfl rfl ?_
              refine r_ic (x := 24) rfl rfl ?_
              refine r_icmp_ge (tg := 14) rfl rfl (fun q => False.elim (by have : (nI k2).toInt = ((k2 : Nat) : Int) := nI_toInt (by omega); have : (24 : Int32).toInt = 24 := rfl; have := i_eq ek2; have := i_rg c; have := i_nle c3; have := i_nlt c1; have : (0 : Int32).toInt = 0 := rfl; have := i_le q; omega)) (fun _ => ?_)
              refine r_ic (x := 1) rfl rfl ?_
              refine r_goto (tg := 15) rfl rfl ?_
              refine r_zret rfl (.inr rfl) ?_
              show WR _ cd_163 4 [some (.ref (ad 30)), some (.int c), some (.int d), none] [.int 1] (sR (sI h (ad 0) 6 0) (ad 1) k5 (some (pa q19))) _
              refine r_if_eq (tg := 14) rfl rfl (fun q => absurd q (by decide)) (fun _ => ?_)
              refine r_iload rfl rfl ?_
              refine WR_tI (y := nI k5) ek5 ?_
              refine r_cs (y := 153) (ra := [.int (nI k5)]) (rest := []) rfl ⟨⟨rfl, rfl⟩, by decide⟩ rfl rfl (Nat.le_of_ble_eq_true rfl) ?_
              refine in_153 (Nat.le_of_ble_eq_true rfl) ?_
              show WR _ cd_153 0 [some (.int (nI k5))] [] (sR (sI h (ad 0) 6 0) (ad 1) k5 (some (pa q19))) _
              refine r_iload rfl rfl ?_
              refine r_if_lt (tg := 14) rfl rfl (fun q => False.elim (by have : (nI k5).toInt = ((k5 : Nat) : Int) := nI_toInt (by omega); have : (0 : Int32).toInt = 0 := rfl; have := i_eq ek5; have := i_rg d; have := i_nle c6; have : (24 : Int32).toInt = 24 := rfl; have := i_nlt c4; have := i_lt q; omega)) (fun _ => ?_)
              refine r_iload rfl rfl ?_
              refine r_ic (x := 24) rfl rfl ?_
              refine r_icmp_ge (tg := 14) rfl rfl (fun q => False.elim (by have : (nI k5).toInt = ((k5 : Nat) : Int) := nI_toInt (by omega); have : (24 : Int32).toInt = 24 := rfl; have := i_eq ek5; have := i_rg d; have := i_nle c6; have := i_nlt c4; have : (0 : Int32).toInt = 0 := rfl; have := i_le q; omega)) (fun _ => ?_)
              refine r_ic (x := 1) rfl rfl ?_
              refine r_goto (tg := 15) rfl rfl ?_
              refine r_zret rfl (.inr rfl) ?_
              show WR _ cd_163 11 [some (.ref (ad 30)), some (.int c), some (.int d), none] [.int 1] (sR (sI h (ad 0) 6 0) (ad 1) k5 (some (pa q19))) _
              refine r_if_ne (tg := 21) rfl rfl (fun _ => ?_) (fun q => absurd q (by decide))
              refine r_aload rfl rfl ?_
              refine r_getA (b := ad 31) rfl ⟨rfl, rfl, rfl⟩ (fx_t30 fx) (fx_r30_0 fx) ?_
              refine r_iload rfl rfl ?_
              refine WR_tI (y := nI k5) ek5 ?_
              refine r_iaload rfl (.inl (fx_t31 fx)) (vp_ct (fx_n31 fx) (vp_in_nI (by have := i_eq ek5; have : (nI k5).toInt = ((k5 : Nat) : Int) := nI_toInt (by omega); have := i_rg d; have := i_nle c6; have : (24 : Int32).toInt = 24 := rfl; have := i_nlt c4; have : (0 : Int32).toInt = 0 := rfl; omega) (by omega))) ?_
              refine WR_tI (congrArg (hI (sR (sI h (ad 0) 6 0) (ad 1) k5 (some (pa q19))) (ad 31)) ((nI_clamp (by have := i_eq ek5; have : (nI k5).toInt = ((k5 : Nat) : Int) := nI_toInt (by omega); have := i_rg d; have := i_nle c6; have : (24 : Int32).toInt = 24 := rfl; have := i_nlt c4; have : (0 : Int32).toInt = 0 := rfl; omega)) : _ = k5)) ?_
              refine WR_tI (y := nI t7) (Eq.trans I_oR (Eq.trans (I_ne (fx_ne fx (by decide))) v7)) ?_
              refine r_aload rfl rfl ?_
              refine r_getA (b := ad 31) rfl ⟨rfl, rfl, rfl⟩ (fx_t30 fx) (fx_r30_0 fx) ?_
              refine r_iload rfl rfl ?_
              refine WR_tI (y := nI k2) ek2 ?_
              refine r_iaload rfl (.inl (fx_t31 fx)) (vp_ct (fx_n31 fx) (vp_in_nI (by have := i_eq ek2; have : (nI k2).toInt = ((k2 : Nat) : Int) := nI_toInt (by omega); have := i_rg c; have := i_nle c3; have : (24 : Int32).toInt = 24 := rfl; have := i_nlt c1; have : (0 : Int32).toInt = 0 := rfl; omega) (by omega))) ?_
              refine WR_tI (congrArg (hI (sR (sI h (ad 0) 6 0) (ad 1) k5 (some (pa q19))) (ad 31)) ((nI_clamp (by have := i_eq ek2; have : (nI k2).toInt = ((k2 : Nat) : Int) := nI_toInt (by omega); have := i_rg c; have := i_nle c3; have : (24 : Int32).toInt = 24 := rfl; have := i_nlt c1; have : (0 : Int32).toInt = 0 := rfl; omega)) : _ = k2)) ?_
              refine WR_tI (y := nI (q19 + 1000)) (Eq.trans I_oR (Eq.trans (I_ne (fx_ne fx (by decide))) v19)) ?_
              refine r_icmp_ne (tg := 40) rfl rfl (fun _ => ?_) (fun q => False.elim (by have : (nI t7).toInt = ((t7 : Nat) : Int) := nI_toInt (by omega); have : (nI (q19 + 1000)).toInt = ((q19 + 1000 : Nat) : Int) := nI_toInt (by omega); have := i_eq q; omega))
              refine r_ic (x := 0) rfl rfl ?_
              refine r_istore (lv' := [some (.ref (ad 30)), some (.int c), some (.int d), some (.int 0)]) rfl (Nat.le_of_ble_eq_true rfl) rfl ?_
              refine r_aload rfl rfl ?_
              refine r_getA (b := ad 31) rfl ⟨rfl, rfl, rfl⟩ (fx_t30 fx) (fx_r30_0 fx) ?_
              refine r_iload rfl rfl ?_
              refine WR_tI (y := nI k5) ek5 ?_
              refine r_aload rfl rfl ?_
              refine r_getA (b := ad 31) rfl ⟨rfl, rfl, rfl⟩ (fx_t30 fx) (fx_r30_0 fx) ?_
              refine r_iload rfl rfl ?_
              refine WR_tI (y := nI k2) ek2 ?_
              refine r_iaload rfl (.inl (fx_t31 fx)) (vp_ct (fx_n31 fx) (vp_in_nI (by have := i_eq ek2; have : (nI k2).toInt = ((k2 : Nat) : Int) := nI_toInt (by omega); have := i_rg c; have := i_nle c3; have : (24 : Int32).toInt = 24 := rfl; have := i_nlt c1; have : (0 : Int32).toInt = 0 := rfl; omega) (by omega))) ?_
              refine WR_tI (congrArg (hI (sR (sI h (ad 0) 6 0) (ad 1) k5 (some (pa q19))) (ad 31)) ((nI_clamp (by have := i_eq ek2; have : (nI k2).toInt = ((k2 : Nat) : Int) := nI_toInt (by omega); have := i_rg c; have := i_nle c3; have : (24 : Int32).toInt = 24 := rfl; have := i_nlt c1; have : (0 : Int32).toInt = 0 := rfl; omega)) : _ = k2)) ?_
              refine WR_tI (y := nI (q19 + 1000)) (Eq.trans I_oR (Eq.trans (I_ne (fx_ne fx (by decide))) v19)) ?_
              refine r_iastore rfl (fx_t31 fx) (vp_ct (fx_n31 fx) (vp_in_nI (by have := i_eq ek5; have : (nI k5).toInt = ((k5 : Nat) : Int) := nI_toInt (by omega); have := i_rg d; have := i_nle c6; have : (24 : Int32).toInt = 24 := rfl; have := i_nlt c4; have : (0 : Int32).toInt = 0 := rfl; omega) (by omega))) ?_
              refine WR_h (h2 := sI (sR (sI h (ad 0) 6 0) (ad 1) k5 (some (pa q19))) (ad 31) k5 (nI (q19 + 1000))) (congrArg (fun z => sI (sR (sI h (ad 0) 6 0) (ad 1) k5 (some (pa q19))) (ad 31) z (nI (q19 + 1000))) ((nI_clamp (by have := i_eq ek5; have : (nI k5).toInt = ((k5 : Nat) : Int) := nI_toInt (by omega); have := i_rg d; have := i_nle c6; have : (24 : Int32).toInt = 24 := rfl; have := i_nlt c4; have : (0 : Int32).toInt = 0 := rfl; omega)) : _ = k5)) ?_
              refine r_aload rfl rfl ?_
              refine r_iload rfl rfl ?_
              refine r_if_eq (tg := 63) rfl rfl (fun _ => ?_) (fun q => absurd q (by decide))
              refine r_ic (x := 1) rfl rfl ?_
              refine r_cv (y := 154) (ra := [.int 1]) (rest := []) rfl ⟨⟨rfl, rfl⟩, rfl, by decide⟩ (fx_t30 fx) rfl rfl (Nat.le_of_ble_eq_true rfl) ?_
              refine in_154 (Nat.le_of_ble_eq_true rfl) ?_
              show WR _ cd_154 0 [some (.ref (ad 30)), some (.int 1)] [] (sI (sR (sI h (ad 0) 6 0) (ad 1) k5 (some (pa q19))) (ad 31) k5 (nI (q19 + 1000))) _
              refine r_aload rfl rfl ?_
              refine r_iload rfl rfl ?_
              refine r_ic (x := (-1)) rfl rfl ?_
              refine r_icmp_ge (tg := 10) rfl rfl (fun _ => ?_) (fun q => absurd q (by decide))
              refine r_ic (x := 0) rfl rfl ?_
              refine r_putI rfl ⟨rfl, rfl, rfl⟩ (fx_t30 fx) ?_
              refine r_iload rfl rfl ?_
              refine r_iret rfl ?_
              show WR _ cd_163 67 [some (.ref (ad 30)), some (.int c), some (.int d), some (.int 0)] [.int 1] (sI (sI (sR (sI h (ad 0) 6 0) (ad 1) k5 (some (pa q19))) (ad 31) k5 (nI (q19 + 1000))) (ad 30) 11 0) _
              refine r_iret rfl ?_
              have cg : Chg n ad [(30, 11), (0, 6)] [31, 1] h (sI (sI (sR (sI h (ad 0) 6 0) (ad 1) k5 (some (pa q19))) (ad 31) k5 (nI (q19 + 1000))) (ad 30) 11 0) := ((((Chg.rf.sI (fx_j fx0) (k := 6) (v := 0) (.inl (by decide))).sR (fx_j fx0) (k := k5) (v := some (pa q19)) (.inl (by decide))).row.sI (fx_j fx0) (k := k5) (v := nI (q19 + 1000)) (.inl (by decide))).row.sI (fx_j fx0) (k := 11) (v := 0) (.inl (by decide)))
              refine ⟨rfl, ⟨mid, pa, np, FX.k fx0 cg.1 cg.2.1 cg.2.2 (by decide), Eq.trans (Eq.trans (I_ne (fx_ne fx (by decide))) (Eq.trans (I_ne (fx_ne fx (by decide))) (Eq.trans I_oR I_eq))) (Eq.symm I_eq), rt.k cg.2.1 (by decide), ra.k cg.2.1 (by decide), rp.k cg.2.1 (by decide), rf.k cg.2.1 (by decide), Rst.k fx0 rst cg.2.2, Ru.k fx0 ru cg.2.1 (by decide), ?_⟩, Nat.le_add_right _ _, Nat.le_add_right _ _⟩
              · refine Rs.cases rs (smS_of fx0 cg (by decide)) (fun c_ hc_ => ?_)
                by_cases e_ : c_ = k5
                · rw [e_]
                  exact .inl ⟨k2, (by have := i_eq ek2; have : (nI k2).toInt = ((k2 : Nat) : Int) := nI_toInt (by omega); have := i_rg c; have := i_nle c3; have : (24 : Int32).toInt = 24 := rfl; have := i_nlt c1; have : (0 : Int32).toInt = 0 := rfl; omega), Eq.trans (Eq.trans (I_ne (fx_ne fx (by decide))) I_eq) (Eq.symm v19), Eq.trans (Eq.trans R_oI (Eq.trans R_oI R_eq)) (Eq.symm w19)⟩
                · exact .inl ⟨c_, hc_, (Eq.trans (I_ne (fx_ne fx (by decide))) (Eq.trans (I_nk (by have := i_eq ek5; have : (nI k5).toInt = ((k5 : Nat) : Int) := nI_toInt (by omega); have := i_rg d; have := i_nle c6; have : (24 : Int32).toInt = 24 := rfl; have := i_nlt c4; have : (0 : Int32).toInt = 0 := rfl; omega)) (Eq.trans I_oR (I_ne (fx_ne fx (by decide)))))), (Eq.trans R_oI (Eq.trans R_oI (Eq.trans (R_nk (by have := i_eq ek5; have : (nI k5).toInt = ((k5 : Nat) : Int) := nI_toInt (by omega); have := i_rg d; have := i_nle c6; have : (24 : Int32).toInt = 24 := rfl; have := i_nlt c4; have : (0 : Int32).toInt = 0 := rfl; omega)) R_oI)))⟩
            · refine r_aaloadA (b := mid t19) rfl (isQ_of (fx_t1 fx) (by decide)) (vp_ct (fx_n1 fx) (vp_in_nI (by have := i_eq ek2; have : (nI k2).toInt = ((k2 : Nat) : Int) := nI_toInt (by omega); have := i_rg c; have := i_nle c3; have : (24 : Int32).toInt = 24 := rfl; have := i_nlt c1; have : (0 : Int32).toInt = 0 := rfl; omega) (by omega))) (Eq.trans (congrArg (hR (sI h (ad 0) 6 0) (ad 1)) ((nI_clamp (by have := i_eq ek2; have : (nI k2).toInt = ((k2 : Nat) : Int) := nI_toInt (by omega); have := i_rg c; have := i_nle c3; have : (24 : Int32).toInt = 24 := rfl; have := i_nlt c1; have : (0 : Int32).toInt = 0 := rfl; omega)) : _ = k2)) (Eq.trans R_oI w19)) ?_
              have c20e : ¬ t7 = t19 := fun e => by have q1 := tg7; have q2 := tg19; rw [e, q2] at q1; cases q1
              refine r_acmpA_ne (tg := 43) rfl rfl (fun _ => ?_) (fun q => absurd q (fun e => by have q1 := tg7; have q2 := tg19; rw [e, q2] at q1; cases q1))
              refine r_aload rfl rfl ?_
              refine r_getA (b := ad 1) rfl ⟨rfl, rfl, rfl⟩ (fx_t0 fx) (fx_r0_0 fx) ?_
              refine r_iload rfl rfl ?_
              refine WR_tI (y := nI k5) ek5 ?_
              refine r_aload rfl rfl ?_
              refine r_getA (b := ad 1) rfl ⟨rfl, rfl, rfl⟩ (fx_t0 fx) (fx_r0_0 fx) ?_
              refine r_iload rfl rfl ?_
              refine WR_tI (y := nI k2) ek2 ?_
              refine r_aaloadA (b := mid t19) rfl (isQ_of (fx_t1 fx) (by decide)) (vp_ct (fx_n1 fx) (vp_in_nI (by have := i_eq ek2; have : (nI k2).toInt = ((k2 : Nat) : Int) := nI_toInt (by omega); have := i_rg c; have := i_nle c3; have : (24 : Int32).toInt = 24 := rfl; have := i_nlt c1; have : (0 : Int32).toInt = 0 := rfl; omega) (by omega))) (Eq.trans (congrArg (hR (sI h (ad 0) 6 0) (ad 1)) ((nI_clamp (by have := i_eq ek2; have : (nI k2).toInt = ((k2 : Nat) : Int) := nI_toInt (by omega); have := i_rg c; have := i_nle c3; have : (24 : Int32).toInt = 24 := rfl; have := i_nlt c1; have : (0 : Int32).toInt = 0 := rfl; omega)) : _ = k2)) (Eq.trans R_oI w19)) ?_
              refine r_aastoreA rfl (isQ_of (fx_t1 fx) (by decide)) (vp_ct (fx_n1 fx) (vp_in_nI (by have := i_eq ek5; have : (nI k5).toInt = ((k5 : Nat) : Int) := nI_toInt (by omega); have := i_rg d; have := i_nle c6; have : (24 : Int32).toInt = 24 := rfl; have := i_nlt c4; have : (0 : Int32).toInt = 0 := rfl; omega) (by omega))) (okR_of (fx_t1 fx) tg19 (by decide)) ?_
              refine WR_h (h2 := sR (sI h (ad 0) 6 0) (ad 1) k5 (some (mid t19))) (congrArg (fun z => sR (sI h (ad 0) 6 0) (ad 1) z (some (mid t19))) ((nI_clamp (by have := i_eq ek5; have : (nI k5).toInt = ((k5 : Nat) : Int) := nI_toInt (by omega); have := i_rg d; have := i_nle c6; have : (24 : Int32).toInt = 24 := rfl; have := i_nlt c4; have : (0 : Int32).toInt = 0 := rfl; omega)) : _ = k5)) ?_
              have fx : FX n ad sa z0 (sR (sI h (ad 0) 6 0) (ad 1) k5 (some (mid t19))) := FX.sRA (i := 1) fx (.inl (by decide)) (by decide)
              refine r_ic (x := 1) rfl rfl ?_
              refine r_iret rfl ?_
              show EV _ 163 [.ref (ad 30), .int c, .int d] (sR (sI h (ad 0) 6 0) (ad 1) k5 (some (mid t19))) _
              refine in_163 (Nat.le_of_ble_eq_true rfl) ?_
              show WR _ cd_163 0 [some (.ref (ad 30)), some (.int c), some (.int d), none] [] (sR (sI h (ad 0) 6 0) (ad 1) k5 (some (mid t19))) _
              refine r_iload rfl rfl ?_
              refine WR_tI (y := nI k2) ek2 ?_
              refine r_cs (y := 153) (ra := [.int (nI k2)]) (rest := []) rfl ⟨⟨rfl, rfl⟩, by decide⟩ rfl rfl (Nat.le_of_ble_eq_true rfl) ?_
              refine in_153 (Nat.le_of_ble_eq_true rfl) ?_
              show WR _ cd_153 0 [some (.int (nI k2))] [] (sR (sI h (ad 0) 6 0) (ad 1) k5 (some (mid t19))) _
              refine r_iload rfl rfl ?_
              refine r_if_lt (tg := 14) rfl rfl (fun q => False.elim (by have : (nI k2).toInt = ((k2 : Nat) : Int) := nI_toInt (by omega); have : (0 : Int32).toInt = 0 := rfl; have := i_eq ek2; have := i_rg c; have := i_nle c3; have : (24 : Int32).toInt = 24 := rfl; have := i_nlt c1; have := i_lt q; omega)) (fun _ => ?_)
              refine r_iload rfl rfl ?_
              refine r_ic (x := 24) rfl rfl ?_
              refine r_icmp_ge (tg := 14) rfl rfl (fun q => False.elim (by have : (nI k2).toInt = ((k2 : Nat) : Int) := nI_toInt (by omega); have : (24 : Int32).toInt = 24 := rfl; have := i_eq ek2; have := i_rg c; have := i_nle c3; have := i_nlt c1; have : (0 : Int32).toInt = 0 := rfl; have := i_le q; omega)) (fun _ => ?_)
              refine r_ic (x := 1) rfl rfl ?_
              refine r_goto (tg := 15) rfl rfl ?_
              refine r_zret rfl (.inr rfl) ?_
              show WR _ cd_163 4 [some (.ref (ad 30)), some (.int c), some (.int d), none] [.int 1] (sR (sI h (ad 0) 6 0) (ad 1) k5 (some (mid t19))) _
              refine r_if_eq (tg := 14) rfl rfl (fun q => absurd q (by decide)) (fun _ => ?_)
              refine r_iload rfl rfl ?_
              refine WR_tI (y := nI k5) ek5 ?_
              refine r_cs (y := 153) (ra := [.int (nI k5)]) (rest := []) rfl ⟨⟨rfl, rfl⟩, by decide⟩ rfl rfl (Nat.le_of_ble_eq_true rfl) ?_
              refine in_153 (Nat.le_of_ble_eq_true rfl) ?_
              show WR _ cd_153 0 [some (.int (nI k5))] [] (sR (sI h (ad 0) 6 0) (ad 1) k5 (some (mid t19))) _
              refine r_iload rfl rfl ?_
              refine r_if_lt (tg := 14) rfl rfl (fun q => False.elim (by have : (nI k5).toInt = ((k5 : Nat) : Int) := nI_toInt (by omega); have : (0 : Int32).toInt = 0 := rfl; have := i_eq ek5; have := i_rg d; have := i_nle c6; have : (24 : Int32).toInt = 24 := rfl; have := i_nlt c4; have := i_lt q; omega)) (fun _ => ?_)
              refine r_iload rfl rfl ?_
              refine r_ic (x := 24) rfl rfl ?_
              refine r_icmp_ge (tg := 14) rfl rfl (fun q => False.elim (by have : (nI k5).toInt = ((k5 : Nat) : Int) := nI_toInt (by omega); have : (24 : Int32).toInt = 24 := rfl; have := i_eq ek5; have := i_rg d; have := i_nle c6; have := i_nlt c4; have : (0 : Int32).toInt = 0 := rfl; have := i_le q; omega)) (fun _ => ?_)
              refine r_ic (x := 1) rfl rfl ?_
              refine r_goto (tg := 15) rfl rfl ?_
              refine r_zret rfl (.inr rfl) ?_
              show WR _ cd_163 11 [some (.ref (ad 30)), some (.int c), some (.int d), none] [.int 1] (sR (sI h (ad 0) 6 0) (ad 1) k5 (some (mid t19))) _
              refine r_if_ne (tg := 21) rfl rfl (fun _ => ?_) (fun q => absurd q (by decide))
              refine r_aload rfl rfl ?_
              refine r_getA (b := ad 31) rfl ⟨rfl, rfl, rfl⟩ (fx_t30 fx) (fx_r30_0 fx) ?_
              refine r_iload rfl rfl ?_
              refine WR_tI (y := nI k5) ek5 ?_
              refine r_iaload rfl (.inl (fx_t31 fx)) (vp_ct (fx_n31 fx) (vp_in_nI (by have := i_eq ek5; have : (nI k5).toInt = ((k5 : Nat) : Int) := nI_toInt (by omega); have := i_rg d; have := i_nle c6; have : (24 : Int32).toInt = 24 := rfl; have := i_nlt c4; have : (0 : Int32).toInt = 0 := rfl; omega) (by omega))) ?_
              refine WR_tI (congrArg (hI (sR (sI h (ad 0) 6 0) (ad 1) k5 (some (mid t19))) (ad 31)) ((nI_clamp (by have := i_eq ek5; have : (nI k5).toInt = ((k5 : Nat) : Int) := nI_toInt (by omega); have := i_rg d; have := i_nle c6; have : (24 : Int32).toInt = 24 := rfl; have := i_nlt c4; have : (0 : Int32).toInt = 0 := rfl; omega)) : _ = k5)) ?_
              refine WR_tI (y := nI t7) (Eq.trans I_oR (Eq.trans (I_ne (fx_ne fx (by decide))) v7)) ?_
              refine r_aload rfl rfl ?_
              refine r_getA (b := ad 31) rfl ⟨rfl, rfl, rfl⟩ (fx_t30 fx) (fx_r30_0 fx) ?_
              refine r_iload rfl rfl ?_
              refine WR_tI (y := nI k2) ek2 ?_
              refine r_iaload rfl (.inl (fx_t31 fx)) (vp_ct (fx_n31 fx) (vp_in_nI (by have := i_eq ek2; have : (nI k2).toInt = ((k2 : Nat) : Int) := nI_toInt (by omega); have := i_rg c; have := i_nle c3; have : (24 : Int32).toInt = 24 := rfl; have := i_nlt c1; have : (0 : Int32).toInt = 0 := rfl; omega) (by omega))) ?_
              refine WR_tI (congrArg (hI (sR (sI h (ad 0) 6 0) (ad 1) k5 (some (mid t19))) (ad 31)) ((nI_clamp (by have := i_eq ek2; have : (nI k2).toInt = ((k2 : Nat) : Int) := nI_toInt (by omega); have := i_rg c; have := i_nle c3; have : (24 : Int32).toInt = 24 := rfl; have := i_nlt c1; have : (0 : Int32).toInt = 0 := rfl; omega)) : _ = k2)) ?_
              refine WR_tI (y := nI t19) (Eq.trans I_oR (Eq.trans (I_ne (fx_ne fx (by decide))) v19)) ?_
              refine r_icmp_ne (tg := 40) rfl rfl (fun _ => ?_) (fun q => False.elim (by have : (nI t7).toInt = ((t7 : Nat) : Int) := nI_toInt (by omega); have : (nI t19).toInt = ((t19 : Nat) : Int) := nI_toInt (by omega); have := i_eq q; omega))
              refine r_ic (x := 0) rfl rfl ?_
              refine r_istore (lv' := [some (.ref (ad 30)), some (.int c), some (.int d), some (.int 0)]) rfl (Nat.le_of_ble_eq_true rfl) rfl ?_
              refine r_aload rfl rfl ?_
              refine r_getA (b := ad 31) rfl ⟨rfl, rfl, rfl⟩ (fx_t30 fx) (fx_r30_0 fx) ?_
              refine r_iload rfl rfl ?_
              refine WR_tI (y := nI k5) ek5 ?_
              refine r_aload rfl rfl ?_
              refine r_getA (b := ad 31) rfl ⟨rfl, rfl, rfl⟩ (fx_t30 fx) (fx_r30_0 fx) ?_
              refine r_iload rfl rfl ?_
              refine WR_tI (y := nI k2) ek2 ?_
              refine r_iaload rfl (.inl (fx_t31 fx)) (vp_ct (fx_n31 fx) (vp_in_nI (by have := i_eq ek2; have : (nI k2).toInt = ((k2 : Nat) : Int) := nI_toInt (by omega); have := i_rg c; have := i_nle c3; have : (24 : Int32).toInt = 24 := rfl; have := i_nlt c1; have : (0 : Int32).toInt = 0 := rfl; omega) (by omega))) ?_
              refine WR_tI (congrArg (hI (sR (sI h (ad 0) 6 0) (ad 1) k5 (some (mid t19))) (ad 31)) ((nI_clamp (by have := i_eq ek2; have : (nI k2).toInt = ((k2 : Nat) : Int) := nI_toInt (by omega); have := i_rg c; have := i_nle c3; have : (24 : Int32).toInt = 24 := rfl; have := i_nlt c1; have : (0 : Int32).toInt = 0 := rfl; omega)) : _ = k2)) ?_
              refine WR_tI (y := nI t19) (Eq.trans I_oR (Eq.trans (I_ne (fx_ne fx (by decide))) v19)) ?_
              refine r_iastore rfl (fx_t31 fx) (vp_ct (fx_n31 fx) (vp_in_nI (by have := i_eq ek5; have : (nI k5).toInt = ((k5 : Nat) : Int) := nI_toInt (by omega); have := i_rg d; have := i_nle c6; have : (24 : Int32).toInt = 24 := rfl; have := i_nlt c4; have : (0 : Int32).toInt = 0 := rfl; omega) (by omega))) ?_
              refine WR_h (h2 := sI (sR (sI h (ad 0) 6 0) (ad 1) k5 (some (mid t19))) (ad 31) k5 (nI t19)) (congrArg (fun z => sI (sR (sI h (ad 0) 6 0) (ad 1) k5 (some (mid t19))) (ad 31) z (nI t19)) ((nI_clamp (by have := i_eq ek5; have : (nI k5).toInt = ((k5 : Nat) : Int) := nI_toInt (by omega); have := i_rg d; have := i_nle c6; have : (24 : Int32).toInt = 24 := rfl; have := i_nlt c4; have : (0 : Int32).toInt = 0 := rfl; omega)) : _ = k5)) ?_
              refine r_aload rfl rfl ?_
              refine r_iload rfl rfl ?_
              refine r_if_eq (tg := 63) rfl rfl (fun _ => ?_) (fun q => absurd q (by decide))
              refine r_ic (x := 1) rfl rfl ?_
              refine r_cv (y := 154) (ra := [.int 1]) (rest := []) rfl ⟨⟨rfl, rfl⟩, rfl, by decide⟩ (fx_t30 fx) rfl rfl (Nat.le_of_ble_eq_true rfl) ?_
              refine in_154 (Nat.le_of_ble_eq_true rfl) ?_
              show WR _ cd_154 0 [some (.ref (ad 30)), some (.int 1)] [] (sI (sR (sI h (ad 0) 6 0) (ad 1) k5 (some (mid t19))) (ad 31) k5 (nI t19)) _
              refine r_aload rfl rfl ?_
              refine r_iload rfl rfl ?_
              refine r_ic (x := (-1)) rfl rfl ?_
              refine r_icmp_ge (tg := 10) rfl rfl (fun _ => ?_) (fun q => absurd q (by decide))
              refine r_ic (x := 0) rfl rfl ?_
              refine r_putI rfl ⟨rfl, rfl, rfl⟩ (fx_t30 fx) ?_
              refine r_iload rfl rfl ?_
              refine r_iret rfl ?_
              show WR _ cd_163 67 [some (.ref (ad 30)), some (.int c), some (.int d), some (.int 0)] [.int 1] (sI (sI (sR (sI h (ad 0) 6 0) (ad 1) k5 (some (mid t19))) (ad 31) k5 (nI t19)) (ad 30) 11 0) _
              refine r_iret rfl ?_
              have cg : Chg n ad [(30, 11), (0, 6)] [31, 1] h (sI (sI (sR (sI h (ad 0) 6 0) (ad 1) k5 (some (mid t19))) (ad 31) k5 (nI t19)) (ad 30) 11 0) := ((((Chg.rf.sI (fx_j fx0) (k := 6) (v := 0) (.inl (by decide))).sR (fx_j fx0) (k := k5) (v := some (mid t19)) (.inl (by decide))).row.sI (fx_j fx0) (k := k5) (v := nI t19) (.inl (by decide))).row.sI (fx_j fx0) (k := 11) (v := 0) (.inl (by decide)))
              refine ⟨rfl, ⟨mid, pa, np, FX.k fx0 cg.1 cg.2.1 cg.2.2 (by decide), Eq.trans (Eq.trans (I_ne (fx_ne fx (by decide))) (Eq.trans (I_ne (fx_ne fx (by decide))) (Eq.trans I_oR I_eq))) (Eq.symm I_eq), rt.k cg.2.1 (by decide), ra.k cg.2.1 (by decide), rp.k cg.2.1 (by decide), rf.k cg.2.1 (by decide), Rst.k fx0 rst cg.2.2, Ru.k fx0 ru cg.2.1 (by decide), ?_⟩, Nat.le_add_right _ _, Nat.le_add_right _ _⟩
              · refine Rs.cases rs (smS_of fx0 cg (by decide)) (fun c_ hc_ => ?_)
                by_cases e_ : c_ = k5
                · rw [e_]
                  exact .inl ⟨k2, (by have := i_eq ek2; have : (nI k2).toInt = ((k2 : Nat) : Int) := nI_toInt (by omega); have := i_rg c; have := i_nle c3; have : (24 : Int32).toInt = 24 := rfl; have := i_nlt c1; have : (0 : Int32).toInt = 0 := rfl; omega), Eq.trans (Eq.trans (I_ne (fx_ne fx (by decide))) I_eq) (Eq.symm v19), Eq.trans (Eq.trans R_oI (Eq.trans R_oI R_eq)) (Eq.symm w19)⟩
                · exact .inl ⟨c_, hc_, (Eq.trans (I_ne (fx_ne fx (by decide))) (Eq.trans (I_nk (by have := i_eq ek5; have : (nI k5).toInt = ((k5 : Nat) : Int) := nI_toInt (by omega); have := i_rg d; have := i_nle c6; have : (24 : Int32).toInt = 24 := rfl; have := i_nlt c4; have : (0 : Int32).toInt = 0 := rfl; omega)) (Eq.trans I_oR (I_ne (fx_ne fx (by decide)))))), (Eq.trans R_oI (Eq.trans R_oI (Eq.trans (R_nk (by have := i_eq ek5; have : (nI k5).toInt = ((k5 : Nat) : Int) := nI_toInt (by omega); have := i_rg d; have := i_nle c6; have : (24 : Int32).toInt = 24 := rfl; have := i_nlt c4; have : (0 : Int32).toInt = 0 := rfl; omega)) R_oI)))⟩
            · refine r_aaloadA (b := mid t19) rfl (isQ_of (fx_t1 fx) (by decide)) (vp_ct (fx_n1 fx) (vp_in_nI (by have := i_eq ek2; have : (nI k2).toInt = ((k2 : Nat) : Int) := nI_toInt (by omega); have := i_rg c; have := i_nle c3; have : (24 : Int32).toInt = 24 := rfl; have := i_nlt c1; have : (0 : Int32).toInt = 0 := rfl; omega) (by omega))) (Eq.trans (congrArg (hR (sI h (ad 0) 6 0) (ad 1)) ((nI_clamp (by have := i_eq ek2; have : (nI k2).toInt = ((k2 : Nat) : Int) := nI_toInt (by omega); have := i_rg c; have := i_nle c3; have : (24 : Int32).toInt = 24 := rfl; have := i_nlt c1; have : (0 : Int32).toInt = 0 := rfl; omega)) : _ = k2)) (Eq.trans R_oI w19)) ?_
              refine r_acmpA_ne (tg := 43) rfl rfl (fun c21 => ?_) (fun c21 => ?_)
              · have c21e : ¬ t7 = t19 := fun e => c21 (by rw [e])
                refine r_aload rfl rfl ?_
                refine r_getA (b := ad 1) rfl ⟨rfl, rfl, rfl⟩ (fx_t0 fx) (fx_r0_0 fx) ?_
                refine r_iload rfl rfl ?_
                refine WR_tI (y := nI k5) ek5 ?_
                refine r_aload rfl rfl ?_
                refine r_getA (b := ad 1) rfl ⟨rfl, rfl, rfl⟩ (fx_t0 fx) (fx_r0_0 fx) ?_
                refine r_iload rfl rfl ?_
                refine WR_tI (y := nI k2) ek2 ?_
                refine r_aaloadA (b := mid t19) rfl (isQ_of (fx_t1 fx) (by decide)) (vp_ct (fx_n1 fx) (vp_in_nI (by have := i_eq ek2; have : (nI k2).toInt = ((k2 : Nat) : Int) := nI_toInt (by omega); have := i_rg c; have := i_nle c3; have : (24 : Int32).toInt = 24 := rfl; have := i_nlt c1; have : (0 : Int32).toInt = 0 := rfl; omega) (by omega))) (Eq.trans (congrArg (hR (sI h (ad 0) 6 0) (ad 1)) ((nI_clamp (by have := i_eq ek2; have : (nI k2).toInt = ((k2 : Nat) : Int) := nI_toInt (by omega); have := i_rg c; have := i_nle c3; have : (24 : Int32).toInt = 24 := rfl; have := i_nlt c1; have : (0 : Int32).toInt = 0 := rfl; omega)) : _ = k2)) (Eq.trans R_oI w19)) ?_
                refine r_aastoreA rfl (isQ_of (fx_t1 fx) (by decide)) (vp_ct (fx_n1 fx) (vp_in_nI (by have := i_eq ek5; have : (nI k5).toInt = ((k5 : Nat) : Int) := nI_toInt (by omega); have := i_rg d; have := i_nle c6; have : (24 : Int32).toInt = 24 := rfl; have := i_nlt c4; have : (0 : Int32).toInt = 0 := rfl; omega) (by omega))) (okR_of (fx_t1 fx) tg19 (by decide)) ?_
                refine WR_h (h2 := sR (sI h (ad 0) 6 0) (ad 1) k5 (some (mid t19))) (congrArg (fun z => sR (sI h (ad 0) 6 0) (ad 1) z (some (mid t19))) ((nI_clamp (by have := i_eq ek5; have : (nI k5).toInt = ((k5 : Nat) : Int) := nI_toInt (by omega); have := i_rg d; have := i_nle c6; have : (24 : Int32).toInt = 24 := rfl; have := i_nlt c4; have : (0 : Int32).toInt = 0 := rfl; omega)) : _ = k5)) ?_
                have fx : FX n ad sa z0 (sR (sI h (ad 0) 6 0) (ad 1) k5 (some (mid t19))) := FX.sRA (i := 1) fx (.inl (by decide)) (by decide)
                refine r_ic (x := 1) rfl rfl ?_
                refine r_iret rfl ?_
                show EV _ 163 [.ref (ad 30), .int c, .int d] (sR (sI h (ad 0) 6 0) (ad 1) k5 (some (mid t19))) _
                refine in_163 (Nat.le_of_ble_eq_true rfl) ?_
                show WR _ cd_163 0 [some (.ref (ad 30)), some (.int c), some (.int d), none] [] (sR (sI h (ad 0) 6 0) (ad 1) k5 (some (mid t19))) _
                refine r_iload rfl rfl ?_
                refine WR_tI (y := nI k2) ek2 ?_
                refine r_cs (y := 153) (ra := [.int (nI k2)]) (rest := []) rfl ⟨⟨rfl, rfl⟩, by decide⟩ rfl rfl (Nat.le_of_ble_eq_true rfl) ?_
                refine in_153 (Nat.le_of_ble_eq_true rfl) ?_
                show WR _ cd_153 0 [some (.int (nI k2))] [] (sR (sI h (ad 0) 6 0) (ad 1) k5 (some (mid t19))) _
                refine r_iload rfl rfl ?_
                refine r_if_lt (tg := 14) rfl rfl (fun q => False.elim (by have : (nI k2).toInt = ((k2 : Nat) : Int) := nI_toInt (by omega); have : (0 : Int32).toInt = 0 := rfl; have := i_eq ek2; have := i_rg c; have := i_nle c3; have : (24 : Int32).toInt = 24 := rfl; have := i_nlt c1; have := i_lt q; omega)) (fun _ => ?_)
                refine r_iload rfl rfl ?_
                refine r_ic (x := 24) rfl rfl ?_
                refine r_icmp_ge (tg := 14) rfl rfl (fun q => False.elim (by have : (nI k2).toInt = ((k2 : Nat) : Int) := nI_toInt (by omega); have : (24 : Int32).toInt = 24 := rfl; have := i_eq ek2; have := i_rg c; have := i_nle c3; have := i_nlt c1; have : (0 : Int32).toInt = 0 := rfl; have := i_le q; omega)) (fun _ => ?_)
                refine r_ic (x := 1) rfl rfl ?_
                refine r_goto (tg := 15) rfl rfl ?_
                refine r_zret rfl (.inr rfl) ?_
                show WR _ cd_163 4 [some (.ref (ad 30)), some (.int c), some (.int d), none] [.int 1] (sR (sI h (ad 0) 6 0) (ad 1) k5 (some (mid t19))) _
                refine r_if_eq (tg := 14) rfl rfl (fun q => absurd q (by decide)) (fun _ => ?_)
                refine r_iload rfl rfl ?_
                refine WR_tI (y := nI k5) ek5 ?_
                refine r_cs (y := 153) (ra := [.int (nI k5)]) (rest := []) rfl ⟨⟨rfl, rfl⟩, by decide⟩ rfl rfl (Nat.le_of_ble_eq_true rfl) ?_
                refine in_153 (Nat.le_of_ble_eq_true rfl) ?_
                show WR _ cd_153 0 [some (.int (nI k5))] [] (sR (sI h (ad 0) 6 0) (ad 1) k5 (some (mid t19))) _
                refine r_iload rfl rfl ?_
                refine r_if_lt (tg := 14) rfl rfl (fun q => False.elim (by have : (nI k5).toInt = ((k5 : Nat) : Int) := nI_toInt (by omega); have : (0 : Int32).toInt = 0 := rfl; have := i_eq ek5; have := i_rg d; have := i_nle c6; have : (24 : Int32).toInt = 24 := rfl; have := i_nlt c4; have := i_lt q; omega)) (fun _ => ?_)
                refine r_iload rfl rfl ?_
                refine r_ic (x := 24) rfl rfl ?_
                refine r_icmp_ge (tg := 14) rfl rfl (fun q => False.elim (by have : (nI k5).toInt = ((k5 : Nat) : Int) := nI_toInt (by omega); have : (24 : Int32).toInt = 24 := rfl; have := i_eq ek5; have := i_rg d; have := i_nle c6; have := i_nlt c4; have : (0 : Int32).toInt = 0 := rfl; have := i_le q; omega)) (fun _ => ?_)
                refine r_ic (x := 1) rfl rfl ?_
                refine r_goto (tg := 15) rfl rfl ?_
                refine r_zret rfl (.inr rfl) ?_
                show WR _ cd_163 11 [some (.ref (ad 30)), some (.int c), some (.int d), none] [.int 1] (sR (sI h (ad 0) 6 0) (ad 1) k5 (some (mid t19))) _
                refine r_if_ne (tg := 21) rfl rfl (fun _ => ?_) (fun q => absurd q (by decide))
                refine r_aload rfl rfl ?_
                refine r_getA (b := ad 31) rfl ⟨rfl, rfl, rfl⟩ (fx_t30 fx) (fx_r30_0 fx) ?_
                refine r_iload rfl rfl ?_
                refine WR_tI (y := nI k5) ek5 ?_
                refine r_iaload rfl (.inl (fx_t31 fx)) (vp_ct (fx_n31 fx) (vp_in_nI (by have := i_eq ek5; have : (nI k5).toInt = ((k5 : Nat) : Int) := nI_toInt (by omega); have := i_rg d; have := i_nle c6; have : (24 : Int32).toInt = 24 := rfl; have := i_nlt c4; have : (0 : Int32).toInt = 0 := rfl; omega) (by omega))) ?_
                refine WR_tI (congrArg (hI (sR (sI h (ad 0) 6 0) (ad 1) k5 (some (mid t19))) (ad 31)) ((nI_clamp (by have := i_eq ek5; have : (nI k5).toInt = ((k5 : Nat) : Int) := nI_toInt (by omega); have := i_rg d; have := i_nle c6; have : (24 : Int32).toInt = 24 := rfl; have := i_nlt c4; have : (0 : Int32).toInt = 0 := rfl; omega)) : _ = k5)) ?_
                refine WR_tI (y := nI t7) (Eq.trans I_oR (Eq.trans (I_ne (fx_ne fx (by decide))) v7)) ?_
                refine r_aload rfl rfl ?_
                refine r_getA (b := ad 31) rfl ⟨rfl, rfl, rfl⟩ (fx_t30 fx) (fx_r30_0 fx) ?_
                refine r_iload rfl rfl ?_
                refine WR_tI (y := nI k2) ek2 ?_
                refine r_iaload rfl (.inl (fx_t31 fx)) (vp_ct (fx_n31 fx) (vp_in_nI (by have := i_eq ek2; have : (nI k2).toInt = ((k2 : Nat) : Int) := nI_toInt (by omega); have := i_rg c; have := i_nle c3; have : (24 : Int32).toInt = 24 := rfl; have := i_nlt c1; have : (0 : Int32).toInt = 0 := rfl; omega) (by omega))) ?_
                refine WR_tI (congrArg (hI (sR (sI h (ad 0) 6 0) (ad 1) k5 (some (mid t19))) (ad 31)) ((nI_clamp (by have := i_eq ek2; have : (nI k2).toInt = ((k2 : Nat) : Int) := nI_toInt (by omega); have := i_rg c; have := i_nle c3; have : (24 : Int32).toInt = 24 := rfl; have := i_nlt c1; have : (0 : Int32).toInt = 0 := rfl; omega)) : _ = k2)) ?_
                refine WR_tI (y := nI t19) (Eq.trans I_oR (Eq.trans (I_ne (fx_ne fx (by decide))) v19)) ?_
                refine r_icmp_ne (tg := 40) rfl rfl (fun _ => ?_) (fun q => False.elim (by have : (nI t7).toInt = ((t7 : Nat) : Int) := nI_toInt (by omega); have : (nI t19).toInt = ((t19 : Nat) : Int) := nI_toInt (by omega); have := i_eq q; omega))
                refine r_ic (x := 0) rfl rfl ?_
                refine r_istore (lv' := [some (.ref (ad 30)), some (.int c), some (.int d), some (.int 0)]) rfl (Nat.le_of_ble_eq_true rfl) rfl ?_
                refine r_aload rfl rfl ?_
                refine r_getA (b := ad 31) rfl ⟨rfl, rfl, rfl⟩ (fx_t30 fx) (fx_r30_0 fx) ?_
                refine r_iload rfl rfl ?_
                refine WR_tI (y := nI k5) ek5 ?_
                refine r_aload rfl rfl ?_
                refine r_getA (b := ad 31) rfl ⟨rfl, rfl, rfl⟩ (fx_t30 fx) (fx_r30_0 fx) ?_
                refine r_iload rfl rfl ?_
                refine WR_tI (y := nI k2) ek2 ?_
                refine r_iaload rfl (.inl (fx_t31 fx)) (vp_ct (fx_n31 fx) (vp_in_nI (by have := i_eq ek2; have : (nI k2).toInt = ((k2 : Nat) : Int) := nI_toInt (by omega); have := i_rg c; have := i_nle c3; have : (24 : Int32).toInt = 24 := rfl; have := i_nlt c1; have : (0 : Int32).toInt = 0 := rfl; omega) (by omega))) ?_
                refine WR_tI (congrArg (hI (sR (sI h (ad 0) 6 0) (ad 1) k5 (some (mid t19))) (ad 31)) ((nI_clamp (by have := i_eq ek2; have : (nI k2).toInt = ((k2 : Nat) : Int) := nI_toInt (by omega); have := i_rg c; have := i_nle c3; have : (24 : Int32).toInt = 24 := rfl; have := i_nlt c1; have : (0 : Int32).toInt = 0 := rfl; omega)) : _ = k2)) ?_
                refine WR_tI (y := nI t19) (Eq.trans I_oR (Eq.trans (I_ne (fx_ne fx (by decide))) v19)) ?_
                refine r_iastore rfl (fx_t31 fx) (vp_ct (fx_n31 fx) (vp_in_nI (by have := i_eq ek5; have : (nI k5).toInt = ((k5 : Nat) : Int) := nI_toInt (by omega); have := i_rg d; have := i_nle c6; have : (24 : Int32).toInt = 24 := rfl; have := i_nlt c4; have : (0 : Int32).toInt = 0 := rfl; omega) (by omega))) ?_
                refine WR_h (h2 := sI (sR (sI h (ad 0) 6 0) (ad 1) k5 (some (mid t19))) (ad 31) k5 (nI t19)) (congrArg (fun z => sI (sR (sI h (ad 0) 6 0) (ad 1) k5 (some (mid t19))) (ad 31) z (nI t19)) ((nI_clamp (by have := i_eq ek5; have : (nI k5).toInt = ((k5 : Nat) : Int) := nI_toInt (by omega); have := i_rg d; have := i_nle c6; have : (24 : Int32).toInt = 24 := rfl; have := i_nlt c4; have : (0 : Int32).toInt = 0 := rfl; omega)) : _ = k5)) ?_
                refine r_aload rfl rfl ?_
                refine r_iload rfl rfl ?_
                refine r_if_eq (tg := 63) rfl rfl (fun _ => ?_) (fun q => absurd q (by decide))
                refine r_ic (x := 1) rfl rfl ?_
                refine r_cv (y := 154) (ra := [.int 1]) (rest := []) rfl ⟨⟨rfl, rfl⟩, rfl, by decide⟩ (fx_t30 fx) rfl rfl (Nat.le_of_ble_eq_true rfl) ?_
                refine in_154 (Nat.le_of_ble_eq_true rfl) ?_
                show WR _ cd_154 0 [some (.ref (ad 30)), some (.int 1)] [] (sI (sR (sI h (ad 0) 6 0) (ad 1) k5 (some (mid t19))) (ad 31) k5 (nI t19)) _
                refine r_aload rfl rfl ?_
                refine r_iload rfl rfl ?_
                refine r_ic (x := (-1)) rfl rfl ?_
                refine r_icmp_ge (tg := 10) rfl rfl (fun _ => ?_) (fun q => absurd q (by decide))
                refine r_ic (x := 0) rfl rfl ?_
                refine r_putI rfl ⟨rfl, rfl, rfl⟩ (fx_t30 fx) ?_
                refine r_iload rfl rfl ?_
                refine r_iret rfl ?_
                show WR _ cd_163 67 [some (.ref (ad 30)), some (.int c), some (.int d), some (.int 0)] [.int 1] (sI (sI (sR (sI h (ad 0) 6 0) (ad 1) k5 (some (mid t19))) (ad 31) k5 (nI t19)) (ad 30) 11 0) _
                refine r_iret rfl ?_
                have cg : Chg n ad [(30, 11), (0, 6)] [31, 1] h (sI (sI (sR (sI h (ad 0) 6 0) (ad 1) k5 (some (mid t19))) (ad 31) k5 (nI t19)) (ad 30) 11 0) := ((((Chg.rf.sI (fx_j fx0) (k := 6) (v := 0) (.inl (by decide))).sR (fx_j fx0) (k := k5) (v := some (mid t19)) (.inl (by decide))).row.sI (fx_j fx0) (k := k5) (v := nI t19) (.inl (by decide))).row.sI (fx_j fx0) (k := 11) (v := 0) (.inl (by decide)))
                refine ⟨rfl, ⟨mid, pa, np, FX.k fx0 cg.1 cg.2.1 cg.2.2 (by decide), Eq.trans (Eq.trans (I_ne (fx_ne fx (by decide))) (Eq.trans (I_ne (fx_ne fx (by decide))) (Eq.trans I_oR I_eq))) (Eq.symm I_eq), rt.k cg.2.1 (by decide), ra.k cg.2.1 (by decide), rp.k cg.2.1 (by decide), rf.k cg.2.1 (by decide), Rst.k fx0 rst cg.2.2, Ru.k fx0 ru cg.2.1 (by decide), ?_⟩, Nat.le_add_right _ _, Nat.le_add_right _ _⟩
                · refine Rs.cases rs (smS_of fx0 cg (by decide)) (fun c_ hc_ => ?_)
                  by_cases e_ : c_ = k5
                  · rw [e_]
                    exact .inl ⟨k2, (by have := i_eq ek2; have : (nI k2).toInt = ((k2 : Nat) : Int) := nI_toInt (by omega); have := i_rg c; have := i_nle c3; have : (24 : Int32).toInt = 24 := rfl; have := i_nlt c1; have : (0 : Int32).toInt = 0 := rfl; omega), Eq.trans (Eq.trans (I_ne (fx_ne fx (by decide))) I_eq) (Eq.symm v19), Eq.trans (Eq.trans R_oI (Eq.trans R_oI R_eq)) (Eq.symm w19)⟩
                  · exact .inl ⟨c_, hc_, (Eq.trans (I_ne (fx_ne fx (by decide))) (Eq.trans (I_nk (by have := i_eq ek5; have : (nI k5).toInt = ((k5 : Nat) : Int) := nI_toInt (by omega); have := i_rg d; have := i_nle c6; have : (24 : Int32).toInt = 24 := rfl; have := i_nlt c4; have : (0 : Int32).toInt = 0 := rfl; omega)) (Eq.trans I_oR (I_ne (fx_ne fx (by decide)))))), (Eq.trans R_oI (Eq.trans R_oI (Eq.trans (R_nk (by have := i_eq ek5; have : (nI k5).toInt = ((k5 : Nat) : Int) := nI_toInt (by omega); have := i_rg d; have := i_nle c6; have : (24 : Int32).toInt = 24 := rfl; have := i_nlt c4; have : (0 : Int32).toInt = 0 := rfl; omega)) R_oI)))⟩
              · have c21e := rs.2.2.1 _ _ (by assumption) (by assumption) (.inl ⟨k5, (by have := i_eq ek5; have : (nI k5).toInt = ((k5 : Nat) : Int) := nI_toInt (by omega); have := i_rg d; have := i_nle c6; have : (24 : Int32).toInt = 24 := rfl; have := i_nlt c4; have : (0 : Int32).toInt = 0 := rfl; omega), v7⟩) (.inl ⟨k2, (by have := i_eq ek2; have : (nI k2).toInt = ((k2 : Nat) : Int) := nI_toInt (by omega); have := i_rg c; have := i_nle c3; have : (24 : Int32).toInt = 24 := rfl; have := i_nlt c1; have : (0 : Int32).toInt = 0 := rfl; omega), v19⟩) c21
                refine r_ic (x := 0) rfl rfl ?_
                refine r_iret rfl ?_
                show EV _ 163 [.ref (ad 30), .int c, .int d] (sI h (ad 0) 6 0) _
                refine in_163 (Nat.le_of_ble_eq_true rfl) ?_
                show WR _ cd_163 0 [some (.ref (ad 30)), some (.int c), some (.int d), none] [] (sI h (ad 0) 6 0) _
                refine r_iload rfl rfl ?_
                refine WR_tI (y := nI k2) ek2 ?_
                refine r_cs (y := 153) (ra := [.int (nI k2)]) (rest := []) rfl ⟨⟨rfl, rfl⟩, by decide⟩ rfl rfl (Nat.le_of_ble_eq_true rfl) ?_
                refine in_153 (Nat.le_of_ble_eq_true rfl) ?_
                show WR _ cd_153 0 [some (.int (nI k2))] [] (sI h (ad 0) 6 0) _
                refine r_iload rfl rfl ?_
                refine r_if_lt (tg := 14) rfl rfl (fun q => False.elim (by have : (nI k2).toInt = ((k2 : Nat) : Int) := nI_toInt (by omega); have : (0 : Int32).toInt = 0 := rfl; have := i_eq ek2; have := i_rg c; have := i_nle c3; have : (24 : Int32).toInt = 24 := rfl; have := i_nlt c1; have := i_lt q; omega)) (fun _ => ?_)
                refine r_iload rfl rfl ?_
                refine r_ic (x := 24) rfl rfl ?_
                refine r_icmp_ge (tg := 14) rfl rfl (fun q => False.elim (by have : (nI k2).toInt = ((k2 : Nat) : Int) := nI_toInt (by omega); have : (24 : Int32).toInt = 24 := rfl; have := i_eq ek2; have := i_rg c; have := i_nle c3; have := i_nlt c1; have : (0 : Int32).toInt = 0 := rfl; have := i_le q; omega)) (fun _ => ?_)
                refine r_ic (x := 1) rfl rfl ?_
                refine r_goto (tg := 15) rfl rfl ?_
                refine r_zret rfl (.inr rfl) ?_
                show WR _ cd_163 4 [some (.ref (ad 30)), some (.int c), some (.int d), none] [.int 1] (sI h (ad 0) 6 0) _
                refine r_if_eq (tg := 14) rfl rfl (fun q => absurd q (by decide)) (fun _ => ?_)
                refine r_iload rfl rfl ?_
                refine WR_tI (y := nI k5) ek5 ?_
                refine r_cs (y := 153) (ra := [.int (nI k5)]) (rest := []) rfl ⟨⟨rfl, rfl⟩, by decide⟩ rfl rfl (Nat.le_of_ble_eq_true rfl) ?_
                refine in_153 (Nat.le_of_ble_eq_true rfl) ?_
                show WR _ cd_153 0 [some (.int (nI k5))] [] (sI h (ad 0) 6 0) _
                refine r_iload rfl rfl ?_
                refine r_if_lt (tg := 14) rfl rfl (fun q => False.elim (by have : (nI k5).toInt = ((k5 : Nat) : Int) := nI_toInt (by omega); have : (0 : Int32).toInt = 0 := rfl; have := i_eq ek5; have := i_rg d; have := i_nle c6; have : (24 : Int32).toInt = 24 := rfl; have := i_nlt c4; have := i_lt q; omega)) (fun _ => ?_)
                refine r_iload rfl rfl ?_
                refine r_ic (x := 24) rfl rfl ?_
                refine r_icmp_ge (tg := 14) rfl rfl (fun q => False.elim (by have : (nI k5).toInt = ((k5 : Nat) : Int) := nI_toInt (by omega); have : (24 : Int32).toInt = 24 := rfl; have := i_eq ek5; have := i_rg d; have := i_nle c6; have := i_nlt c4; have : (0 : Int32).toInt = 0 := rfl; have := i_le q; omega)) (fun _ => ?_)
                refine r_ic (x := 1) rfl rfl ?_
                refine r_goto (tg := 15) rfl rfl ?_
                refine r_zret rfl (.inr rfl) ?_
                show WR _ cd_163 11 [some (.ref (ad 30)), some (.int c), some (.int d), none] [.int 1] (sI h (ad 0) 6 0) _
                refine r_if_ne (tg := 21) rfl rfl (fun _ => ?_) (fun q => absurd q (by decide))
                refine r_aload rfl rfl ?_
                refine r_getA (b := ad 31) rfl ⟨rfl, rfl, rfl⟩ (fx_t30 fx) (fx_r30_0 fx) ?_
                refine r_iload rfl rfl ?_
                refine WR_tI (y := nI k5) ek5 ?_
                refine r_iaload rfl (.inl (fx_t31 fx)) (vp_ct (fx_n31 fx) (vp_in_nI (by have := i_eq ek5; have : (nI k5).toInt = ((k5 : Nat) : Int) := nI_toInt (by omega); have := i_rg d; have := i_nle c6; have : (24 : Int32).toInt = 24 := rfl; have := i_nlt c4; have : (0 : Int32).toInt = 0 := rfl; omega) (by omega))) ?_
                refine WR_tI (congrArg (hI (sI h (ad 0) 6 0) (ad 31)) ((nI_clamp (by have := i_eq ek5; have : (nI k5).toInt = ((k5 : Nat) : Int) := nI_toInt (by omega); have := i_rg d; have := i_nle c6; have : (24 : Int32).toInt = 24 := rfl; have := i_nlt c4; have : (0 : Int32).toInt = 0 := rfl; omega)) : _ = k5)) ?_
                refine WR_tI (y := nI t7) (Eq.trans (I_ne (fx_ne fx (by decide))) v7) ?_
                refine r_aload rfl rfl ?_
                refine r_getA (b := ad 31) rfl ⟨rfl, rfl, rfl⟩ (fx_t30 fx) (fx_r30_0 fx) ?_
                refine r_iload rfl rfl ?_
                refine WR_tI (y := nI k2) ek2 ?_
                refine r_iaload rfl (.inl (fx_t31 fx)) (vp_ct (fx_n31 fx) (vp_in_nI (by have := i_eq ek2; have : (nI k2).toInt = ((k2 : Nat) : Int) := nI_toInt (by omega); have := i_rg c; have := i_nle c3; have : (24 : Int32).toInt = 24 := rfl; have := i_nlt c1; have : (0 : Int32).toInt = 0 := rfl; omega) (by omega))) ?_
                refine WR_tI (congrArg (hI (sI h (ad 0) 6 0) (ad 31)) ((nI_clamp (by have := i_eq ek2; have : (nI k2).toInt = ((k2 : Nat) : Int) := nI_toInt (by omega); have := i_rg c; have := i_nle c3; have : (24 : Int32).toInt = 24 := rfl; have := i_nlt c1; have : (0 : Int32).toInt = 0 := rfl; omega)) : _ = k2)) ?_
                refine WR_tI (y := nI t19) (Eq.trans (I_ne (fx_ne fx (by decide))) v19) ?_
                refine r_icmp_ne (tg := 40) rfl rfl (fun q => False.elim (by have : (nI t7).toInt = ((t7 : Nat) : Int) := nI_toInt (by omega); have : (nI t19).toInt = ((t19 : Nat) : Int) := nI_toInt (by omega); have := i_neq q; omega)) (fun _ => ?_)
                refine r_ic (x := 1) rfl rfl ?_
                refine r_goto (tg := 41) rfl rfl ?_
                refine r_istore (lv' := [some (.ref (ad 30)), some (.int c), some (.int d), some (.int 1)]) rfl (Nat.le_of_ble_eq_true rfl) rfl ?_
                refine r_aload rfl rfl ?_
                refine r_getA (b := ad 31) rfl ⟨rfl, rfl, rfl⟩ (fx_t30 fx) (fx_r30_0 fx) ?_
                refine r_iload rfl rfl ?_
                refine WR_tI (y := nI k5) ek5 ?_
                refine r_aload rfl rfl ?_
                refine r_getA (b := ad 31) rfl ⟨rfl, rfl, rfl⟩ (fx_t30 fx) (fx_r30_0 fx) ?_
                refine r_iload rfl rfl ?_
                refine WR_tI (y := nI k2) ek2 ?_
                refine r_iaload rfl (.inl (fx_t31 fx)) (vp_ct (fx_n31 fx) (vp_in_nI (by have := i_eq ek2; have : (nI k2).toInt = ((k2 : Nat) : Int) := nI_toInt (by omega); have := i_rg c; have := i_nle c3; have : (24 : Int32).toInt = 24 := rfl; have := i_nlt c1; have : (0 : Int32).toInt = 0 := rfl; omega) (by omega))) ?_
                refine WR_tI (congrArg (hI (sI h (ad 0) 6 0) (ad 31)) ((nI_clamp (by have := i_eq ek2; have : (nI k2).toInt = ((k2 : Nat) : Int) := nI_toInt (by omega); have := i_rg c; have := i_nle c3; have : (24 : Int32).toInt = 24 := rfl; have := i_nlt c1; have : (0 : Int32).toInt = 0 := rfl; omega)) : _ = k2)) ?_
                refine WR_tI (y := nI t19) (Eq.trans (I_ne (fx_ne fx (by decide))) v19) ?_
                refine r_iastore rfl (fx_t31 fx) (vp_ct (fx_n31 fx) (vp_in_nI (by have := i_eq ek5; have : (nI k5).toInt = ((k5 : Nat) : Int) := nI_toInt (by omega); have := i_rg d; have := i_nle c6; have : (24 : Int32).toInt = 24 := rfl; have := i_nlt c4; have : (0 : Int32).toInt = 0 := rfl; omega) (by omega))) ?_
                refine WR_h (h2 := sI (sI h (ad 0) 6 0) (ad 31) k5 (nI t19)) (congrArg (fun z => sI (sI h (ad 0) 6 0) (ad 31) z (nI t19)) ((nI_clamp (by have := i_eq ek5; have : (nI k5).toInt = ((k5 : Nat) : Int) := nI_toInt (by omega); have := i_rg d; have := i_nle c6; have : (24 : Int32).toInt = 24 := rfl; have := i_nlt c4; have : (0 : Int32).toInt = 0 := rfl; omega)) : _ = k5)) ?_
                refine r_aload rfl rfl ?_
                refine r_iload rfl rfl ?_
                refine r_if_eq (tg := 63) rfl rfl (fun q => absurd q (by decide)) (fun _ => ?_)
                refine r_ic (x := 0) rfl rfl ?_
                refine r_goto (tg := 64) rfl rfl ?_
                refine r_cv (y := 154) (ra := [.int 0]) (rest := []) rfl ⟨⟨rfl, rfl⟩, rfl, by decide⟩ (fx_t30 fx) rfl rfl (Nat.le_of_ble_eq_true rfl) ?_
                refine in_154 (Nat.le_of_ble_eq_true rfl) ?_
                show WR _ cd_154 0 [some (.ref (ad 30)), some (.int 0)] [] (sI (sI h (ad 0) 6 0) (ad 31) k5 (nI t19)) _
                refine r_aload rfl rfl ?_
                refine r_iload rfl rfl ?_
                refine r_ic (x := (-1)) rfl rfl ?_
                refine r_icmp_ge (tg := 10) rfl rfl (fun _ => ?_) (fun q => absurd q (by decide))
                refine r_ic (x := 0) rfl rfl ?_
                refine r_putI rfl ⟨rfl, rfl, rfl⟩ (fx_t30 fx) ?_
                refine r_iload rfl rfl ?_
                refine r_iret rfl ?_
                show WR _ cd_163 67 [some (.ref (ad 30)), some (.int c), some (.int d), some (.int 1)] [.int 0] (sI (sI (sI h (ad 0) 6 0) (ad 31) k5 (nI t19)) (ad 30) 11 0) _
                refine r_iret rfl ?_
                have cg : Chg n ad [(30, 11), (0, 6)] [31] h (sI (sI (sI h (ad 0) 6 0) (ad 31) k5 (nI t19)) (ad 30) 11 0) := (((Chg.rf.sI (fx_j fx0) (k := 6) (v := 0) (.inl (by decide))).sI (fx_j fx0) (k := k5) (v := nI t19) (.inl (by decide))).row.sI (fx_j fx0) (k := 11) (v := 0) (.inl (by decide)))
                refine ⟨rfl, ⟨mid, pa, np, FX.k fx0 cg.1 cg.2.1 cg.2.2 (by decide), Eq.trans (Eq.trans (I_ne (fx_ne fx (by decide))) (Eq.trans (I_ne (fx_ne fx (by decide))) I_eq)) (Eq.symm I_eq), rt.k cg.2.1 (by decide), ra.k cg.2.1 (by decide), rp.k cg.2.1 (by decide), rf.k cg.2.1 (by decide), Rst.k fx0 rst cg.2.2, Ru.k fx0 ru cg.2.1 (by decide), ?_⟩, Nat.le_add_right _ _, Nat.le_add_right _ _⟩
                · refine Rs.cases rs (smS_of fx0 cg (by decide)) (fun c_ hc_ => ?_)
                  by_cases e_ : c_ = k5
                  · rw [e_]
                    exact .inl ⟨k2, (by have := i_eq ek2; have : (nI k2).toInt = ((k2 : Nat) : Int) := nI_toInt (by omega); have := i_rg c; have := i_nle c3; have : (24 : Int32).toInt = 24 := rfl; have := i_nlt c1; have : (0 : Int32).toInt = 0 := rfl; omega), Eq.trans (Eq.trans (I_ne (fx_ne fx (by decide))) I_eq) (Eq.symm v19), Eq.trans (Eq.trans R_oI (Eq.trans R_oI (Eq.trans R_oI w7))) (Eq.trans (congrArg some c21) (Eq.symm w19))⟩
                  · exact .inl ⟨c_, hc_, (Eq.trans (I_ne (fx_ne fx (by decide))) (Eq.trans (I_nk (by have := i_eq ek5; have : (nI k5).toInt = ((k5 : Nat) : Int) := nI_toInt (by omega); have := i_rg d; have := i_nle c6; have : (24 : Int32).toInt = 24 := rfl; have := i_nlt c4; have : (0 : Int32).toInt = 0 := rfl; omega)) (I_ne (fx_ne fx (by decide))))), (Eq.trans R_oI (Eq.trans R_oI R_oI))⟩
            · refine r_aaloadA (b := mid t19) rfl (isQ_of (fx_t1 fx) (by decide)) (vp_ct (fx_n1 fx) (vp_in_nI (by have := i_eq ek2; have : (nI k2).toInt = ((k2 : Nat) : Int) := nI_toInt (by omega); have := i_rg c; have := i_nle c3; have : (24 : Int32).toInt = 24 := rfl; have := i_nlt c1; have : (0 : Int32).toInt = 0 := rfl; omega) (by omega))) (Eq.trans (congrArg (hR (sI h (ad 0) 6 0) (ad 1)) ((nI_clamp (by have := i_eq ek2; have : (nI k2).toInt = ((k2 : Nat) : Int) := nI_toInt (by omega); have := i_rg c; have := i_nle c3; have : (24 : Int32).toInt = 24 := rfl; have := i_nlt c1; have : (0 : Int32).toInt = 0 := rfl; omega)) : _ = k2)) (Eq.trans R_oI w19)) ?_
              refine r_acmpA_ne (tg := 43) rfl rfl (fun c22 => ?_) (fun c22 => ?_)
              · have c22e : ¬ t7 = t19 := fun e => c22 (by rw [e])
                refine r_aload rfl rfl ?_
                refine r_getA (b := ad 1) rfl ⟨rfl, rfl, rfl⟩ (fx_t0 fx) (fx_r0_0 fx) ?_
                refine r_iload rfl rfl ?_
                refine WR_tI (y := nI k5) ek5 ?_
                refine r_aload rfl rfl ?_
                refine r_getA (b := ad 1) rfl ⟨rfl, rfl, rfl⟩ (fx_t0 fx) (fx_r0_0 fx) ?_
                refine r_iload rfl rfl ?_
                refine WR_tI (y := nI k2) ek2 ?_
                refine r_aaloadA (b := mid t19) rfl (isQ_of (fx_t1 fx) (by decide)) (vp_ct (fx_n1 fx) (vp_in_nI (by have := i_eq ek2; have : (nI k2).toInt = ((k2 : Nat) : Int) := nI_toInt (by omega); have := i_rg c; have := i_nle c3; have : (24 : Int32).toInt = 24 := rfl; have := i_nlt c1; have : (0 : Int32).toInt = 0 := rfl; omega) (by omega))) (Eq.trans (congrArg (hR (sI h (ad 0) 6 0) (ad 1)) ((nI_clamp (by have := i_eq ek2; have : (nI k2).toInt = ((k2 : Nat) : Int) := nI_toInt (by omega); have := i_rg c; have := i_nle c3; have : (24 : Int32).toInt = 24 := rfl; have := i_nlt c1; have : (0 : Int32).toInt = 0 := rfl; omega)) : _ = k2)) (Eq.trans R_oI w19)) ?_
                refine r_aastoreA rfl (isQ_of (fx_t1 fx) (by decide)) (vp_ct (fx_n1 fx) (vp_in_nI (by have := i_eq ek5; have : (nI k5).toInt = ((k5 : Nat) : Int) := nI_toInt (by omega); have := i_rg d; have := i_nle c6; have : (24 : Int32).toInt = 24 := rfl; have := i_nlt c4; have : (0 : Int32).toInt = 0 := rfl; omega) (by omega))) (okR_of (fx_t1 fx) tg19 (by decide)) ?_
                refine WR_h (h2 := sR (sI h (ad 0) 6 0) (ad 1) k5 (some (mid t19))) (congrArg (fun z => sR (sI h (ad 0) 6 0) (ad 1) z (some (mid t19))) ((nI_clamp (by have := i_eq ek5; have : (nI k5).toInt = ((k5 : Nat) : Int) := nI_toInt (by omega); have := i_rg d; have := i_nle c6; have : (24 : Int32).toInt = 24 := rfl; have := i_nlt c4; have : (0 : Int32).toInt = 0 := rfl; omega)) : _ = k5)) ?_
                have fx : FX n ad sa z0 (sR (sI h (ad 0) 6 0) (ad 1) k5 (some (mid t19))) := FX.sRA (i := 1) fx (.inl (by decide)) (by decide)
                refine r_ic (x := 1) rfl rfl ?_
                refine r_iret rfl ?_
                show EV _ 163 [.ref (ad 30), .int c, .int d] (sR (sI h (ad 0) 6 0) (ad 1) k5 (some (mid t19))) _
                refine in_163 (Nat.le_of_ble_eq_true rfl) ?_
                show WR _ cd_163 0 [some (.ref (ad 30)), some (.int c), some (.int d), none] [] (sR (sI h (ad 0) 6 0) (ad 1) k5 (some (mid t19))) _
                refine r_iload rfl rfl ?_
                refine WR_tI (y := nI k2) ek2 ?_
                refine r_cs (y := 153) (ra := [.int (nI k2)]) (rest := []) rfl ⟨⟨rfl, rfl⟩, by decide⟩ rfl rfl (Nat.le_of_ble_eq_true rfl) ?_
                refine in_153 (Nat.le_of_ble_eq_true rfl) ?_
                show WR _ cd_153 0 [some (.int (nI k2))] [] (sR (sI h (ad 0) 6 0) (ad 1) k5 (some (mid t19))) _
                refine r_iload rfl rfl ?_
                refine r_if_lt (tg := 14) rfl rfl (fun q => False.elim (by have : (nI k2).toInt = ((k2 : Nat) : Int) := nI_toInt (by omega); have : (0 : Int32).toInt = 0 := rfl; have := i_eq ek2; have := i_rg c; have := i_nle c3; have : (24 : Int32).toInt = 24 := rfl; have := i_nlt c1; have := i_lt q; omega)) (fun _ => ?_)
                refine r_iload rfl rfl ?_
                refine r_ic (x := 24) rfl rfl ?_
                refine r_icmp_ge (tg := 14) rfl rfl (fun q => False.elim (by have : (nI k2).toInt = ((k2 : Nat) : Int) := nI_toInt (by omega); have : (24 : Int32).toInt = 24 := rfl; have := i_eq ek2; have := i_rg c; have := i_nle c3; have := i_nlt c1; have : (0 : Int32).toInt = 0 := rfl; have := i_le q; omega)) (fun _ => ?_)
                refine r_ic (x := 1) rfl rfl ?_
                refine r_goto (tg := 15) rfl rfl ?_
                refine r_zret rfl (.inr rfl) ?_
                show WR _ cd_163 4 [some (.ref (ad 30)), some (.int c), some (.int d), none] [.int 1] (sR (sI h (ad 0) 6 0) (ad 1) k5 (some (mid t19))) _
                refine r_if_eq (tg := 14) rfl rfl (fun q => absurd q (by decide)) (fun _ => ?_)
                refine r_iload rfl rfl ?_
                refine WR_tI (y := nI k5) ek5 ?_
                refine r_cs (y := 153) (ra := [.int (nI k5)]) (rest := []) rfl ⟨⟨rfl, rfl⟩, by decide⟩ rfl rfl (Nat.le_of_ble_eq_true rfl) ?_
                refine in_153 (Nat.le_of_ble_eq_true rfl) ?_
                show WR _ cd_153 0 [some (.int (nI k5))] [] (sR (sI h (ad 0) 6 0) (ad 1) k5 (some (mid t19))) _
                refine r_iload rfl rfl ?_
                refine r_if_lt (tg := 14) rfl rfl (fun q => False.elim (by have : (nI k5).toInt = ((k5 : Nat) : Int) := nI_toInt (by omega); have : (0 : Int32).toInt = 0 := rfl; have := i_eq ek5; have := i_rg d; have := i_nle c6; have : (24 : Int32).toInt = 24 := rfl; have := i_nlt c4; have := i_lt q; omega)) (fun _ => ?_)
                refine r_iload rfl rfl ?_
                refine r_ic (x := 24) rfl rfl ?_
                refine r_icmp_ge (tg := 14) rfl rfl (fun q => False.elim (by have : (nI k5).toInt = ((k5 : Nat) : Int) := nI_toInt (by omega); have : (24 : Int32).toInt = 24 := rfl; have := i_eq ek5; have := i_rg d; have := i_nle c6; have := i_nlt c4; have : (0 : Int32).toInt = 0 := rfl; have := i_le q; omega)) (fun _ => ?_)
                refine r_ic (x := 1) rfl rfl ?_
                refine r_goto (tg := 15) rfl rfl ?_
                refine r_zret rfl (.inr rfl) ?_
                show WR _ cd_163 11 [some (.ref (ad 30)), some (.int c), some (.int d), none] [.int 1] (sR (sI h (ad 0) 6 0) (ad 1) k5 (some (mid t19))) _
                refine r_if_ne (tg := 21) rfl rfl (fun _ => ?_) (fun q => absurd q (by decide))
                refine r_aload rfl rfl ?_
                refine r_getA (b := ad 31) rfl ⟨rfl, rfl, rfl⟩ (fx_t30 fx) (fx_r30_0 fx) ?_
                refine r_iload rfl rfl ?_
                refine WR_tI (y := nI k5) ek5 ?_
                refine r_iaload rfl (.inl (fx_t31 fx)) (vp_ct (fx_n31 fx) (vp_in_nI (by have := i_eq ek5; have : (nI k5).toInt = ((k5 : Nat) : Int) := nI_toInt (by omega); have := i_rg d; have := i_nle c6; have : (24 : Int32).toInt = 24 := rfl; have := i_nlt c4; have : (0 : Int32).toInt = 0 := rfl; omega) (by omega))) ?_
                refine WR_tI (congrArg (hI (sR (sI h (ad 0) 6 0) (ad 1) k5 (some (mid t19))) (ad 31)) ((nI_clamp (by have := i_eq ek5; have : (nI k5).toInt = ((k5 : Nat) : Int) := nI_toInt (by omega); have := i_rg d; have := i_nle c6; have : (24 : Int32).toInt = 24 := rfl; have := i_nlt c4; have : (0 : Int32).toInt = 0 := rfl; omega)) : _ = k5)) ?_
                refine WR_tI (y := nI t7) (Eq.trans I_oR (Eq.trans (I_ne (fx_ne fx (by decide))) v7)) ?_
                refine r_aload rfl rfl ?_
                refine r_getA (b := ad 31) rfl ⟨rfl, rfl, rfl⟩ (fx_t30 fx) (fx_r30_0 fx) ?_
                refine r_iload rfl rfl ?_
                refine WR_tI (y := nI k2) ek2 ?_
                refine r_iaload rfl (.inl (fx_t31 fx)) (vp_ct (fx_n31 fx) (vp_in_nI (by have := i_eq ek2; have : (nI k2).toInt = ((k2 : Nat) : Int) := nI_toInt (by omega); have := i_rg c; have := i_nle c3; have : (24 : Int32).toInt = 24 := rfl; have := i_nlt c1; have : (0 : Int32).toInt = 0 := rfl; omega) (by omega))) ?_
                refine WR_tI (congrArg (hI (sR (sI h (ad 0) 6 0) (ad 1) k5 (some (mid t19))) (ad 31)) ((nI_clamp (by have := i_eq ek2; have : (nI k2).toInt = ((k2 : Nat) : Int) := nI_toInt (by omega); have := i_rg c; have := i_nle c3; have : (24 : Int32).toInt = 24 := rfl; have := i_nlt c1; have : (0 : Int32).toInt = 0 := rfl; omega)) : _ = k2)) ?_
                refine WR_tI (y := nI t19) (Eq.trans I_oR (Eq.trans (I_ne (fx_ne fx (by decide))) v19)) ?_
                refine r_icmp_ne (tg := 40) rfl rfl (fun _ => ?_) (fun q => False.elim (by have : (nI t7).toInt = ((t7 : Nat) : Int) := nI_toInt (by omega); have : (nI t19).toInt = ((t19 : Nat) : Int) := nI_toInt (by omega); have := i_eq q; omega))
                refine r_ic (x := 0) rfl rfl ?_
                refine r_istore (lv' := [some (.ref (ad 30)), some (.int c), some (.int d), some (.int 0)]) rfl (Nat.le_of_ble_eq_true rfl) rfl ?_
                refine r_aload rfl rfl ?_
                refine r_getA (b := ad 31) rfl ⟨rfl, rfl, rfl⟩ (fx_t30 fx) (fx_r30_0 fx) ?_
                refine r_iload rfl rfl ?_
                refine WR_tI (y := nI k5) ek5 ?_
                refine r_aload rfl rfl ?_
                refine r_getA (b := ad 31) rfl ⟨rfl, rfl, rfl⟩ (fx_t30 fx) (fx_r30_0 fx) ?_
                refine r_iload rfl rfl ?_
                refine WR_tI (y := nI k2) ek2 ?_
                refine r_iaload rfl (.inl (fx_t31 fx)) (vp_ct (fx_n31 fx) (vp_in_nI (by have := i_eq ek2; have : (nI k2).toInt = ((k2 : Nat) : Int) := nI_toInt (by omega); have := i_rg c; have := i_nle c3; have : (24 : Int32).toInt = 24 := rfl; have := i_nlt c1; have : (0 : Int32).toInt = 0 := rfl; omega) (by omega))) ?_
                refine WR_tI (congrArg (hI (sR (sI h (ad 0) 6 0) (ad 1) k5 (some (mid t19))) (ad 31)) ((nI_clamp (by have := i_eq ek2; have : (nI k2).toInt = ((k2 : Nat) : Int) := nI_toInt (by omega); have := i_rg c; have := i_nle c3; have : (24 : Int32).toInt = 24 := rfl; have := i_nlt c1; have : (0 : Int32).toInt = 0 := rfl; omega)) : _ = k2)) ?_
                refine WR_tI (y := nI t19) (Eq.trans I_oR (Eq.trans (I_ne (fx_ne fx (by decide))) v19)) ?_
                refine r_iastore rfl (fx_t31 fx) (vp_ct (fx_n31 fx) (vp_in_nI (by have := i_eq ek5; have : (nI k5).toInt = ((k5 : Nat) : Int) := nI_toInt (by omega); have := i_rg d; have := i_nle c6; have : (24 : Int32).toInt = 24 := rfl; have := i_nlt c4; have : (0 : Int32).toInt = 0 := rfl; omega) (by omega))) ?_
                refine WR_h (h2 := sI (sR (sI h (ad 0) 6 0) (ad 1) k5 (some (mid t19))) (ad 31) k5 (nI t19)) (congrArg (fun z => sI (sR (sI h (ad 0) 6 0) (ad 1) k5 (some (mid t19))) (ad 31) z (nI t19)) ((nI_clamp (by have := i_eq ek5; have : (nI k5).toInt = ((k5 : Nat) : Int) := nI_toInt (by omega); have := i_rg d; have := i_nle c6; have : (24 : Int32).toInt = 24 := rfl; have := i_nlt c4; have : (0 : Int32).toInt = 0 := rfl; omega)) : _ = k5)) ?_
                refine r_aload rfl rfl ?_
                refine r_iload rfl rfl ?_
                refine r_if_eq (tg := 63) rfl rfl (fun _ => ?_) (fun q => absurd q (by decide))
                refine r_ic (x := 1) rfl rfl ?_
                refine r_cv (y := 154) (ra := [.int 1]) (rest := []) rfl ⟨⟨rfl, rfl⟩, rfl, by decide⟩ (fx_t30 fx) rfl rfl (Nat.le_of_ble_eq_true rfl) ?_
                refine in_154 (Nat.le_of_ble_eq_true rfl) ?_
                show WR _ cd_154 0 [some (.ref (ad 30)), some (.int 1)] [] (sI (sR (sI h (ad 0) 6 0) (ad 1) k5 (some (mid t19))) (ad 31) k5 (nI t19)) _
                refine r_aload rfl rfl ?_
                refine r_iload rfl rfl ?_
                refine r_ic (x := (-1)) rfl rfl ?_
                refine r_icmp_ge (tg := 10) rfl rfl (fun _ => ?_) (fun q => absurd q (by decide))
                refine r_ic (x := 0) rfl rfl ?_
                refine r_putI rfl ⟨rfl, rfl, rfl⟩ (fx_t30 fx) ?_
                refine r_iload rfl rfl ?_
                refine r_iret rfl ?_
                show WR _ cd_163 67 [some (.ref (ad 30)), some (.int c), some (.int d), some (.int 0)] [.int 1] (sI (sI (sR (sI h (ad 0) 6 0) (ad 1) k5 (some (mid t19))) (ad 31) k5 (nI t19)) (ad 30) 11 0) _
                refine r_iret rfl ?_
                have cg : Chg n ad [(30, 11), (0, 6)] [31, 1] h (sI (sI (sR (sI h (ad 0) 6 0) (ad 1) k5 (some (mid t19))) (ad 31) k5 (nI t19)) (ad 30) 11 0) := ((((Chg.rf.sI (fx_j fx0) (k := 6) (v := 0) (.inl (by decide))).sR (fx_j fx0) (k := k5) (v := some (mid t19)) (.inl (by decide))).row.sI (fx_j fx0) (k := k5) (v := nI t19) (.inl (by decide))).row.sI (fx_j fx0) (k := 11) (v := 0) (.inl (by decide)))
                refine ⟨rfl, ⟨mid, pa, np, FX.k fx0 cg.1 cg.2.1 cg.2.2 (by decide), Eq.trans (Eq.trans (I_ne (fx_ne fx (by decide))) (Eq.trans (I_ne (fx_ne fx (by decide))) (Eq.trans I_oR I_eq))) (Eq.symm I_eq), rt.k cg.2.1 (by decide), ra.k cg.2.1 (by decide), rp.k cg.2.1 (by decide), rf.k cg.2.1 (by decide), Rst.k fx0 rst cg.2.2, Ru.k fx0 ru cg.2.1 (by decide), ?_⟩, Nat.le_add_right _ _, Nat.le_add_right _ _⟩
                · refine Rs.cases rs (smS_of fx0 cg (by decide)) (fun c_ hc_ => ?_)
                  by_cases e_ : c_ = k5
                  · rw [e_]
                    exact .inl ⟨k2, (by have := i_eq ek2; have : (nI k2).toInt = ((k2 : Nat) : Int) := nI_toInt (by omega); have := i_rg c; have := i_nle c3; have : (24 : Int32).toInt = 24 := rfl; have := i_nlt c1; have : (0 : Int32).toInt = 0 := rfl; omega), Eq.trans (Eq.trans (I_ne (fx_ne fx (by decide))) I_eq) (Eq.symm v19), Eq.trans (Eq.trans R_oI (Eq.trans R_oI R_eq)) (Eq.symm w19)⟩
                  · exact .inl ⟨c_, hc_, (Eq.trans (I_ne (fx_ne fx (by decide))) (Eq.trans (I_nk (by have := i_eq ek5; have : (nI k5).toInt = ((k5 : Nat) : Int) := nI_toInt (by omega); have := i_rg d; have := i_nle c6; have : (24 : Int32).toInt = 24 := rfl; have := i_nlt c4; have : (0 : Int32).toInt = 0 := rfl; omega)) (Eq.trans I_oR (I_ne (fx_ne fx (by decide)))))), (Eq.trans R_oI (Eq.trans R_oI (Eq.trans (R_nk (by have := i_eq ek5; have : (nI k5).toInt = ((k5 : Nat) : Int) := nI_toInt (by omega); have := i_rg d; have := i_nle c6; have : (24 : Int32).toInt = 24 := rfl; have := i_nlt c4; have : (0 : Int32).toInt = 0 := rfl; omega)) R_oI)))⟩
              · have c22e := rs.2.2.1 _ _ (by assumption) (by assumption) (.inl ⟨k5, (by have := i_eq ek5; have : (nI k5).toInt = ((k5 : Nat) : Int) := nI_toInt (by omega); have := i_rg d; have := i_nle c6; have : (24 : Int32).toInt = 24 := rfl; have := i_nlt c4; have : (0 : Int32).toInt = 0 := rfl; omega), v7⟩) (.inl ⟨k2, (by have := i_eq ek2; have : (nI k2).toInt = ((k2 : Nat) : Int) := nI_toInt (by omega); have := i_rg c; have := i_nle c3; have : (24 : Int32).toInt = 24 := rfl; have := i_nlt c1; have : (0 : Int32).toInt = 0 := rfl; omega), v19⟩) c22
                refine r_ic (x := 0) rfl rfl ?_
                refine r_iret rfl ?_
                show EV _ 163 [.ref (ad 30), .int c, .int d] (sI h (ad 0) 6 0) _
                refine in_163 (Nat.le_of_ble_eq_true rfl) ?_
                show WR _ cd_163 0 [some (.ref (ad 30)), some (.int c), some (.int d), none] [] (sI h (ad 0) 6 0) _
                refine r_iload rfl rfl ?_
                refine WR_tI (y := nI k2) ek2 ?_
                refine r_cs (y := 153) (ra := [.int (nI k2)]) (rest := []) rfl ⟨⟨rfl, rfl⟩, by decide⟩ rfl rfl (Nat.le_of_ble_eq_true rfl) ?_
                refine in_153 (Nat.le_of_ble_eq_true rfl) ?_
                show WR _ cd_153 0 [some (.int (nI k2))] [] (sI h (ad 0) 6 0) _
                refine r_iload rfl rfl ?_
                refine r_if_lt (tg := 14) rfl rfl (fun q => False.elim (by have : (nI k2).toInt = ((k2 : Nat) : Int) := nI_toInt (by omega); have : (0 : Int32).toInt = 0 := rfl; have := i_eq ek2; have := i_rg c; have := i_nle c3; have : (24 : Int32).toInt = 24 := rfl; have := i_nlt c1; have := i_lt q; omega)) (fun _ => ?_)
                refine r_iload rfl rfl ?_
                refine r_ic (x := 24) rfl rfl ?_
                refine r_icmp_ge (tg := 14) rfl rfl (fun q => False.elim (by have : (nI k2).toInt = ((k2 : Nat) : Int) := nI_toInt (by omega); have : (24 : Int32).toInt = 24 := rfl; have := i_eq ek2; have := i_rg c; have := i_nle c3; have := i_nlt c1; have : (0 : Int32).toInt = 0 := rfl; have := i_le q; omega)) (fun _ => ?_)
                refine r_ic (x := 1) rfl rfl ?_
                refine r_goto (tg := 15) rfl rfl ?_
                refine r_zret rfl (.inr rfl) ?_
                show WR _ cd_163 4 [some (.ref (ad 30)), some (.int c), some (.int d), none] [.int 1] (sI h (ad 0) 6 0) _
                refine r_if_eq (tg := 14) rfl rfl (fun q => absurd q (by decide)) (fun _ => ?_)
                refine r_iload rfl rfl ?_
                refine WR_tI (y := nI k5) ek5 ?_
                refine r_cs (y := 153) (ra := [.int (nI k5)]) (rest := []) rfl ⟨⟨rfl, rfl⟩, by decide⟩ rfl rfl (Nat.le_of_ble_eq_true rfl) ?_
                refine in_153 (Nat.le_of_ble_eq_true rfl) ?_
                show WR _ cd_153 0 [some (.int (nI k5))] [] (sI h (ad 0) 6 0) _
                refine r_iload rfl rfl ?_
                refine r_if_lt (tg := 14) rfl rfl (fun q => False.elim (by have : (nI k5).toInt = ((k5 : Nat) : Int) := nI_toInt (by omega); have : (0 : Int32).toInt = 0 := rfl; have := i_eq ek5; have := i_rg d; have := i_nle c6; have : (24 : Int32).toInt = 24 := rfl; have := i_nlt c4; have := i_lt q; omega)) (fun _ => ?_)
                refine r_iload rfl rfl ?_
                refine r_ic (x := 24) rfl rfl ?_
                refine r_icmp_ge (tg := 14) rfl rfl (fun q => False.elim (by have : (nI k5).toInt = ((k5 : Nat) : Int) := nI_toInt (by omega); have : (24 : Int32).toInt = 24 := rfl; have := i_eq ek5; have := i_rg d; have := i_nle c6; have := i_nlt c4; have : (0 : Int32).toInt = 0 := rfl; have := i_le q; omega)) (fun _ => ?_)
                refine r_ic (x := 1) rfl rfl ?_
                refine r_goto (tg := 15) rfl rfl ?_
                refine r_zret rfl (.inr rfl) ?_
                show WR _ cd_163 11 [some (.ref (ad 30)), some (.int c), some (.int d), none] [.int 1] (sI h (ad 0) 6 0) _
                refine r_if_ne (tg := 21) rfl rfl (fun _ => ?_) (fun q => absurd q (by decide))
                refine r_aload rfl rfl ?_
                refine r_getA (b := ad 31) rfl ⟨rfl, rfl, rfl⟩ (fx_t30 fx) (fx_r30_0 fx) ?_
                refine r_iload rfl rfl ?_
                refine WR_tI (y := nI k5) ek5 ?_
                refine r_iaload rfl (.inl (fx_t31 fx)) (vp_ct (fx_n31 fx) (vp_in_nI (by have := i_eq ek5; have : (nI k5).toInt = ((k5 : Nat) : Int) := nI_toInt (by omega); have := i_rg d; have := i_nle c6; have : (24 : Int32).toInt = 24 := rfl; have := i_nlt c4; have : (0 : Int32).toInt = 0 := rfl; omega) (by omega))) ?_
                refine WR_tI (congrArg (hI (sI h (ad 0) 6 0) (ad 31)) ((nI_clamp (by have := i_eq ek5; have : (nI k5).toInt = ((k5 : Nat) : Int) := nI_toInt (by omega); have := i_rg d; have := i_nle c6; have : (24 : Int32).toInt = 24 := rfl; have := i_nlt c4; have : (0 : Int32).toInt = 0 := rfl; omega)) : _ = k5)) ?_
                refine WR_tI (y := nI t7) (Eq.trans (I_ne (fx_ne fx (by decide))) v7) ?_
                refine r_aload rfl rfl ?_
                refine r_getA (b := ad 31) rfl ⟨rfl, rfl, rfl⟩ (fx_t30 fx) (fx_r30_0 fx) ?_
                refine r_iload rfl rfl ?_
                refine WR_tI (y := nI k2) ek2 ?_
                refine r_iaload rfl (.inl (fx_t31 fx)) (vp_ct (fx_n31 fx) (vp_in_nI (by have := i_eq ek2; have : (nI k2).toInt = ((k2 : Nat) : Int) := nI_toInt (by omega); have := i_rg c; have := i_nle c3; have : (24 : Int32).toInt = 24 := rfl; have := i_nlt c1; have : (0 : Int32).toInt = 0 := rfl; omega) (by omega))) ?_
                refine WR_tI (congrArg (hI (sI h (ad 0) 6 0) (ad 31)) ((nI_clamp (by have := i_eq ek2; have : (nI k2).toInt = ((k2 : Nat) : Int) := nI_toInt (by omega); have := i_rg c; have := i_nle c3; have : (24 : Int32).toInt = 24 := rfl; have := i_nlt c1; have : (0 : Int32).toInt = 0 := rfl; omega)) : _ = k2)) ?_
                refine WR_tI (y := nI t19) (Eq.trans (I_ne (fx_ne fx (by decide))) v19) ?_
                refine r_icmp_ne (tg := 40) rfl rfl (fun q => False.elim (by have : (nI t7).toInt = ((t7 : Nat) : Int) := nI_toInt (by omega); have : (nI t19).toInt = ((t19 : Nat) : Int) := nI_toInt (by omega); have := i_neq q; omega)) (fun _ => ?_)
                refine r_ic (x := 1) rfl rfl ?_
                refine r_goto (tg := 41) rfl rfl ?_
                refine r_istore (lv' := [some (.ref (ad 30)), some (.int c), some (.int d), some (.int 1)]) rfl (Nat.le_of_ble_eq_true rfl) rfl ?_
                refine r_aload rfl rfl ?_
                refine r_getA (b := ad 31) rfl ⟨rfl, rfl, rfl⟩ (fx_t30 fx) (fx_r30_0 fx) ?_
                refine r_iload rfl rfl ?_
                refine WR_tI (y := nI k5) ek5 ?_
                refine r_aload rfl rfl ?_
                refine r_getA (b := ad 31) rfl ⟨rfl, rfl, rfl⟩ (fx_t30 fx) (fx_r30_0 fx) ?_
                refine r_iload rfl rfl ?_
                refine WR_tI (y := nI k2) ek2 ?_
                refine r_iaload rfl (.inl (fx_t31 fx)) (vp_ct (fx_n31 fx) (vp_in_nI (by have := i_eq ek2; have : (nI k2).toInt = ((k2 : Nat) : Int) := nI_toInt (by omega); have := i_rg c; have := i_nle c3; have : (24 : Int32).toInt = 24 := rfl; have := i_nlt c1; have : (0 : Int32).toInt = 0 := rfl; omega) (by omega))) ?_
                refine WR_tI (congrArg (hI (sI h (ad 0) 6 0) (ad 31)) ((nI_clamp (by have := i_eq ek2; have : (nI k2).toInt = ((k2 : Nat) : Int) := nI_toInt (by omega); have := i_rg c; have := i_nle c3; have : (24 : Int32).toInt = 24 := rfl; have := i_nlt c1; have : (0 : Int32).toInt = 0 := rfl; omega)) : _ = k2)) ?_
                refine WR_tI (y := nI t19) (Eq.trans (I_ne (fx_ne fx (by decide))) v19) ?_
                refine r_iastore rfl (fx_t31 fx) (vp_ct (fx_n31 fx) (vp_in_nI (by have := i_eq ek5; have : (nI k5).toInt = ((k5 : Nat) : Int) := nI_toInt (by omega); have := i_rg d; have := i_nle c6; have : (24 : Int32).toInt = 24 := rfl; have := i_nlt c4; have : (0 : Int32).toInt = 0 := rfl; omega) (by omega))) ?_
                refine WR_h (h2 := sI (sI h (ad 0) 6 0) (ad 31) k5 (nI t19)) (congrArg (fun z => sI (sI h (ad 0) 6 0) (ad 31) z (nI t19)) ((nI_clamp (by have := i_eq ek5; have : (nI k5).toInt = ((k5 : Nat) : Int) := nI_toInt (by omega); have := i_rg d; have := i_nle c6; have : (24 : Int32).toInt = 24 := rfl; have := i_nlt c4; have : (0 : Int32).toInt = 0 := rfl; omega)) : _ = k5)) ?_
                refine r_aload rfl rfl ?_
                refine r_iload rfl rfl ?_
                refine r_if_eq (tg := 63) rfl rfl (fun q => absurd q (by decide)) (fun _ => ?_)
                refine r_ic (x := 0) rfl rfl ?_
                refine r_goto (tg := 64) rfl rfl ?_
                refine r_cv (y := 154) (ra := [.int 0]) (rest := []) rfl ⟨⟨rfl, rfl⟩, rfl, by decide⟩ (fx_t30 fx) rfl rfl (Nat.le_of_ble_eq_true rfl) ?_
                refine in_154 (Nat.le_of_ble_eq_true rfl) ?_
                show WR _ cd_154 0 [some (.ref (ad 30)), some (.int 0)] [] (sI (sI h (ad 0) 6 0) (ad 31) k5 (nI t19)) _
                refine r_aload rfl rfl ?_
                refine r_iload rfl rfl ?_
                refine r_ic (x := (-1)) rfl rfl ?_
                refine r_icmp_ge (tg := 10) rfl rfl (fun _ => ?_) (fun q => absurd q (by decide))
                refine r_ic (x := 0) rfl rfl ?_
                refine r_putI rfl ⟨rfl, rfl, rfl⟩ (fx_t30 fx) ?_
                refine r_iload rfl rfl ?_
                refine r_iret rfl ?_
                show WR _ cd_163 67 [some (.ref (ad 30)), some (.int c), some (.int d), some (.int 1)] [.int 0] (sI (sI (sI h (ad 0) 6 0) (ad 31) k5 (nI t19)) (ad 30) 11 0) _
                refine r_iret rfl ?_
                have cg : Chg n ad [(30, 11), (0, 6)] [31] h (sI (sI (sI h (ad 0) 6 0) (ad 31) k5 (nI t19)) (ad 30) 11 0) := (((Chg.rf.sI (fx_j fx0) (k := 6) (v := 0) (.inl (by decide))).sI (fx_j fx0) (k := k5) (v := nI t19) (.inl (by decide))).row.sI (fx_j fx0) (k := 11) (v := 0) (.inl (by decide)))
                refine ⟨rfl, ⟨mid, pa, np, FX.k fx0 cg.1 cg.2.1 cg.2.2 (by decide), Eq.trans (Eq.trans (I_ne (fx_ne fx (by decide))) (Eq.trans (I_ne (fx_ne fx (by decide))) I_eq)) (Eq.symm I_eq), rt.k cg.2.1 (by decide), ra.k cg.2.1 (by decide), rp.k cg.2.1 (by decide), rf.k cg.2.1 (by decide), Rst.k fx0 rst cg.2.2, Ru.k fx0 ru cg.2.1 (by decide), ?_⟩, Nat.le_add_right _ _, Nat.le_add_right _ _⟩
                · refine Rs.cases rs (smS_of fx0 cg (by decide)) (fun c_ hc_ => ?_)
                  by_cases e_ : c_ = k5
                  · rw [e_]
                    exact .inl ⟨k2, (by have := i_eq ek2; have : (nI k2).toInt = ((k2 : Nat) : Int) := nI_toInt (by omega); have := i_rg c; have := i_nle c3; have : (24 : Int32).toInt = 24 := rfl; have := i_nlt c1; have : (0 : Int32).toInt = 0 := rfl; omega), Eq.trans (Eq.trans (I_ne (fx_ne fx (by decide))) I_eq) (Eq.symm v19), Eq.trans (Eq.trans R_oI (Eq.trans R_oI (Eq.trans R_oI w7))) (Eq.trans (congrArg some c22) (Eq.symm w19))⟩
                  · exact .inl ⟨c_, hc_, (Eq.trans (I_ne (fx_ne fx (by decide))) (Eq.trans (I_nk (by have := i_eq ek5; have : (nI k5).toInt = ((k5 : Nat) : Int) := nI_toInt (by omega); have := i_rg d; have := i_nle c6; have : (24 : Int32).toInt = 24 := rfl; have := i_nlt c4; have : (0 : Int32).toInt = 0 := rfl; omega)) (I_ne (fx_ne fx (by decide))))), (Eq.trans R_oI (Eq.trans R_oI R_oI))⟩

set_option maxHeartbeats 2000000 in
theorem k_wind {n : Nat} {ad sa : Nat → Nat} {z0 : Nat} {h : mH} (r : Rel n ad sa z0 h) (v : Int32) (b : Int32) (hb : b = 0 ∨ b = 1) : AP n ad sa z0 h 123 228 [.int v, .int b] := by
  obtain ⟨mid, pa, np, fx, ry, rt, ra, rp, rf, rst, ru, rs⟩ := id r
  have fx0 := fx
  obtain ⟨⟨kf, hkf, f1, f2, f3⟩, f4, ⟨f5, f6⟩, f7, f8⟩ := id rf
  unfold AP
  refine in_123 (Nat.le_of_ble_eq_true rfl) ?_
  show WR _ cd_123 0 [some (.ref (ad 0)), some (.int v), some (.int b)] [] h _
  refine r_aload rfl rfl ?_
  refine r_ic (x := 0) rfl rfl ?_
  refine r_putI rfl ⟨rfl, rfl, rfl⟩ (fx_t0 fx) ?_
  refine r_iload rfl rfl ?_
  refine r_if_lt (tg := 15) rfl rfl (fun c1 => ?_) (fun c1 => ?_)
  · refine r_aload rfl rfl ?_
    refine r_ic (x := (-3)) rfl rfl ?_
    refine r_cv (y := 13) (ra := [.int (-3)]) (rest := []) rfl ⟨⟨rfl, rfl⟩, rfl, by decide⟩ (fx_t0 fx) rfl rfl (Nat.le_of_ble_eq_true rfl) ?_
    refine in_13 (Nat.le_of_ble_eq_true rfl) ?_
    show WR _ cd_13 0 [some (.ref (ad 0)), some (.int (-3))] [] (sI h (ad 0) 6 0) _
    refine r_aload rfl rfl ?_
    refine r_iload rfl rfl ?_
    refine r_putI rfl ⟨rfl, rfl, rfl⟩ (fx_t0 fx) ?_
    refine r_iload rfl rfl ?_
    refine r_iret rfl ?_
    show WR _ cd_123 21 [some (.ref (ad 0)), some (.int v), some (.int b)] [.int (-3)] (sI (sI h (ad 0) 6 0) (ad 0) 6 (-3)) _
    refine r_iret rfl ?_
    show EV _ 228 [.ref (ad 30), .int v, .int b] (sI (sI h (ad 0) 6 0) (ad 0) 6 (-3)) _
    refine in_228 (Nat.le_of_ble_eq_true rfl) ?_
    show WR _ cd_228 0 [some (.ref (ad 30)), some (.int v), some (.int b)] [] (sI (sI h (ad 0) 6 0) (ad 0) 6 (-3)) _
    refine r_iload rfl rfl ?_
    refine r_i2l rfl ?_
    refine r_lc (x := 0) rfl rfl ?_
    refine r_ldc (x := .long 7) rfl rfl ?_
    refine r_cs (y := 155) (ra := [.long 7, .long 0, .long v.toInt64]) (rest := []) rfl ⟨⟨rfl, rfl⟩, by decide⟩ rfl rfl (Nat.le_of_ble_eq_true rfl) ?_
    refine in_155 (Nat.le_of_ble_eq_true rfl) ?_
    show WR _ cd_155 0 [some (.long v.toInt64), none, some (.long 0), none, some (.long 7), none] [] (sI (sI h (ad 0) 6 0) (ad 0) 6 (-3)) _
    refine r_lload rfl rfl ?_
    refine r_lload rfl rfl ?_
    refine r_lif_lt (tg := 17) rfl rfl rfl (fun _ => ?_) (fun q => False.elim (by have := i_rg v; have := w_t v; have : (0 : Int64).toInt = 0 := rfl; have := i_lt c1; have : (0 : Int32).toInt = 0 := rfl; have := l_nlt q; omega))
    refine r_ic (x := 0) rfl rfl ?_
    refine r_zret rfl (.inl rfl) ?_
    show WR _ cd_228 9 [some (.ref (ad 30)), some (.int v), some (.int b)] [.int 0] (sI (sI h (ad 0) 6 0) (ad 0) 6 (-3)) _
    refine r_if_ne (tg := 19) rfl rfl (fun q => absurd q (by decide)) (fun _ => ?_)
    refine r_aload rfl rfl ?_
    refine r_ic (x := (-3)) rfl rfl ?_
    refine r_cv (y := 154) (ra := [.int (-3)]) (rest := []) rfl ⟨⟨rfl, rfl⟩, rfl, by decide⟩ (fx_t30 fx) rfl rfl (Nat.le_of_ble_eq_true rfl) ?_
    refine in_154 (Nat.le_of_ble_eq_true rfl) ?_
    show WR _ cd_154 0 [some (.ref (ad 30)), some (.int (-3))] [] (sI (sI h (ad 0) 6 0) (ad 0) 6 (-3)) _
    refine r_aload rfl rfl ?_
    refine r_iload rfl rfl ?_
    refine r_ic (x := (-1)) rfl rfl ?_
    refine r_icmp_ge (tg := 10) rfl rfl (fun q => absurd q (by decide)) (fun _ => ?_)
    refine r_iload rfl rfl ?_
    refine r_goto (tg := 11) rfl rfl ?_
    refine r_putI rfl ⟨rfl, rfl, rfl⟩ (fx_t30 fx) ?_
    refine r_iload rfl rfl ?_
    refine r_iret rfl ?_
    show WR _ cd_228 18 [some (.ref (ad 30)), some (.int v), some (.int b)] [.int (-3)] (sI (sI (sI h (ad 0) 6 0) (ad 0) 6 (-3)) (ad 30) 11 (-3)) _
    refine r_iret rfl ?_
    exact ⟨rfl, Rel.why r (((Chg.rf.sI (fx_j fx) (.inl (by decide))).sI (fx_j fx) (.inl (by decide))).sI (fx_j fx) (.inl (by decide))) ⟨rfl, by decide⟩ (Eq.trans (Eq.trans (I_ne (fx_ne fx (by decide))) I_eq) (Eq.symm I_eq)), Nat.le_add_right _ _, Nat.le_add_right _ _⟩
  · obtain ⟨k2, hk2, ek2⟩ := ix_of (x := v) (n := 2147483648) (by have := i_rg v; have := i_nlt c1; have : (0 : Int32).toInt = 0 := rfl; omega) (by have := i_rg v; have := i_nlt c1; have : (0 : Int32).toInt = 0 := rfl; omega)
    refine r_iload rfl rfl ?_
    refine WR_tI (y := nI k2) ek2 ?_
    refine r_ic (x := 7) rfl rfl ?_
    refine r_icmp_le (tg := 22) rfl rfl (fun c3 => ?_) (fun c3 => ?_)
    · refine r_aload rfl rfl ?_
      refine r_getA (b := ad 4) rfl ⟨rfl, rfl, rfl⟩ (fx_t0 fx) (fx_r0_2 fx) ?_
      refine r_iload rfl rfl ?_
      refine WR_tI (y := nI k2) ek2 ?_
      refine r_putI rfl ⟨rfl, rfl, rfl⟩ (fx_t4 fx) ?_
      refine r_aload rfl rfl ?_
      refine r_getA (b := ad 4) rfl ⟨rfl, rfl, rfl⟩ (fx_t0 fx) (fx_r0_2 fx) ?_
      refine r_iload rfl rfl ?_
      refine r_putZ rfl ⟨rfl, rfl, rfl⟩ (fx_t4 fx) hb ?_
      refine r_ic (x := 1) rfl rfl ?_
      refine r_iret rfl ?_
      show EV _ 228 [.ref (ad 30), .int v, .int b] (sI (sI (sI h (ad 0) 6 0) (ad 4) 4 (nI k2)) (ad 4) 5 b) _
      refine in_228 (Nat.le_of_ble_eq_true rfl) ?_
      show WR _ cd_228 0 [some (.ref (ad 30)), some (.int v), some (.int b)] [] (sI (sI (sI h (ad 0) 6 0) (ad 4) 4 (nI k2)) (ad 4) 5 b) _
      refine r_iload rfl rfl ?_
      refine WR_tI (y := nI k2) ek2 ?_
      refine r_i2l rfl ?_
      refine WR_tL (y := lN k2) (nI_l (by have := i_eq ek2; have : (nI k2).toInt = ((k2 : Nat) : Int) := nI_toInt (by omega); have := i_rg v; have := i_le c3; have : (7 : Int32).toInt = 7 := rfl; have := i_nlt c1; have : (0 : Int32).toInt = 0 := rfl; omega)) ?_
      refine r_lc (x := 0) rfl rfl ?_
      refine r_ldc (x := .long 7) rfl rfl ?_
      refine r_cs (y := 155) (ra := [.long 7, .long 0, .long (lN k2)]) (rest := []) rfl ⟨⟨rfl, rfl⟩, by decide⟩ rfl rfl (Nat.le_of_ble_eq_true rfl) ?_
      refine in_155 (Nat.le_of_ble_eq_true rfl) ?_
      show WR _ cd_155 0 [some (.long (lN k2)), none, some (.long 0), none, some (.long 7), none] [] (sI (sI (sI h (ad 0) 6 0) (ad 4) 4 (nI k2)) (ad 4) 5 b) _
      refine r_lload rfl rfl ?_
      refine r_lload rfl rfl ?_
      refine r_lif_lt (tg := 17) rfl rfl rfl (fun q => False.elim (by have : (lN k2).toInt = ((k2 : Nat) : Int) := lN_toInt (by omega); have : (0 : Int64).toInt = 0 := rfl; have := i_eq ek2; have : (nI k2).toInt = ((k2 : Nat) : Int) := nI_toInt (by omega); have := i_rg v; have := i_le c3; have : (7 : Int32).toInt = 7 := rfl; have := i_nlt c1; have : (0 : Int32).toInt = 0 := rfl; have := l_lt q; omega)) (fun _ => ?_)
      refine r_lload rfl rfl ?_
      refine r_lload rfl rfl ?_
      refine r_lif_gt (tg := 17) rfl rfl rfl (fun q => False.elim (by have : (lN k2).toInt = ((k2 : Nat) : Int) := lN_toInt (by omega); have : (7 : Int64).toInt = 7 := rfl; have := i_eq ek2; have : (nI k2).toInt = ((k2 : Nat) : Int) := nI_toInt (by omega); have := i_rg v; have := i_le c3; have : (7 : Int32).toInt = 7 := rfl; have := i_nlt c1; have : (0 : Int32).toInt = 0 := rfl; have := l_lt q; omega)) (fun _ => ?_)
      refine r_ic (x := 1) rfl rfl ?_
      refine r_goto (tg := 18) rfl rfl ?_
      refine r_zret rfl (.inr rfl) ?_
      show WR _ cd_228 9 [some (.ref (ad 30)), some (.int v), some (.int b)] [.int 1] (sI (sI (sI h (ad 0) 6 0) (ad 4) 4 (nI k2)) (ad 4) 5 b) _
      refine r_if_ne (tg := 19) rfl rfl (fun _ => ?_) (fun q => absurd q (by decide))
      refine r_aload rfl rfl ?_
      refine r_iload rfl rfl ?_
      refine WR_tI (y := nI k2) ek2 ?_
      refine r_putI rfl ⟨rfl, rfl, rfl⟩ (fx_t30 fx) ?_
      refine r_aload rfl rfl ?_
      refine r_iload rfl rfl ?_
      refine r_putZ rfl ⟨rfl, rfl, rfl⟩ (fx_t30 fx) hb ?_
      refine r_aload rfl rfl ?_
      refine r_ic (x := 1) rfl rfl ?_
      refine r_cv (y := 154) (ra := [.int 1]) (rest := []) rfl ⟨⟨rfl, rfl⟩, rfl, by decide⟩ (fx_t30 fx) rfl rfl (Nat.le_of_ble_eq_true rfl) ?_
      refine in_154 (Nat.le_of_ble_eq_true rfl) ?_
      show WR _ cd_154 0 [some (.ref (ad 30)), some (.int 1)] [] (sI (sI (sI (sI (sI h (ad 0) 6 0) (ad 4) 4 (nI k2)) (ad 4) 5 b) (ad 30) 61 (nI k2)) (ad 30) 62 b) _
      refine r_aload rfl rfl ?_
      refine r_iload rfl rfl ?_
      refine r_ic (x := (-1)) rfl rfl ?_
      refine r_icmp_ge (tg := 10) rfl rfl (fun _ => ?_) (fun q => absurd q (by decide))
      refine r_ic (x := 0) rfl rfl ?_
      refine r_putI rfl ⟨rfl, rfl, rfl⟩ (fx_t30 fx) ?_
      refine r_iload rfl rfl ?_
      refine r_iret rfl ?_
      show WR _ cd_228 34 [some (.ref (ad 30)), some (.int v), some (.int b)] [.int 1] (sI (sI (sI (sI (sI (sI h (ad 0) 6 0) (ad 4) 4 (nI k2)) (ad 4) 5 b) (ad 30) 61 (nI k2)) (ad 30) 62 b) (ad 30) 11 0) _
      refine r_iret rfl ?_
      have cg : Chg n ad [(30, 11), (30, 62), (30, 61), (4, 5), (4, 4), (0, 6)] [] h (sI (sI (sI (sI (sI (sI h (ad 0) 6 0) (ad 4) 4 (nI k2)) (ad 4) 5 b) (ad 30) 61 (nI k2)) (ad 30) 62 b) (ad 30) 11 0) := ((((((Chg.rf.sI (fx_j fx0) (k := 6) (v := 0) (.inl (by decide))).sI (fx_j fx0) (k := 4) (v := nI k2) (.inl (by decide))).sI (fx_j fx0) (k := 5) (v := b) (.inl (by decide))).sI (fx_j fx0) (k := 61) (v := nI k2) (.inl (by decide))).sI (fx_j fx0) (k := 62) (v := b) (.inl (by decide))).sI (fx_j fx0) (k := 11) (v := 0) (.inl (by decide)))
      refine ⟨rfl, ⟨mid, pa, np, FX.k fx0 cg.1 cg.2.1 cg.2.2 (by decide), Eq.trans (Eq.trans (I_ne (fx_ne fx (by decide))) (Eq.trans (I_ne (fx_ne fx (by decide))) (Eq.trans (I_ne (fx_ne fx (by decide))) (Eq.trans (I_ne (fx_ne fx (by decide))) (Eq.trans (I_ne (fx_ne fx (by decide))) I_eq))))) (Eq.symm I_eq), rt.k cg.2.1 (by decide), ra.k cg.2.1 (by decide), rp.k cg.2.1 (by decide), ?_, Rst.k fx0 rst cg.2.2, Ru.k fx0 ru cg.2.1 (by decide), Rs.k fx0 rs cg.1 cg.2.1 cg.2.2 (by decide)⟩, Nat.le_add_right _ _, Nat.le_add_right _ _⟩
      · exact ⟨⟨kf, hkf, (Eq.trans (I_ne (fx_ne fx (by decide))) (Eq.trans (I_ne (fx_ne fx (by decide))) (Eq.trans (I_ne (fx_ne fx (by decide))) (Eq.trans (I_nk (by decide)) (Eq.trans (I_nk (by decide)) (Eq.trans (I_ne (fx_ne fx (by decide))) f1)))))), (Eq.trans (I_nk (by decide)) (Eq.trans (I_nk (by decide)) (Eq.trans (I_nk (by decide)) (Eq.trans (I_ne (fx_ne fx (by decide))) (Eq.trans (I_ne (fx_ne fx (by decide))) (Eq.trans (I_ne (fx_ne fx (by decide))) f2)))))), fun i hi => (Eq.trans (cg.2.1.rI (i := 5) (by decide) i) (Eq.trans (f3 i hi) (Eq.symm (cg.2.1.rI (i := 74) (by decide) i))))⟩, (Eq.trans (Eq.trans (I_ne (fx_ne fx (by decide))) (Eq.trans (I_ne (fx_ne fx (by decide))) (Eq.trans (I_ne (fx_ne fx (by decide))) (Eq.trans (I_nk (by decide)) (Eq.trans (I_nk (by decide)) (I_ne (fx_ne fx (by decide)))))))) (Eq.symm (Eq.trans (I_nk (by decide)) (Eq.trans (I_nk (by decide)) (Eq.trans (I_nk (by decide)) (Eq.trans (I_ne (fx_ne fx (by decide))) (Eq.trans (I_ne (fx_ne fx (by decide))) (Eq.trans (I_ne (fx_ne fx (by decide))) f4.symm)))))))), ⟨(Eq.trans (Eq.trans (I_ne (fx_ne fx (by decide))) (Eq.trans (I_ne (fx_ne fx (by decide))) (Eq.trans (I_ne (fx_ne fx (by decide))) (Eq.trans (I_nk (by decide)) I_eq)))) (Eq.symm (Eq.trans (I_nk (by decide)) (Eq.trans (I_nk (by decide)) I_eq)))), ⟨k2, (by have := i_eq ek2; have : (nI k2).toInt = ((k2 : Nat) : Int) := nI_toInt (by omega); have := i_rg v; have := i_le c3; have : (7 : Int32).toInt = 7 := rfl; have := i_nlt c1; have : (0 : Int32).toInt = 0 := rfl; omega), Eq.trans (Eq.trans (I_ne (fx_ne fx (by decide))) (Eq.trans (I_ne (fx_ne fx (by decide))) (Eq.trans (I_ne (fx_ne fx (by decide))) (Eq.trans (I_nk (by decide)) I_eq)))) rfl⟩⟩, (Eq.trans (Eq.trans (I_ne (fx_ne fx (by decide))) (Eq.trans (I_ne (fx_ne fx (by decide))) (Eq.trans (I_ne (fx_ne fx (by decide))) I_eq))) (Eq.symm (Eq.trans (I_nk (by decide)) I_eq))), (by rw [show hI (sI (sI (sI (sI (sI (sI h (ad 0) 6 0) (ad 4) 4 (nI k2)) (ad 4) 5 b) (ad 30) 61 (nI k2)) (ad 30) 62 b) (ad 30) 11 0) (ad 4) 5 = b from (Eq.trans (I_ne (fx_ne fx (by decide))) (Eq.trans (I_ne (fx_ne fx (by decide))) (Eq.trans (I_ne (fx_ne fx (by decide))) I_eq)))]; exact hb)⟩
    · refine r_aload rfl rfl ?_
      refine r_ic (x := (-3)) rfl rfl ?_
      refine r_cv (y := 13) (ra := [.int (-3)]) (rest := []) rfl ⟨⟨rfl, rfl⟩, rfl, by decide⟩ (fx_t0 fx) rfl rfl (Nat.le_of_ble_eq_true rfl) ?_
      refine in_13 (Nat.le_of_ble_eq_true rfl) ?_
      show WR _ cd_13 0 [some (.ref (ad 0)), some (.int (-3))] [] (sI h (ad 0) 6 0) _
      refine r_aload rfl rfl ?_
      refine r_iload rfl rfl ?_
      refine r_putI rfl ⟨rfl, rfl, rfl⟩ (fx_t0 fx) ?_
      refine r_iload rfl rfl ?_
      refine r_iret rfl ?_
      show WR _ cd_123 21 [some (.ref (ad 0)), some (.int v), some (.int b)] [.int (-3)] (sI (sI h (ad 0) 6 0) (ad 0) 6 (-3)) _
      refine r_iret rfl ?_
      show EV _ 228 [.ref (ad 30), .int v, .int b] (sI (sI h (ad 0) 6 0) (ad 0) 6 (-3)) _
      refine in_228 (Nat.le_of_ble_eq_true rfl) ?_
      show WR _ cd_228 0 [some (.ref (ad 30)), some (.int v), some (.int b)] [] (sI (sI h (ad 0) 6 0) (ad 0) 6 (-3)) _
      refine r_iload rfl rfl ?_
      refine WR_tI (y := nI k2) ek2 ?_
      refine r_i2l rfl ?_
      refine WR_tL (y := lN k2) (nI_l (by have := i_eq ek2; have : (nI k2).toInt = ((k2 : Nat) : Int) := nI_toInt (by omega); have := i_rg v; have := i_nle c3; have : (7 : Int32).toInt = 7 := rfl; have := i_nlt c1; have : (0 : Int32).toInt = 0 := rfl; omega)) ?_
      refine r_lc (x := 0) rfl rfl ?_
      refine r_ldc (x := .long 7) rfl rfl ?_
      refine r_cs (y := 155) (ra := [.long 7, .long 0, .long (lN k2)]) (rest := []) rfl ⟨⟨rfl, rfl⟩, by decide⟩ rfl rfl (Nat.le_of_ble_eq_true rfl) ?_
      refine in_155 (Nat.le_of_ble_eq_true rfl) ?_
      show WR _ cd_155 0 [some (.long (lN k2)), none, some (.long 0), none, some (.long 7), none] [] (sI (sI h (ad 0) 6 0) (ad 0) 6 (-3)) _
      refine r_lload rfl rfl ?_
      refine r_lload rfl rfl ?_
      refine r_lif_lt (tg := 17) rfl rfl rfl (fun q => False.elim (by have : (lN k2).toInt = ((k2 : Nat) : Int) := lN_toInt (by omega); have : (0 : Int64).toInt = 0 := rfl; have := i_eq ek2; have : (nI k2).toInt = ((k2 : Nat) : Int) := nI_toInt (by omega); have := i_rg v; have := i_nle c3; have : (7 : Int32).toInt = 7 := rfl; have := i_nlt c1; have : (0 : Int32).toInt = 0 := rfl; have := l_lt q; omega)) (fun _ => ?_)
      refine r_lload rfl rfl ?_
      refine r_lload rfl rfl ?_
      refine r_lif_gt (tg := 17) rfl rfl rfl (fun _ => ?_) (fun q => False.elim (by have : (lN k2).toInt = ((k2 : Nat) : Int) := lN_toInt (by omega); have : (7 : Int64).toInt = 7 := rfl; have := i_eq ek2; have : (nI k2).toInt = ((k2 : Nat) : Int) := nI_toInt (by omega); have := i_rg v; have := i_nle c3; have : (7 : Int32).toInt = 7 := rfl; have := i_nlt c1; have : (0 : Int32).toInt = 0 := rfl; have := l_nlt q; omega))
      refine r_ic (x := 0) rfl rfl ?_
      refine r_zret rfl (.inl rfl) ?_
      show WR _ cd_228 9 [some (.ref (ad 30)), some (.int v), some (.int b)] [.int 0] (sI (sI h (ad 0) 6 0) (ad 0) 6 (-3)) _
      refine r_if_ne (tg := 19) rfl rfl (fun q => absurd q (by decide)) (fun _ => ?_)
      refine r_aload rfl rfl ?_
      refine r_ic (x := (-3)) rfl rfl ?_
      refine r_cv (y := 154) (ra := [.int (-3)]) (rest := []) rfl ⟨⟨rfl, rfl⟩, rfl, by decide⟩ (fx_t30 fx) rfl rfl (Nat.le_of_ble_eq_true rfl) ?_
      refine in_154 (Nat.le_of_ble_eq_true rfl) ?_
      show WR _ cd_154 0 [some (.ref (ad 30)), some (.int (-3))] [] (sI (sI h (ad 0) 6 0) (ad 0) 6 (-3)) _
      refine r_aload rfl rfl ?_
      refine r_iload rfl rfl ?_
      refine r_ic (x := (-1)) rfl rfl ?_
      refine r_icmp_ge (tg := 10) rfl rfl (fun q => absurd q (by decide)) (fun _ => ?_)
      refine r_iload rfl rfl ?_
      refine r_goto (tg := 11) rfl rfl ?_
      refine r_putI rfl ⟨rfl, rfl, rfl⟩ (fx_t30 fx) ?_
      refine r_iload rfl rfl ?_
      refine r_iret rfl ?_
      show WR _ cd_228 18 [some (.ref (ad 30)), some (.int v), some (.int b)] [.int (-3)] (sI (sI (sI h (ad 0) 6 0) (ad 0) 6 (-3)) (ad 30) 11 (-3)) _
      refine r_iret rfl ?_
      exact ⟨rfl, Rel.why r (((Chg.rf.sI (fx_j fx) (.inl (by decide))).sI (fx_j fx) (.inl (by decide))).sI (fx_j fx) (.inl (by decide))) ⟨rfl, by decide⟩ (Eq.trans (Eq.trans (I_ne (fx_ne fx (by decide))) I_eq) (Eq.symm I_eq)), Nat.le_add_right _ _, Nat.le_add_right _ _⟩

/-! ===== calls that read the store; printed ===== -/
set_option maxHeartbeats 2000000 in
theorem k_holds {n : Nat} {ad sa : Nat → Nat} {z0 : Nat} {h : mH} (r : Rel n ad sa z0 h) (c : Int32) : AP n ad sa z0 h 25 165 [.int c] := by
  obtain ⟨mid, pa, np, fx, ry, rt, ra, rp, rf, rst, ru, rs⟩ := id r
  have fx0 := fx
  unfold AP
  refine in_25 (Nat.le_of_ble_eq_true rfl) ?_
  show WR _ cd_25 0 [some (.ref (ad 0)), some (.int c), none] [] h _
  refine r_aload rfl rfl ?_
  refine r_ic (x := 0) rfl rfl ?_
  refine r_putI rfl ⟨rfl, rfl, rfl⟩ (fx_t0 fx) ?_
  refine r_iload rfl rfl ?_
  refine r_cs (y := 12) (ra := [.int c]) (rest := []) rfl ⟨⟨rfl, rfl⟩, by decide⟩ rfl rfl (Nat.le_of_ble_eq_true rfl) ?_
  refine in_12 (Nat.le_of_ble_eq_true rfl) ?_
  show WR _ cd_12 0 [some (.int c)] [] (sI h (ad 0) 6 0) _
  refine r_iload rfl rfl ?_
  refine r_if_lt (tg := 14) rfl rfl (fun c1 => ?_) (fun c1 => ?_)
  · refine r_ic (x := 0) rfl rfl ?_
    refine r_zret rfl (.inl rfl) ?_
    show WR _ cd_25 9 [some (.ref (ad 0)), some (.int c), none] [.int 0] (sI h (ad 0) 6 0) _
    refine r_if_ne (tg := 19) rfl rfl (fun q => absurd q (by decide)) (fun _ => ?_)
    refine r_aload rfl rfl ?_
    refine r_ic (x := (-2)) rfl rfl ?_
    refine r_cv (y := 13) (ra := [.int (-2)]) (rest := []) rfl ⟨⟨rfl, rfl⟩, rfl, by decide⟩ (fx_t0 fx) rfl rfl (Nat.le_of_ble_eq_true rfl) ?_
    refine in_13 (Nat.le_of_ble_eq_true rfl) ?_
    show WR _ cd_13 0 [some (.ref (ad 0)), some (.int (-2))] [] (sI h (ad 0) 6 0) _
    refine r_aload rfl rfl ?_
    refine r_iload rfl rfl ?_
    refine r_putI rfl ⟨rfl, rfl, rfl⟩ (fx_t0 fx) ?_
    refine r_iload rfl rfl ?_
    refine r_iret rfl ?_
    show WR _ cd_25 18 [some (.ref (ad 0)), some (.int c), none] [.int (-2)] (sI (sI h (ad 0) 6 0) (ad 0) 6 (-2)) _
    refine r_iret rfl ?_
    show EV _ 165 [.ref (ad 30), .int c] (sI (sI h (ad 0) 6 0) (ad 0) 6 (-2)) _
    refine in_165 (Nat.le_of_ble_eq_true rfl) ?_
    show WR _ cd_165 0 [some (.ref (ad 30)), some (.int c)] [] (sI (sI h (ad 0) 6 0) (ad 0) 6 (-2)) _
    refine r_aload rfl rfl ?_
    refine r_iload rfl rfl ?_
    refine r_cs (y := 153) (ra := [.int c]) (rest := [.ref (ad 30)]) rfl ⟨⟨rfl, rfl⟩, by decide⟩ rfl rfl (Nat.le_of_ble_eq_true rfl) ?_
    refine in_153 (Nat.le_of_ble_eq_true rfl) ?_
    show WR _ cd_153 0 [some (.int c)] [] (sI (sI h (ad 0) 6 0) (ad 0) 6 (-2)) _
    refine r_iload rfl rfl ?_
    refine r_if_lt (tg := 14) rfl rfl (fun _ => ?_) (fun q => False.elim (by have := i_rg c; have : (0 : Int32).toInt = 0 := rfl; have := i_lt c1; have := i_nlt q; omega))
    refine r_ic (x := 0) rfl rfl ?_
    refine r_zret rfl (.inl rfl) ?_
    show WR _ cd_165 5 [some (.ref (ad 30)), some (.int c)] [.int 0, .ref (ad 30)] (sI (sI h (ad 0) 6 0) (ad 0) 6 (-2)) _
    refine r_if_eq (tg := 21) rfl rfl (fun _ => ?_) (fun q => absurd q (by decide))
    refine r_ic (x := (-2)) rfl rfl ?_
    refine r_cv (y := 154) (ra := [.int (-2)]) (rest := []) rfl ⟨⟨rfl, rfl⟩, rfl, by decide⟩ (fx_t30 fx) rfl rfl (Nat.le_of_ble_eq_true rfl) ?_
    refine in_154 (Nat.le_of_ble_eq_true rfl) ?_
    show WR _ cd_154 0 [some (.ref (ad 30)), some (.int (-2))] [] (sI (sI h (ad 0) 6 0) (ad 0) 6 (-2)) _
    refine r_aload rfl rfl ?_
    refine r_iload rfl rfl ?_
    refine r_ic (x := (-1)) rfl rfl ?_
    refine r_icmp_ge (tg := 10) rfl rfl (fun q => absurd q (by decide)) (fun _ => ?_)
    refine r_iload rfl rfl ?_
    refine r_goto (tg := 11) rfl rfl ?_
    refine r_putI rfl ⟨rfl, rfl, rfl⟩ (fx_t30 fx) ?_
    refine r_iload rfl rfl ?_
    refine r_iret rfl ?_
    show WR _ cd_165 26 [some (.ref (ad 30)), some (.int c)] [.int (-2)] (sI (sI (sI h (ad 0) 6 0) (ad 0) 6 (-2)) (ad 30) 11 (-2)) _
    refine r_iret rfl ?_
    exact ⟨rfl, Rel.why r (((Chg.rf.sI (fx_j fx) (.inl (by decide))).sI (fx_j fx) (.inl (by decide))).sI (fx_j fx) (.inl (by decide))) ⟨rfl, by decide⟩ (Eq.trans (Eq.trans (I_ne (fx_ne fx (by decide))) I_eq) (Eq.symm I_eq)), Nat.le_add_right _ _, Nat.le_add_right _ _⟩
  · obtain ⟨k2, hk2, ek2⟩ := ix_of (x := c) (n := 2147483648) (by have := i_rg c; have := i_nlt c1; have : (0 : Int32).toInt = 0 := rfl; omega) (by have := i_rg c; have := i_nlt c1; have : (0 : Int32).toInt = 0 := rfl; omega)
    refine r_iload rfl rfl ?_
    refine WR_tI (y := nI k2) ek2 ?_
    refine r_ic (x := 24) rfl rfl ?_
    refine r_icmp_ge (tg := 14) rfl rfl (fun c3 => ?_) (fun c3 => ?_)
    · refine r_ic (x := 0) rfl rfl ?_
      refine r_zret rfl (.inl rfl) ?_
      show WR _ cd_25 9 [some (.ref (ad 0)), some (.int c), none] [.int 0] (sI h (ad 0) 6 0) _
      refine r_if_ne (tg := 19) rfl rfl (fun q => absurd q (by decide)) (fun _ => ?_)
      refine r_aload rfl rfl ?_
      refine r_ic (x := (-2)) rfl rfl ?_
      refine r_cv (y := 13) (ra := [.int (-2)]) (rest := []) rfl ⟨⟨rfl, rfl⟩, rfl, by decide⟩ (fx_t0 fx) rfl rfl (Nat.le_of_ble_eq_true rfl) ?_
      refine in_13 (Nat.le_of_ble_eq_true rfl) ?_
      show WR _ cd_13 0 [some (.ref (ad 0)), some (.int (-2))] [] (sI h (ad 0) 6 0) _
      refine r_aload rfl rfl ?_
      refine r_iload rfl rfl ?_
      refine r_putI rfl ⟨rfl, rfl, rfl⟩ (fx_t0 fx) ?_
      refine r_iload rfl rfl ?_
      refine r_iret rfl ?_
      show WR _ cd_25 18 [some (.ref (ad 0)), some (.int c), none] [.int (-2)] (sI (sI h (ad 0) 6 0) (ad 0) 6 (-2)) _
      refine r_iret rfl ?_
      show EV _ 165 [.ref (ad 30), .int c] (sI (sI h (ad 0) 6 0) (ad 0) 6 (-2)) _
      refine in_165 (Nat.le_of_ble_eq_true rfl) ?_
      show WR _ cd_165 0 [some (.ref (ad 30)), some (.int c)] [] (sI (sI h (ad 0) 6 0) (ad 0) 6 (-2)) _
      refine r_aload rfl rfl ?_
      refine r_iload rfl rfl ?_
      refine WR_tI (y := nI k2) ek2 ?_
      refine r_cs (y := 153) (ra := [.int (nI k2)]) (rest := [.ref (ad 30)]) rfl ⟨⟨rfl, rfl⟩, by decide⟩ rfl rfl (Nat.le_of_ble_eq_true rfl) ?_
      refine in_153 (Nat.le_of_ble_eq_true rfl) ?_
      show WR _ cd_153 0 [some (.int (nI k2))] [] (sI (sI h (ad 0) 6 0) (ad 0) 6 (-2)) _
      refine r_iload rfl rfl ?_
      refine r_if_lt (tg := 14) rfl rfl (fun q => False.elim (by have : (nI k2).toInt = ((k2 : Nat) : Int) := nI_toInt (by omega); have : (0 : Int32).toInt = 0 := rfl; have := i_eq ek2; have := i_rg c; have := i_le c3; have : (24 : Int32).toInt = 24 := rfl; have := i_nlt c1; have := i_lt q; omega)) (fun _ => ?_)
      refine r_iload rfl rfl ?_
      refine r_ic (x := 24) rfl rfl ?_
      refine r_icmp_ge (tg := 14) rfl rfl (fun _ => ?_) (fun q => False.elim (by have : (nI k2).toInt = ((k2 : Nat) : Int) := nI_toInt (by omega); have : (24 : Int32).toInt = 24 := rfl; have := i_eq ek2; have := i_rg c; have := i_le c3; have := i_nlt c1; have : (0 : Int32).toInt = 0 := rfl; have := i_nle q; omega))
      refine r_ic (x := 0) rfl rfl ?_
      refine r_zret rfl (.inl rfl) ?_
      show WR _ cd_165 5 [some (.ref (ad 30)), some (.int c)] [.int 0, .ref (ad 30)] (sI (sI h (ad 0) 6 0) (ad 0) 6 (-2)) _
      refine r_if_eq (tg := 21) rfl rfl (fun _ => ?_) (fun q => absurd q (by decide))
      refine r_ic (x := (-2)) rfl rfl ?_
      refine r_cv (y := 154) (ra := [.int (-2)]) (rest := []) rfl ⟨⟨rfl, rfl⟩, rfl, by decide⟩ (fx_t30 fx) rfl rfl (Nat.le_of_ble_eq_true rfl) ?_
      refine in_154 (Nat.le_of_ble_eq_true rfl) ?_
      show WR _ cd_154 0 [some (.ref (ad 30)), some (.int (-2))] [] (sI (sI h (ad 0) 6 0) (ad 0) 6 (-2)) _
      refine r_aload rfl rfl ?_
      refine r_iload rfl rfl ?_
      refine r_ic (x := (-1)) rfl rfl ?_
      refine r_icmp_ge (tg := 10) rfl rfl (fun q => absurd q (by decide)) (fun _ => ?_)
      refine r_iload rfl rfl ?_
      refine r_goto (tg := 11) rfl rfl ?_
      refine r_putI rfl ⟨rfl, rfl, rfl⟩ (fx_t30 fx) ?_
      refine r_iload rfl rfl ?_
      refine r_iret rfl ?_
      show WR _ cd_165 26 [some (.ref (ad 30)), some (.int c)] [.int (-2)] (sI (sI (sI h (ad 0) 6 0) (ad 0) 6 (-2)) (ad 30) 11 (-2)) _
      refine r_iret rfl ?_
      exact ⟨rfl, Rel.why r (((Chg.rf.sI (fx_j fx) (.inl (by decide))).sI (fx_j fx) (.inl (by decide))).sI (fx_j fx) (.inl (by decide))) ⟨rfl, by decide⟩ (Eq.trans (Eq.trans (I_ne (fx_ne fx (by decide))) I_eq) (Eq.symm I_eq)), Nat.le_add_right _ _, Nat.le_add_right _ _⟩
    · refine r_ic (x := 1) rfl rfl ?_
      refine r_goto (tg := 15) rfl rfl ?_
      refine r_zret rfl (.inr rfl) ?_
      show WR _ cd_25 9 [some (.ref (ad 0)), some (.int c), none] [.int 1] (sI h (ad 0) 6 0) _
      refine r_if_ne (tg := 19) rfl rfl (fun _ => ?_) (fun q => absurd q (by decide))
      refine r_aload rfl rfl ?_
      refine r_getA (b := ad 1) rfl ⟨rfl, rfl, rfl⟩ (fx_t0 fx) (fx_r0_0 fx) ?_
      refine r_iload rfl rfl ?_
      refine WR_tI (y := nI k2) ek2 ?_
      rcases rs.cs (n := n) (sa := sa) (c := k2) (by have := i_eq ek2; have : (nI k2).toInt = ((k2 : Nat) : Int) := nI_toInt (by omega); have := i_rg c; have := i_nle c3; have : (24 : Int32).toInt = 24 := rfl; have := i_nlt c1; have : (0 : Int32).toInt = 0 := rfl; omega) with ⟨v4, w4⟩ | ⟨q4, kd4, hq4, hn4, v4, w4, dz4, tg4, s1_4, k1_4, k2_4, hk_4, we4⟩ | ⟨t4, ln4, sz4, ht4, v4, w4, dz4, tg4, r_4, tg2_4, l1_4, l2_4, hl_4, kd_4, n_4, sz_4, hs_4, al4, rw4⟩ | ⟨t4, sz4, ht4, v4, w4, dz4, tg4, r_4, tg2_4, k1_4, l2_4, k2_4, n_4, sz_4, hs_4, al4, rw4⟩ | ⟨t4, kd4, sz4, ht4, v4, w4, dz4, tg4, r_4, tg2_4, k1_4, l2_4, k2_4, hk_4, n_4, sz_4, hs_4, al4, rw4⟩
      · refine r_aaload0 rfl (isQ_of (fx_t1 fx) (by decide)) (vp_ct (fx_n1 fx) (vp_in_nI (by have := i_eq ek2; have : (nI k2).toInt = ((k2 : Nat) : Int) := nI_toInt (by omega); have := i_rg c; have := i_nle c3; have : (24 : Int32).toInt = 24 := rfl; have := i_nlt c1; have : (0 : Int32).toInt = 0 := rfl; omega) (by omega))) (Eq.trans (congrArg (hR (sI h (ad 0) 6 0) (ad 1)) ((nI_clamp (by have := i_eq ek2; have : (nI k2).toInt = ((k2 : Nat) : Int) := nI_toInt (by omega); have := i_rg c; have := i_nle c3; have : (24 : Int32).toInt = 24 := rfl; have := i_nlt c1; have : (0 : Int32).toInt = 0 := rfl; omega)) : _ = k2)) (Eq.trans R_oI w4)) ?_
        refine r_astore0 (lv' := [some (.ref (ad 0)), some (.int c), some (.null)]) rfl (Nat.le_of_ble_eq_true rfl) rfl ?_
        refine r_aload0 rfl rfl ?_
        refine r_ifnonnullN (tg := 34) rfl rfl ?_
        refine r_ic (x := (-1)) rfl rfl ?_
        refine r_goto (tg := 38) rfl rfl ?_
        refine r_iret rfl ?_
        show EV _ 165 [.ref (ad 30), .int c] (sI h (ad 0) 6 0) _
        refine in_165 (Nat.le_of_ble_eq_true rfl) ?_
        show WR _ cd_165 0 [some (.ref (ad 30)), some (.int c)] [] (sI h (ad 0) 6 0) _
        refine r_aload rfl rfl ?_
        refine r_iload rfl rfl ?_
        refine WR_tI (y := nI k2) ek2 ?_
        refine r_cs (y := 153) (ra := [.int (nI k2)]) (rest := [.ref (ad 30)]) rfl ⟨⟨rfl, rfl⟩, by decide⟩ rfl rfl (Nat.le_of_ble_eq_true rfl) ?_
        refine in_153 (Nat.le_of_ble_eq_true rfl) ?_
        show WR _ cd_153 0 [some (.int (nI k2))] [] (sI h (ad 0) 6 0) _
        refine r_iload rfl rfl ?_
        refine r_if_lt (tg := 14) rfl rfl (fun q => False.elim (by have : (nI k2).toInt = ((k2 : Nat) : Int) := nI_toInt (by omega); have : (0 : Int32).toInt = 0 := rfl; have := i_eq ek2; have := i_rg c; have := i_nle c3; have : (24 : Int32).toInt = 24 := rfl; have := i_nlt c1; have := i_lt q; omega)) (fun _ => ?_)
        refine r_iload rfl rfl ?_
        refine r_ic (x := 24) rfl rfl ?_
        refine r_icmp_ge (tg := 14) rfl rfl (fun q => False.elim (by have : (nI k2).toInt = ((k2 : Nat) : Int) := nI_toInt (by omega); have : (24 : Int32).toInt = 24 := rfl; have := i_eq ek2; have := i_rg c; have := i_nle c3; have := i_nlt c1; have : (0 : Int32).toInt = 0 := rfl; have := i_le q; omega)) (fun _ => ?_)
        refine r_ic (x := 1) rfl rfl ?_
        refine r_goto (tg := 15) rfl rfl ?_
        refine r_zret rfl (.inr rfl) ?_
        show WR _ cd_165 5 [some (.ref (ad 30)), some (.int c)] [.int 1, .ref (ad 30)] (sI h (ad 0) 6 0) _
        refine r_if_eq (tg := 21) rfl rfl (fun q => absurd q (by decide)) (fun _ => ?_)
        refine r_aload rfl rfl ?_
        refine r_aload rfl rfl ?_
        refine r_getA (b := ad 31) rfl ⟨rfl, rfl, rfl⟩ (fx_t30 fx) (fx_r30_0 fx) ?_
        refine r_iload rfl rfl ?_
        refine WR_tI (y := nI k2) ek2 ?_
        refine r_iaload rfl (.inl (fx_t31 fx)) (vp_ct (fx_n31 fx) (vp_in_nI (by have := i_eq ek2; have : (nI k2).toInt = ((k2 : Nat) : Int) := nI_toInt (by omega); have := i_rg c; have := i_nle c3; have : (24 : Int32).toInt = 24 := rfl; have := i_nlt c1; have : (0 : Int32).toInt = 0 := rfl; omega) (by omega))) ?_
        refine WR_tI (congrArg (hI (sI h (ad 0) 6 0) (ad 31)) ((nI_clamp (by have := i_eq ek2; have : (nI k2).toInt = ((k2 : Nat) : Int) := nI_toInt (by omega); have := i_rg c; have := i_nle c3; have : (24 : Int32).toInt = 24 := rfl; have := i_nlt c1; have : (0 : Int32).toInt = 0 := rfl; omega)) : _ = k2)) ?_
        refine WR_tI (y := (-1)) (Eq.trans (I_ne (fx_ne fx (by decide))) v4) ?_
        refine r_cv (y := 166) (ra := [.int (-1)]) (rest := [.ref (ad 30)]) rfl ⟨⟨rfl, rfl⟩, rfl, by decide⟩ (fx_t30 fx) rfl rfl (Nat.le_of_ble_eq_true rfl) ?_
        refine in_166 (Nat.le_of_ble_eq_true rfl) ?_
        show WR _ cd_166 0 [some (.ref (ad 30)), some (.int (-1))] [] (sI h (ad 0) 6 0) _
        refine r_iload rfl rfl ?_
        refine r_ic (x := (-1)) rfl rfl ?_
        refine r_icmp_ne (tg := 9) rfl rfl (fun q => absurd q (by decide)) (fun _ => ?_)
        refine r_ic (x := (-1)) rfl rfl ?_
        refine r_goto (tg := 27) rfl rfl ?_
        refine r_iret rfl ?_
        show WR _ cd_165 18 [some (.ref (ad 30)), some (.int c)] [.int (-1), .ref (ad 30)] (sI h (ad 0) 6 0) _
        refine r_goto (tg := 23) rfl rfl ?_
        refine r_cv (y := 154) (ra := [.int (-1)]) (rest := []) rfl ⟨⟨rfl, rfl⟩, rfl, by decide⟩ (fx_t30 fx) rfl rfl (Nat.le_of_ble_eq_true rfl) ?_
        refine in_154 (Nat.le_of_ble_eq_true rfl) ?_
        show WR _ cd_154 0 [some (.ref (ad 30)), some (.int (-1))] [] (sI h (ad 0) 6 0) _
        refine r_aload rfl rfl ?_
        refine r_iload rfl rfl ?_
        refine r_ic (x := (-1)) rfl rfl ?_
        refine r_icmp_ge (tg := 10) rfl rfl (fun _ => ?_) (fun q => absurd q (by decide))
        refine r_ic (x := 0) rfl rfl ?_
        refine r_putI rfl ⟨rfl, rfl, rfl⟩ (fx_t30 fx) ?_
        refine r_iload rfl rfl ?_
        refine r_iret rfl ?_
        show WR _ cd_165 26 [some (.ref (ad 30)), some (.int c)] [.int (-1)] (sI (sI h (ad 0) 6 0) (ad 30) 11 0) _
        refine r_iret rfl ?_
        exact ⟨rfl, Rel.why r ((Chg.rf.sI (fx_j fx) (.inl (by decide))).sI (fx_j fx) (.inl (by decide))) ⟨rfl, by decide⟩ (Eq.trans (Eq.trans (I_ne (fx_ne fx (by decide))) I_eq) (Eq.symm I_eq)), Nat.le_add_right _ _, Nat.le_add_right _ _⟩
      · refine r_aaloadA (b := pa q4) rfl (isQ_of (fx_t1 fx) (by decide)) (vp_ct (fx_n1 fx) (vp_in_nI (by have := i_eq ek2; have : (nI k2).toInt = ((k2 : Nat) : Int) := nI_toInt (by omega); have := i_rg c; have := i_nle c3; have : (24 : Int32).toInt = 24 := rfl; have := i_nlt c1; have : (0 : Int32).toInt = 0 := rfl; omega) (by omega))) (Eq.trans (congrArg (hR (sI h (ad 0) 6 0) (ad 1)) ((nI_clamp (by have := i_eq ek2; have : (nI k2).toInt = ((k2 : Nat) : Int) := nI_toInt (by omega); have := i_rg c; have := i_nle c3; have : (24 : Int32).toInt = 24 := rfl; have := i_nlt c1; have : (0 : Int32).toInt = 0 := rfl; omega)) : _ = k2)) (Eq.trans R_oI w4)) ?_
        refine r_astore (lv' := [some (.ref (ad 0)), some (.int c), some (.ref (pa q4))]) rfl (Nat.le_of_ble_eq_true rfl) rfl ?_
        refine r_aload rfl rfl ?_
        refine r_ifnonnullA (tg := 34) rfl rfl ?_
        refine r_aload rfl rfl ?_
        refine r_cw (y := 26) (ra := []) (rest := []) rfl ⟨rfl, rfl⟩ (by rw [show hT (sI h (ad 0) 6 0) (pa q4) = 4 from tg4]; rfl) rfl rfl (Nat.le_of_ble_eq_true rfl) ?_
        refine in_26 (Nat.le_of_ble_eq_true rfl) ?_
        show WR _ cd_26 0 [some (.ref (pa q4))] [] (sI h (ad 0) 6 0) _
        refine r_ic (x := 10) rfl rfl ?_
        refine r_iret rfl ?_
        show WR _ cd_25 38 [some (.ref (ad 0)), some (.int c), some (.ref (pa q4))] [.int 10] (sI h (ad 0) 6 0) _
        refine r_iret rfl ?_
        show EV _ 165 [.ref (ad 30), .int c] (sI h (ad 0) 6 0) _
        refine in_165 (Nat.le_of_ble_eq_true rfl) ?_
        show WR _ cd_165 0 [some (.ref (ad 30)), some (.int c)] [] (sI h (ad 0) 6 0) _
        refine r_aload rfl rfl ?_
        refine r_iload rfl rfl ?_
        refine WR_tI (y := nI k2) ek2 ?_
        refine r_cs (y := 153) (ra := [.int (nI k2)]) (rest := [.ref (ad 30)]) rfl ⟨⟨rfl, rfl⟩, by decide⟩ rfl rfl (Nat.le_of_ble_eq_true rfl) ?_
        refine in_153 (Nat.le_of_ble_eq_true rfl) ?_
        show WR _ cd_153 0 [some (.int (nI k2))] [] (sI h (ad 0) 6 0) _
        refine r_iload rfl rfl ?_
        refine r_if_lt (tg := 14) rfl rfl (fun q => False.elim (by have : (nI k2).toInt = ((k2 : Nat) : Int) := nI_toInt (by omega); have : (0 : Int32).toInt = 0 := rfl; have := i_eq ek2; have := i_rg c; have := i_nle c3; have : (24 : Int32).toInt = 24 := rfl; have := i_nlt c1; have := i_lt q; omega)) (fun _ => ?_)
        refine r_iload rfl rfl ?_
        refine r_ic (x := 24) rfl rfl ?_
        refine r_icmp_ge (tg := 14) rfl rfl (fun q => False.elim (by have : (nI k2).toInt = ((k2 : Nat) : Int) := nI_toInt (by omega); have : (24 : Int32).toInt = 24 := rfl; have := i_eq ek2; have := i_rg c; have := i_nle c3; have := i_nlt c1; have : (0 : Int32).toInt = 0 := rfl; have := i_le q; omega)) (fun _ => ?_)
        refine r_ic (x := 1) rfl rfl ?_
        refine r_goto (tg := 15) rfl rfl ?_
        refine r_zret rfl (.inr rfl) ?_
        show WR _ cd_165 5 [some (.ref (ad 30)), some (.int c)] [.int 1, .ref (ad 30)] (sI h (ad 0) 6 0) _
        refine r_if_eq (tg := 21) rfl rfl (fun q => absurd q (by decide)) (fun _ => ?_)
        refine r_aload rfl rfl ?_
        refine r_aload rfl rfl ?_
        refine r_getA (b := ad 31) rfl ⟨rfl, rfl, rfl⟩ (fx_t30 fx) (fx_r30_0 fx) ?_
        refine r_iload rfl rfl ?_
        refine WR_tI (y := nI k2) ek2 ?_
        refine r_iaload rfl (.inl (fx_t31 fx)) (vp_ct (fx_n31 fx) (vp_in_nI (by have := i_eq ek2; have : (nI k2).toInt = ((k2 : Nat) : Int) := nI_toInt (by omega); have := i_rg c; have := i_nle c3; have : (24 : Int32).toInt = 24 := rfl; have := i_nlt c1; have : (0 : Int32).toInt = 0 := rfl; omega) (by omega))) ?_
        refine WR_tI (congrArg (hI (sI h (ad 0) 6 0) (ad 31)) ((nI_clamp (by have := i_eq ek2; have : (nI k2).toInt = ((k2 : Nat) : Int) := nI_toInt (by omega); have := i_rg c; have := i_nle c3; have : (24 : Int32).toInt = 24 := rfl; have := i_nlt c1; have : (0 : Int32).toInt = 0 := rfl; omega)) : _ = k2)) ?_
        refine WR_tI (y := nI (q4 + 1000)) (Eq.trans (I_ne (fx_ne fx (by decide))) v4) ?_
        refine r_cv (y := 166) (ra := [.int (nI (q4 + 1000))]) (rest := [.ref (ad 30)]) rfl ⟨⟨rfl, rfl⟩, rfl, by decide⟩ (fx_t30 fx) rfl rfl (Nat.le_of_ble_eq_true rfl) ?_
        refine in_166 (Nat.le_of_ble_eq_true rfl) ?_
        show WR _ cd_166 0 [some (.ref (ad 30)), some (.int (nI (q4 + 1000)))] [] (sI h (ad 0) 6 0) _
        refine r_iload rfl rfl ?_
        refine r_ic (x := (-1)) rfl rfl ?_
        refine r_icmp_ne (tg := 9) rfl rfl (fun _ => ?_) (fun q => False.elim (by have : (nI (q4 + 1000)).toInt = ((q4 + 1000 : Nat) : Int) := nI_toInt (by omega); have : (-1 : Int32).toInt = -1 := rfl; have := i_eq q; omega))
        refine r_iload rfl rfl ?_
        refine r_ic (x := 1000) rfl rfl ?_
        refine r_icmp_lt (tg := 21) rfl rfl (fun q => False.elim (by have : (nI (q4 + 1000)).toInt = ((q4 + 1000 : Nat) : Int) := nI_toInt (by omega); have : (1000 : Int32).toInt = 1000 := rfl; have := i_lt q; omega)) (fun _ => ?_)
        refine r_ic (x := 10) rfl rfl ?_
        refine r_goto (tg := 27) rfl rfl ?_
        refine r_iret rfl ?_
        show WR _ cd_165 18 [some (.ref (ad 30)), some (.int c)] [.int 10, .ref (ad 30)] (sI h (ad 0) 6 0) _
        refine r_goto (tg := 23) rfl rfl ?_
        refine r_cv (y := 154) (ra := [.int 10]) (rest := []) rfl ⟨⟨rfl, rfl⟩, rfl, by decide⟩ (fx_t30 fx) rfl rfl (Nat.le_of_ble_eq_true rfl) ?_
        refine in_154 (Nat.le_of_ble_eq_true rfl) ?_
        show WR _ cd_154 0 [some (.ref (ad 30)), some (.int 10)] [] (sI h (ad 0) 6 0) _
        refine r_aload rfl rfl ?_
        refine r_iload rfl rfl ?_
        refine r_ic (x := (-1)) rfl rfl ?_
        refine r_icmp_ge (tg := 10) rfl rfl (fun _ => ?_) (fun q => absurd q (by decide))
        refine r_ic (x := 0) rfl rfl ?_
        refine r_putI rfl ⟨rfl, rfl, rfl⟩ (fx_t30 fx) ?_
        refine r_iload rfl rfl ?_
        refine r_iret rfl ?_
        show WR _ cd_165 26 [some (.ref (ad 30)), some (.int c)] [.int 10] (sI (sI h (ad 0) 6 0) (ad 30) 11 0) _
        refine r_iret rfl ?_
        exact ⟨rfl, Rel.why r ((Chg.rf.sI (fx_j fx) (.inl (by decide))).sI (fx_j fx) (.inl (by decide))) ⟨rfl, by decide⟩ (Eq.trans (Eq.trans (I_ne (fx_ne fx (by decide))) I_eq) (Eq.symm I_eq)), Nat.le_add_right _ _, Nat.le_add_right _ _⟩
      · refine r_aaloadA (b := mid t4) rfl (isQ_of (fx_t1 fx) (by decide)) (vp_ct (fx_n1 fx) (vp_in_nI (by have := i_eq ek2; have : (nI k2).toInt = ((k2 : Nat) : Int) := nI_toInt (by omega); have := i_rg c; have := i_nle c3; have : (24 : Int32).toInt = 24 := rfl; have := i_nlt c1; have : (0 : Int32).toInt = 0 := rfl; omega) (by omega))) (Eq.trans (congrArg (hR (sI h (ad 0) 6 0) (ad 1)) ((nI_clamp (by have := i_eq ek2; have : (nI k2).toInt = ((k2 : Nat) : Int) := nI_toInt (by omega); have := i_rg c; have := i_nle c3; have : (24 : Int32).toInt = 24 := rfl; have := i_nlt c1; have : (0 : Int32).toInt = 0 := rfl; omega)) : _ = k2)) (Eq.trans R_oI w4)) ?_
        refine r_astore (lv' := [some (.ref (ad 0)), some (.int c), some (.ref (mid t4))]) rfl (Nat.le_of_ble_eq_true rfl) rfl ?_
        refine r_aload rfl rfl ?_
        refine r_ifnonnullA (tg := 34) rfl rfl ?_
        refine r_aload rfl rfl ?_
        refine r_cw (y := 27) (ra := []) (rest := []) rfl ⟨rfl, rfl⟩ (by rw [show hT (sI h (ad 0) 6 0) (mid t4) = 5 from tg4]; rfl) rfl rfl (Nat.le_of_ble_eq_true rfl) ?_
        refine in_27 (Nat.le_of_ble_eq_true rfl) ?_
        show WR _ cd_27 0 [some (.ref (mid t4))] [] (sI h (ad 0) 6 0) _
        refine r_aload rfl rfl ?_
        refine r_getI rfl ⟨rfl, rfl, rfl⟩ tg4 ?_
        refine WR_tI (y := nI ln4) (Eq.trans (I_ne (dy_ad fx (.inl (by decide)) dz4)) l1_4) ?_
        refine r_iret rfl ?_
        show WR _ cd_25 38 [some (.ref (ad 0)), some (.int c), some (.ref (mid t4))] [.int (nI ln4)] (sI h (ad 0) 6 0) _
        refine r_iret rfl ?_
        show EV _ 165 [.ref (ad 30), .int c] (sI h (ad 0) 6 0) _
        refine in_165 (Nat.le_of_ble_eq_true rfl) ?_
        show WR _ cd_165 0 [some (.ref (ad 30)), some (.int c)] [] (sI h (ad 0) 6 0) _
        refine r_aload rfl rfl ?_
        refine r_iload rfl rfl ?_
        refine WR_tI (y := nI k2) ek2 ?_
        refine r_cs (y := 153) (ra := [.int (nI k2)]) (rest := [.ref (ad 30)]) rfl ⟨⟨rfl, rfl⟩, by decide⟩ rfl rfl (Nat.le_of_ble_eq_true rfl) ?_
        refine in_153 (Nat.le_of_ble_eq_true rfl) ?_
        show WR _ cd_153 0 [some (.int (nI k2))] [] (sI h (ad 0) 6 0) _
        refine r_iload rfl rfl ?_
        refine r_if_lt (tg := 14) rfl rfl (fun q => False.elim (by have : (nI k2).toInt = ((k2 : Nat) : Int) := nI_toInt (by omega); have : (0 : Int32).toInt = 0 := rfl; have := i_eq ek2; have := i_rg c; have := i_nle c3; have : (24 : Int32).toInt = 24 := rfl; have := i_nlt c1; have := i_lt q; omega)) (fun _ => ?_)
        refine r_iload rfl rfl ?_
        refine r_ic (x := 24) rfl rfl ?_
        refine r_icmp_ge (tg := 14) rfl rfl (fun q => False.elim (by have : (nI k2).toInt = ((k2 : Nat) : Int) := nI_toInt (by omega); have : (24 : Int32).toInt = 24 := rfl; have := i_eq ek2; have := i_rg c; have := i_nle c3; have := i_nlt c1; have : (0 : Int32).toInt = 0 := rfl; have := i_le q; omega)) (fun _ => ?_)
        refine r_ic (x := 1) rfl rfl ?_
        refine r_goto (tg := 15) rfl rfl ?_
        refine r_zret rfl (.inr rfl) ?_
        show WR _ cd_165 5 [some (.ref (ad 30)), some (.int c)] [.int 1, .ref (ad 30)] (sI h (ad 0) 6 0) _
        refine r_if_eq (tg := 21) rfl rfl (fun q => absurd q (by decide)) (fun _ => ?_)
        refine r_aload rfl rfl ?_
        refine r_aload rfl rfl ?_
        refine r_getA (b := ad 31) rfl ⟨rfl, rfl, rfl⟩ (fx_t30 fx) (fx_r30_0 fx) ?_
        refine r_iload rfl rfl ?_
        refine WR_tI (y := nI k2) ek2 ?_
        refine r_iaload rfl (.inl (fx_t31 fx)) (vp_ct (fx_n31 fx) (vp_in_nI (by have := i_eq ek2; have : (nI k2).toInt = ((k2 : Nat) : Int) := nI_toInt (by omega); have := i_rg c; have := i_nle c3; have : (24 : Int32).toInt = 24 := rfl; have := i_nlt c1; have : (0 : Int32).toInt = 0 := rfl; omega) (by omega))) ?_
        refine WR_tI (congrArg (hI (sI h (ad 0) 6 0) (ad 31)) ((nI_clamp (by have := i_eq ek2; have : (nI k2).toInt = ((k2 : Nat) : Int) := nI_toInt (by omega); have := i_rg c; have := i_nle c3; have : (24 : Int32).toInt = 24 := rfl; have := i_nlt c1; have : (0 : Int32).toInt = 0 := rfl; omega)) : _ = k2)) ?_
        refine WR_tI (y := nI t4) (Eq.trans (I_ne (fx_ne fx (by decide))) v4) ?_
        refine r_cv (y := 166) (ra := [.int (nI t4)]) (rest := [.ref (ad 30)]) rfl ⟨⟨rfl, rfl⟩, rfl, by decide⟩ (fx_t30 fx) rfl rfl (Nat.le_of_ble_eq_true rfl) ?_
        refine in_166 (Nat.le_of_ble_eq_true rfl) ?_
        show WR _ cd_166 0 [some (.ref (ad 30)), some (.int (nI t4))] [] (sI h (ad 0) 6 0) _
        refine r_iload rfl rfl ?_
        refine r_ic (x := (-1)) rfl rfl ?_
        refine r_icmp_ne (tg := 9) rfl rfl (fun _ => ?_) (fun q => False.elim (by have : (nI t4).toInt = ((t4 : Nat) : Int) := nI_toInt (by omega); have : (-1 : Int32).toInt = -1 := rfl; have := i_eq q; omega))
        refine r_iload rfl rfl ?_
        refine r_ic (x := 1000) rfl rfl ?_
        refine r_icmp_lt (tg := 21) rfl rfl (fun _ => ?_) (fun q => False.elim (by have : (nI t4).toInt = ((t4 : Nat) : Int) := nI_toInt (by omega); have : (1000 : Int32).toInt = 1000 := rfl; have := i_nlt q; omega))
        refine r_aload rfl rfl ?_
        refine r_getA (b := ad 33) rfl ⟨rfl, rfl, rfl⟩ (fx_t30 fx) (fx_r30_2 fx) ?_
        refine r_iload rfl rfl ?_
        refine r_iaload rfl (.inl (fx_t33 fx)) (vp_ct (fx_n33 fx) (vp_in_nI (by omega) (by omega))) ?_
        refine WR_tI (congrArg (hI (sI h (ad 0) 6 0) (ad 33)) ((nI_clamp (by omega)) : _ = t4)) ?_
        refine WR_tI (y := nI ln4) (Eq.trans (I_ne (fx_ne fx (by decide))) l2_4) ?_
        refine r_iret rfl ?_
        show WR _ cd_165 18 [some (.ref (ad 30)), some (.int c)] [.int (nI ln4), .ref (ad 30)] (sI h (ad 0) 6 0) _
        refine r_goto (tg := 23) rfl rfl ?_
        refine r_cv (y := 154) (ra := [.int (nI ln4)]) (rest := []) rfl ⟨⟨rfl, rfl⟩, rfl, by decide⟩ (fx_t30 fx) rfl rfl (Nat.le_of_ble_eq_true rfl) ?_
        refine in_154 (Nat.le_of_ble_eq_true rfl) ?_
        show WR _ cd_154 0 [some (.ref (ad 30)), some (.int (nI ln4))] [] (sI h (ad 0) 6 0) _
        refine r_aload rfl rfl ?_
        refine r_iload rfl rfl ?_
        refine r_ic (x := (-1)) rfl rfl ?_
        refine r_icmp_ge (tg := 10) rfl rfl (fun _ => ?_) (fun q => False.elim (by have : (nI ln4).toInt = ((ln4 : Nat) : Int) := nI_toInt (by omega); have : (-1 : Int32).toInt = -1 := rfl; have := i_nle q; omega))
        refine r_ic (x := 0) rfl rfl ?_
        refine r_putI rfl ⟨rfl, rfl, rfl⟩ (fx_t30 fx) ?_
        refine r_iload rfl rfl ?_
        refine r_iret rfl ?_
        show WR _ cd_165 26 [some (.ref (ad 30)), some (.int c)] [.int (nI ln4)] (sI (sI h (ad 0) 6 0) (ad 30) 11 0) _
        refine r_iret rfl ?_
        exact ⟨rfl, Rel.why r ((Chg.rf.sI (fx_j fx) (.inl (by decide))).sI (fx_j fx) (.inl (by decide))) ⟨rfl, by decide⟩ (Eq.trans (Eq.trans (I_ne (fx_ne fx (by decide))) I_eq) (Eq.symm I_eq)), Nat.le_add_right _ _, Nat.le_add_right _ _⟩
      · refine r_aaloadA (b := mid t4) rfl (isQ_of (fx_t1 fx) (by decide)) (vp_ct (fx_n1 fx) (vp_in_nI (by have := i_eq ek2; have : (nI k2).toInt = ((k2 : Nat) : Int) := nI_toInt (by omega); have := i_rg c; have := i_nle c3; have : (24 : Int32).toInt = 24 := rfl; have := i_nlt c1; have : (0 : Int32).toInt = 0 := rfl; omega) (by omega))) (Eq.trans (congrArg (hR (sI h (ad 0) 6 0) (ad 1)) ((nI_clamp (by have := i_eq ek2; have : (nI k2).toInt = ((k2 : Nat) : Int) := nI_toInt (by omega); have := i_rg c; have := i_nle c3; have : (24 : Int32).toInt = 24 := rfl; have := i_nlt c1; have : (0 : Int32).toInt = 0 := rfl; omega)) : _ = k2)) (Eq.trans R_oI w4)) ?_
        refine r_astore (lv' := [some (.ref (ad 0)), some (.int c), some (.ref (mid t4))]) rfl (Nat.le_of_ble_eq_true rfl) rfl ?_
        refine r_aload rfl rfl ?_
        refine r_ifnonnullA (tg := 34) rfl rfl ?_
        refine r_aload rfl rfl ?_
        refine r_cw (y := 28) (ra := []) (rest := []) rfl ⟨rfl, rfl⟩ (by rw [show hT (sI h (ad 0) 6 0) (mid t4) = 6 from tg4]; rfl) rfl rfl (Nat.le_of_ble_eq_true rfl) ?_
        refine in_28 (Nat.le_of_ble_eq_true rfl) ?_
        show WR _ cd_28 0 [some (.ref (mid t4))] [] (sI h (ad 0) 6 0) _
        refine r_aload rfl rfl ?_
        refine r_getI rfl ⟨rfl, rfl, rfl⟩ tg4 ?_
        refine WR_tI (y := (-1)) (Eq.trans (I_ne (dy_ad fx (.inl (by decide)) dz4)) k1_4) ?_
        refine r_ic (x := (-1)) rfl rfl ?_
        refine r_icmp_ne (tg := 13) rfl rfl (fun q => absurd q (by decide)) (fun _ => ?_)
        refine r_ic (x := 8) rfl rfl ?_
        refine r_goto (tg := 15) rfl rfl ?_
        refine r_iret rfl ?_
        show WR _ cd_25 38 [some (.ref (ad 0)), some (.int c), some (.ref (mid t4))] [.int 8] (sI h (ad 0) 6 0) _
        refine r_iret rfl ?_
        show EV _ 165 [.ref (ad 30), .int c] (sI h (ad 0) 6 0) _
        refine in_165 (Nat.le_of_ble_eq_true rfl) ?_
        show WR _ cd_165 0 [some (.ref (ad 30)), some (.int c)] [] (sI h (ad 0) 6 0) _
        refine r_aload rfl rfl ?_
        refine r_iload rfl rfl ?_
        refine WR_tI (y := nI k2) ek2 ?_
        refine r_cs (y := 153) (ra := [.int (nI k2)]) (rest := [.ref (ad 30)]) rfl ⟨⟨rfl, rfl⟩, by decide⟩ rfl rfl (Nat.le_of_ble_eq_true rfl) ?_
        refine in_153 (Nat.le_of_ble_eq_true rfl) ?_
        show WR _ cd_153 0 [some (.int (nI k2))] [] (sI h (ad 0) 6 0) _
        refine r_iload rfl rfl ?_
        refine r_if_lt (tg := 14) rfl rfl (fun q => False.elim (by have : (nI k2).toInt = ((k2 : Nat) : Int) := nI_toInt (by omega); have : (0 : Int32).toInt = 0 := rfl; have := i_eq ek2; have := i_rg c; have := i_nle c3; have : (24 : Int32).toInt = 24 := rfl; have := i_nlt c1; have := i_lt q; omega)) (fun _ => ?_)
        refine r_iload rfl rfl ?_
        refine r_ic (x := 24) rfl rfl ?_
        refine r_icmp_ge (tg := 14) rfl rfl (fun q => False.elim (by have : (nI k2).toInt = ((k2 : Nat) : Int) := nI_toInt (by omega); have : (24 : Int32).toInt = 24 := rfl; have := i_eq ek2; have := i_rg c; have := i_nle c3; have := i_nlt c1; have : (0 : Int32).toInt = 0 := rfl; have := i_le q; omega)) (fun _ => ?_)
        refine r_ic (x := 1) rfl rfl ?_
        refine r_goto (tg := 15) rfl rfl ?_
        refine r_zret rfl (.inr rfl) ?_
        show WR _ cd_165 5 [some (.ref (ad 30)), some (.int c)] [.int 1, .ref (ad 30)] (sI h (ad 0) 6 0) _
        refine r_if_eq (tg := 21) rfl rfl (fun q => absurd q (by decide)) (fun _ => ?_)
        refine r_aload rfl rfl ?_
        refine r_aload rfl rfl ?_
        refine r_getA (b := ad 31) rfl ⟨rfl, rfl, rfl⟩ (fx_t30 fx) (fx_r30_0 fx) ?_
        refine r_iload rfl rfl ?_
        refine WR_tI (y := nI k2) ek2 ?_
        refine r_iaload rfl (.inl (fx_t31 fx)) (vp_ct (fx_n31 fx) (vp_in_nI (by have := i_eq ek2; have : (nI k2).toInt = ((k2 : Nat) : Int) := nI_toInt (by omega); have := i_rg c; have := i_nle c3; have : (24 : Int32).toInt = 24 := rfl; have := i_nlt c1; have : (0 : Int32).toInt = 0 := rfl; omega) (by omega))) ?_
        refine WR_tI (congrArg (hI (sI h (ad 0) 6 0) (ad 31)) ((nI_clamp (by have := i_eq ek2; have : (nI k2).toInt = ((k2 : Nat) : Int) := nI_toInt (by omega); have := i_rg c; have := i_nle c3; have : (24 : Int32).toInt = 24 := rfl; have := i_nlt c1; have : (0 : Int32).toInt = 0 := rfl; omega)) : _ = k2)) ?_
        refine WR_tI (y := nI t4) (Eq.trans (I_ne (fx_ne fx (by decide))) v4) ?_
        refine r_cv (y := 166) (ra := [.int (nI t4)]) (rest := [.ref (ad 30)]) rfl ⟨⟨rfl, rfl⟩, rfl, by decide⟩ (fx_t30 fx) rfl rfl (Nat.le_of_ble_eq_true rfl) ?_
        refine in_166 (Nat.le_of_ble_eq_true rfl) ?_
        show WR _ cd_166 0 [some (.ref (ad 30)), some (.int (nI t4))] [] (sI h (ad 0) 6 0) _
        refine r_iload rfl rfl ?_
        refine r_ic (x := (-1)) rfl rfl ?_
        refine r_icmp_ne (tg := 9) rfl rfl (fun _ => ?_) (fun q => False.elim (by have : (nI t4).toInt = ((t4 : Nat) : Int) := nI_toInt (by omega); have : (-1 : Int32).toInt = -1 := rfl; have := i_eq q; omega))
        refine r_iload rfl rfl ?_
        refine r_ic (x := 1000) rfl rfl ?_
        refine r_icmp_lt (tg := 21) rfl rfl (fun _ => ?_) (fun q => False.elim (by have : (nI t4).toInt = ((t4 : Nat) : Int) := nI_toInt (by omega); have : (1000 : Int32).toInt = 1000 := rfl; have := i_nlt q; omega))
        refine r_aload rfl rfl ?_
        refine r_getA (b := ad 33) rfl ⟨rfl, rfl, rfl⟩ (fx_t30 fx) (fx_r30_2 fx) ?_
        refine r_iload rfl rfl ?_
        refine r_iaload rfl (.inl (fx_t33 fx)) (vp_ct (fx_n33 fx) (vp_in_nI (by omega) (by omega))) ?_
        refine WR_tI (congrArg (hI (sI h (ad 0) 6 0) (ad 33)) ((nI_clamp (by omega)) : _ = t4)) ?_
        refine WR_tI (y := 8) (Eq.trans (I_ne (fx_ne fx (by decide))) l2_4) ?_
        refine r_iret rfl ?_
        show WR _ cd_165 18 [some (.ref (ad 30)), some (.int c)] [.int 8, .ref (ad 30)] (sI h (ad 0) 6 0) _
        refine r_goto (tg := 23) rfl rfl ?_
        refine r_cv (y := 154) (ra := [.int 8]) (rest := []) rfl ⟨⟨rfl, rfl⟩, rfl, by decide⟩ (fx_t30 fx) rfl rfl (Nat.le_of_ble_eq_true rfl) ?_
        refine in_154 (Nat.le_of_ble_eq_true rfl) ?_
        show WR _ cd_154 0 [some (.ref (ad 30)), some (.int 8)] [] (sI h (ad 0) 6 0) _
        refine r_aload rfl rfl ?_
        refine r_iload rfl rfl ?_
        refine r_ic (x := (-1)) rfl rfl ?_
        refine r_icmp_ge (tg := 10) rfl rfl (fun _ => ?_) (fun q => absurd q (by decide))
        refine r_ic (x := 0) rfl rfl ?_
        refine r_putI rfl ⟨rfl, rfl, rfl⟩ (fx_t30 fx) ?_
        refine r_iload rfl rfl ?_
        refine r_iret rfl ?_
        show WR _ cd_165 26 [some (.ref (ad 30)), some (.int c)] [.int 8] (sI (sI h (ad 0) 6 0) (ad 30) 11 0) _
        refine r_iret rfl ?_
        exact ⟨rfl, Rel.why r ((Chg.rf.sI (fx_j fx) (.inl (by decide))).sI (fx_j fx) (.inl (by decide))) ⟨rfl, by decide⟩ (Eq.trans (Eq.trans (I_ne (fx_ne fx (by decide))) I_eq) (Eq.symm I_eq)), Nat.le_add_right _ _, Nat.le_add_right _ _⟩
      · refine r_aaloadA (b := mid t4) rfl (isQ_of (fx_t1 fx) (by decide)) (vp_ct (fx_n1 fx) (vp_in_nI (by have := i_eq ek2; have : (nI k2).toInt = ((k2 : Nat) : Int) := nI_toInt (by omega); have := i_rg c; have := i_nle c3; have : (24 : Int32).toInt = 24 := rfl; have := i_nlt c1; have : (0 : Int32).toInt = 0 := rfl; omega) (by omega))) (Eq.trans (congrArg (hR (sI h (ad 0) 6 0) (ad 1)) ((nI_clamp (by have := i_eq ek2; have : (nI k2).toInt = ((k2 : Nat) : Int) := nI_toInt (by omega); have := i_rg c; have := i_nle c3; have : (24 : Int32).toInt = 24 := rfl; have := i_nlt c1; have : (0 : Int32).toInt = 0 := rfl; omega)) : _ = k2)) (Eq.trans R_oI w4)) ?_
        refine r_astore (lv' := [some (.ref (ad 0)), some (.int c), some (.ref (mid t4))]) rfl (Nat.le_of_ble_eq_true rfl) rfl ?_
        refine r_aload rfl rfl ?_
        refine r_ifnonnullA (tg := 34) rfl rfl ?_
        refine r_aload rfl rfl ?_
        refine r_cw (y := 28) (ra := []) (rest := []) rfl ⟨rfl, rfl⟩ (by rw [show hT (sI h (ad 0) 6 0) (mid t4) = 6 from tg4]; rfl) rfl rfl (Nat.le_of_ble_eq_true rfl) ?_
        refine in_28 (Nat.le_of_ble_eq_true rfl) ?_
        show WR _ cd_28 0 [some (.ref (mid t4))] [] (sI h (ad 0) 6 0) _
        refine r_aload rfl rfl ?_
        refine r_getI rfl ⟨rfl, rfl, rfl⟩ tg4 ?_
        refine WR_tI (y := nI kd4) (Eq.trans (I_ne (dy_ad fx (.inl (by decide)) dz4)) k1_4) ?_
        refine r_ic (x := (-1)) rfl rfl ?_
        refine r_icmp_ne (tg := 13) rfl rfl (fun _ => ?_) (fun q => False.elim (by have : (nI kd4).toInt = ((kd4 : Nat) : Int) := nI_toInt (by omega); have : (-1 : Int32).toInt = -1 := rfl; have := i_eq q; omega))
        refine r_ic (x := 9) rfl rfl ?_
        refine r_iret rfl ?_
        show WR _ cd_25 38 [some (.ref (ad 0)), some (.int c), some (.ref (mid t4))] [.int 9] (sI h (ad 0) 6 0) _
        refine r_iret rfl ?_
        show EV _ 165 [.ref (ad 30), .int c] (sI h (ad 0) 6 0) _
        refine in_165 (Nat.le_of_ble_eq_true rfl) ?_
        show WR _ cd_165 0 [some (.ref (ad 30)), some (.int c)] [] (sI h (ad 0) 6 0) _
        refine r_aload rfl rfl ?_
        refine r_iload rfl rfl ?_
        refine WR_tI (y := nI k2) ek2 ?_
        refine r_cs (y := 153) (ra := [.int (nI k2)]) (rest := [.ref (ad 30)]) rfl ⟨⟨rfl, rfl⟩, by decide⟩ rfl rfl (Nat.le_of_ble_eq_true rfl) ?_
        refine in_153 (Nat.le_of_ble_eq_true rfl) ?_
        show WR _ cd_153 0 [some (.int (nI k2))] [] (sI h (ad 0) 6 0) _
        refine r_iload rfl rfl ?_
        refine r_if_lt (tg := 14) rfl rfl (fun q => False.elim (by have : (nI k2).toInt = ((k2 : Nat) : Int) := nI_toInt (by omega); have : (0 : Int32).toInt = 0 := rfl; have := i_eq ek2; have := i_rg c; have := i_nle c3; have : (24 : Int32).toInt = 24 := rfl; have := i_nlt c1; have := i_lt q; omega)) (fun _ => ?_)
        refine r_iload rfl rfl ?_
        refine r_ic (x := 24) rfl rfl ?_
        refine r_icmp_ge (tg := 14) rfl rfl (fun q => False.elim (by have : (nI k2).toInt = ((k2 : Nat) : Int) := nI_toInt (by omega); have : (24 : Int32).toInt = 24 := rfl; have := i_eq ek2; have := i_rg c; have := i_nle c3; have := i_nlt c1; have : (0 : Int32).toInt = 0 := rfl; have := i_le q; omega)) (fun _ => ?_)
        refine r_ic (x := 1) rfl rfl ?_
        refine r_goto (tg := 15) rfl rfl ?_
        refine r_zret rfl (.inr rfl) ?_
        show WR _ cd_165 5 [some (.ref (ad 30)), some (.int c)] [.int 1, .ref (ad 30)] (sI h (ad 0) 6 0) _
        refine r_if_eq (tg := 21) rfl rfl (fun q => absurd q (by decide)) (fun _ => ?_)
        refine r_aload rfl rfl ?_
        refine r_aload rfl rfl ?_
        refine r_getA (b := ad 31) rfl ⟨rfl, rfl, rfl⟩ (fx_t30 fx) (fx_r30_0 fx) ?_
        refine r_iload rfl rfl ?_
        refine WR_tI (y := nI k2) ek2 ?_
        refine r_iaload rfl (.inl (fx_t31 fx)) (vp_ct (fx_n31 fx) (vp_in_nI (by have := i_eq ek2; have : (nI k2).toInt = ((k2 : Nat) : Int) := nI_toInt (by omega); have := i_rg c; have := i_nle c3; have : (24 : Int32).toInt = 24 := rfl; have := i_nlt c1; have : (0 : Int32).toInt = 0 := rfl; omega) (by omega))) ?_
        refine WR_tI (congrArg (hI (sI h (ad 0) 6 0) (ad 31)) ((nI_clamp (by have := i_eq ek2; have : (nI k2).toInt = ((k2 : Nat) : Int) := nI_toInt (by omega); have := i_rg c; have := i_nle c3; have : (24 : Int32).toInt = 24 := rfl; have := i_nlt c1; have : (0 : Int32).toInt = 0 := rfl; omega)) : _ = k2)) ?_
        refine WR_tI (y := nI t4) (Eq.trans (I_ne (fx_ne fx (by decide))) v4) ?_
        refine r_cv (y := 166) (ra := [.int (nI t4)]) (rest := [.ref (ad 30)]) rfl ⟨⟨rfl, rfl⟩, rfl, by decide⟩ (fx_t30 fx) rfl rfl (Nat.le_of_ble_eq_true rfl) ?_
        refine in_166 (Nat.le_of_ble_eq_true rfl) ?_
        show WR _ cd_166 0 [some (.ref (ad 30)), some (.int (nI t4))] [] (sI h (ad 0) 6 0) _
        refine r_iload rfl rfl ?_
        refine r_ic (x := (-1)) rfl rfl ?_
        refine r_icmp_ne (tg := 9) rfl rfl (fun _ => ?_) (fun q => False.elim (by have : (nI t4).toInt = ((t4 : Nat) : Int) := nI_toInt (by omega); have : (-1 : Int32).toInt = -1 := rfl; have := i_eq q; omega))
        refine r_iload rfl rfl ?_
        refine r_ic (x := 1000) rfl rfl ?_
        refine r_icmp_lt (tg := 21) rfl rfl (fun _ => ?_) (fun q => False.elim (by have : (nI t4).toInt = ((t4 : Nat) : Int) := nI_toInt (by omega); have : (1000 : Int32).toInt = 1000 := rfl; have := i_nlt q; omega))
        refine r_aload rfl rfl ?_
        refine r_getA (b := ad 33) rfl ⟨rfl, rfl, rfl⟩ (fx_t30 fx) (fx_r30_2 fx) ?_
        refine r_iload rfl rfl ?_
        refine r_iaload rfl (.inl (fx_t33 fx)) (vp_ct (fx_n33 fx) (vp_in_nI (by omega) (by omega))) ?_
        refine WR_tI (congrArg (hI (sI h (ad 0) 6 0) (ad 33)) ((nI_clamp (by omega)) : _ = t4)) ?_
        refine WR_tI (y := 9) (Eq.trans (I_ne (fx_ne fx (by decide))) l2_4) ?_
        refine r_iret rfl ?_
        show WR _ cd_165 18 [some (.ref (ad 30)), some (.int c)] [.int 9, .ref (ad 30)] (sI h (ad 0) 6 0) _
        refine r_goto (tg := 23) rfl rfl ?_
        refine r_cv (y := 154) (ra := [.int 9]) (rest := []) rfl ⟨⟨rfl, rfl⟩, rfl, by decide⟩ (fx_t30 fx) rfl rfl (Nat.le_of_ble_eq_true rfl) ?_
        refine in_154 (Nat.le_of_ble_eq_true rfl) ?_
        show WR _ cd_154 0 [some (.ref (ad 30)), some (.int 9)] [] (sI h (ad 0) 6 0) _
        refine r_aload rfl rfl ?_
        refine r_iload rfl rfl ?_
        refine r_ic (x := (-1)) rfl rfl ?_
        refine r_icmp_ge (tg := 10) rfl rfl (fun _ => ?_) (fun q => absurd q (by decide))
        refine r_ic (x := 0) rfl rfl ?_
        refine r_putI rfl ⟨rfl, rfl, rfl⟩ (fx_t30 fx) ?_
        refine r_iload rfl rfl ?_
        refine r_iret rfl ?_
        show WR _ cd_165 26 [some (.ref (ad 30)), some (.int c)] [.int 9] (sI (sI h (ad 0) 6 0) (ad 30) 11 0) _
        refine r_iret rfl ?_
        exact ⟨rfl, Rel.why r ((Chg.rf.sI (fx_j fx) (.inl (by decide))).sI (fx_j fx) (.inl (by decide))) ⟨rfl, by decide⟩ (Eq.trans (Eq.trans (I_ne (fx_ne fx (by decide))) I_eq) (Eq.symm I_eq)), Nat.le_add_right _ _, Nat.le_add_right _ _⟩

set_option maxHeartbeats 2000000 in
theorem k_length {n : Nat} {ad sa : Nat → Nat} {z0 : Nat} {h : mH} (r : Rel n ad sa z0 h) (c : Int32) (a : Int32) : AP n ad sa z0 h 58 180 [.int c, .int a] := by
  obtain ⟨mid, pa, np, fx, ry, rt, ra, rp, rf, rst, ru, rs⟩ := id r
  have fx0 := fx
  unfold AP
  refine in_58 (Nat.le_of_ble_eq_true rfl) ?_
  show WR _ cd_58 0 [some (.ref (ad 0)), some (.int c), some (.int a), none] [] h _
  refine r_aload rfl rfl ?_
  refine r_ic (x := 0) rfl rfl ?_
  refine r_putI rfl ⟨rfl, rfl, rfl⟩ (fx_t0 fx) ?_
  refine r_iload rfl rfl ?_
  refine r_cs (y := 12) (ra := [.int c]) (rest := []) rfl ⟨⟨rfl, rfl⟩, by decide⟩ rfl rfl (Nat.le_of_ble_eq_true rfl) ?_
  refine in_12 (Nat.le_of_ble_eq_true rfl) ?_
  show WR _ cd_12 0 [some (.int c)] [] (sI h (ad 0) 6 0) _
  refine r_iload rfl rfl ?_
  refine r_if_lt (tg := 14) rfl rfl (fun c1 => ?_) (fun c1 => ?_)
  · refine r_ic (x := 0) rfl rfl ?_
    refine r_zret rfl (.inl rfl) ?_
    show WR _ cd_58 9 [some (.ref (ad 0)), some (.int c), some (.int a), none] [.int 0] (sI h (ad 0) 6 0) _
    refine r_if_ne (tg := 19) rfl rfl (fun q => absurd q (by decide)) (fun _ => ?_)
    refine r_aload rfl rfl ?_
    refine r_ic (x := (-2)) rfl rfl ?_
    refine r_cv (y := 13) (ra := [.int (-2)]) (rest := []) rfl ⟨⟨rfl, rfl⟩, rfl, by decide⟩ (fx_t0 fx) rfl rfl (Nat.le_of_ble_eq_true rfl) ?_
    refine in_13 (Nat.le_of_ble_eq_true rfl) ?_
    show WR _ cd_13 0 [some (.ref (ad 0)), some (.int (-2))] [] (sI h (ad 0) 6 0) _
    refine r_aload rfl rfl ?_
    refine r_iload rfl rfl ?_
    refine r_putI rfl ⟨rfl, rfl, rfl⟩ (fx_t0 fx) ?_
    refine r_iload rfl rfl ?_
    refine r_iret rfl ?_
    show WR _ cd_58 18 [some (.ref (ad 0)), some (.int c), some (.int a), none] [.int (-2)] (sI (sI h (ad 0) 6 0) (ad 0) 6 (-2)) _
    refine r_iret rfl ?_
    show EV _ 180 [.ref (ad 30), .int c, .int a] (sI (sI h (ad 0) 6 0) (ad 0) 6 (-2)) _
    refine in_180 (Nat.le_of_ble_eq_true rfl) ?_
    show WR _ cd_180 0 [some (.ref (ad 30)), some (.int c), some (.int a), none] [] (sI (sI h (ad 0) 6 0) (ad 0) 6 (-2)) _
    refine r_iload rfl rfl ?_
    refine r_cs (y := 153) (ra := [.int c]) (rest := []) rfl ⟨⟨rfl, rfl⟩, by decide⟩ rfl rfl (Nat.le_of_ble_eq_true rfl) ?_
    refine in_153 (Nat.le_of_ble_eq_true rfl) ?_
    show WR _ cd_153 0 [some (.int c)] [] (sI (sI h (ad 0) 6 0) (ad 0) 6 (-2)) _
    refine r_iload rfl rfl ?_
    refine r_if_lt (tg := 14) rfl rfl (fun _ => ?_) (fun q => False.elim (by have := i_rg c; have : (0 : Int32).toInt = 0 := rfl; have := i_lt c1; have := i_nlt q; omega))
    refine r_ic (x := 0) rfl rfl ?_
    refine r_zret rfl (.inl rfl) ?_
    show WR _ cd_180 4 [some (.ref (ad 30)), some (.int c), some (.int a), none] [.int 0] (sI (sI h (ad 0) 6 0) (ad 0) 6 (-2)) _
    refine r_if_ne (tg := 14) rfl rfl (fun q => absurd q (by decide)) (fun _ => ?_)
    refine r_aload rfl rfl ?_
    refine r_ic (x := (-2)) rfl rfl ?_
    refine r_cv (y := 154) (ra := [.int (-2)]) (rest := []) rfl ⟨⟨rfl, rfl⟩, rfl, by decide⟩ (fx_t30 fx) rfl rfl (Nat.le_of_ble_eq_true rfl) ?_
    refine in_154 (Nat.le_of_ble_eq_true rfl) ?_
    show WR _ cd_154 0 [some (.ref (ad 30)), some (.int (-2))] [] (sI (sI h (ad 0) 6 0) (ad 0) 6 (-2)) _
    refine r_aload rfl rfl ?_
    refine r_iload rfl rfl ?_
    refine r_ic (x := (-1)) rfl rfl ?_
    refine r_icmp_ge (tg := 10) rfl rfl (fun q => absurd q (by decide)) (fun _ => ?_)
    refine r_iload rfl rfl ?_
    refine r_goto (tg := 11) rfl rfl ?_
    refine r_putI rfl ⟨rfl, rfl, rfl⟩ (fx_t30 fx) ?_
    refine r_iload rfl rfl ?_
    refine r_iret rfl ?_
    show WR _ cd_180 13 [some (.ref (ad 30)), some (.int c), some (.int a), none] [.int (-2)] (sI (sI (sI h (ad 0) 6 0) (ad 0) 6 (-2)) (ad 30) 11 (-2)) _
    refine r_iret rfl ?_
    exact ⟨rfl, Rel.why r (((Chg.rf.sI (fx_j fx) (.inl (by decide))).sI (fx_j fx) (.inl (by decide))).sI (fx_j fx) (.inl (by decide))) ⟨rfl, by decide⟩ (Eq.trans (Eq.trans (I_ne (fx_ne fx (by decide))) I_eq) (Eq.symm I_eq)), Nat.le_add_right _ _, Nat.le_add_right _ _⟩
  · obtain ⟨k2, hk2, ek2⟩ := ix_of (x := c) (n := 2147483648) (by have := i_rg c; have := i_nlt c1; have : (0 : Int32).toInt = 0 := rfl; omega) (by have := i_rg c; have := i_nlt c1; have : (0 : Int32).toInt = 0 := rfl; omega)
    refine r_iload rfl rfl ?_
    refine WR_tI (y := nI k2) ek2 ?_
    refine r_ic (x := 24) rfl rfl ?_
    refine r_icmp_ge (tg := 14) rfl rfl (fun c3 => ?_) (fun c3 => ?_)
    · refine r_ic (x := 0) rfl rfl ?_
      refine r_zret rfl (.inl rfl) ?_
      show WR _ cd_58 9 [some (.ref (ad 0)), some (.int c), some (.int a), none] [.int 0] (sI h (ad 0) 6 0) _
      refine r_if_ne (tg := 19) rfl rfl (fun q => absurd q (by decide)) (fun _ => ?_)
      refine r_aload rfl rfl ?_
      refine r_ic (x := (-2)) rfl rfl ?_
      refine r_cv (y := 13) (ra := [.int (-2)]) (rest := []) rfl ⟨⟨rfl, rfl⟩, rfl, by decide⟩ (fx_t0 fx) rfl rfl (Nat.le_of_ble_eq_true rfl) ?_
      refine in_13 (Nat.le_of_ble_eq_true rfl) ?_
      show WR _ cd_13 0 [some (.ref (ad 0)), some (.int (-2))] [] (sI h (ad 0) 6 0) _
      refine r_aload rfl rfl ?_
      refine r_iload rfl rfl ?_
      refine r_putI rfl ⟨rfl, rfl, rfl⟩ (fx_t0 fx) ?_
      refine r_iload rfl rfl ?_
      refine r_iret rfl ?_
      show WR _ cd_58 18 [some (.ref (ad 0)), some (.int c), some (.int a), none] [.int (-2)] (sI (sI h (ad 0) 6 0) (ad 0) 6 (-2)) _
      refine r_iret rfl ?_
      show EV _ 180 [.ref (ad 30), .int c, .int a] (sI (sI h (ad 0) 6 0) (ad 0) 6 (-2)) _
      refine in_180 (Nat.le_of_ble_eq_true rfl) ?_
      show WR _ cd_180 0 [some (.ref (ad 30)), some (.int c), some (.int a), none] [] (sI (sI h (ad 0) 6 0) (ad 0) 6 (-2)) _
      refine r_iload rfl rfl ?_
      refine WR_tI (y := nI k2) ek2 ?_
      refine r_cs (y := 153) (ra := [.int (nI k2)]) (rest := []) rfl ⟨⟨rfl, rfl⟩, by decide⟩ rfl rfl (Nat.le_of_ble_eq_true rfl) ?_
      refine in_153 (Nat.le_of_ble_eq_true rfl) ?_
      show WR _ cd_153 0 [some (.int (nI k2))] [] (sI (sI h (ad 0) 6 0) (ad 0) 6 (-2)) _
      refine r_iload rfl rfl ?_
      refine r_if_lt (tg := 14) rfl rfl (fun q => False.elim (by have : (nI k2).toInt = ((k2 : Nat) : Int) := nI_toInt (by omega); have : (0 : Int32).toInt = 0 := rfl; have := i_eq ek2; have := i_rg c; have := i_le c3; have : (24 : Int32).toInt = 24 := rfl; have := i_nlt c1; have := i_lt q; omega)) (fun _ => ?_)
      refine r_iload rfl rfl ?_
      refine r_ic (x := 24) rfl rfl ?_
      refine r_icmp_ge (tg := 14) rfl rfl (fun _ => ?_) (fun q => False.elim (by have : (nI k2).toInt = ((k2 : Nat) : Int) := nI_toInt (by omega); have : (24 : Int32).toInt = 24 := rfl; have := i_eq ek2; have := i_rg c; have := i_le c3; have := i_nlt c1; have : (0 : Int32).toInt = 0 := rfl; have := i_nle q; omega))
      refine r_ic (x := 0) rfl rfl ?_
      refine r_zret rfl (.inl rfl) ?_
      show WR _ cd_180 4 [some (.ref (ad 30)), some (.int c), some (.int a), none] [.int 0] (sI (sI h (ad 0) 6 0) (ad 0) 6 (-2)) _
      refine r_if_ne (tg := 14) rfl rfl (fun q => absurd q (by decide)) (fun _ => ?_)
      refine r_aload rfl rfl ?_
      refine r_ic (x := (-2)) rfl rfl ?_
      refine r_cv (y := 154) (ra := [.int (-2)]) (rest := []) rfl ⟨⟨rfl, rfl⟩, rfl, by decide⟩ (fx_t30 fx) rfl rfl (Nat.le_of_ble_eq_true rfl) ?_
      refine in_154 (Nat.le_of_ble_eq_true rfl) ?_
      show WR _ cd_154 0 [some (.ref (ad 30)), some (.int (-2))] [] (sI (sI h (ad 0) 6 0) (ad 0) 6 (-2)) _
      refine r_aload rfl rfl ?_
      refine r_iload rfl rfl ?_
      refine r_ic (x := (-1)) rfl rfl ?_
      refine r_icmp_ge (tg := 10) rfl rfl (fun q => absurd q (by decide)) (fun _ => ?_)
      refine r_iload rfl rfl ?_
      refine r_goto (tg := 11) rfl rfl ?_
      refine r_putI rfl ⟨rfl, rfl, rfl⟩ (fx_t30 fx) ?_
      refine r_iload rfl rfl ?_
      refine r_iret rfl ?_
      show WR _ cd_180 13 [some (.ref (ad 30)), some (.int c), some (.int a), none] [.int (-2)] (sI (sI (sI h (ad 0) 6 0) (ad 0) 6 (-2)) (ad 30) 11 (-2)) _
      refine r_iret rfl ?_
      exact ⟨rfl, Rel.why r (((Chg.rf.sI (fx_j fx) (.inl (by decide))).sI (fx_j fx) (.inl (by decide))).sI (fx_j fx) (.inl (by decide))) ⟨rfl, by decide⟩ (Eq.trans (Eq.trans (I_ne (fx_ne fx (by decide))) I_eq) (Eq.symm I_eq)), Nat.le_add_right _ _, Nat.le_add_right _ _⟩
    · refine r_ic (x := 1) rfl rfl ?_
      refine r_goto (tg := 15) rfl rfl ?_
      refine r_zret rfl (.inr rfl) ?_
      show WR _ cd_58 9 [some (.ref (ad 0)), some (.int c), some (.int a), none] [.int 1] (sI h (ad 0) 6 0) _
      refine r_if_ne (tg := 19) rfl rfl (fun _ => ?_) (fun q => absurd q (by decide))
      refine r_iload rfl rfl ?_
      refine r_if_lt (tg := 29) rfl rfl (fun c4 => ?_) (fun c4 => ?_)
      · refine r_aload rfl rfl ?_
        refine r_ic (x := (-3)) rfl rfl ?_
        refine r_cv (y := 13) (ra := [.int (-3)]) (rest := []) rfl ⟨⟨rfl, rfl⟩, rfl, by decide⟩ (fx_t0 fx) rfl rfl (Nat.le_of_ble_eq_true rfl) ?_
        refine in_13 (Nat.le_of_ble_eq_true rfl) ?_
        show WR _ cd_13 0 [some (.ref (ad 0)), some (.int (-3))] [] (sI h (ad 0) 6 0) _
        refine r_aload rfl rfl ?_
        refine r_iload rfl rfl ?_
        refine r_putI rfl ⟨rfl, rfl, rfl⟩ (fx_t0 fx) ?_
        refine r_iload rfl rfl ?_
        refine r_iret rfl ?_
        show WR _ cd_58 35 [some (.ref (ad 0)), some (.int c), some (.int a), none] [.int (-3)] (sI (sI h (ad 0) 6 0) (ad 0) 6 (-3)) _
        refine r_iret rfl ?_
        show EV _ 180 [.ref (ad 30), .int c, .int a] (sI (sI h (ad 0) 6 0) (ad 0) 6 (-3)) _
        refine in_180 (Nat.le_of_ble_eq_true rfl) ?_
        show WR _ cd_180 0 [some (.ref (ad 30)), some (.int c), some (.int a), none] [] (sI (sI h (ad 0) 6 0) (ad 0) 6 (-3)) _
        refine r_iload rfl rfl ?_
        refine WR_tI (y := nI k2) ek2 ?_
        refine r_cs (y := 153) (ra := [.int (nI k2)]) (rest := []) rfl ⟨⟨rfl, rfl⟩, by decide⟩ rfl rfl (Nat.le_of_ble_eq_true rfl) ?_
        refine in_153 (Nat.le_of_ble_eq_true rfl) ?_
        show WR _ cd_153 0 [some (.int (nI k2))] [] (sI (sI h (ad 0) 6 0) (ad 0) 6 (-3)) _
        refine r_iload rfl rfl ?_
        refine r_if_lt (tg := 14) rfl rfl (fun q => False.elim (by have : (nI k2).toInt = ((k2 : Nat) : Int) := nI_toInt (by omega); have : (0 : Int32).toInt = 0 := rfl; have := i_eq ek2; have := i_rg c; have := i_nle c3; have : (24 : Int32).toInt = 24 := rfl; have := i_nlt c1; have := i_lt q; omega)) (fun _ => ?_)
        refine r_iload rfl rfl ?_
        refine r_ic (x := 24) rfl rfl ?_
        refine r_icmp_ge (tg := 14) rfl rfl (fun q => False.elim (by have : (nI k2).toInt = ((k2 : Nat) : Int) := nI_toInt (by omega); have : (24 : Int32).toInt = 24 := rfl; have := i_eq ek2; have := i_rg c; have := i_nle c3; have := i_nlt c1; have : (0 : Int32).toInt = 0 := rfl; have := i_le q; omega)) (fun _ => ?_)
        refine r_ic (x := 1) rfl rfl ?_
        refine r_goto (tg := 15) rfl rfl ?_
        refine r_zret rfl (.inr rfl) ?_
        show WR _ cd_180 4 [some (.ref (ad 30)), some (.int c), some (.int a), none] [.int 1] (sI (sI h (ad 0) 6 0) (ad 0) 6 (-3)) _
        refine r_if_ne (tg := 14) rfl rfl (fun _ => ?_) (fun q => absurd q (by decide))
        refine r_iload rfl rfl ?_
        refine r_i2l rfl ?_
        refine r_lc (x := 0) rfl rfl ?_
        refine r_ldc (x := .long 9) rfl rfl ?_
        refine r_cs (y := 155) (ra := [.long 9, .long 0, .long a.toInt64]) (rest := []) rfl ⟨⟨rfl, rfl⟩, by decide⟩ rfl rfl (Nat.le_of_ble_eq_true rfl) ?_
        refine in_155 (Nat.le_of_ble_eq_true rfl) ?_
        show WR _ cd_155 0 [some (.long a.toInt64), none, some (.long 0), none, some (.long 9), none] [] (sI (sI h (ad 0) 6 0) (ad 0) 6 (-3)) _
        refine r_lload rfl rfl ?_
        refine r_lload rfl rfl ?_
        refine r_lif_lt (tg := 17) rfl rfl rfl (fun _ => ?_) (fun q => False.elim (by have := i_rg a; have := w_t a; have : (0 : Int64).toInt = 0 := rfl; have := i_lt c4; have : (0 : Int32).toInt = 0 := rfl; have := l_nlt q; omega))
        refine r_ic (x := 0) rfl rfl ?_
        refine r_zret rfl (.inl rfl) ?_
        show WR _ cd_180 23 [some (.ref (ad 30)), some (.int c), some (.int a), none] [.int 0] (sI (sI h (ad 0) 6 0) (ad 0) 6 (-3)) _
        refine r_if_ne (tg := 33) rfl rfl (fun q => absurd q (by decide)) (fun _ => ?_)
        refine r_aload rfl rfl ?_
        refine r_ic (x := (-3)) rfl rfl ?_
        refine r_cv (y := 154) (ra := [.int (-3)]) (rest := []) rfl ⟨⟨rfl, rfl⟩, rfl, by decide⟩ (fx_t30 fx) rfl rfl (Nat.le_of_ble_eq_true rfl) ?_
        refine in_154 (Nat.le_of_ble_eq_true rfl) ?_
        show WR _ cd_154 0 [some (.ref (ad 30)), some (.int (-3))] [] (sI (sI h (ad 0) 6 0) (ad 0) 6 (-3)) _
        refine r_aload rfl rfl ?_
        refine r_iload rfl rfl ?_
        refine r_ic (x := (-1)) rfl rfl ?_
        refine r_icmp_ge (tg := 10) rfl rfl (fun q => absurd q (by decide)) (fun _ => ?_)
        refine r_iload rfl rfl ?_
        refine r_goto (tg := 11) rfl rfl ?_
        refine r_putI rfl ⟨rfl, rfl, rfl⟩ (fx_t30 fx) ?_
        refine r_iload rfl rfl ?_
        refine r_iret rfl ?_
        show WR _ cd_180 32 [some (.ref (ad 30)), some (.int c), some (.int a), none] [.int (-3)] (sI (sI (sI h (ad 0) 6 0) (ad 0) 6 (-3)) (ad 30) 11 (-3)) _
        refine r_iret rfl ?_
        exact ⟨rfl, Rel.why r (((Chg.rf.sI (fx_j fx) (.inl (by decide))).sI (fx_j fx) (.inl (by decide))).sI (fx_j fx) (.inl (by decide))) ⟨rfl, by decide⟩ (Eq.trans (Eq.trans (I_ne (fx_ne fx (by decide))) I_eq) (Eq.symm I_eq)), Nat.le_add_right _ _, Nat.le_add_right _ _⟩
      · obtain ⟨k5, hk5, ek5⟩ := ix_of (x := a) (n := 2147483648) (by have := i_rg a; have := i_nlt c4; have : (0 : Int32).toInt = 0 := rfl; omega) (by have := i_rg a; have := i_nlt c4; have : (0 : Int32).toInt = 0 := rfl; omega)
        refine r_iload rfl rfl ?_
        refine WR_tI (y := nI k5) ek5 ?_
        refine r_ic (x := 9) rfl rfl ?_
        refine r_icmp_le (tg := 36) rfl rfl (fun c6 => ?_) (fun c6 => ?_)
        · refine r_aload rfl rfl ?_
          refine r_getA (b := ad 1) rfl ⟨rfl, rfl, rfl⟩ (fx_t0 fx) (fx_r0_0 fx) ?_
          refine r_iload rfl rfl ?_
          refine WR_tI (y := nI k2) ek2 ?_
          rcases rs.cs (n := n) (sa := sa) (c := k2) (by have := i_eq ek2; have : (nI k2).toInt = ((k2 : Nat) : Int) := nI_toInt (by omega); have := i_rg c; have := i_nle c3; have : (24 : Int32).toInt = 24 := rfl; have := i_nlt c1; have : (0 : Int32).toInt = 0 := rfl; omega) with ⟨v7, w7⟩ | ⟨q7, kd7, hq7, hn7, v7, w7, dz7, tg7, s1_7, k1_7, k2_7, hk_7, we7⟩ | ⟨t7, ln7, sz7, ht7, v7, w7, dz7, tg7, r_7, tg2_7, l1_7, l2_7, hl_7, kd_7, n_7, sz_7, hs_7, al7, rw7⟩ | ⟨t7, sz7, ht7, v7, w7, dz7, tg7, r_7, tg2_7, k1_7, l2_7, k2_7, n_7, sz_7, hs_7, al7, rw7⟩ | ⟨t7, kd7, sz7, ht7, v7, w7, dz7, tg7, r_7, tg2_7, k1_7, l2_7, k2_7, hk_7, n_7, sz_7, hs_7, al7, rw7⟩
          · refine r_aaload0 rfl (isQ_of (fx_t1 fx) (by decide)) (vp_ct (fx_n1 fx) (vp_in_nI (by have := i_eq ek2; have : (nI k2).toInt = ((k2 : Nat) : Int) := nI_toInt (by omega); have := i_rg c; have := i_nle c3; have : (24 : Int32).toInt = 24 := rfl; have := i_nlt c1; have : (0 : Int32).toInt = 0 := rfl; omega) (by omega))) (Eq.trans (congrArg (hR (sI h (ad 0) 6 0) (ad 1)) ((nI_clamp (by have := i_eq ek2; have : (nI k2).toInt = ((k2 : Nat) : Int) := nI_toInt (by omega); have := i_rg c; have := i_nle c3; have : (24 : Int32).toInt = 24 := rfl; have := i_nlt c1; have : (0 : Int32).toInt = 0 := rfl; omega)) : _ = k2)) (Eq.trans R_oI w7)) ?_
            refine r_astore0 (lv' := [some (.ref (ad 0)), some (.int c), some (.int a), some (.null)]) rfl (Nat.le_of_ble_eq_true rfl) rfl ?_
            refine r_aload0 rfl rfl ?_
            refine r_ifnonnullN (tg := 54) rfl rfl ?_
            refine r_aload rfl rfl ?_
            refine r_ic (x := (-11)) rfl rfl ?_
            refine r_cv (y := 13) (ra := [.int (-11)]) (rest := []) rfl ⟨⟨rfl, rfl⟩, rfl, by decide⟩ (fx_t0 fx) rfl rfl (Nat.le_of_ble_eq_true rfl) ?_
            refine in_13 (Nat.le_of_ble_eq_true rfl) ?_
            show WR _ cd_13 0 [some (.ref (ad 0)), some (.int (-11))] [] (sI h (ad 0) 6 0) _
            refine r_aload rfl rfl ?_
            refine r_iload rfl rfl ?_
            refine r_putI rfl ⟨rfl, rfl, rfl⟩ (fx_t0 fx) ?_
            refine r_iload rfl rfl ?_
            refine r_iret rfl ?_
            show WR _ cd_58 53 [some (.ref (ad 0)), some (.int c), some (.int a), some (.null)] [.int (-11)] (sI (sI h (ad 0) 6 0) (ad 0) 6 (-11)) _
            refine r_iret rfl ?_
            show EV _ 180 [.ref (ad 30), .int c, .int a] (sI (sI h (ad 0) 6 0) (ad 0) 6 (-11)) _
            refine in_180 (Nat.le_of_ble_eq_true rfl) ?_
            show WR _ cd_180 0 [some (.ref (ad 30)), some (.int c), some (.int a), none] [] (sI (sI h (ad 0) 6 0) (ad 0) 6 (-11)) _
            refine r_iload rfl rfl ?_
            refine WR_tI (y := nI k2) ek2 ?_
            refine r_cs (y := 153) (ra := [.int (nI k2)]) (rest := []) rfl ⟨⟨rfl, rfl⟩, by decide⟩ rfl rfl (Nat.le_of_ble_eq_true rfl) ?_
            refine in_153 (Nat.le_of_ble_eq_true rfl) ?_
            show WR _ cd_153 0 [some (.int (nI k2))] [] (sI (sI h (ad 0) 6 0) (ad 0) 6 (-11)) _
            refine r_iload rfl rfl ?_
            refine r_if_lt (tg := 14) rfl rfl (fun q => False.elim (by have : (nI k2).toInt = ((k2 : Nat) : Int) := nI_toInt (by omega); have : (0 : Int32).toInt = 0 := rfl; have := i_eq ek2; have := i_rg c; have := i_nle c3; have : (24 : Int32).toInt = 24 := rfl; have := i_nlt c1; have := i_lt q; omega)) (fun _ => ?_)
            refine r_iload rfl rfl ?_
            refine r_ic (x := 24) rfl rfl ?_
            refine r_icmp_ge (tg := 14) rfl rfl (fun q => False.elim (by have : (nI k2).toInt = ((k2 : Nat) : Int) := nI_toInt (by omega); have : (24 : Int32).toInt = 24 := rfl; have := i_eq ek2; have := i_rg c; have := i_nle c3; have := i_nlt c1; have : (0 : Int32).toInt = 0 := rfl; have := i_le q; omega)) (fun _ => ?_)
            refine r_ic (x := 1) rfl rfl ?_
            refine r_goto (tg := 15) rfl rfl ?_
            refine r_zret rfl (.inr rfl) ?_
            show WR _ cd_180 4 [some (.ref (ad 30)), some (.int c), some (.int a), none] [.int 1] (sI (sI h (ad 0) 6 0) (ad 0) 6 (-11)) _
            refine r_if_ne (tg := 14) rfl rfl (fun _ => ?_) (fun q => absurd q (by decide))
            refine r_iload rfl rfl ?_
            refine WR_tI (y := nI k5) ek5 ?_
            refine r_i2l rfl ?_
            refine WR_tL (y := lN k5) (nI_l (by have := i_eq ek5; have : (nI k5).toInt = ((k5 : Nat) : Int) := nI_toInt (by omega); have := i_rg a; have := i_le c6; have : (9 : Int32).toInt = 9 := rfl; have := i_nlt c4; have : (0 : Int32).toInt = 0 := rfl; omega)) ?_
            refine r_lc (x := 0) rfl rfl ?_
            refine r_ldc (x := .long 9) rfl rfl ?_
            refine r_cs (y := 155) (ra := [.long 9, .long 0, .long (lN k5)]) (rest := []) rfl ⟨⟨rfl, rfl⟩, by decide⟩ rfl rfl (Nat.le_of_ble_eq_true rfl) ?_
            refine in_155 (Nat.le_of_ble_eq_true rfl) ?_
            show WR _ cd_155 0 [some (.long (lN k5)), none, some (.long 0), none, some (.long 9), none] [] (sI (sI h (ad 0) 6 0) (ad 0) 6 (-11)) _
            refine r_lload rfl rfl ?_
            refine r_lload rfl rfl ?_
            refine r_lif_lt (tg := 17) rfl rfl rfl (fun q => False.elim (by have : (lN k5).toInt = ((k5 : Nat) : Int) := lN_toInt (by omega); have : (0 : Int64).toInt = 0 := rfl; have := i_eq ek5; have : (nI k5).toInt = ((k5 : Nat) : Int) := nI_toInt (by omega); have := i_rg a; have := i_le c6; have : (9 : Int32).toInt = 9 := rfl; have := i_nlt c4; have : (0 : Int32).toInt = 0 := rfl; have := l_lt q; omega)) (fun _ => ?_)
            refine r_lload rfl rfl ?_
            refine r_lload rfl rfl ?_
            refine r_lif_gt (tg := 17) rfl rfl rfl (fun q => False.elim (by have : (lN k5).toInt = ((k5 : Nat) : Int) := lN_toInt (by omega); have : (9 : Int64).toInt = 9 := rfl; have := i_eq ek5; have : (nI k5).toInt = ((k5 : Nat) : Int) := nI_toInt (by omega); have := i_rg a; have := i_le c6; have : (9 : Int32).toInt = 9 := rfl; have := i_nlt c4; have : (0 : Int32).toInt = 0 := rfl; have := l_lt q; omega)) (fun _ => ?_)
            refine r_ic (x := 1) rfl rfl ?_
            refine r_goto (tg := 18) rfl rfl ?_
            refine r_zret rfl (.inr rfl) ?_
            show WR _ cd_180 23 [some (.ref (ad 30)), some (.int c), some (.int a), none] [.int 1] (sI (sI h (ad 0) 6 0) (ad 0) 6 (-11)) _
            refine r_if_ne (tg := 33) rfl rfl (fun _ => ?_) (fun q => absurd q (by decide))
            refine r_aload rfl rfl ?_
            refine r_getA (b := ad 31) rfl ⟨rfl, rfl, rfl⟩ (fx_t30 fx) (fx_r30_0 fx) ?_
            refine r_iload rfl rfl ?_
            refine WR_tI (y := nI k2) ek2 ?_
            refine r_iaload rfl (.inl (fx_t31 fx)) (vp_ct (fx_n31 fx) (vp_in_nI (by have := i_eq ek2; have : (nI k2).toInt = ((k2 : Nat) : Int) := nI_toInt (by omega); have := i_rg c; have := i_nle c3; have : (24 : Int32).toInt = 24 := rfl; have := i_nlt c1; have : (0 : Int32).toInt = 0 := rfl; omega) (by omega))) ?_
            refine WR_tI (congrArg (hI (sI (sI h (ad 0) 6 0) (ad 0) 6 (-11)) (ad 31)) ((nI_clamp (by have := i_eq ek2; have : (nI k2).toInt = ((k2 : Nat) : Int) := nI_toInt (by omega); have := i_rg c; have := i_nle c3; have : (24 : Int32).toInt = 24 := rfl; have := i_nlt c1; have : (0 : Int32).toInt = 0 := rfl; omega)) : _ = k2)) ?_
            refine WR_tI (y := (-1)) (Eq.trans (I_ne (fx_ne fx (by decide))) (Eq.trans (I_ne (fx_ne fx (by decide))) v7)) ?_
            refine r_istore (lv' := [some (.ref (ad 30)), some (.int c), some (.int a), some (.int (-1))]) rfl (Nat.le_of_ble_eq_true rfl) rfl ?_
            refine r_iload rfl rfl ?_
            refine r_ic (x := (-1)) rfl rfl ?_
            refine r_icmp_eq (tg := 60) rfl rfl (fun _ => ?_) (fun q => absurd q (by decide))
            refine r_iload rfl rfl ?_
            refine r_ic (x := (-1)) rfl rfl ?_
            refine r_icmp_ne (tg := 73) rfl rfl (fun q => absurd q (by decide)) (fun _ => ?_)
            refine r_aload rfl rfl ?_
            refine r_ic (x := 1) rfl rfl ?_
            refine r_cv (y := 156) (ra := [.int 1]) (rest := []) rfl ⟨⟨rfl, rfl⟩, rfl, by decide⟩ (fx_t30 fx) rfl rfl (Nat.le_of_ble_eq_true rfl) ?_
            refine in_156 (Nat.le_of_ble_eq_true rfl) ?_
            show WR _ cd_156 0 [some (.ref (ad 30)), some (.int 1)] [] (sI (sI h (ad 0) 6 0) (ad 0) 6 (-11)) _
            refine r_aload rfl rfl ?_
            refine r_ic (x := (-10)) rfl rfl ?_
            refine r_iload rfl rfl ?_
            refine r_isub rfl ?_
            refine WR_tI (y := (-11)) rfl ?_
            refine r_cv (y := 154) (ra := [.int (-11)]) (rest := []) rfl ⟨⟨rfl, rfl⟩, rfl, by decide⟩ (fx_t30 fx) rfl rfl (Nat.le_of_ble_eq_true rfl) ?_
            refine in_154 (Nat.le_of_ble_eq_true rfl) ?_
            show WR _ cd_154 0 [some (.ref (ad 30)), some (.int (-11))] [] (sI (sI h (ad 0) 6 0) (ad 0) 6 (-11)) _
            refine r_aload rfl rfl ?_
            refine r_iload rfl rfl ?_
            refine r_ic (x := (-1)) rfl rfl ?_
            refine r_icmp_ge (tg := 10) rfl rfl (fun q => absurd q (by decide)) (fun _ => ?_)
            refine r_iload rfl rfl ?_
            refine r_goto (tg := 11) rfl rfl ?_
            refine r_putI rfl ⟨rfl, rfl, rfl⟩ (fx_t30 fx) ?_
            refine r_iload rfl rfl ?_
            refine r_iret rfl ?_
            show WR _ cd_156 8 [some (.ref (ad 30)), some (.int 1)] [.int (-11)] (sI (sI (sI h (ad 0) 6 0) (ad 0) 6 (-11)) (ad 30) 11 (-11)) _
            refine r_iret rfl ?_
            show WR _ cd_180 70 [some (.ref (ad 30)), some (.int c), some (.int a), some (.int (-1))] [.int (-11)] (sI (sI (sI h (ad 0) 6 0) (ad 0) 6 (-11)) (ad 30) 11 (-11)) _
            refine r_goto (tg := 83) rfl rfl ?_
            refine r_iret rfl ?_
            exact ⟨rfl, Rel.why r (((Chg.rf.sI (fx_j fx) (.inl (by decide))).sI (fx_j fx) (.inl (by decide))).sI (fx_j fx) (.inl (by decide))) ⟨rfl, by decide⟩ (Eq.trans (Eq.trans (I_ne (fx_ne fx (by decide))) I_eq) (Eq.symm I_eq)), Nat.le_add_right _ _, Nat.le_add_right _ _⟩
          · refine r_aaloadA (b := pa q7) rfl (isQ_of (fx_t1 fx) (by decide)) (vp_ct (fx_n1 fx) (vp_in_nI (by have := i_eq ek2; have : (nI k2).toInt = ((k2 : Nat) : Int) := nI_toInt (by omega); have := i_rg c; have := i_nle c3; have : (24 : Int32).toInt = 24 := rfl; have := i_nlt c1; have : (0 : Int32).toInt = 0 := rfl; omega) (by omega))) (Eq.trans (congrArg (hR (sI h (ad 0) 6 0) (ad 1)) ((nI_clamp (by have := i_eq ek2; have : (nI k2).toInt = ((k2 : Nat) : Int) := nI_toInt (by omega); have := i_rg c; have := i_nle c3; have : (24 : Int32).toInt = 24 := rfl; have := i_nlt c1; have : (0 : Int32).toInt = 0 := rfl; omega)) : _ = k2)) (Eq.trans R_oI w7)) ?_
            refine r_astore (lv' := [some (.ref (ad 0)), some (.int c), some (.int a), some (.ref (pa q7))]) rfl (Nat.le_of_ble_eq_true rfl) rfl ?_
            refine r_aload rfl rfl ?_
            refine r_ifnonnullA (tg := 54) rfl rfl ?_
            refine r_aload rfl rfl ?_
            refine r_cw (y := 26) (ra := []) (rest := []) rfl ⟨rfl, rfl⟩ (by rw [show hT (sI h (ad 0) 6 0) (pa q7) = 4 from tg7]; rfl) rfl rfl (Nat.le_of_ble_eq_true rfl) ?_
            refine in_26 (Nat.le_of_ble_eq_true rfl) ?_
            show WR _ cd_26 0 [some (.ref (pa q7))] [] (sI h (ad 0) 6 0) _
            refine r_ic (x := 10) rfl rfl ?_
            refine r_iret rfl ?_
            show WR _ cd_58 58 [some (.ref (ad 0)), some (.int c), some (.int a), some (.ref (pa q7))] [.int 10] (sI h (ad 0) 6 0) _
            refine r_iload rfl rfl ?_
            refine WR_tI (y := nI k5) ek5 ?_
            refine r_icmp_ne (tg := 69) rfl rfl (fun _ => ?_) (fun q => False.elim (by have : (10 : Int32).toInt = 10 := rfl; have : (nI k5).toInt = ((k5 : Nat) : Int) := nI_toInt (by omega); have := i_eq ek5; have := i_rg a; have := i_le c6; have : (9 : Int32).toInt = 9 := rfl; have := i_nlt c4; have : (0 : Int32).toInt = 0 := rfl; have := i_eq q; omega))
            refine r_aload rfl rfl ?_
            refine r_ic (x := (-14)) rfl rfl ?_
            refine r_cv (y := 13) (ra := [.int (-14)]) (rest := []) rfl ⟨⟨rfl, rfl⟩, rfl, by decide⟩ (fx_t0 fx) rfl rfl (Nat.le_of_ble_eq_true rfl) ?_
            refine in_13 (Nat.le_of_ble_eq_true rfl) ?_
            show WR _ cd_13 0 [some (.ref (ad 0)), some (.int (-14))] [] (sI h (ad 0) 6 0) _
            refine r_aload rfl rfl ?_
            refine r_iload rfl rfl ?_
            refine r_putI rfl ⟨rfl, rfl, rfl⟩ (fx_t0 fx) ?_
            refine r_iload rfl rfl ?_
            refine r_iret rfl ?_
            show WR _ cd_58 75 [some (.ref (ad 0)), some (.int c), some (.int a), some (.ref (pa q7))] [.int (-14)] (sI (sI h (ad 0) 6 0) (ad 0) 6 (-14)) _
            refine r_iret rfl ?_
            show EV _ 180 [.ref (ad 30), .int c, .int a] (sI (sI h (ad 0) 6 0) (ad 0) 6 (-14)) _
            refine in_180 (Nat.le_of_ble_eq_true rfl) ?_
            show WR _ cd_180 0 [some (.ref (ad 30)), some (.int c), some (.int a), none] [] (sI (sI h (ad 0) 6 0) (ad 0) 6 (-14)) _
            refine r_iload rfl rfl ?_
            refine WR_tI (y := nI k2) ek2 ?_
            refine r_cs (y := 153) (ra := [.int (nI k2)]) (rest := []) rfl ⟨⟨rfl, rfl⟩, by decide⟩ rfl rfl (Nat.le_of_ble_eq_true rfl) ?_
            refine in_153 (Nat.le_of_ble_eq_true rfl) ?_
            show WR _ cd_153 0 [some (.int (nI k2))] [] (sI (sI h (ad 0) 6 0) (ad 0) 6 (-14)) _
            refine r_iload rfl rfl ?_
            refine r_if_lt (tg := 14) rfl rfl (fun q => False.elim (by have : (nI k2).toInt = ((k2 : Nat) : Int) := nI_toInt (by omega); have : (0 : Int32).toInt = 0 := rfl; have := i_eq ek2; have := i_rg c; have := i_nle c3; have : (24 : Int32).toInt = 24 := rfl; have := i_nlt c1; have := i_lt q; omega)) (fun _ => ?_)
            refine r_iload rfl rfl ?_
            refine r_ic (x := 24) rfl rfl ?_
            refine r_icmp_ge (tg := 14) rfl rfl (fun q => False.elim (by have : (nI k2).toInt = ((k2 : Nat) : Int) := nI_toInt (by omega); have : (24 : Int32).toInt = 24 := rfl; have := i_eq ek2; have := i_rg c; have := i_nle c3; have := i_nlt c1; have : (0 : Int32).toInt = 0 := rfl; have := i_le q; omega)) (fun _ => ?_)
            refine r_ic (x := 1) rfl rfl ?_
            refine r_goto (tg := 15) rfl rfl ?_
            refine r_zret rfl (.inr rfl) ?_
            show WR _ cd_180 4 [some (.ref (ad 30)), some (.int c), some (.int a), none] [.int 1] (sI (sI h (ad 0) 6 0) (ad 0) 6 (-14)) _
            refine r_if_ne (tg := 14) rfl rfl (fun _ => ?_) (fun q => absurd q (by decide))
            refine r_iload rfl rfl ?_
            refine WR_tI (y := nI k5) ek5 ?_
            refine r_i2l rfl ?_
            refine WR_tL (y := lN k5) (nI_l (by have := i_eq ek5; have : (nI k5).toInt = ((k5 : Nat) : Int) := nI_toInt (by omega); have := i_rg a; have := i_le c6; have : (9 : Int32).toInt = 9 := rfl; have := i_nlt c4; have : (0 : Int32).toInt = 0 := rfl; omega)) ?_
            refine r_lc (x := 0) rfl rfl ?_
            refine r_ldc (x := .long 9) rfl rfl ?_
            refine r_cs (y := 155) (ra := [.long 9, .long 0, .long (lN k5)]) (rest := []) rfl ⟨⟨rfl, rfl⟩, by decide⟩ rfl rfl (Nat.le_of_ble_eq_true rfl) ?_
            refine in_155 (Nat.le_of_ble_eq_true rfl) ?_
            show WR _ cd_155 0 [some (.long (lN k5)), none, some (.long 0), none, some (.long 9), none] [] (sI (sI h (ad 0) 6 0) (ad 0) 6 (-14)) _
            refine r_lload rfl rfl ?_
            refine r_lload rfl rfl ?_
            refine r_lif_lt (tg := 17) rfl rfl rfl (fun q => False.elim (by have : (lN k5).toInt = ((k5 : Nat) : Int) := lN_toInt (by omega); have : (0 : Int64).toInt = 0 := rfl; have := i_eq ek5; have : (nI k5).toInt = ((k5 : Nat) : Int) := nI_toInt (by omega); have := i_rg a; have := i_le c6; have : (9 : Int32).toInt = 9 := rfl; have := i_nlt c4; have : (0 : Int32).toInt = 0 := rfl; have := l_lt q; omega)) (fun _ => ?_)
            refine r_lload rfl rfl ?_
            refine r_lload rfl rfl ?_
            refine r_lif_gt (tg := 17) rfl rfl rfl (fun q => False.elim (by have : (lN k5).toInt = ((k5 : Nat) : Int) := lN_toInt (by omega); have : (9 : Int64).toInt = 9 := rfl; have := i_eq ek5; have : (nI k5).toInt = ((k5 : Nat) : Int) := nI_toInt (by omega); have := i_rg a; have := i_le c6; have : (9 : Int32).toInt = 9 := rfl; have := i_nlt c4; have : (0 : Int32).toInt = 0 := rfl; have := l_lt q; omega)) (fun _ => ?_)
            refine r_ic (x := 1) rfl rfl ?_
            refine r_goto (tg := 18) rfl rfl ?_
            refine r_zret rfl (.inr rfl) ?_
            show WR _ cd_180 23 [some (.ref (ad 30)), some (.int c), some (.int a), none] [.int 1] (sI (sI h (ad 0) 6 0) (ad 0) 6 (-14)) _
            refine r_if_ne (tg := 33) rfl rfl (fun _ => ?_) (fun q => absurd q (by decide))
            refine r_aload rfl rfl ?_
            refine r_getA (b := ad 31) rfl ⟨rfl, rfl, rfl⟩ (fx_t30 fx) (fx_r30_0 fx) ?_
            refine r_iload rfl rfl ?_
            refine WR_tI (y := nI k2) ek2 ?_
            refine r_iaload rfl (.inl (fx_t31 fx)) (vp_ct (fx_n31 fx) (vp_in_nI (by have := i_eq ek2; have : (nI k2).toInt = ((k2 : Nat) : Int) := nI_toInt (by omega); have := i_rg c; have := i_nle c3; have : (24 : Int32).toInt = 24 := rfl; have := i_nlt c1; have : (0 : Int32).toInt = 0 := rfl; omega) (by omega))) ?_
            refine WR_tI (congrArg (hI (sI (sI h (ad 0) 6 0) (ad 0) 6 (-14)) (ad 31)) ((nI_clamp (by have := i_eq ek2; have : (nI k2).toInt = ((k2 : Nat) : Int) := nI_toInt (by omega); have := i_rg c; have := i_nle c3; have : (24 : Int32).toInt = 24 := rfl; have := i_nlt c1; have : (0 : Int32).toInt = 0 := rfl; omega)) : _ = k2)) ?_
            refine WR_tI (y := nI (q7 + 1000)) (Eq.trans (I_ne (fx_ne fx (by decide))) (Eq.trans (I_ne (fx_ne fx (by decide))) v7)) ?_
            refine r_istore (lv' := [some (.ref (ad 30)), some (.int c), some (.int a), some (.int (nI (q7 + 1000)))]) rfl (Nat.le_of_ble_eq_true rfl) rfl ?_
            refine r_iload rfl rfl ?_
            refine r_ic (x := (-1)) rfl rfl ?_
            refine r_icmp_eq (tg := 60) rfl rfl (fun q => False.elim (by have : (nI (q7 + 1000)).toInt = ((q7 + 1000 : Nat) : Int) := nI_toInt (by omega); have : (-1 : Int32).toInt = -1 := rfl; have := i_eq q; omega)) (fun _ => ?_)
            refine r_aload rfl rfl ?_
            refine r_iload rfl rfl ?_
            refine r_cv (y := 166) (ra := [.int (nI (q7 + 1000))]) (rest := []) rfl ⟨⟨rfl, rfl⟩, rfl, by decide⟩ (fx_t30 fx) rfl rfl (Nat.le_of_ble_eq_true rfl) ?_
            refine in_166 (Nat.le_of_ble_eq_true rfl) ?_
            show WR _ cd_166 0 [some (.ref (ad 30)), some (.int (nI (q7 + 1000)))] [] (sI (sI h (ad 0) 6 0) (ad 0) 6 (-14)) _
            refine r_iload rfl rfl ?_
            refine r_ic (x := (-1)) rfl rfl ?_
            refine r_icmp_ne (tg := 9) rfl rfl (fun _ => ?_) (fun q => False.elim (by have : (nI (q7 + 1000)).toInt = ((q7 + 1000 : Nat) : Int) := nI_toInt (by omega); have : (-1 : Int32).toInt = -1 := rfl; have := i_eq q; omega))
            refine r_iload rfl rfl ?_
            refine r_ic (x := 1000) rfl rfl ?_
            refine r_icmp_lt (tg := 21) rfl rfl (fun q => False.elim (by have : (nI (q7 + 1000)).toInt = ((q7 + 1000 : Nat) : Int) := nI_toInt (by omega); have : (1000 : Int32).toInt = 1000 := rfl; have := i_lt q; omega)) (fun _ => ?_)
            refine r_ic (x := 10) rfl rfl ?_
            refine r_goto (tg := 27) rfl rfl ?_
            refine r_iret rfl ?_
            show WR _ cd_180 50 [some (.ref (ad 30)), some (.int c), some (.int a), some (.int (nI (q7 + 1000)))] [.int 10] (sI (sI h (ad 0) 6 0) (ad 0) 6 (-14)) _
            refine r_iload rfl rfl ?_
            refine WR_tI (y := nI k5) ek5 ?_
            refine r_icmp_eq (tg := 60) rfl rfl (fun q => False.elim (by have : (10 : Int32).toInt = 10 := rfl; have : (nI k5).toInt = ((k5 : Nat) : Int) := nI_toInt (by omega); have := i_eq ek5; have := i_rg a; have := i_le c6; have : (9 : Int32).toInt = 9 := rfl; have := i_nlt c4; have : (0 : Int32).toInt = 0 := rfl; have := i_eq q; omega)) (fun _ => ?_)
            refine r_aload rfl rfl ?_
            refine r_ic (x := 4) rfl rfl ?_
            refine r_cv (y := 156) (ra := [.int 4]) (rest := []) rfl ⟨⟨rfl, rfl⟩, rfl, by decide⟩ (fx_t30 fx) rfl rfl (Nat.le_of_ble_eq_true rfl) ?_
            refine in_156 (Nat.le_of_ble_eq_true rfl) ?_
            show WR _ cd_156 0 [some (.ref (ad 30)), some (.int 4)] [] (sI (sI h (ad 0) 6 0) (ad 0) 6 (-14)) _
            refine r_aload rfl rfl ?_
            refine r_ic (x := (-10)) rfl rfl ?_
            refine r_iload rfl rfl ?_
            refine r_isub rfl ?_
            refine WR_tI (y := (-14)) rfl ?_
            refine r_cv (y := 154) (ra := [.int (-14)]) (rest := []) rfl ⟨⟨rfl, rfl⟩, rfl, by decide⟩ (fx_t30 fx) rfl rfl (Nat.le_of_ble_eq_true rfl) ?_
            refine in_154 (Nat.le_of_ble_eq_true rfl) ?_
            show WR _ cd_154 0 [some (.ref (ad 30)), some (.int (-14))] [] (sI (sI h (ad 0) 6 0) (ad 0) 6 (-14)) _
            refine r_aload rfl rfl ?_
            refine r_iload rfl rfl ?_
            refine r_ic (x := (-1)) rfl rfl ?_
            refine r_icmp_ge (tg := 10) rfl rfl (fun q => absurd q (by decide)) (fun _ => ?_)
            refine r_iload rfl rfl ?_
            refine r_goto (tg := 11) rfl rfl ?_
            refine r_putI rfl ⟨rfl, rfl, rfl⟩ (fx_t30 fx) ?_
            refine r_iload rfl rfl ?_
            refine r_iret rfl ?_
            show WR _ cd_156 8 [some (.ref (ad 30)), some (.int 4)] [.int (-14)] (sI (sI (sI h (ad 0) 6 0) (ad 0) 6 (-14)) (ad 30) 11 (-14)) _
            refine r_iret rfl ?_
            show WR _ cd_180 59 [some (.ref (ad 30)), some (.int c), some (.int a), some (.int (nI (q7 + 1000)))] [.int (-14)] (sI (sI (sI h (ad 0) 6 0) (ad 0) 6 (-14)) (ad 30) 11 (-14)) _
            refine r_iret rfl ?_
            exact ⟨rfl, Rel.why r (((Chg.rf.sI (fx_j fx) (.inl (by decide))).sI (fx_j fx) (.inl (by decide))).sI (fx_j fx) (.inl (by decide))) ⟨rfl, by decide⟩ (Eq.trans (Eq.trans (I_ne (fx_ne fx (by decide))) I_eq) (Eq.symm I_eq)), Nat.le_add_right _ _, Nat.le_add_right _ _⟩
          · refine r_aaloadA (b := mid t7) rfl (isQ_of (fx_t1 fx) (by decide)) (vp_ct (fx_n1 fx) (vp_in_nI (by have := i_eq ek2; have : (nI k2).toInt = ((k2 : Nat) : Int) := nI_toInt (by omega); have := i_rg c; have := i_nle c3; have : (24 : Int32).toInt = 24 := rfl; have := i_nlt c1; have : (0 : Int32).toInt = 0 := rfl; omega) (by omega))) (Eq.trans (congrArg (hR (sI h (ad 0) 6 0) (ad 1)) ((nI_clamp (by have := i_eq ek2; have : (nI k2).toInt = ((k2 : Nat) : Int) := nI_toInt (by omega); have := i_rg c; have := i_nle c3; have : (24 : Int32).toInt = 24 := rfl; have := i_nlt c1; have : (0 : Int32).toInt = 0 := rfl; omega)) : _ = k2)) (Eq.trans R_oI w7)) ?_
            refine r_astore (lv' := [some (.ref (ad 0)), some (.int c), some (.int a), some (.ref (mid t7))]) rfl (Nat.le_of_ble_eq_true rfl) rfl ?_
            refine r_aload rfl rfl ?_
            refine r_ifnonnullA (tg := 54) rfl rfl ?_
            refine r_aload rfl rfl ?_
            refine r_cw (y := 27) (ra := []) (rest := []) rfl ⟨rfl, rfl⟩ (by rw [show hT (sI h (ad 0) 6 0) (mid t7) = 5 from tg7]; rfl) rfl rfl (Nat.le_of_ble_eq_true rfl) ?_
            refine in_27 (Nat.le_of_ble_eq_true rfl) ?_
            show WR _ cd_27 0 [some (.ref (mid t7))] [] (sI h (ad 0) 6 0) _
            refine r_aload rfl rfl ?_
            refine r_getI rfl ⟨rfl, rfl, rfl⟩ tg7 ?_
            refine WR_tI (y := nI ln7) (Eq.trans (I_ne (dy_ad fx (.inl (by decide)) dz7)) l1_7) ?_
            refine r_iret rfl ?_
            show WR _ cd_58 58 [some (.ref (ad 0)), some (.int c), some (.int a), some (.ref (mid t7))] [.int (nI ln7)] (sI h (ad 0) 6 0) _
            refine r_iload rfl rfl ?_
            refine WR_tI (y := nI k5) ek5 ?_
            refine r_icmp_ne (tg := 69) rfl rfl (fun c8 => ?_) (fun c8 => ?_)
            · refine r_aload rfl rfl ?_
              refine r_ic (x := (-14)) rfl rfl ?_
              refine r_cv (y := 13) (ra := [.int (-14)]) (rest := []) rfl ⟨⟨rfl, rfl⟩, rfl, by decide⟩ (fx_t0 fx) rfl rfl (Nat.le_of_ble_eq_true rfl) ?_
              refine in_13 (Nat.le_of_ble_eq_true rfl) ?_
              show WR _ cd_13 0 [some (.ref (ad 0)), some (.int (-14))] [] (sI h (ad 0) 6 0) _
              refine r_aload rfl rfl ?_
              refine r_iload rfl rfl ?_
              refine r_putI rfl ⟨rfl, rfl, rfl⟩ (fx_t0 fx) ?_
              refine r_iload rfl rfl ?_
              refine r_iret rfl ?_
              show WR _ cd_58 75 [some (.ref (ad 0)), some (.int c), some (.int a), some (.ref (mid t7))] [.int (-14)] (sI (sI h (ad 0) 6 0) (ad 0) 6 (-14)) _
              refine r_iret rfl ?_
              show EV _ 180 [.ref (ad 30), .int c, .int a] (sI (sI h (ad 0) 6 0) (ad 0) 6 (-14)) _
              refine in_180 (Nat.le_of_ble_eq_true rfl) ?_
              show WR _ cd_180 0 [some (.ref (ad 30)), some (.int c), some (.int a), none] [] (sI (sI h (ad 0) 6 0) (ad 0) 6 (-14)) _
              refine r_iload rfl rfl ?_
              refine WR_tI (y := nI k2) ek2 ?_
              refine r_cs (y := 153) (ra := [.int (nI k2)]) (rest := []) rfl ⟨⟨rfl, rfl⟩, by decide⟩ rfl rfl (Nat.le_of_ble_eq_true rfl) ?_
              refine in_153 (Nat.le_of_ble_eq_true rfl) ?_
              show WR _ cd_153 0 [some (.int (nI k2))] [] (sI (sI h (ad 0) 6 0) (ad 0) 6 (-14)) _
              refine r_iload rfl rfl ?_
              refine r_if_lt (tg := 14) rfl rfl (fun q => False.elim (by have : (nI k2).toInt = ((k2 : Nat) : Int) := nI_toInt (by omega); have : (0 : Int32).toInt = 0 := rfl; have := i_eq ek2; have := i_rg c; have := i_nle c3; have : (24 : Int32).toInt = 24 := rfl; have := i_nlt c1; have := i_lt q; omega)) (fun _ => ?_)
              refine r_iload rfl rfl ?_
              refine r_ic (x := 24) rfl rfl ?_
              refine r_icmp_ge (tg := 14) rfl rfl (fun q => False.elim (by have : (nI k2).toInt = ((k2 : Nat) : Int) := nI_toInt (by omega); have : (24 : Int32).toInt = 24 := rfl; have := i_eq ek2; have := i_rg c; have := i_nle c3; have := i_nlt c1; have : (0 : Int32).toInt = 0 := rfl; have := i_le q; omega)) (fun _ => ?_)
              refine r_ic (x := 1) rfl rfl ?_
              refine r_goto (tg := 15) rfl rfl ?_
              refine r_zret rfl (.inr rfl) ?_
              show WR _ cd_180 4 [some (.ref (ad 30)), some (.int c), some (.int a), none] [.int 1] (sI (sI h (ad 0) 6 0) (ad 0) 6 (-14)) _
              refine r_if_ne (tg := 14) rfl rfl (fun _ => ?_) (fun q => absurd q (by decide))
              refine r_iload rfl rfl ?_
              refine WR_tI (y := nI k5) ek5 ?_
              refine r_i2l rfl ?_
              refine WR_tL (y := lN k5) (nI_l (by have := i_eq ek5; have : (nI k5).toInt = ((k5 : Nat) : Int) := nI_toInt (by omega); have := i_rg a; have := i_le c6; have : (9 : Int32).toInt = 9 := rfl; have := i_nlt c4; have : (0 : Int32).toInt = 0 := rfl; omega)) ?_
              refine r_lc (x := 0) rfl rfl ?_
              refine r_ldc (x := .long 9) rfl rfl ?_
              refine r_cs (y := 155) (ra := [.long 9, .long 0, .long (lN k5)]) (rest := []) rfl ⟨⟨rfl, rfl⟩, by decide⟩ rfl rfl (Nat.le_of_ble_eq_true rfl) ?_
              refine in_155 (Nat.le_of_ble_eq_true rfl) ?_
              show WR _ cd_155 0 [some (.long (lN k5)), none, some (.long 0), none, some (.long 9), none] [] (sI (sI h (ad 0) 6 0) (ad 0) 6 (-14)) _
              refine r_lload rfl rfl ?_
              refine r_lload rfl rfl ?_
              refine r_lif_lt (tg := 17) rfl rfl rfl (fun q => False.elim (by have : (lN k5).toInt = ((k5 : Nat) : Int) := lN_toInt (by omega); have : (0 : Int64).toInt = 0 := rfl; have := i_eq ek5; have : (nI k5).toInt = ((k5 : Nat) : Int) := nI_toInt (by omega); have := i_rg a; have := i_le c6; have : (9 : Int32).toInt = 9 := rfl; have := i_nlt c4; have : (0 : Int32).toInt = 0 := rfl; have := l_lt q; omega)) (fun _ => ?_)
              refine r_lload rfl rfl ?_
              refine r_lload rfl rfl ?_
              refine r_lif_gt (tg := 17) rfl rfl rfl (fun q => False.elim (by have : (lN k5).toInt = ((k5 : Nat) : Int) := lN_toInt (by omega); have : (9 : Int64).toInt = 9 := rfl; have := i_eq ek5; have : (nI k5).toInt = ((k5 : Nat) : Int) := nI_toInt (by omega); have := i_rg a; have := i_le c6; have : (9 : Int32).toInt = 9 := rfl; have := i_nlt c4; have : (0 : Int32).toInt = 0 := rfl; have := l_lt q; omega)) (fun _ => ?_)
              refine r_ic (x := 1) rfl rfl ?_
              refine r_goto (tg := 18) rfl rfl ?_
              refine r_zret rfl (.inr rfl) ?_
              show WR _ cd_180 23 [some (.ref (ad 30)), some (.int c), some (.int a), none] [.int 1] (sI (sI h (ad 0) 6 0) (ad 0) 6 (-14)) _
              refine r_if_ne (tg := 33) rfl rfl (fun _ => ?_) (fun q => absurd q (by decide))
              refine r_aload rfl rfl ?_
              refine r_getA (b := ad 31) rfl ⟨rfl, rfl, rfl⟩ (fx_t30 fx) (fx_r30_0 fx) ?_
              refine r_iload rfl rfl ?_
              refine WR_tI (y := nI k2) ek2 ?_
              refine r_iaload rfl (.inl (fx_t31 fx)) (vp_ct (fx_n31 fx) (vp_in_nI (by have := i_eq ek2; have : (nI k2).toInt = ((k2 : Nat) : Int) := nI_toInt (by omega); have := i_rg c; have := i_nle c3; have : (24 : Int32).toInt = 24 := rfl; have := i_nlt c1; have : (0 : Int32).toInt = 0 := rfl; omega) (by omega))) ?_
              refine WR_tI (congrArg (hI (sI (sI h (ad 0) 6 0) (ad 0) 6 (-14)) (ad 31)) ((nI_clamp (by have := i_eq ek2; have : (nI k2).toInt = ((k2 : Nat) : Int) := nI_toInt (by omega); have := i_rg c; have := i_nle c3; have : (24 : Int32).toInt = 24 := rfl; have := i_nlt c1; have : (0 : Int32).toInt = 0 := rfl; omega)) : _ = k2)) ?_
              refine WR_tI (y := nI t7) (Eq.trans (I_ne (fx_ne fx (by decide))) (Eq.trans (I_ne (fx_ne fx (by decide))) v7)) ?_
              refine r_istore (lv' := [some (.ref (ad 30)), some (.int c), some (.int a), some (.int (nI t7))]) rfl (Nat.le_of_ble_eq_true rfl) rfl ?_
              refine r_iload rfl rfl ?_
              refine r_ic (x := (-1)) rfl rfl ?_
              refine r_icmp_eq (tg := 60) rfl rfl (fun q => False.elim (by have : (nI t7).toInt = ((t7 : Nat) : Int) := nI_toInt (by omega); have : (-1 : Int32).toInt = -1 := rfl; have := i_eq q; omega)) (fun _ => ?_)
              refine r_aload rfl rfl ?_
              refine r_iload rfl rfl ?_
              refine r_cv (y := 166) (ra := [.int (nI t7)]) (rest := []) rfl ⟨⟨rfl, rfl⟩, rfl, by decide⟩ (fx_t30 fx) rfl rfl (Nat.le_of_ble_eq_true rfl) ?_
              refine in_166 (Nat.le_of_ble_eq_true rfl) ?_
              show WR _ cd_166 0 [some (.ref (ad 30)), some (.int (nI t7))] [] (sI (sI h (ad 0) 6 0) (ad 0) 6 (-14)) _
              refine r_iload rfl rfl ?_
              refine r_ic (x := (-1)) rfl rfl ?_
              refine r_icmp_ne (tg := 9) rfl rfl (fun _ => ?_) (fun q => False.elim (by have : (nI t7).toInt = ((t7 : Nat) : Int) := nI_toInt (by omega); have : (-1 : Int32).toInt = -1 := rfl; have := i_eq q; omega))
              refine r_iload rfl rfl ?_
              refine r_ic (x := 1000) rfl rfl ?_
              refine r_icmp_lt (tg := 21) rfl rfl (fun _ => ?_) (fun q => False.elim (by have : (nI t7).toInt = ((t7 : Nat) : Int) := nI_toInt (by omega); have : (1000 : Int32).toInt = 1000 := rfl; have := i_nlt q; omega))
              refine r_aload rfl rfl ?_
              refine r_getA (b := ad 33) rfl ⟨rfl, rfl, rfl⟩ (fx_t30 fx) (fx_r30_2 fx) ?_
              refine r_iload rfl rfl ?_
              refine r_iaload rfl (.inl (fx_t33 fx)) (vp_ct (fx_n33 fx) (vp_in_nI (by omega) (by omega))) ?_
              refine WR_tI (congrArg (hI (sI (sI h (ad 0) 6 0) (ad 0) 6 (-14)) (ad 33)) ((nI_clamp (by omega)) : _ = t7)) ?_
              refine WR_tI (y := nI ln7) (Eq.trans (I_ne (fx_ne fx (by decide))) (Eq.trans (I_ne (fx_ne fx (by decide))) l2_7)) ?_
              refine r_iret rfl ?_
              show WR _ cd_180 50 [some (.ref (ad 30)), some (.int c), some (.int a), some (.int (nI t7))] [.int (nI ln7)] (sI (sI h (ad 0) 6 0) (ad 0) 6 (-14)) _
              refine r_iload rfl rfl ?_
              refine WR_tI (y := nI k5) ek5 ?_
              refine r_icmp_eq (tg := 60) rfl rfl (fun q => False.elim (by have : (nI ln7).toInt = ((ln7 : Nat) : Int) := nI_toInt (by omega); have : (nI k5).toInt = ((k5 : Nat) : Int) := nI_toInt (by omega); have := i_eq ek5; have := i_rg a; have := i_le c6; have : (9 : Int32).toInt = 9 := rfl; have := i_nlt c4; have : (0 : Int32).toInt = 0 := rfl; have := i_neq c8; have := i_eq q; omega)) (fun _ => ?_)
              refine r_aload rfl rfl ?_
              refine r_ic (x := 4) rfl rfl ?_
              refine r_cv (y := 156) (ra := [.int 4]) (rest := []) rfl ⟨⟨rfl, rfl⟩, rfl, by decide⟩ (fx_t30 fx) rfl rfl (Nat.le_of_ble_eq_true rfl) ?_
              refine in_156 (Nat.le_of_ble_eq_true rfl) ?_
              show WR _ cd_156 0 [some (.ref (ad 30)), some (.int 4)] [] (sI (sI h (ad 0) 6 0) (ad 0) 6 (-14)) _
              refine r_aload rfl rfl ?_
              refine r_ic (x := (-10)) rfl rfl ?_
              refine r_iload rfl rfl ?_
              refine r_isub rfl ?_
              refine WR_tI (y := (-14)) rfl ?_
              refine r_cv (y := 154) (ra := [.int (-14)]) (rest := []) rfl ⟨⟨rfl, rfl⟩, rfl, by decide⟩ (fx_t30 fx) rfl rfl (Nat.le_of_ble_eq_true rfl) ?_
              refine in_154 (Nat.le_of_ble_eq_true rfl) ?_
              show WR _ cd_154 0 [some (.ref (ad 30)), some (.int (-14))] [] (sI (sI h (ad 0) 6 0) (ad 0) 6 (-14)) _
              refine r_aload rfl rfl ?_
              refine r_iload rfl rfl ?_
              refine r_ic (x := (-1)) rfl rfl ?_
              refine r_icmp_ge (tg := 10) rfl rfl (fun q => absurd q (by decide)) (fun _ => ?_)
              refine r_iload rfl rfl ?_
              refine r_goto (tg := 11) rfl rfl ?_
              refine r_putI rfl ⟨rfl, rfl, rfl⟩ (fx_t30 fx) ?_
              refine r_iload rfl rfl ?_
              refine r_iret rfl ?_
              show WR _ cd_156 8 [some (.ref (ad 30)), some (.int 4)] [.int (-14)] (sI (sI (sI h (ad 0) 6 0) (ad 0) 6 (-14)) (ad 30) 11 (-14)) _
              refine r_iret rfl ?_
              show WR _ cd_180 59 [some (.ref (ad 30)), some (.int c), some (.int a), some (.int (nI t7))] [.int (-14)] (sI (sI (sI h (ad 0) 6 0) (ad 0) 6 (-14)) (ad 30) 11 (-14)) _
              refine r_iret rfl ?_
              exact ⟨rfl, Rel.why r (((Chg.rf.sI (fx_j fx) (.inl (by decide))).sI (fx_j fx) (.inl (by decide))).sI (fx_j fx) (.inl (by decide))) ⟨rfl, by decide⟩ (Eq.trans (Eq.trans (I_ne (fx_ne fx (by decide))) I_eq) (Eq.symm I_eq)), Nat.le_add_right _ _, Nat.le_add_right _ _⟩
            · refine r_aload rfl rfl ?_
              refine r_cw (y := 34) (ra := []) (rest := []) rfl ⟨rfl, rfl⟩ (by rw [show hT (sI h (ad 0) 6 0) (mid t7) = 5 from tg7]; rfl) rfl rfl (Nat.le_of_ble_eq_true rfl) ?_
              refine in_34 (Nat.le_of_ble_eq_true rfl) ?_
              show WR _ cd_34 0 [some (.ref (mid t7))] [] (sI h (ad 0) 6 0) _
              refine r_aload rfl rfl ?_
              refine r_getA (b := mid t7 + 1) rfl ⟨rfl, rfl, rfl⟩ tg7 (Eq.trans R_oI r_7) ?_
              refine r_alen rfl (isA_of tg2_7 (by decide)) ?_
              refine WR_tI (y := nI sz7) (congrArg nI n_7) ?_
              refine r_iret rfl ?_
              show WR _ cd_58 66 [some (.ref (ad 0)), some (.int c), some (.int a), some (.ref (mid t7))] [.int (nI sz7)] (sI h (ad 0) 6 0) _
              refine r_goto (tg := 75) rfl rfl ?_
              refine r_iret rfl ?_
              show EV _ 180 [.ref (ad 30), .int c, .int a] (sI h (ad 0) 6 0) _
              refine in_180 (Nat.le_of_ble_eq_true rfl) ?_
              show WR _ cd_180 0 [some (.ref (ad 30)), some (.int c), some (.int a), none] [] (sI h (ad 0) 6 0) _
              refine r_iload rfl rfl ?_
              refine WR_tI (y := nI k2) ek2 ?_
              refine r_cs (y := 153) (ra := [.int (nI k2)]) (rest := []) rfl ⟨⟨rfl, rfl⟩, by decide⟩ rfl rfl (Nat.le_of_ble_eq_true rfl) ?_
              refine in_153 (Nat.le_of_ble_eq_true rfl) ?_
              show WR _ cd_153 0 [some (.int (nI k2))] [] (sI h (ad 0) 6 0) _
              refine r_iload rfl rfl ?_
              refine r_if_lt (tg := 14) rfl rfl (fun q => False.elim (by have : (nI k2).toInt = ((k2 : Nat) : Int) := nI_toInt (by omega); have : (0 : Int32).toInt = 0 := rfl; have := i_eq ek2; have := i_rg c; have := i_nle c3; have : (24 : Int32).toInt = 24 := rfl; have := i_nlt c1; have := i_lt q; omega)) (fun _ => ?_)
              refine r_iload rfl rfl ?_
              refine r_ic (x := 24) rfl rfl ?_
              refine r_icmp_ge (tg := 14) rfl rfl (fun q => False.elim (by have : (nI k2).toInt = ((k2 : Nat) : Int) := nI_toInt (by omega); have : (24 : Int32).toInt = 24 := rfl; have := i_eq ek2; have := i_rg c; have := i_nle c3; have := i_nlt c1; have : (0 : Int32).toInt = 0 := rfl; have := i_le q; omega)) (fun _ => ?_)
              refine r_ic (x := 1) rfl rfl ?_
              refine r_goto (tg := 15) rfl rfl ?_
              refine r_zret rfl (.inr rfl) ?_
              show WR _ cd_180 4 [some (.ref (ad 30)), some (.int c), some (.int a), none] [.int 1] (sI h (ad 0) 6 0) _
              refine r_if_ne (tg := 14) rfl rfl (fun _ => ?_) (fun q => absurd q (by decide))
              refine r_iload rfl rfl ?_
              refine WR_tI (y := nI k5) ek5 ?_
              refine r_i2l rfl ?_
              refine WR_tL (y := lN k5) (nI_l (by have := i_eq ek5; have : (nI k5).toInt = ((k5 : Nat) : Int) := nI_toInt (by omega); have := i_rg a; have := i_le c6; have : (9 : Int32).toInt = 9 := rfl; have := i_eq c8; have : (nI ln7).toInt = ((ln7 : Nat) : Int) := nI_toInt (by omega); have := i_nlt c4; have : (0 : Int32).toInt = 0 := rfl; omega)) ?_
              refine r_lc (x := 0) rfl rfl ?_
              refine r_ldc (x := .long 9) rfl rfl ?_
              refine r_cs (y := 155) (ra := [.long 9, .long 0, .long (lN k5)]) (rest := []) rfl ⟨⟨rfl, rfl⟩, by decide⟩ rfl rfl (Nat.le_of_ble_eq_true rfl) ?_
              refine in_155 (Nat.le_of_ble_eq_true rfl) ?_
              show WR _ cd_155 0 [some (.long (lN k5)), none, some (.long 0), none, some (.long 9), none] [] (sI h (ad 0) 6 0) _
              refine r_lload rfl rfl ?_
              refine r_lload rfl rfl ?_
              refine r_lif_lt (tg := 17) rfl rfl rfl (fun q => False.elim (by have : (lN k5).toInt = ((k5 : Nat) : Int) := lN_toInt (by omega); have : (0 : Int64).toInt = 0 := rfl; have := i_eq ek5; have : (nI k5).toInt = ((k5 : Nat) : Int) := nI_toInt (by omega); have := i_rg a; have := i_le c6; have : (9 : Int32).toInt = 9 := rfl; have := i_eq c8; have : (nI ln7).toInt = ((ln7 : Nat) : Int) := nI_toInt (by omega); have := i_nlt c4; have : (0 : Int32).toInt = 0 := rfl; have := l_lt q; omega)) (fun _ => ?_)
              refine r_lload rfl rfl ?_
              refine r_lload rfl rfl ?_
              refine r_lif_gt (tg := 17) rfl rfl rfl (fun q => False.elim (by have : (lN k5).toInt = ((k5 : Nat) : Int) := lN_toInt (by omega); have : (9 : Int64).toInt = 9 := rfl; have := i_eq ek5; have : (nI k5).toInt = ((k5 : Nat) : Int) := nI_toInt (by omega); have := i_rg a; have := i_le c6; have : (9 : Int32).toInt = 9 := rfl; have := i_eq c8; have : (nI ln7).toInt = ((ln7 : Nat) : Int) := nI_toInt (by omega); have := i_nlt c4; have : (0 : Int32).toInt = 0 := rfl; have := l_lt q; omega)) (fun _ => ?_)
              refine r_ic (x := 1) rfl rfl ?_
              refine r_goto (tg := 18) rfl rfl ?_
              refine r_zret rfl (.inr rfl) ?_
              show WR _ cd_180 23 [some (.ref (ad 30)), some (.int c), some (.int a), none] [.int 1] (sI h (ad 0) 6 0) _
              refine r_if_ne (tg := 33) rfl rfl (fun _ => ?_) (fun q => absurd q (by decide))
              refine r_aload rfl rfl ?_
              refine r_getA (b := ad 31) rfl ⟨rfl, rfl, rfl⟩ (fx_t30 fx) (fx_r30_0 fx) ?_
              refine r_iload rfl rfl ?_
              refine WR_tI (y := nI k2) ek2 ?_
              refine r_iaload rfl (.inl (fx_t31 fx)) (vp_ct (fx_n31 fx) (vp_in_nI (by have := i_eq ek2; have : (nI k2).toInt = ((k2 : Nat) : Int) := nI_toInt (by omega); have := i_rg c; have := i_nle c3; have : (24 : Int32).toInt = 24 := rfl; have := i_nlt c1; have : (0 : Int32).toInt = 0 := rfl; omega) (by omega))) ?_
              refine WR_tI (congrArg (hI (sI h (ad 0) 6 0) (ad 31)) ((nI_clamp (by have := i_eq ek2; have : (nI k2).toInt = ((k2 : Nat) : Int) := nI_toInt (by omega); have := i_rg c; have := i_nle c3; have : (24 : Int32).toInt = 24 := rfl; have := i_nlt c1; have : (0 : Int32).toInt = 0 := rfl; omega)) : _ = k2)) ?_
              refine WR_tI (y := nI t7) (Eq.trans (I_ne (fx_ne fx (by decide))) v7) ?_
              refine r_istore (lv' := [some (.ref (ad 30)), some (.int c), some (.int a), some (.int (nI t7))]) rfl (Nat.le_of_ble_eq_true rfl) rfl ?_
              refine r_iload rfl rfl ?_
              refine r_ic (x := (-1)) rfl rfl ?_
              refine r_icmp_eq (tg := 60) rfl rfl (fun q => False.elim (by have : (nI t7).toInt = ((t7 : Nat) : Int) := nI_toInt (by omega); have : (-1 : Int32).toInt = -1 := rfl; have := i_eq q; omega)) (fun _ => ?_)
              refine r_aload rfl rfl ?_
              refine r_iload rfl rfl ?_
              refine r_cv (y := 166) (ra := [.int (nI t7)]) (rest := []) rfl ⟨⟨rfl, rfl⟩, rfl, by decide⟩ (fx_t30 fx) rfl rfl (Nat.le_of_ble_eq_true rfl) ?_
              refine in_166 (Nat.le_of_ble_eq_true rfl) ?_
              show WR _ cd_166 0 [some (.ref (ad 30)), some (.int (nI t7))] [] (sI h (ad 0) 6 0) _
              refine r_iload rfl rfl ?_
              refine r_ic (x := (-1)) rfl rfl ?_
              refine r_icmp_ne (tg := 9) rfl rfl (fun _ => ?_) (fun q => False.elim (by have : (nI t7).toInt = ((t7 : Nat) : Int) := nI_toInt (by omega); have : (-1 : Int32).toInt = -1 := rfl; have := i_eq q; omega))
              refine r_iload rfl rfl ?_
              refine r_ic (x := 1000) rfl rfl ?_
              refine r_icmp_lt (tg := 21) rfl rfl (fun _ => ?_) (fun q => False.elim (by have : (nI t7).toInt = ((t7 : Nat) : Int) := nI_toInt (by omega); have : (1000 : Int32).toInt = 1000 := rfl; have := i_nlt q; omega))
              refine r_aload rfl rfl ?_
              refine r_getA (b := ad 33) rfl ⟨rfl, rfl, rfl⟩ (fx_t30 fx) (fx_r30_2 fx) ?_
              refine r_iload rfl rfl ?_
              refine r_iaload rfl (.inl (fx_t33 fx)) (vp_ct (fx_n33 fx) (vp_in_nI (by omega) (by omega))) ?_
              refine WR_tI (congrArg (hI (sI h (ad 0) 6 0) (ad 33)) ((nI_clamp (by omega)) : _ = t7)) ?_
              refine WR_tI (y := nI ln7) (Eq.trans (I_ne (fx_ne fx (by decide))) l2_7) ?_
              refine r_iret rfl ?_
              show WR _ cd_180 50 [some (.ref (ad 30)), some (.int c), some (.int a), some (.int (nI t7))] [.int (nI ln7)] (sI h (ad 0) 6 0) _
              refine r_iload rfl rfl ?_
              refine WR_tI (y := nI k5) ek5 ?_
              refine r_icmp_eq (tg := 60) rfl rfl (fun _ => ?_) (fun q => False.elim (by have : (nI ln7).toInt = ((ln7 : Nat) : Int) := nI_toInt (by omega); have : (nI k5).toInt = ((k5 : Nat) : Int) := nI_toInt (by omega); have := i_eq ek5; have := i_rg a; have := i_le c6; have : (9 : Int32).toInt = 9 := rfl; have := i_eq c8; have := i_nlt c4; have : (0 : Int32).toInt = 0 := rfl; have := i_neq q; omega))
              refine r_iload rfl rfl ?_
              refine r_ic (x := (-1)) rfl rfl ?_
              refine r_icmp_ne (tg := 73) rfl rfl (fun _ => ?_) (fun q => False.elim (by have : (nI t7).toInt = ((t7 : Nat) : Int) := nI_toInt (by omega); have : (-1 : Int32).toInt = -1 := rfl; have := i_eq q; omega))
              refine r_aload rfl rfl ?_
              refine r_aload rfl rfl ?_
              refine r_getA (b := ad 35) rfl ⟨rfl, rfl, rfl⟩ (fx_t30 fx) (fx_r30_4 fx) ?_
              refine r_iload rfl rfl ?_
              refine r_iaload rfl (.inl (fx_t35 fx)) (vp_ct (fx_n35 fx) (vp_in_nI (by omega) (by omega))) ?_
              refine WR_tI (congrArg (hI (sI h (ad 0) 6 0) (ad 35)) ((nI_clamp (by omega)) : _ = t7)) ?_
              refine WR_tI (y := nI sz7) (Eq.trans (I_ne (fx_ne fx (by decide))) sz_7) ?_
              refine r_cv (y := 154) (ra := [.int (nI sz7)]) (rest := []) rfl ⟨⟨rfl, rfl⟩, rfl, by decide⟩ (fx_t30 fx) rfl rfl (Nat.le_of_ble_eq_true rfl) ?_
              refine in_154 (Nat.le_of_ble_eq_true rfl) ?_
              show WR _ cd_154 0 [some (.ref (ad 30)), some (.int (nI sz7))] [] (sI h (ad 0) 6 0) _
              refine r_aload rfl rfl ?_
              refine r_iload rfl rfl ?_
              refine r_ic (x := (-1)) rfl rfl ?_
              refine r_icmp_ge (tg := 10) rfl rfl (fun _ => ?_) (fun q => False.elim (by have : (nI sz7).toInt = ((sz7 : Nat) : Int) := nI_toInt (by omega); have : (-1 : Int32).toInt = -1 := rfl; have := i_nle q; omega))
              refine r_ic (x := 0) rfl rfl ?_
              refine r_putI rfl ⟨rfl, rfl, rfl⟩ (fx_t30 fx) ?_
              refine r_iload rfl rfl ?_
              refine r_iret rfl ?_
              show WR _ cd_180 83 [some (.ref (ad 30)), some (.int c), some (.int a), some (.int (nI t7))] [.int (nI sz7)] (sI (sI h (ad 0) 6 0) (ad 30) 11 0) _
              refine r_iret rfl ?_
              exact ⟨rfl, Rel.why r ((Chg.rf.sI (fx_j fx) (.inl (by decide))).sI (fx_j fx) (.inl (by decide))) ⟨rfl, by decide⟩ (Eq.trans (Eq.trans (I_ne (fx_ne fx (by decide))) I_eq) (Eq.symm I_eq)), Nat.le_add_right _ _, Nat.le_add_right _ _⟩
          · refine r_aaloadA (b := mid t7) rfl (isQ_of (fx_t1 fx) (by decide)) (vp_ct (fx_n1 fx) (vp_in_nI (by have := i_eq ek2; have : (nI k2).toInt = ((k2 : Nat) : Int) := nI_toInt (by omega); have := i_rg c; have := i_nle c3; have : (24 : Int32).toInt = 24 := rfl; have := i_nlt c1; have : (0 : Int32).toInt = 0 := rfl; omega) (by omega))) (Eq.trans (congrArg (hR (sI h (ad 0) 6 0) (ad 1)) ((nI_clamp (by have := i_eq ek2; have : (nI k2).toInt = ((k2 : Nat) : Int) := nI_toInt (by omega); have := i_rg c; have := i_nle c3; have : (24 : Int32).toInt = 24 := rfl; have := i_nlt c1; have : (0 : Int32).toInt = 0 := rfl; omega)) : _ = k2)) (Eq.trans R_oI w7)) ?_
            refine r_astore (lv' := [some (.ref (ad 0)), some (.int c), some (.int a), some (.ref (mid t7))]) rfl (Nat.le_of_ble_eq_true rfl) rfl ?_
            refine r_aload rfl rfl ?_
            refine r_ifnonnullA (tg := 54) rfl rfl ?_
            refine r_aload rfl rfl ?_
            refine r_cw (y := 28) (ra := []) (rest := []) rfl ⟨rfl, rfl⟩ (by rw [show hT (sI h (ad 0) 6 0) (mid t7) = 6 from tg7]; rfl) rfl rfl (Nat.le_of_ble_eq_true rfl) ?_
            refine in_28 (Nat.le_of_ble_eq_true rfl) ?_
            show WR _ cd_28 0 [some (.ref (mid t7))] [] (sI h (ad 0) 6 0) _
            refine r_aload rfl rfl ?_
            refine r_getI rfl ⟨rfl, rfl, rfl⟩ tg7 ?_
            refine WR_tI (y := (-1)) (Eq.trans (I_ne (dy_ad fx (.inl (by decide)) dz7)) k1_7) ?_
            refine r_ic (x := (-1)) rfl rfl ?_
            refine r_icmp_ne (tg := 13) rfl rfl (fun q => absurd q (by decide)) (fun _ => ?_)
            refine r_ic (x := 8) rfl rfl ?_
            refine r_goto (tg := 15) rfl rfl ?_
            refine r_iret rfl ?_
            show WR _ cd_58 58 [some (.ref (ad 0)), some (.int c), some (.int a), some (.ref (mid t7))] [.int 8] (sI h (ad 0) 6 0) _
            refine r_iload rfl rfl ?_
            refine WR_tI (y := nI k5) ek5 ?_
            refine r_icmp_ne (tg := 69) rfl rfl (fun c9 => ?_) (fun c9 => ?_)
            · refine r_aload rfl rfl ?_
              refine r_ic (x := (-14)) rfl rfl ?_
              refine r_cv (y := 13) (ra := [.int (-14)]) (rest := []) rfl ⟨⟨rfl, rfl⟩, rfl, by decide⟩ (fx_t0 fx) rfl rfl (Nat.le_of_ble_eq_true rfl) ?_
              refine in_13 (Nat.le_of_ble_eq_true rfl) ?_
              show WR _ cd_13 0 [some (.ref (ad 0)), some (.int (-14))] [] (sI h (ad 0) 6 0) _
              refine r_aload rfl rfl ?_
              refine r_iload rfl rfl ?_
              refine r_putI rfl ⟨rfl, rfl, rfl⟩ (fx_t0 fx) ?_
              refine r_iload rfl rfl ?_
              refine r_iret rfl ?_
              show WR _ cd_58 75 [some (.ref (ad 0)), some (.int c), some (.int a), some (.ref (mid t7))] [.int (-14)] (sI (sI h (ad 0) 6 0) (ad 0) 6 (-14)) _
              refine r_iret rfl ?_
              show EV _ 180 [.ref (ad 30), .int c, .int a] (sI (sI h (ad 0) 6 0) (ad 0) 6 (-14)) _
              refine in_180 (Nat.le_of_ble_eq_true rfl) ?_
              show WR _ cd_180 0 [some (.ref (ad 30)), some (.int c), some (.int a), none] [] (sI (sI h (ad 0) 6 0) (ad 0) 6 (-14)) _
              refine r_iload rfl rfl ?_
              refine WR_tI (y := nI k2) ek2 ?_
              refine r_cs (y := 153) (ra := [.int (nI k2)]) (rest := []) rfl ⟨⟨rfl, rfl⟩, by decide⟩ rfl rfl (Nat.le_of_ble_eq_true rfl) ?_
              refine in_153 (Nat.le_of_ble_eq_true rfl) ?_
              show WR _ cd_153 0 [some (.int (nI k2))] [] (sI (sI h (ad 0) 6 0) (ad 0) 6 (-14)) _
              refine r_iload rfl rfl ?_
              refine r_if_lt (tg := 14) rfl rfl (fun q => False.elim (by have : (nI k2).toInt = ((k2 : Nat) : Int) := nI_toInt (by omega); have : (0 : Int32).toInt = 0 := rfl; have := i_eq ek2; have := i_rg c; have := i_nle c3; have : (24 : Int32).toInt = 24 := rfl; have := i_nlt c1; have := i_lt q; omega)) (fun _ => ?_)
              refine r_iload rfl rfl ?_
              refine r_ic (x := 24) rfl rfl ?_
              refine r_icmp_ge (tg := 14) rfl rfl (fun q => False.elim (by have : (nI k2).toInt = ((k2 : Nat) : Int) := nI_toInt (by omega); have : (24 : Int32).toInt = 24 := rfl; have := i_eq ek2; have := i_rg c; have := i_nle c3; have := i_nlt c1; have : (0 : Int32).toInt = 0 := rfl; have := i_le q; omega)) (fun _ => ?_)
              refine r_ic (x := 1) rfl rfl ?_
              refine r_goto (tg := 15) rfl rfl ?_
              refine r_zret rfl (.inr rfl) ?_
              show WR _ cd_180 4 [some (.ref (ad 30)), some (.int c), some (.int a), none] [.int 1] (sI (sI h (ad 0) 6 0) (ad 0) 6 (-14)) _
              refine r_if_ne (tg := 14) rfl rfl (fun _ => ?_) (fun q => absurd q (by decide))
              refine r_iload rfl rfl ?_
              refine WR_tI (y := nI k5) ek5 ?_
              refine r_i2l rfl ?_
              refine WR_tL (y := lN k5) (nI_l (by have := i_eq ek5; have : (nI k5).toInt = ((k5 : Nat) : Int) := nI_toInt (by omega); have := i_rg a; have := i_le c6; have : (9 : Int32).toInt = 9 := rfl; have := i_nlt c4; have : (0 : Int32).toInt = 0 := rfl; omega)) ?_
              refine r_lc (x := 0) rfl rfl ?_
              refine r_ldc (x := .long 9) rfl rfl ?_
              refine r_cs (y := 155) (ra := [.long 9, .long 0, .long (lN k5)]) (rest := []) rfl ⟨⟨rfl, rfl⟩, by decide⟩ rfl rfl (Nat.le_of_ble_eq_true rfl) ?_
              refine in_155 (Nat.le_of_ble_eq_true rfl) ?_
              show WR _ cd_155 0 [some (.long (lN k5)), none, some (.long 0), none, some (.long 9), none] [] (sI (sI h (ad 0) 6 0) (ad 0) 6 (-14)) _
              refine r_lload rfl rfl ?_
              refine r_lload rfl rfl ?_
              refine r_lif_lt (tg := 17) rfl rfl rfl (fun q => False.elim (by have : (lN k5).toInt = ((k5 : Nat) : Int) := lN_toInt (by omega); have : (0 : Int64).toInt = 0 := rfl; have := i_eq ek5; have : (nI k5).toInt = ((k5 : Nat) : Int) := nI_toInt (by omega); have := i_rg a; have := i_le c6; have : (9 : Int32).toInt = 9 := rfl; have := i_nlt c4; have : (0 : Int32).toInt = 0 := rfl; have := l_lt q; omega)) (fun _ => ?_)
              refine r_lload rfl rfl ?_
              refine r_lload rfl rfl ?_
              refine r_lif_gt (tg := 17) rfl rfl rfl (fun q => False.elim (by have : (lN k5).toInt = ((k5 : Nat) : Int) := lN_toInt (by omega); have : (9 : Int64).toInt = 9 := rfl; have := i_eq ek5; have : (nI k5).toInt = ((k5 : Nat) : Int) := nI_toInt (by omega); have := i_rg a; have := i_le c6; have : (9 : Int32).toInt = 9 := rfl; have := i_nlt c4; have : (0 : Int32).toInt = 0 := rfl; have := l_lt q; omega)) (fun _ => ?_)
              refine r_ic (x := 1) rfl rfl ?_
              refine r_goto (tg := 18) rfl rfl ?_
              refine r_zret rfl (.inr rfl) ?_
              show WR _ cd_180 23 [some (.ref (ad 30)), some (.int c), some (.int a), none] [.int 1] (sI (sI h (ad 0) 6 0) (ad 0) 6 (-14)) _
              refine r_if_ne (tg := 33) rfl rfl (fun _ => ?_) (fun q => absurd q (by decide))
              refine r_aload rfl rfl ?_
              refine r_getA (b := ad 31) rfl ⟨rfl, rfl, rfl⟩ (fx_t30 fx) (fx_r30_0 fx) ?_
              refine r_iload rfl rfl ?_
              refine WR_tI (y := nI k2) ek2 ?_
              refine r_iaload rfl (.inl (fx_t31 fx)) (vp_ct (fx_n31 fx) (vp_in_nI (by have := i_eq ek2; have : (nI k2).toInt = ((k2 : Nat) : Int) := nI_toInt (by omega); have := i_rg c; have := i_nle c3; have : (24 : Int32).toInt = 24 := rfl; have := i_nlt c1; have : (0 : Int32).toInt = 0 := rfl; omega) (by omega))) ?_
              refine WR_tI (congrArg (hI (sI (sI h (ad 0) 6 0) (ad 0) 6 (-14)) (ad 31)) ((nI_clamp (by have := i_eq ek2; have : (nI k2).toInt = ((k2 : Nat) : Int) := nI_toInt (by omega); have := i_rg c; have := i_nle c3; have : (24 : Int32).toInt = 24 := rfl; have := i_nlt c1; have : (0 : Int32).toInt = 0 := rfl; omega)) : _ = k2)) ?_
              refine WR_tI (y := nI t7) (Eq.trans (I_ne (fx_ne fx (by decide))) (Eq.trans (I_ne (fx_ne fx (by decide))) v7)) ?_
              refine r_istore (lv' := [some (.ref (ad 30)), some (.int c), some (.int a), some (.int (nI t7))]) rfl (Nat.le_of_ble_eq_true rfl) rfl ?_
              refine r_iload rfl rfl ?_
              refine r_ic (x := (-1)) rfl rfl ?_
              refine r_icmp_eq (tg := 60) rfl rfl (fun q => False.elim (by have : (nI t7).toInt = ((t7 : Nat) : Int) := nI_toInt (by omega); have : (-1 : Int32).toInt = -1 := rfl; have := i_eq q; omega)) (fun _ => ?_)
              refine r_aload rfl rfl ?_
              refine r_iload rfl rfl ?_
              refine r_cv (y := 166) (ra := [.int (nI t7)]) (rest := []) rfl ⟨⟨rfl, rfl⟩, rfl, by decide⟩ (fx_t30 fx) rfl rfl (Nat.le_of_ble_eq_true rfl) ?_
              refine in_166 (Nat.le_of_ble_eq_true rfl) ?_
              show WR _ cd_166 0 [some (.ref (ad 30)), some (.int (nI t7))] [] (sI (sI h (ad 0) 6 0) (ad 0) 6 (-14)) _
              refine r_iload rfl rfl ?_
              refine r_ic (x := (-1)) rfl rfl ?_
              refine r_icmp_ne (tg := 9) rfl rfl (fun _ => ?_) (fun q => False.elim (by have : (nI t7).toInt = ((t7 : Nat) : Int) := nI_toInt (by omega); have : (-1 : Int32).toInt = -1 := rfl; have := i_eq q; omega))
              refine r_iload rfl rfl ?_
              refine r_ic (x := 1000) rfl rfl ?_
              refine r_icmp_lt (tg := 21) rfl rfl (fun _ => ?_) (fun q => False.elim (by have : (nI t7).toInt = ((t7 : Nat) : Int) := nI_toInt (by omega); have : (1000 : Int32).toInt = 1000 := rfl; have := i_nlt q; omega))
              refine r_aload rfl rfl ?_
              refine r_getA (b := ad 33) rfl ⟨rfl, rfl, rfl⟩ (fx_t30 fx) (fx_r30_2 fx) ?_
              refine r_iload rfl rfl ?_
              refine r_iaload rfl (.inl (fx_t33 fx)) (vp_ct (fx_n33 fx) (vp_in_nI (by omega) (by omega))) ?_
              refine WR_tI (congrArg (hI (sI (sI h (ad 0) 6 0) (ad 0) 6 (-14)) (ad 33)) ((nI_clamp (by omega)) : _ = t7)) ?_
              refine WR_tI (y := 8) (Eq.trans (I_ne (fx_ne fx (by decide))) (Eq.trans (I_ne (fx_ne fx (by decide))) l2_7)) ?_
              refine r_iret rfl ?_
              show WR _ cd_180 50 [some (.ref (ad 30)), some (.int c), some (.int a), some (.int (nI t7))] [.int 8] (sI (sI h (ad 0) 6 0) (ad 0) 6 (-14)) _
              refine r_iload rfl rfl ?_
              refine WR_tI (y := nI k5) ek5 ?_
              refine r_icmp_eq (tg := 60) rfl rfl (fun q => False.elim (by have : (8 : Int32).toInt = 8 := rfl; have : (nI k5).toInt = ((k5 : Nat) : Int) := nI_toInt (by omega); have := i_eq ek5; have := i_rg a; have := i_le c6; have : (9 : Int32).toInt = 9 := rfl; have := i_nlt c4; have : (0 : Int32).toInt = 0 := rfl; have := i_neq c9; have := i_eq q; omega)) (fun _ => ?_)
              refine r_aload rfl rfl ?_
              refine r_ic (x := 4) rfl rfl ?_
              refine r_cv (y := 156) (ra := [.int 4]) (rest := []) rfl ⟨⟨rfl, rfl⟩, rfl, by decide⟩ (fx_t30 fx) rfl rfl (Nat.le_of_ble_eq_true rfl) ?_
              refine in_156 (Nat.le_of_ble_eq_true rfl) ?_
              show WR _ cd_156 0 [some (.ref (ad 30)), some (.int 4)] [] (sI (sI h (ad 0) 6 0) (ad 0) 6 (-14)) _
              refine r_aload rfl rfl ?_
              refine r_ic (x := (-10)) rfl rfl ?_
              refine r_iload rfl rfl ?_
              refine r_isub rfl ?_
              refine WR_tI (y := (-14)) rfl ?_
              refine r_cv (y := 154) (ra := [.int (-14)]) (rest := []) rfl ⟨⟨rfl, rfl⟩, rfl, by decide⟩ (fx_t30 fx) rfl rfl (Nat.le_of_ble_eq_true rfl) ?_
              refine in_154 (Nat.le_of_ble_eq_true rfl) ?_
              show WR _ cd_154 0 [some (.ref (ad 30)), some (.int (-14))] [] (sI (sI h (ad 0) 6 0) (ad 0) 6 (-14)) _
              refine r_aload rfl rfl ?_
              refine r_iload rfl rfl ?_
              refine r_ic (x := (-1)) rfl rfl ?_
              refine r_icmp_ge (tg := 10) rfl rfl (fun q => absurd q (by decide)) (fun _ => ?_)
              refine r_iload rfl rfl ?_
              refine r_goto (tg := 11) rfl rfl ?_
              refine r_putI rfl ⟨rfl, rfl, rfl⟩ (fx_t30 fx) ?_
              refine r_iload rfl rfl ?_
              refine r_iret rfl ?_
              show WR _ cd_156 8 [some (.ref (ad 30)), some (.int 4)] [.int (-14)] (sI (sI (sI h (ad 0) 6 0) (ad 0) 6 (-14)) (ad 30) 11 (-14)) _
              refine r_iret rfl ?_
              show WR _ cd_180 59 [some (.ref (ad 30)), some (.int c), some (.int a), some (.int (nI t7))] [.int (-14)] (sI (sI (sI h (ad 0) 6 0) (ad 0) 6 (-14)) (ad 30) 11 (-14)) _
              refine r_iret rfl ?_
              exact ⟨rfl, Rel.why r (((Chg.rf.sI (fx_j fx) (.inl (by decide))).sI (fx_j fx) (.inl (by decide))).sI (fx_j fx) (.inl (by decide))) ⟨rfl, by decide⟩ (Eq.trans (Eq.trans (I_ne (fx_ne fx (by decide))) I_eq) (Eq.symm I_eq)), Nat.le_add_right _ _, Nat.le_add_right _ _⟩
            · refine r_aload rfl rfl ?_
              refine r_cw (y := 35) (ra := []) (rest := []) rfl ⟨rfl, rfl⟩ (by rw [show hT (sI h (ad 0) 6 0) (mid t7) = 6 from tg7]; rfl) rfl rfl (Nat.le_of_ble_eq_true rfl) ?_
              refine in_35 (Nat.le_of_ble_eq_true rfl) ?_
              show WR _ cd_35 0 [some (.ref (mid t7))] [] (sI h (ad 0) 6 0) _
              refine r_aload rfl rfl ?_
              refine r_getA (b := mid t7 + 1) rfl ⟨rfl, rfl, rfl⟩ tg7 (Eq.trans R_oI r_7) ?_
              refine r_alen rfl (isA_of tg2_7 (by decide)) ?_
              refine WR_tI (y := nI sz7) (congrArg nI n_7) ?_
              refine r_iret rfl ?_
              show WR _ cd_58 66 [some (.ref (ad 0)), some (.int c), some (.int a), some (.ref (mid t7))] [.int (nI sz7)] (sI h (ad 0) 6 0) _
              refine r_goto (tg := 75) rfl rfl ?_
              refine r_iret rfl ?_
              show EV _ 180 [.ref (ad 30), .int c, .int a] (sI h (ad 0) 6 0) _
              refine in_180 (Nat.le_of_ble_eq_true rfl) ?_
              show WR _ cd_180 0 [some (.ref (ad 30)), some (.int c), some (.int a), none] [] (sI h (ad 0) 6 0) _
              refine r_iload rfl rfl ?_
              refine WR_tI (y := nI k2) ek2 ?_
              refine r_cs (y := 153) (ra := [.int (nI k2)]) (rest := []) rfl ⟨⟨rfl, rfl⟩, by decide⟩ rfl rfl (Nat.le_of_ble_eq_true rfl) ?_
              refine in_153 (Nat.le_of_ble_eq_true rfl) ?_
              show WR _ cd_153 0 [some (.int (nI k2))] [] (sI h (ad 0) 6 0) _
              refine r_iload rfl rfl ?_
              refine r_if_lt (tg := 14) rfl rfl (fun q => False.elim (by have : (nI k2).toInt = ((k2 : Nat) : Int) := nI_toInt (by omega); have : (0 : Int32).toInt = 0 := rfl; have := i_eq ek2; have := i_rg c; have := i_nle c3; have : (24 : Int32).toInt = 24 := rfl; have := i_nlt c1; have := i_lt q; omega)) (fun _ => ?_)
              refine r_iload rfl rfl ?_
              refine r_ic (x := 24) rfl rfl ?_
              refine r_icmp_ge (tg := 14) rfl rfl (fun q => False.elim (by have : (nI k2).toInt = ((k2 : Nat) : Int) := nI_toInt (by omega); have : (24 : Int32).toInt = 24 := rfl; have := i_eq ek2; have := i_rg c; have := i_nle c3; have := i_nlt c1; have : (0 : Int32).toInt = 0 := rfl; have := i_le q; omega)) (fun _ => ?_)
              refine r_ic (x := 1) rfl rfl ?_
              refine r_goto (tg := 15) rfl rfl ?_
              refine r_zret rfl (.inr rfl) ?_
              show WR _ cd_180 4 [some (.ref (ad 30)), some (.int c), some (.int a), none] [.int 1] (sI h (ad 0) 6 0) _
              refine r_if_ne (tg := 14) rfl rfl (fun _ => ?_) (fun q => absurd q (by decide))
              refine r_iload rfl rfl ?_
              refine WR_tI (y := nI k5) ek5 ?_
              refine r_i2l rfl ?_
              refine WR_tL (y := lN k5) (nI_l (by have := i_eq ek5; have : (nI k5).toInt = ((k5 : Nat) : Int) := nI_toInt (by omega); have := i_rg a; have := i_le c6; have : (9 : Int32).toInt = 9 := rfl; have := i_eq c9; have : (8 : Int32).toInt = 8 := rfl; have := i_nlt c4; have : (0 : Int32).toInt = 0 := rfl; omega)) ?_
              refine r_lc (x := 0) rfl rfl ?_
              refine r_ldc (x := .long 9) rfl rfl ?_
              refine r_cs (y := 155) (ra := [.long 9, .long 0, .long (lN k5)]) (rest := []) rfl ⟨⟨rfl, rfl⟩, by decide⟩ rfl rfl (Nat.le_of_ble_eq_true rfl) ?_
              refine in_155 (Nat.le_of_ble_eq_true rfl) ?_
              show WR _ cd_155 0 [some (.long (lN k5)), none, some (.long 0), none, some (.long 9), none] [] (sI h (ad 0) 6 0) _
              refine r_lload rfl rfl ?_
              refine r_lload rfl rfl ?_
              refine r_lif_lt (tg := 17) rfl rfl rfl (fun q => False.elim (by have : (lN k5).toInt = ((k5 : Nat) : Int) := lN_toInt (by omega); have : (0 : Int64).toInt = 0 := rfl; have := i_eq ek5; have : (nI k5).toInt = ((k5 : Nat) : Int) := nI_toInt (by omega); have := i_rg a; have := i_le c6; have : (9 : Int32).toInt = 9 := rfl; have := i_eq c9; have : (8 : Int32).toInt = 8 := rfl; have := i_nlt c4; have : (0 : Int32).toInt = 0 := rfl; have := l_lt q; omega)) (fun _ => ?_)
              refine r_lload rfl rfl ?_
              refine r_lload rfl rfl ?_
              refine r_lif_gt (tg := 17) rfl rfl rfl (fun q => False.elim (by have : (lN k5).toInt = ((k5 : Nat) : Int) := lN_toInt (by omega); have : (9 : Int64).toInt = 9 := rfl; have := i_eq ek5; have : (nI k5).toInt = ((k5 : Nat) : Int) := nI_toInt (by omega); have := i_rg a; have := i_le c6; have : (9 : Int32).toInt = 9 := rfl; have := i_eq c9; have : (8 : Int32).toInt = 8 := rfl; have := i_nlt c4; have : (0 : Int32).toInt = 0 := rfl; have := l_lt q; omega)) (fun _ => ?_)
              refine r_ic (x := 1) rfl rfl ?_
              refine r_goto (tg := 18) rfl rfl ?_
              refine r_zret rfl (.inr rfl) ?_
              show WR _ cd_180 23 [some (.ref (ad 30)), some (.int c), some (.int a), none] [.int 1] (sI h (ad 0) 6 0) _
              refine r_if_ne (tg := 33) rfl rfl (fun _ => ?_) (fun q => absurd q (by decide))
              refine r_aload rfl rfl ?_
              refine r_getA (b := ad 31) rfl ⟨rfl, rfl, rfl⟩ (fx_t30 fx) (fx_r30_0 fx) ?_
              refine r_iload rfl rfl ?_
              refine WR_tI (y := nI k2) ek2 ?_
              refine r_iaload rfl (.inl (fx_t31 fx)) (vp_ct (fx_n31 fx) (vp_in_nI (by have := i_eq ek2; have : (nI k2).toInt = ((k2 : Nat) : Int) := nI_toInt (by omega); have := i_rg c; have := i_nle c3; have : (24 : Int32).toInt = 24 := rfl; have := i_nlt c1; have : (0 : Int32).toInt = 0 := rfl; omega) (by omega))) ?_
              refine WR_tI (congrArg (hI (sI h (ad 0) 6 0) (ad 31)) ((nI_clamp (by have := i_eq ek2; have : (nI k2).toInt = ((k2 : Nat) : Int) := nI_toInt (by omega); have := i_rg c; have := i_nle c3; have : (24 : Int32).toInt = 24 := rfl; have := i_nlt c1; have : (0 : Int32).toInt = 0 := rfl; omega)) : _ = k2)) ?_
              refine WR_tI (y := nI t7) (Eq.trans (I_ne (fx_ne fx (by decide))) v7) ?_
              refine r_istore (lv' := [some (.ref (ad 30)), some (.int c), some (.int a), some (.int (nI t7))]) rfl (Nat.le_of_ble_eq_true rfl) rfl ?_
              refine r_iload rfl rfl ?_
              refine r_ic (x := (-1)) rfl rfl ?_
              refine r_icmp_eq (tg := 60) rfl rfl (fun q => False.elim (by have : (nI t7).toInt = ((t7 : Nat) : Int) := nI_toInt (by omega); have : (-1 : Int32).toInt = -1 := rfl; have := i_eq q; omega)) (fun _ => ?_)
              refine r_aload rfl rfl ?_
              refine r_iload rfl rfl ?_
              refine r_cv (y := 166) (ra := [.int (nI t7)]) (rest := []) rfl ⟨⟨rfl, rfl⟩, rfl, by decide⟩ (fx_t30 fx) rfl rfl (Nat.le_of_ble_eq_true rfl) ?_
              refine in_166 (Nat.le_of_ble_eq_true rfl) ?_
              show WR _ cd_166 0 [some (.ref (ad 30)), some (.int (nI t7))] [] (sI h (ad 0) 6 0) _
              refine r_iload rfl rfl ?_
              refine r_ic (x := (-1)) rfl rfl ?_
              refine r_icmp_ne (tg := 9) rfl rfl (fun _ => ?_) (fun q => False.elim (by have : (nI t7).toInt = ((t7 : Nat) : Int) := nI_toInt (by omega); have : (-1 : Int32).toInt = -1 := rfl; have := i_eq q; omega))
              refine r_iload rfl rfl ?_
              refine r_ic (x := 1000) rfl rfl ?_
              refine r_icmp_lt (tg := 21) rfl rfl (fun _ => ?_) (fun q => False.elim (by have : (nI t7).toInt = ((t7 : Nat) : Int) := nI_toInt (by omega); have : (1000 : Int32).toInt = 1000 := rfl; have := i_nlt q; omega))
              refine r_aload rfl rfl ?_
              refine r_getA (b := ad 33) rfl ⟨rfl, rfl, rfl⟩ (fx_t30 fx) (fx_r30_2 fx) ?_
              refine r_iload rfl rfl ?_
              refine r_iaload rfl (.inl (fx_t33 fx)) (vp_ct (fx_n33 fx) (vp_in_nI (by omega) (by omega))) ?_
              refine WR_tI (congrArg (hI (sI h (ad 0) 6 0) (ad 33)) ((nI_clamp (by omega)) : _ = t7)) ?_
              refine WR_tI (y := 8) (Eq.trans (I_ne (fx_ne fx (by decide))) l2_7) ?_
              refine r_iret rfl ?_
              show WR _ cd_180 50 [some (.ref (ad 30)), some (.int c), some (.int a), some (.int (nI t7))] [.int 8] (sI h (ad 0) 6 0) _
              refine r_iload rfl rfl ?_
              refine WR_tI (y := nI k5) ek5 ?_
              refine r_icmp_eq (tg := 60) rfl rfl (fun _ => ?_) (fun q => False.elim (by have : (8 : Int32).toInt = 8 := rfl; have : (nI k5).toInt = ((k5 : Nat) : Int) := nI_toInt (by omega); have := i_eq ek5; have := i_rg a; have := i_le c6; have : (9 : Int32).toInt = 9 := rfl; have := i_eq c9; have := i_nlt c4; have : (0 : Int32).toInt = 0 := rfl; have := i_neq q; omega))
              refine r_iload rfl rfl ?_
              refine r_ic (x := (-1)) rfl rfl ?_
              refine r_icmp_ne (tg := 73) rfl rfl (fun _ => ?_) (fun q => False.elim (by have : (nI t7).toInt = ((t7 : Nat) : Int) := nI_toInt (by omega); have : (-1 : Int32).toInt = -1 := rfl; have := i_eq q; omega))
              refine r_aload rfl rfl ?_
              refine r_aload rfl rfl ?_
              refine r_getA (b := ad 35) rfl ⟨rfl, rfl, rfl⟩ (fx_t30 fx) (fx_r30_4 fx) ?_
              refine r_iload rfl rfl ?_
              refine r_iaload rfl (.inl (fx_t35 fx)) (vp_ct (fx_n35 fx) (vp_in_nI (by omega) (by omega))) ?_
              refine WR_tI (congrArg (hI (sI h (ad 0) 6 0) (ad 35)) ((nI_clamp (by omega)) : _ = t7)) ?_
              refine WR_tI (y := nI sz7) (Eq.trans (I_ne (fx_ne fx (by decide))) sz_7) ?_
              refine r_cv (y := 154) (ra := [.int (nI sz7)]) (rest := []) rfl ⟨⟨rfl, rfl⟩, rfl, by decide⟩ (fx_t30 fx) rfl rfl (Nat.le_of_ble_eq_true rfl) ?_
              refine in_154 (Nat.le_of_ble_eq_true rfl) ?_
              show WR _ cd_154 0 [some (.ref (ad 30)), some (.int (nI sz7))] [] (sI h (ad 0) 6 0) _
              refine r_aload rfl rfl ?_
              refine r_iload rfl rfl ?_
              refine r_ic (x := (-1)) rfl rfl ?_
              refine r_icmp_ge (tg := 10) rfl rfl (fun _ => ?_) (fun q => False.elim (by have : (nI sz7).toInt = ((sz7 : Nat) : Int) := nI_toInt (by omega); have : (-1 : Int32).toInt = -1 := rfl; have := i_nle q; omega))
              refine r_ic (x := 0) rfl rfl ?_
              refine r_putI rfl ⟨rfl, rfl, rfl⟩ (fx_t30 fx) ?_
              refine r_iload rfl rfl ?_
              refine r_iret rfl ?_
              show WR _ cd_180 83 [some (.ref (ad 30)), some (.int c), some (.int a), some (.int (nI t7))] [.int (nI sz7)] (sI (sI h (ad 0) 6 0) (ad 30) 11 0) _
              refine r_iret rfl ?_
              exact ⟨rfl, Rel.why r ((Chg.rf.sI (fx_j fx) (.inl (by decide))).sI (fx_j fx) (.inl (by decide))) ⟨rfl, by decide⟩ (Eq.trans (Eq.trans (I_ne (fx_ne fx (by decide))) I_eq) (Eq.symm I_eq)), Nat.le_add_right _ _, Nat.le_add_right _ _⟩
          · refine r_aaloadA (b := mid t7) rfl (isQ_of (fx_t1 fx) (by decide)) (vp_ct (fx_n1 fx) (vp_in_nI (by have := i_eq ek2; have : (nI k2).toInt = ((k2 : Nat) : Int) := nI_toInt (by omega); have := i_rg c; have := i_nle c3; have : (24 : Int32).toInt = 24 := rfl; have := i_nlt c1; have : (0 : Int32).toInt = 0 := rfl; omega) (by omega))) (Eq.trans (congrArg (hR (sI h (ad 0) 6 0) (ad 1)) ((nI_clamp (by have := i_eq ek2; have : (nI k2).toInt = ((k2 : Nat) : Int) := nI_toInt (by omega); have := i_rg c; have := i_nle c3; have : (24 : Int32).toInt = 24 := rfl; have := i_nlt c1; have : (0 : Int32).toInt = 0 := rfl; omega)) : _ = k2)) (Eq.trans R_oI w7)) ?_
            refine r_astore (lv' := [some (.ref (ad 0)), some (.int c), some (.int a), some (.ref (mid t7))]) rfl (Nat.le_of_ble_eq_true rfl) rfl ?_
            refine r_aload rfl rfl ?_
            refine r_ifnonnullA (tg := 54) rfl rfl ?_
            refine r_aload rfl rfl ?_
            refine r_cw (y := 28) (ra := []) (rest := []) rfl ⟨rfl, rfl⟩ (by rw [show hT (sI h (ad 0) 6 0) (mid t7) = 6 from tg7]; rfl) rfl rfl (Nat.le_of_ble_eq_true rfl) ?_
            refine in_28 (Nat.le_of_ble_eq_true rfl) ?_
            show WR _ cd_28 0 [some (.ref (mid t7))] [] (sI h (ad 0) 6 0) _
            refine r_aload rfl rfl ?_
            refine r_getI rfl ⟨rfl, rfl, rfl⟩ tg7 ?_
            refine WR_tI (y := nI kd7) (Eq.trans (I_ne (dy_ad fx (.inl (by decide)) dz7)) k1_7) ?_
            refine r_ic (x := (-1)) rfl rfl ?_
            refine r_icmp_ne (tg := 13) rfl rfl (fun _ => ?_) (fun q => False.elim (by have : (nI kd7).toInt = ((kd7 : Nat) : Int) := nI_toInt (by omega); have : (-1 : Int32).toInt = -1 := rfl; have := i_eq q; omega))
            refine r_ic (x := 9) rfl rfl ?_
            refine r_iret rfl ?_
            show WR _ cd_58 58 [some (.ref (ad 0)), some (.int c), some (.int a), some (.ref (mid t7))] [.int 9] (sI h (ad 0) 6 0) _
            refine r_iload rfl rfl ?_
            refine WR_tI (y := nI k5) ek5 ?_
            refine r_icmp_ne (tg := 69) rfl rfl (fun c10 => ?_) (fun c10 => ?_)
            · refine r_aload rfl rfl ?_
              refine r_ic (x := (-14)) rfl rfl ?_
              refine r_cv (y := 13) (ra := [.int (-14)]) (rest := []) rfl ⟨⟨rfl, rfl⟩, rfl, by decide⟩ (fx_t0 fx) rfl rfl (Nat.le_of_ble_eq_true rfl) ?_
              refine in_13 (Nat.le_of_ble_eq_true rfl) ?_
              show WR _ cd_13 0 [some (.ref (ad 0)), some (.int (-14))] [] (sI h (ad 0) 6 0) _
              refine r_aload rfl rfl ?_
              refine r_iload rfl rfl ?_
              refine r_putI rfl ⟨rfl, rfl, rfl⟩ (fx_t0 fx) ?_
              refine r_iload rfl rfl ?_
              refine r_iret rfl ?_
              show WR _ cd_58 75 [some (.ref (ad 0)), some (.int c), some (.int a), some (.ref (mid t7))] [.int (-14)] (sI (sI h (ad 0) 6 0) (ad 0) 6 (-14)) _
              refine r_iret rfl ?_
              show EV _ 180 [.ref (ad 30), .int c, .int a] (sI (sI h (ad 0) 6 0) (ad 0) 6 (-14)) _
              refine in_180 (Nat.le_of_ble_eq_true rfl) ?_
              show WR _ cd_180 0 [some (.ref (ad 30)), some (.int c), some (.int a), none] [] (sI (sI h (ad 0) 6 0) (ad 0) 6 (-14)) _
              refine r_iload rfl rfl ?_
              refine WR_tI (y := nI k2) ek2 ?_
              refine r_cs (y := 153) (ra := [.int (nI k2)]) (rest := []) rfl ⟨⟨rfl, rfl⟩, by decide⟩ rfl rfl (Nat.le_of_ble_eq_true rfl) ?_
              refine in_153 (Nat.le_of_ble_eq_true rfl) ?_
              show WR _ cd_153 0 [some (.int (nI k2))] [] (sI (sI h (ad 0) 6 0) (ad 0) 6 (-14)) _
              refine r_iload rfl rfl ?_
              refine r_if_lt (tg := 14) rfl rfl (fun q => False.elim (by have : (nI k2).toInt = ((k2 : Nat) : Int) := nI_toInt (by omega); have : (0 : Int32).toInt = 0 := rfl; have := i_eq ek2; have := i_rg c; have := i_nle c3; have : (24 : Int32).toInt = 24 := rfl; have := i_nlt c1; have := i_lt q; omega)) (fun _ => ?_)
              refine r_iload rfl rfl ?_
              refine r_ic (x := 24) rfl rfl ?_
              refine r_icmp_ge (tg := 14) rfl rfl (fun q => False.elim (by have : (nI k2).toInt = ((k2 : Nat) : Int) := nI_toInt (by omega); have : (24 : Int32).toInt = 24 := rfl; have := i_eq ek2; have := i_rg c; have := i_nle c3; have := i_nlt c1; have : (0 : Int32).toInt = 0 := rfl; have := i_le q; omega)) (fun _ => ?_)
              refine r_ic (x := 1) rfl rfl ?_
              refine r_goto (tg := 15) rfl rfl ?_
              refine r_zret rfl (.inr rfl) ?_
              show WR _ cd_180 4 [some (.ref (ad 30)), some (.int c), some (.int a), none] [.int 1] (sI (sI h (ad 0) 6 0) (ad 0) 6 (-14)) _
              refine r_if_ne (tg := 14) rfl rfl (fun _ => ?_) (fun q => absurd q (by decide))
              refine r_iload rfl rfl ?_
              refine WR_tI (y := nI k5) ek5 ?_
              refine r_i2l rfl ?_
              refine WR_tL (y := lN k5) (nI_l (by have := i_eq ek5; have : (nI k5).toInt = ((k5 : Nat) : Int) := nI_toInt (by omega); have := i_rg a; have := i_le c6; have : (9 : Int32).toInt = 9 := rfl; have := i_nlt c4; have : (0 : Int32).toInt = 0 := rfl; omega)) ?_
              refine r_lc (x := 0) rfl rfl ?_
              refine r_ldc (x := .long 9) rfl rfl ?_
              refine r_cs (y := 155) (ra := [.long 9, .long 0, .long (lN k5)]) (rest := []) rfl ⟨⟨rfl, rfl⟩, by decide⟩ rfl rfl (Nat.le_of_ble_eq_true rfl) ?_
              refine in_155 (Nat.le_of_ble_eq_true rfl) ?_
              show WR _ cd_155 0 [some (.long (lN k5)), none, some (.long 0), none, some (.long 9), none] [] (sI (sI h (ad 0) 6 0) (ad 0) 6 (-14)) _
              refine r_lload rfl rfl ?_
              refine r_lload rfl rfl ?_
              refine r_lif_lt (tg := 17) rfl rfl rfl (fun q => False.elim (by have : (lN k5).toInt = ((k5 : Nat) : Int) := lN_toInt (by omega); have : (0 : Int64).toInt = 0 := rfl; have := i_eq ek5; have : (nI k5).toInt = ((k5 : Nat) : Int) := nI_toInt (by omega); have := i_rg a; have := i_le c6; have : (9 : Int32).toInt = 9 := rfl; have := i_nlt c4; have : (0 : Int32).toInt = 0 := rfl; have := l_lt q; omega)) (fun _ => ?_)
              refine r_lload rfl rfl ?_
              refine r_lload rfl rfl ?_
              refine r_lif_gt (tg := 17) rfl rfl rfl (fun q => False.elim (by have : (lN k5).toInt = ((k5 : Nat) : Int) := lN_toInt (by omega); have : (9 : Int64).toInt = 9 := rfl; have := i_eq ek5; have : (nI k5).toInt = ((k5 : Nat) : Int) := nI_toInt (by omega); have := i_rg a; have := i_le c6; have : (9 : Int32).toInt = 9 := rfl; have := i_nlt c4; have : (0 : Int32).toInt = 0 := rfl; have := i_neq c10; have := l_lt q; omega)) (fun _ => ?_)
              refine r_ic (x := 1) rfl rfl ?_
              refine r_goto (tg := 18) rfl rfl ?_
              refine r_zret rfl (.inr rfl) ?_
              show WR _ cd_180 23 [some (.ref (ad 30)), some (.int c), some (.int a), none] [.int 1] (sI (sI h (ad 0) 6 0) (ad 0) 6 (-14)) _
              refine r_if_ne (tg := 33) rfl rfl (fun _ => ?_) (fun q => absurd q (by decide))
              refine r_aload rfl rfl ?_
              refine r_getA (b := ad 31) rfl ⟨rfl, rfl, rfl⟩ (fx_t30 fx) (fx_r30_0 fx) ?_
              refine r_iload rfl rfl ?_
              refine WR_tI (y := nI k2) ek2 ?_
              refine r_iaload rfl (.inl (fx_t31 fx)) (vp_ct (fx_n31 fx) (vp_in_nI (by have := i_eq ek2; have : (nI k2).toInt = ((k2 : Nat) : Int) := nI_toInt (by omega); have := i_rg c; have := i_nle c3; have : (24 : Int32).toInt = 24 := rfl; have := i_nlt c1; have : (0 : Int32).toInt = 0 := rfl; omega) (by omega))) ?_
              refine WR_tI (congrArg (hI (sI (sI h (ad 0) 6 0) (ad 0) 6 (-14)) (ad 31)) ((nI_clamp (by have := i_eq ek2; have : (nI k2).toInt = ((k2 : Nat) : Int) := nI_toInt (by omega); have := i_rg c; have := i_nle c3; have : (24 : Int32).toInt = 24 := rfl; have := i_nlt c1; have : (0 : Int32).toInt = 0 := rfl; omega)) : _ = k2)) ?_
              refine WR_tI (y := nI t7) (Eq.trans (I_ne (fx_ne fx (by decide))) (Eq.trans (I_ne (fx_ne fx (by decide))) v7)) ?_
              refine r_istore (lv' := [some (.ref (ad 30)), some (.int c), some (.int a), some (.int (nI t7))]) rfl (Nat.le_of_ble_eq_true rfl) rfl ?_
              refine r_iload rfl rfl ?_
              refine r_ic (x := (-1)) rfl rfl ?_
              refine r_icmp_eq (tg := 60) rfl rfl (fun q => False.elim (by have : (nI t7).toInt = ((t7 : Nat) : Int) := nI_toInt (by omega); have : (-1 : Int32).toInt = -1 := rfl; have := i_eq q; omega)) (fun _ => ?_)
              refine r_aload rfl rfl ?_
              refine r_iload rfl rfl ?_
              refine r_cv (y := 166) (ra := [.int (nI t7)]) (rest := []) rfl ⟨⟨rfl, rfl⟩, rfl, by decide⟩ (fx_t30 fx) rfl rfl (Nat.le_of_ble_eq_true rfl) ?_
              refine in_166 (Nat.le_of_ble_eq_true rfl) ?_
              show WR _ cd_166 0 [some (.ref (ad 30)), some (.int (nI t7))] [] (sI (sI h (ad 0) 6 0) (ad 0) 6 (-14)) _
              refine r_iload rfl rfl ?_
              refine r_ic (x := (-1)) rfl rfl ?_
              refine r_icmp_ne (tg := 9) rfl rfl (fun _ => ?_) (fun q => False.elim (by have : (nI t7).toInt = ((t7 : Nat) : Int) := nI_toInt (by omega); have : (-1 : Int32).toInt = -1 := rfl; have := i_eq q; omega))
              refine r_iload rfl rfl ?_
              refine r_ic (x := 1000) rfl rfl ?_
              refine r_icmp_lt (tg := 21) rfl rfl (fun _ => ?_) (fun q => False.elim (by have : (nI t7).toInt = ((t7 : Nat) : Int) := nI_toInt (by omega); have : (1000 : Int32).toInt = 1000 := rfl; have := i_nlt q; omega))
              refine r_aload rfl rfl ?_
              refine r_getA (b := ad 33) rfl ⟨rfl, rfl, rfl⟩ (fx_t30 fx) (fx_r30_2 fx) ?_
              refine r_iload rfl rfl ?_
              refine r_iaload rfl (.inl (fx_t33 fx)) (vp_ct (fx_n33 fx) (vp_in_nI (by omega) (by omega))) ?_
              refine WR_tI (congrArg (hI (sI (sI h (ad 0) 6 0) (ad 0) 6 (-14)) (ad 33)) ((nI_clamp (by omega)) : _ = t7)) ?_
              refine WR_tI (y := 9) (Eq.trans (I_ne (fx_ne fx (by decide))) (Eq.trans (I_ne (fx_ne fx (by decide))) l2_7)) ?_
              refine r_iret rfl ?_
              show WR _ cd_180 50 [some (.ref (ad 30)), some (.int c), some (.int a), some (.int (nI t7))] [.int 9] (sI (sI h (ad 0) 6 0) (ad 0) 6 (-14)) _
              refine r_iload rfl rfl ?_
              refine WR_tI (y := nI k5) ek5 ?_
              refine r_icmp_eq (tg := 60) rfl rfl (fun q => False.elim (by have : (9 : Int32).toInt = 9 := rfl; have : (nI k5).toInt = ((k5 : Nat) : Int) := nI_toInt (by omega); have := i_eq ek5; have := i_rg a; have := i_le c6; have := i_nlt c4; have : (0 : Int32).toInt = 0 := rfl; have := i_neq c10; have := i_eq q; omega)) (fun _ => ?_)
              refine r_aload rfl rfl ?_
              refine r_ic (x := 4) rfl rfl ?_
              refine r_cv (y := 156) (ra := [.int 4]) (rest := []) rfl ⟨⟨rfl, rfl⟩, rfl, by decide⟩ (fx_t30 fx) rfl rfl (Nat.le_of_ble_eq_true rfl) ?_
              refine in_156 (Nat.le_of_ble_eq_true rfl) ?_
              show WR _ cd_156 0 [some (.ref (ad 30)), some (.int 4)] [] (sI (sI h (ad 0) 6 0) (ad 0) 6 (-14)) _
              refine r_aload rfl rfl ?_
              refine r_ic (x := (-10)) rfl rfl ?_
              refine r_iload rfl rfl ?_
              refine r_isub rfl ?_
              refine WR_tI (y := (-14)) rfl ?_
              refine r_cv (y := 154) (ra := [.int (-14)]) (rest := []) rfl ⟨⟨rfl, rfl⟩, rfl, by decide⟩ (fx_t30 fx) rfl rfl (Nat.le_of_ble_eq_true rfl) ?_
              refine in_154 (Nat.le_of_ble_eq_true rfl) ?_
              show WR _ cd_154 0 [some (.ref (ad 30)), some (.int (-14))] [] (sI (sI h (ad 0) 6 0) (ad 0) 6 (-14)) _
              refine r_aload rfl rfl ?_
              refine r_iload rfl rfl ?_
              refine r_ic (x := (-1)) rfl rfl ?_
              refine r_icmp_ge (tg := 10) rfl rfl (fun q => absurd q (by decide)) (fun _ => ?_)
              refine r_iload rfl rfl ?_
              refine r_goto (tg := 11) rfl rfl ?_
              refine r_putI rfl ⟨rfl, rfl, rfl⟩ (fx_t30 fx) ?_
              refine r_iload rfl rfl ?_
              refine r_iret rfl ?_
              show WR _ cd_156 8 [some (.ref (ad 30)), some (.int 4)] [.int (-14)] (sI (sI (sI h (ad 0) 6 0) (ad 0) 6 (-14)) (ad 30) 11 (-14)) _
              refine r_iret rfl ?_
              show WR _ cd_180 59 [some (.ref (ad 30)), some (.int c), some (.int a), some (.int (nI t7))] [.int (-14)] (sI (sI (sI h (ad 0) 6 0) (ad 0) 6 (-14)) (ad 30) 11 (-14)) _
              refine r_iret rfl ?_
              exact ⟨rfl, Rel.why r (((Chg.rf.sI (fx_j fx) (.inl (by decide))).sI (fx_j fx) (.inl (by decide))).sI (fx_j fx) (.inl (by decide))) ⟨rfl, by decide⟩ (Eq.trans (Eq.trans (I_ne (fx_ne fx (by decide))) I_eq) (Eq.symm I_eq)), Nat.le_add_right _ _, Nat.le_add_right _ _⟩
            · refine r_aload rfl rfl ?_
              refine r_cw (y := 35) (ra := []) (rest := []) rfl ⟨rfl, rfl⟩ (by rw [show hT (sI h (ad 0) 6 0) (mid t7) = 6 from tg7]; rfl) rfl rfl (Nat.le_of_ble_eq_true rfl) ?_
              refine in_35 (Nat.le_of_ble_eq_true rfl) ?_
              show WR _ cd_35 0 [some (.ref (mid t7))] [] (sI h (ad 0) 6 0) _
              refine r_aload rfl rfl ?_
              refine r_getA (b := mid t7 + 1) rfl ⟨rfl, rfl, rfl⟩ tg7 (Eq.trans R_oI r_7) ?_
              refine r_alen rfl (isA_of tg2_7 (by decide)) ?_
              refine WR_tI (y := nI sz7) (congrArg nI n_7) ?_
              refine r_iret rfl ?_
              show WR _ cd_58 66 [some (.ref (ad 0)), some (.int c), some (.int a), some (.ref (mid t7))] [.int (nI sz7)] (sI h (ad 0) 6 0) _
              refine r_goto (tg := 75) rfl rfl ?_
              refine r_iret rfl ?_
              show EV _ 180 [.ref (ad 30), .int c, .int a] (sI h (ad 0) 6 0) _
              refine in_180 (Nat.le_of_ble_eq_true rfl) ?_
              show WR _ cd_180 0 [some (.ref (ad 30)), some (.int c), some (.int a), none] [] (sI h (ad 0) 6 0) _
              refine r_iload rfl rfl ?_
              refine WR_tI (y := nI k2) ek2 ?_
              refine r_cs (y := 153) (ra := [.int (nI k2)]) (rest := []) rfl ⟨⟨rfl, rfl⟩, by decide⟩ rfl rfl (Nat.le_of_ble_eq_true rfl) ?_
              refine in_153 (Nat.le_of_ble_eq_true rfl) ?_
              show WR _ cd_153 0 [some (.int (nI k2))] [] (sI h (ad 0) 6 0) _
              refine r_iload rfl rfl ?_
              refine r_if_lt (tg := 14) rfl rfl (fun q => False.elim (by have : (nI k2).toInt = ((k2 : Nat) : Int) := nI_toInt (by omega); have : (0 : Int32).toInt = 0 := rfl; have := i_eq ek2; have := i_rg c; have := i_nle c3; have : (24 : Int32).toInt = 24 := rfl; have := i_nlt c1; have := i_lt q; omega)) (fun _ => ?_)
              refine r_iload rfl rfl ?_
              refine r_ic (x := 24) rfl rfl ?_
              refine r_icmp_ge (tg := 14) rfl rfl (fun q => False.elim (by have : (nI k2).toInt = ((k2 : Nat) : Int) := nI_toInt (by omega); have : (24 : Int32).toInt = 24 := rfl; have := i_eq ek2; have := i_rg c; have := i_nle c3; have := i_nlt c1; have : (0 : Int32).toInt = 0 := rfl; have := i_le q; omega)) (fun _ => ?_)
              refine r_ic (x := 1) rfl rfl ?_
              refine r_goto (tg := 15) rfl rfl ?_
              refine r_zret rfl (.inr rfl) ?_
              show WR _ cd_180 4 [some (.ref (ad 30)), some (.int c), some (.int a), none] [.int 1] (sI h (ad 0) 6 0) _
              refine r_if_ne (tg := 14) rfl rfl (fun _ => ?_) (fun q => absurd q (by decide))
              refine r_iload rfl rfl ?_
              refine WR_tI (y := nI k5) ek5 ?_
              refine r_i2l rfl ?_
              refine WR_tL (y := lN k5) (nI_l (by have := i_eq ek5; have : (nI k5).toInt = ((k5 : Nat) : Int) := nI_toInt (by omega); have := i_rg a; have := i_le c6; have : (9 : Int32).toInt = 9 := rfl; have := i_eq c10; have := i_nlt c4; have : (0 : Int32).toInt = 0 := rfl; omega)) ?_
              refine r_lc (x := 0) rfl rfl ?_
              refine r_ldc (x := .long 9) rfl rfl ?_
              refine r_cs (y := 155) (ra := [.long 9, .long 0, .long (lN k5)]) (rest := []) rfl ⟨⟨rfl, rfl⟩, by decide⟩ rfl rfl (Nat.le_of_ble_eq_true rfl) ?_
              refine in_155 (Nat.le_of_ble_eq_true rfl) ?_
              show WR _ cd_155 0 [some (.long (lN k5)), none, some (.long 0), none, some (.long 9), none] [] (sI h (ad 0) 6 0) _
              refine r_lload rfl rfl ?_
              refine r_lload rfl rfl ?_
              refine r_lif_lt (tg := 17) rfl rfl rfl (fun q => False.elim (by have : (lN k5).toInt = ((k5 : Nat) : Int) := lN_toInt (by omega); have : (0 : Int64).toInt = 0 := rfl; have := i_eq ek5; have : (nI k5).toInt = ((k5 : Nat) : Int) := nI_toInt (by omega); have := i_rg a; have := i_le c6; have : (9 : Int32).toInt = 9 := rfl; have := i_eq c10; have := i_nlt c4; have : (0 : Int32).toInt = 0 := rfl; have := l_lt q; omega)) (fun _ => ?_)
              refine r_lload rfl rfl ?_
              refine r_lload rfl rfl ?_
              refine r_lif_gt (tg := 17) rfl rfl rfl (fun q => False.elim (by have : (lN k5).toInt = ((k5 : Nat) : Int) := lN_toInt (by omega); have : (9 : Int64).toInt = 9 := rfl; have := i_eq ek5; have : (nI k5).toInt = ((k5 : Nat) : Int) := nI_toInt (by omega); have := i_rg a; have := i_le c6; have : (9 : Int32).toInt = 9 := rfl; have := i_eq c10; have := i_nlt c4; have : (0 : Int32).toInt = 0 := rfl; have := l_lt q; omega)) (fun _ => ?_)
              refine r_ic (x := 1) rfl rfl ?_
              refine r_goto (tg := 18) rfl rfl ?_
              refine r_zret rfl (.inr rfl) ?_
              show WR _ cd_180 23 [some (.ref (ad 30)), some (.int c), some (.int a), none] [.int 1] (sI h (ad 0) 6 0) _
              refine r_if_ne (tg := 33) rfl rfl (fun _ => ?_) (fun q => absurd q (by decide))
              refine r_aload rfl rfl ?_
              refine r_getA (b := ad 31) rfl ⟨rfl, rfl, rfl⟩ (fx_t30 fx) (fx_r30_0 fx) ?_
              refine r_iload rfl rfl ?_
              refine WR_tI (y := nI k2) ek2 ?_
              refine r_iaload rfl (.inl (fx_t31 fx)) (vp_ct (fx_n31 fx) (vp_in_nI (by have := i_eq ek2; have : (nI k2).toInt = ((k2 : Nat) : Int) := nI_toInt (by omega); have := i_rg c; have := i_nle c3; have : (24 : Int32).toInt = 24 := rfl; have := i_nlt c1; have : (0 : Int32).toInt = 0 := rfl; omega) (by omega))) ?_
              refine WR_tI (congrArg (hI (sI h (ad 0) 6 0) (ad 31)) ((nI_clamp (by have := i_eq ek2; have : (nI k2).toInt = ((k2 : Nat) : Int) := nI_toInt (by omega); have := i_rg c; have := i_nle c3; have : (24 : Int32).toInt = 24 := rfl; have := i_nlt c1; have : (0 : Int32).toInt = 0 := rfl; omega)) : _ = k2)) ?_
              refine WR_tI (y := nI t7) (Eq.trans (I_ne (fx_ne fx (by decide))) v7) ?_
              refine r_istore (lv' := [some (.ref (ad 30)), some (.int c), some (.int a), some (.int (nI t7))]) rfl (Nat.le_of_ble_eq_true rfl) rfl ?_
              refine r_iload rfl rfl ?_
              refine r_ic (x := (-1)) rfl rfl ?_
              refine r_icmp_eq (tg := 60) rfl rfl (fun q => False.elim (by have : (nI t7).toInt = ((t7 : Nat) : Int) := nI_toInt (by omega); have : (-1 : Int32).toInt = -1 := rfl; have := i_eq q; omega)) (fun _ => ?_)
              refine r_aload rfl rfl ?_
              refine r_iload rfl rfl ?_
              refine r_cv (y := 166) (ra := [.int (nI t7)]) (rest := []) rfl ⟨⟨rfl, rfl⟩, rfl, by decide⟩ (fx_t30 fx) rfl rfl (Nat.le_of_ble_eq_true rfl) ?_
              refine in_166 (Nat.le_of_ble_eq_true rfl) ?_
              show WR _ cd_166 0 [some (.ref (ad 30)), some (.int (nI t7))] [] (sI h (ad 0) 6 0) _
              refine r_iload rfl rfl ?_
              refine r_ic (x := (-1)) rfl rfl ?_
              refine r_icmp_ne (tg := 9) rfl rfl (fun _ => ?_) (fun q => False.elim (by have : (nI t7).toInt = ((t7 : Nat) : Int) := nI_toInt (by omega); have : (-1 : Int32).toInt = -1 := rfl; have := i_eq q; omega))
              refine r_iload rfl rfl ?_
              refine r_ic (x := 1000) rfl rfl ?_
              refine r_icmp_lt (tg := 21) rfl rfl (fun _ => ?_) (fun q => False.elim (by have : (nI t7).toInt = ((t7 : Nat) : Int) := nI_toInt (by omega); have : (1000 : Int32).toInt = 1000 := rfl; have := i_nlt q; omega))
              refine r_aload rfl rfl ?_
              refine r_getA (b := ad 33) rfl ⟨rfl, rfl, rfl⟩ (fx_t30 fx) (fx_r30_2 fx) ?_
              refine r_iload rfl rfl ?_
              refine r_iaload rfl (.inl (fx_t33 fx)) (vp_ct (fx_n33 fx) (vp_in_nI (by omega) (by omega))) ?_
              refine WR_tI (congrArg (hI (sI h (ad 0) 6 0) (ad 33)) ((nI_clamp (by omega)) : _ = t7)) ?_
              refine WR_tI (y := 9) (Eq.trans (I_ne (fx_ne fx (by decide))) l2_7) ?_
              refine r_iret rfl ?_
              show WR _ cd_180 50 [some (.ref (ad 30)), some (.int c), some (.int a), some (.int (nI t7))] [.int 9] (sI h (ad 0) 6 0) _
              refine r_iload rfl rfl ?_
              refine WR_tI (y := nI k5) ek5 ?_
              refine r_icmp_eq (tg := 60) rfl rfl (fun _ => ?_) (fun q => False.elim (by have : (9 : Int32).toInt = 9 := rfl; have : (nI k5).toInt = ((k5 : Nat) : Int) := nI_toInt (by omega); have := i_eq ek5; have := i_rg a; have := i_le c6; have := i_eq c10; have := i_nlt c4; have : (0 : Int32).toInt = 0 := rfl; have := i_neq q; omega))
              refine r_iload rfl rfl ?_
              refine r_ic (x := (-1)) rfl rfl ?_
              refine r_icmp_ne (tg := 73) rfl rfl (fun _ => ?_) (fun q => False.elim (by have : (nI t7).toInt = ((t7 : Nat) : Int) := nI_toInt (by omega); have : (-1 : Int32).toInt = -1 := rfl; have := i_eq q; omega))
              refine r_aload rfl rfl ?_
              refine r_aload rfl rfl ?_
              refine r_getA (b := ad 35) rfl ⟨rfl, rfl, rfl⟩ (fx_t30 fx) (fx_r30_4 fx) ?_
              refine r_iload rfl rfl ?_
              refine r_iaload rfl (.inl (fx_t35 fx)) (vp_ct (fx_n35 fx) (vp_in_nI (by omega) (by omega))) ?_
              refine WR_tI (congrArg (hI (sI h (ad 0) 6 0) (ad 35)) ((nI_clamp (by omega)) : _ = t7)) ?_
              refine WR_tI (y := nI sz7) (Eq.trans (I_ne (fx_ne fx (by decide))) sz_7) ?_
              refine r_cv (y := 154) (ra := [.int (nI sz7)]) (rest := []) rfl ⟨⟨rfl, rfl⟩, rfl, by decide⟩ (fx_t30 fx) rfl rfl (Nat.le_of_ble_eq_true rfl) ?_
              refine in_154 (Nat.le_of_ble_eq_true rfl) ?_
              show WR _ cd_154 0 [some (.ref (ad 30)), some (.int (nI sz7))] [] (sI h (ad 0) 6 0) _
              refine r_aload rfl rfl ?_
              refine r_iload rfl rfl ?_
              refine r_ic (x := (-1)) rfl rfl ?_
              refine r_icmp_ge (tg := 10) rfl rfl (fun _ => ?_) (fun q => False.elim (by have : (nI sz7).toInt = ((sz7 : Nat) : Int) := nI_toInt (by omega); have : (-1 : Int32).toInt = -1 := rfl; have := i_nle q; omega))
              refine r_ic (x := 0) rfl rfl ?_
              refine r_putI rfl ⟨rfl, rfl, rfl⟩ (fx_t30 fx) ?_
              refine r_iload rfl rfl ?_
              refine r_iret rfl ?_
              show WR _ cd_180 83 [some (.ref (ad 30)), some (.int c), some (.int a), some (.int (nI t7))] [.int (nI sz7)] (sI (sI h (ad 0) 6 0) (ad 30) 11 0) _
              refine r_iret rfl ?_
              exact ⟨rfl, Rel.why r ((Chg.rf.sI (fx_j fx) (.inl (by decide))).sI (fx_j fx) (.inl (by decide))) ⟨rfl, by decide⟩ (Eq.trans (Eq.trans (I_ne (fx_ne fx (by decide))) I_eq) (Eq.symm I_eq)), Nat.le_add_right _ _, Nat.le_add_right _ _⟩
        · refine r_aload rfl rfl ?_
          refine r_ic (x := (-3)) rfl rfl ?_
          refine r_cv (y := 13) (ra := [.int (-3)]) (rest := []) rfl ⟨⟨rfl, rfl⟩, rfl, by decide⟩ (fx_t0 fx) rfl rfl (Nat.le_of_ble_eq_true rfl) ?_
          refine in_13 (Nat.le_of_ble_eq_true rfl) ?_
          show WR _ cd_13 0 [some (.ref (ad 0)), some (.int (-3))] [] (sI h (ad 0) 6 0) _
          refine r_aload rfl rfl ?_
          refine r_iload rfl rfl ?_
          refine r_putI rfl ⟨rfl, rfl, rfl⟩ (fx_t0 fx) ?_
          refine r_iload rfl rfl ?_
          refine r_iret rfl ?_
          show WR _ cd_58 35 [some (.ref (ad 0)), some (.int c), some (.int a), none] [.int (-3)] (sI (sI h (ad 0) 6 0) (ad 0) 6 (-3)) _
          refine r_iret rfl ?_
          show EV _ 180 [.ref (ad 30), .int c, .int a] (sI (sI h (ad 0) 6 0) (ad 0) 6 (-3)) _
          refine in_180 (Nat.le_of_ble_eq_true rfl) ?_
          show WR _ cd_180 0 [some (.ref (ad 30)), some (.int c), some (.int a), none] [] (sI (sI h (ad 0) 6 0) (ad 0) 6 (-3)) _
          refine r_iload rfl rfl ?_
          refine WR_tI (y := nI k2) ek2 ?_
          refine r_cs (y := 153) (ra := [.int (nI k2)]) (rest := []) rfl ⟨⟨rfl, rfl⟩, by decide⟩ rfl rfl (Nat.le_of_ble_eq_true rfl) ?_
          refine in_153 (Nat.le_of_ble_eq_true rfl) ?_
          show WR _ cd_153 0 [some (.int (nI k2))] [] (sI (sI h (ad 0) 6 0) (ad 0) 6 (-3)) _
          refine r_iload rfl rfl ?_
          refine r_if_lt (tg := 14) rfl rfl (fun q => False.elim (by have : (nI k2).toInt = ((k2 : Nat) : Int) := nI_toInt (by omega); have : (0 : Int32).toInt = 0 := rfl; have := i_eq ek2; have := i_rg c; have := i_nle c3; have : (24 : Int32).toInt = 24 := rfl; have := i_nlt c1; have := i_lt q; omega)) (fun _ => ?_)
          refine r_iload rfl rfl ?_
          refine r_ic (x := 24) rfl rfl ?_
          refine r_icmp_ge (tg := 14) rfl rfl (fun q => False.elim (by have : (nI k2).toInt = ((k2 : Nat) : Int) := nI_toInt (by omega); have : (24 : Int32).toInt = 24 := rfl; have := i_eq ek2; have := i_rg c; have := i_nle c3; have := i_nlt c1; have : (0 : Int32).toInt = 0 := rfl; have := i_le q; omega)) (fun _ => ?_)
          refine r_ic (x := 1) rfl rfl ?_
          refine r_goto (tg := 15) rfl rfl ?_
          refine r_zret rfl (.inr rfl) ?_
          show WR _ cd_180 4 [some (.ref (ad 30)), some (.int c), some (.int a), none] [.int 1] (sI (sI h (ad 0) 6 0) (ad 0) 6 (-3)) _
          refine r_if_ne (tg := 14) rfl rfl (fun _ => ?_) (fun q => absurd q (by decide))
          refine r_iload rfl rfl ?_
          refine WR_tI (y := nI k5) ek5 ?_
          refine r_i2l rfl ?_
          refine WR_tL (y := lN k5) (nI_l (by have := i_eq ek5; have : (nI k5).toInt = ((k5 : Nat) : Int) := nI_toInt (by omega); have := i_rg a; have := i_nle c6; have : (9 : Int32).toInt = 9 := rfl; have := i_nlt c4; have : (0 : Int32).toInt = 0 := rfl; omega)) ?_
          refine r_lc (x := 0) rfl rfl ?_
          refine r_ldc (x := .long 9) rfl rfl ?_
          refine r_cs (y := 155) (ra := [.long 9, .long 0, .long (lN k5)]) (rest := []) rfl ⟨⟨rfl, rfl⟩, by decide⟩ rfl rfl (Nat.le_of_ble_eq_true rfl) ?_
          refine in_155 (Nat.le_of_ble_eq_true rfl) ?_
          show WR _ cd_155 0 [some (.long (lN k5)), none, some (.long 0), none, some (.long 9), none] [] (sI (sI h (ad 0) 6 0) (ad 0) 6 (-3)) _
          refine r_lload rfl rfl ?_
          refine r_lload rfl rfl ?_
          refine r_lif_lt (tg := 17) rfl rfl rfl (fun q => False.elim (by have : (lN k5).toInt = ((k5 : Nat) : Int) := lN_toInt (by omega); have : (0 : Int64).toInt = 0 := rfl; have := i_eq ek5; have : (nI k5).toInt = ((k5 : Nat) : Int) := nI_toInt (by omega); have := i_rg a; have := i_nle c6; have : (9 : Int32).toInt = 9 := rfl; have := i_nlt c4; have : (0 : Int32).toInt = 0 := rfl; have := l_lt q; omega)) (fun _ => ?_)
          refine r_lload rfl rfl ?_
          refine r_lload rfl rfl ?_
          refine r_lif_gt (tg := 17) rfl rfl rfl (fun _ => ?_) (fun q => False.elim (by have : (lN k5).toInt = ((k5 : Nat) : Int) := lN_toInt (by omega); have : (9 : Int64).toInt = 9 := rfl; have := i_eq ek5; have : (nI k5).toInt = ((k5 : Nat) : Int) := nI_toInt (by omega); have := i_rg a; have := i_nle c6; have : (9 : Int32).toInt = 9 := rfl; have := i_nlt c4; have : (0 : Int32).toInt = 0 := rfl; have := l_nlt q; omega))
          refine r_ic (x := 0) rfl rfl ?_
          refine r_zret rfl (.inl rfl) ?_
          show WR _ cd_180 23 [some (.ref (ad 30)), some (.int c), some (.int a), none] [.int 0] (sI (sI h (ad 0) 6 0) (ad 0) 6 (-3)) _
          refine r_if_ne (tg := 33) rfl rfl (fun q => absurd q (by decide)) (fun _ => ?_)
          refine r_aload rfl rfl ?_
          refine r_ic (x := (-3)) rfl rfl ?_
          refine r_cv (y := 154) (ra := [.int (-3)]) (rest := []) rfl ⟨⟨rfl, rfl⟩, rfl, by decide⟩ (fx_t30 fx) rfl rfl (Nat.le_of_ble_eq_true rfl) ?_
          refine in_154 (Nat.le_of_ble_eq_true rfl) ?_
          show WR _ cd_154 0 [some (.ref (ad 30)), some (.int (-3))] [] (sI (sI h (ad 0) 6 0) (ad 0) 6 (-3)) _
          refine r_aload rfl rfl ?_
          refine r_iload rfl rfl ?_
          refine r_ic (x := (-1)) rfl rfl ?_
          refine r_icmp_ge (tg := 10) rfl rfl (fun q => absurd q (by decide)) (fun _ => ?_)
          refine r_iload rfl rfl ?_
          refine r_goto (tg := 11) rfl rfl ?_
          refine r_putI rfl ⟨rfl, rfl, rfl⟩ (fx_t30 fx) ?_
          refine r_iload rfl rfl ?_
          refine r_iret rfl ?_
          show WR _ cd_180 32 [some (.ref (ad 30)), some (.int c), some (.int a), none] [.int (-3)] (sI (sI (sI h (ad 0) 6 0) (ad 0) 6 (-3)) (ad 30) 11 (-3)) _
          refine r_iret rfl ?_
          exact ⟨rfl, Rel.why r (((Chg.rf.sI (fx_j fx) (.inl (by decide))).sI (fx_j fx) (.inl (by decide))).sI (fx_j fx) (.inl (by decide))) ⟨rfl, by decide⟩ (Eq.trans (Eq.trans (I_ne (fx_ne fx (by decide))) I_eq) (Eq.symm I_eq)), Nat.le_add_right _ _, Nat.le_add_right _ _⟩

set_option maxHeartbeats 2000000 in
theorem k_told {n : Nat} {ad sa : Nat → Nat} {z0 : Nat} {h : mH} (r : Rel n ad sa z0 h) (c : Int32) (w : Int32) : AP n ad sa z0 h 72 190 [.int c, .int w] := by
  obtain ⟨mid, pa, np, fx, ry, rt, ra, rp, rf, rst, ru, rs⟩ := id r
  have fx0 := fx
  unfold AP
  refine in_72 (Nat.le_of_ble_eq_true rfl) ?_
  show WR _ cd_72 0 [some (.ref (ad 0)), some (.int c), some (.int w), none] [] h _
  refine r_aload rfl rfl ?_
  refine r_ic (x := 0) rfl rfl ?_
  refine r_putI rfl ⟨rfl, rfl, rfl⟩ (fx_t0 fx) ?_
  refine r_iload rfl rfl ?_
  refine r_cs (y := 12) (ra := [.int c]) (rest := []) rfl ⟨⟨rfl, rfl⟩, by decide⟩ rfl rfl (Nat.le_of_ble_eq_true rfl) ?_
  refine in_12 (Nat.le_of_ble_eq_true rfl) ?_
  show WR _ cd_12 0 [some (.int c)] [] (sI h (ad 0) 6 0) _
  refine r_iload rfl rfl ?_
  refine r_if_lt (tg := 14) rfl rfl (fun c1 => ?_) (fun c1 => ?_)
  · refine r_ic (x := 0) rfl rfl ?_
    refine r_zret rfl (.inl rfl) ?_
    show WR _ cd_72 9 [some (.ref (ad 0)), some (.int c), some (.int w), none] [.int 0] (sI h (ad 0) 6 0) _
    refine r_if_ne (tg := 19) rfl rfl (fun q => absurd q (by decide)) (fun _ => ?_)
    refine r_aload rfl rfl ?_
    refine r_ic (x := (-2)) rfl rfl ?_
    refine r_cv (y := 65) (ra := [.int (-2)]) (rest := []) rfl ⟨⟨rfl, rfl⟩, rfl, by decide⟩ (fx_t0 fx) rfl rfl (Nat.le_of_ble_eq_true rfl) ?_
    refine in_65 (Nat.le_of_ble_eq_true rfl) ?_
    show WR _ cd_65 0 [some (.ref (ad 0)), some (.int (-2))] [] (sI h (ad 0) 6 0) _
    refine r_aload rfl rfl ?_
    refine r_iload rfl rfl ?_
    refine r_putI rfl ⟨rfl, rfl, rfl⟩ (fx_t0 fx) ?_
    refine r_lc (x := 0) rfl rfl ?_
    refine r_lret rfl ?_
    show WR _ cd_72 18 [some (.ref (ad 0)), some (.int c), some (.int w), none] [.long 0] (sI (sI h (ad 0) 6 0) (ad 0) 6 (-2)) _
    refine r_lret rfl ?_
    show EV _ 190 [.ref (ad 30), .int c, .int w] (sI (sI h (ad 0) 6 0) (ad 0) 6 (-2)) _
    refine in_190 (Nat.le_of_ble_eq_true rfl) ?_
    show WR _ cd_190 0 [some (.ref (ad 30)), some (.int c), some (.int w), none, none] [] (sI (sI h (ad 0) 6 0) (ad 0) 6 (-2)) _
    refine r_iload rfl rfl ?_
    refine r_cs (y := 153) (ra := [.int c]) (rest := []) rfl ⟨⟨rfl, rfl⟩, by decide⟩ rfl rfl (Nat.le_of_ble_eq_true rfl) ?_
    refine in_153 (Nat.le_of_ble_eq_true rfl) ?_
    show WR _ cd_153 0 [some (.int c)] [] (sI (sI h (ad 0) 6 0) (ad 0) 6 (-2)) _
    refine r_iload rfl rfl ?_
    refine r_if_lt (tg := 14) rfl rfl (fun _ => ?_) (fun q => False.elim (by have := i_rg c; have : (0 : Int32).toInt = 0 := rfl; have := i_lt c1; have := i_nlt q; omega))
    refine r_ic (x := 0) rfl rfl ?_
    refine r_zret rfl (.inl rfl) ?_
    show WR _ cd_190 4 [some (.ref (ad 30)), some (.int c), some (.int w), none, none] [.int 0] (sI (sI h (ad 0) 6 0) (ad 0) 6 (-2)) _
    refine r_if_ne (tg := 14) rfl rfl (fun q => absurd q (by decide)) (fun _ => ?_)
    refine r_aload rfl rfl ?_
    refine r_ic (x := (-2)) rfl rfl ?_
    refine r_cv (y := 171) (ra := [.int (-2)]) (rest := []) rfl ⟨⟨rfl, rfl⟩, rfl, by decide⟩ (fx_t30 fx) rfl rfl (Nat.le_of_ble_eq_true rfl) ?_
    refine in_171 (Nat.le_of_ble_eq_true rfl) ?_
    show WR _ cd_171 0 [some (.ref (ad 30)), some (.int (-2))] [] (sI (sI h (ad 0) 6 0) (ad 0) 6 (-2)) _
    refine r_aload rfl rfl ?_
    refine r_iload rfl rfl ?_
    refine r_putI rfl ⟨rfl, rfl, rfl⟩ (fx_t30 fx) ?_
    refine r_lc (x := 0) rfl rfl ?_
    refine r_lret rfl ?_
    show WR _ cd_190 13 [some (.ref (ad 30)), some (.int c), some (.int w), none, none] [.long 0] (sI (sI (sI h (ad 0) 6 0) (ad 0) 6 (-2)) (ad 30) 11 (-2)) _
    refine r_lret rfl ?_
    exact ⟨rfl, Rel.why r (((Chg.rf.sI (fx_j fx) (.inl (by decide))).sI (fx_j fx) (.inl (by decide))).sI (fx_j fx) (.inl (by decide))) ⟨rfl, by decide⟩ (Eq.trans (Eq.trans (I_ne (fx_ne fx (by decide))) I_eq) (Eq.symm I_eq)), Nat.le_add_right _ _, Nat.le_add_right _ _⟩
  · obtain ⟨k2, hk2, ek2⟩ := ix_of (x := c) (n := 2147483648) (by have := i_rg c; have := i_nlt c1; have : (0 : Int32).toInt = 0 := rfl; omega) (by have := i_rg c; have := i_nlt c1; have : (0 : Int32).toInt = 0 := rfl; omega)
    refine r_iload rfl rfl ?_
    refine WR_tI (y := nI k2) ek2 ?_
    refine r_ic (x := 24) rfl rfl ?_
    refine r_icmp_ge (tg := 14) rfl rfl (fun c3 => ?_) (fun c3 => ?_)
    · refine r_ic (x := 0) rfl rfl ?_
      refine r_zret rfl (.inl rfl) ?_
      show WR _ cd_72 9 [some (.ref (ad 0)), some (.int c), some (.int w), none] [.int 0] (sI h (ad 0) 6 0) _
      refine r_if_ne (tg := 19) rfl rfl (fun q => absurd q (by decide)) (fun _ => ?_)
      refine r_aload rfl rfl ?_
      refine r_ic (x := (-2)) rfl rfl ?_
      refine r_cv (y := 65) (ra := [.int (-2)]) (rest := []) rfl ⟨⟨rfl, rfl⟩, rfl, by decide⟩ (fx_t0 fx) rfl rfl (Nat.le_of_ble_eq_true rfl) ?_
      refine in_65 (Nat.le_of_ble_eq_true rfl) ?_
      show WR _ cd_65 0 [some (.ref (ad 0)), some (.int (-2))] [] (sI h (ad 0) 6 0) _
      refine r_aload rfl rfl ?_
      refine r_iload rfl rfl ?_
      refine r_putI rfl ⟨rfl, rfl, rfl⟩ (fx_t0 fx) ?_
      refine r_lc (x := 0) rfl rfl ?_
      refine r_lret rfl ?_
      show WR _ cd_72 18 [some (.ref (ad 0)), some (.int c), some (.int w), none] [.long 0] (sI (sI h (ad 0) 6 0) (ad 0) 6 (-2)) _
      refine r_lret rfl ?_
      show EV _ 190 [.ref (ad 30), .int c, .int w] (sI (sI h (ad 0) 6 0) (ad 0) 6 (-2)) _
      refine in_190 (Nat.le_of_ble_eq_true rfl) ?_
      show WR _ cd_190 0 [some (.ref (ad 30)), some (.int c), some (.int w), none, none] [] (sI (sI h (ad 0) 6 0) (ad 0) 6 (-2)) _
      refine r_iload rfl rfl ?_
      refine WR_tI (y := nI k2) ek2 ?_
      refine r_cs (y := 153) (ra := [.int (nI k2)]) (rest := []) rfl ⟨⟨rfl, rfl⟩, by decide⟩ rfl rfl (Nat.le_of_ble_eq_true rfl) ?_
      refine in_153 (Nat.le_of_ble_eq_true rfl) ?_
      show WR _ cd_153 0 [some (.int (nI k2))] [] (sI (sI h (ad 0) 6 0) (ad 0) 6 (-2)) _
      refine r_iload rfl rfl ?_
      refine r_if_lt (tg := 14) rfl rfl (fun q => False.elim (by have : (nI k2).toInt = ((k2 : Nat) : Int) := nI_toInt (by omega); have : (0 : Int32).toInt = 0 := rfl; have := i_eq ek2; have := i_rg c; have := i_le c3; have : (24 : Int32).toInt = 24 := rfl; have := i_nlt c1; have := i_lt q; omega)) (fun _ => ?_)
      refine r_iload rfl rfl ?_
      refine r_ic (x := 24) rfl rfl ?_
      refine r_icmp_ge (tg := 14) rfl rfl (fun _ => ?_) (fun q => False.elim (by have : (nI k2).toInt = ((k2 : Nat) : Int) := nI_toInt (by omega); have : (24 : Int32).toInt = 24 := rfl; have := i_eq ek2; have := i_rg c; have := i_le c3; have := i_nlt c1; have : (0 : Int32).toInt = 0 := rfl; have := i_nle q; omega))
      refine r_ic (x := 0) rfl rfl ?_
      refine r_zret rfl (.inl rfl) ?_
      show WR _ cd_190 4 [some (.ref (ad 30)), some (.int c), some (.int w), none, none] [.int 0] (sI (sI h (ad 0) 6 0) (ad 0) 6 (-2)) _
      refine r_if_ne (tg := 14) rfl rfl (fun q => absurd q (by decide)) (fun _ => ?_)
      refine r_aload rfl rfl ?_
      refine r_ic (x := (-2)) rfl rfl ?_
      refine r_cv (y := 171) (ra := [.int (-2)]) (rest := []) rfl ⟨⟨rfl, rfl⟩, rfl, by decide⟩ (fx_t30 fx) rfl rfl (Nat.le_of_ble_eq_true rfl) ?_
      refine in_171 (Nat.le_of_ble_eq_true rfl) ?_
      show WR _ cd_171 0 [some (.ref (ad 30)), some (.int (-2))] [] (sI (sI h (ad 0) 6 0) (ad 0) 6 (-2)) _
      refine r_aload rfl rfl ?_
      refine r_iload rfl rfl ?_
      refine r_putI rfl ⟨rfl, rfl, rfl⟩ (fx_t30 fx) ?_
      refine r_lc (x := 0) rfl rfl ?_
      refine r_lret rfl ?_
      show WR _ cd_190 13 [some (.ref (ad 30)), some (.int c), some (.int w), none, none] [.long 0] (sI (sI (sI h (ad 0) 6 0) (ad 0) 6 (-2)) (ad 30) 11 (-2)) _
      refine r_lret rfl ?_
      exact ⟨rfl, Rel.why r (((Chg.rf.sI (fx_j fx) (.inl (by decide))).sI (fx_j fx) (.inl (by decide))).sI (fx_j fx) (.inl (by decide))) ⟨rfl, by decide⟩ (Eq.trans (Eq.trans (I_ne (fx_ne fx (by decide))) I_eq) (Eq.symm I_eq)), Nat.le_add_right _ _, Nat.le_add_right _ _⟩
    · refine r_ic (x := 1) rfl rfl ?_
      refine r_goto (tg := 15) rfl rfl ?_
      refine r_zret rfl (.inr rfl) ?_
      show WR _ cd_72 9 [some (.ref (ad 0)), some (.int c), some (.int w), none] [.int 1] (sI h (ad 0) 6 0) _
      refine r_if_ne (tg := 19) rfl rfl (fun _ => ?_) (fun q => absurd q (by decide))
      refine r_iload rfl rfl ?_
      refine r_if_lt (tg := 28) rfl rfl (fun c4 => ?_) (fun c4 => ?_)
      · refine r_aload rfl rfl ?_
        refine r_ic (x := (-3)) rfl rfl ?_
        refine r_cv (y := 65) (ra := [.int (-3)]) (rest := []) rfl ⟨⟨rfl, rfl⟩, rfl, by decide⟩ (fx_t0 fx) rfl rfl (Nat.le_of_ble_eq_true rfl) ?_
        refine in_65 (Nat.le_of_ble_eq_true rfl) ?_
        show WR _ cd_65 0 [some (.ref (ad 0)), some (.int (-3))] [] (sI h (ad 0) 6 0) _
        refine r_aload rfl rfl ?_
        refine r_iload rfl rfl ?_
        refine r_putI rfl ⟨rfl, rfl, rfl⟩ (fx_t0 fx) ?_
        refine r_lc (x := 0) rfl rfl ?_
        refine r_lret rfl ?_
        show WR _ cd_72 34 [some (.ref (ad 0)), some (.int c), some (.int w), none] [.long 0] (sI (sI h (ad 0) 6 0) (ad 0) 6 (-3)) _
        refine r_lret rfl ?_
        show EV _ 190 [.ref (ad 30), .int c, .int w] (sI (sI h (ad 0) 6 0) (ad 0) 6 (-3)) _
        refine in_190 (Nat.le_of_ble_eq_true rfl) ?_
        show WR _ cd_190 0 [some (.ref (ad 30)), some (.int c), some (.int w), none, none] [] (sI (sI h (ad 0) 6 0) (ad 0) 6 (-3)) _
        refine r_iload rfl rfl ?_
        refine WR_tI (y := nI k2) ek2 ?_
        refine r_cs (y := 153) (ra := [.int (nI k2)]) (rest := []) rfl ⟨⟨rfl, rfl⟩, by decide⟩ rfl rfl (Nat.le_of_ble_eq_true rfl) ?_
        refine in_153 (Nat.le_of_ble_eq_true rfl) ?_
        show WR _ cd_153 0 [some (.int (nI k2))] [] (sI (sI h (ad 0) 6 0) (ad 0) 6 (-3)) _
        refine r_iload rfl rfl ?_
        refine r_if_lt (tg := 14) rfl rfl (fun q => False.elim (by have : (nI k2).toInt = ((k2 : Nat) : Int) := nI_toInt (by omega); have : (0 : Int32).toInt = 0 := rfl; have := i_eq ek2; have := i_rg c; have := i_nle c3; have : (24 : Int32).toInt = 24 := rfl; have := i_nlt c1; have := i_lt q; omega)) (fun _ => ?_)
        refine r_iload rfl rfl ?_
        refine r_ic (x := 24) rfl rfl ?_
        refine r_icmp_ge (tg := 14) rfl rfl (fun q => False.elim (by have : (nI k2).toInt = ((k2 : Nat) : Int) := nI_toInt (by omega); have : (24 : Int32).toInt = 24 := rfl; have := i_eq ek2; have := i_rg c; have := i_nle c3; have := i_nlt c1; have : (0 : Int32).toInt = 0 := rfl; have := i_le q; omega)) (fun _ => ?_)
        refine r_ic (x := 1) rfl rfl ?_
        refine r_goto (tg := 15) rfl rfl ?_
        refine r_zret rfl (.inr rfl) ?_
        show WR _ cd_190 4 [some (.ref (ad 30)), some (.int c), some (.int w), none, none] [.int 1] (sI (sI h (ad 0) 6 0) (ad 0) 6 (-3)) _
        refine r_if_ne (tg := 14) rfl rfl (fun _ => ?_) (fun q => absurd q (by decide))
        refine r_iload rfl rfl ?_
        refine r_i2l rfl ?_
        refine r_lc (x := 0) rfl rfl ?_
        refine r_ldc (x := .long 2) rfl rfl ?_
        refine r_cs (y := 155) (ra := [.long 2, .long 0, .long w.toInt64]) (rest := []) rfl ⟨⟨rfl, rfl⟩, by decide⟩ rfl rfl (Nat.le_of_ble_eq_true rfl) ?_
        refine in_155 (Nat.le_of_ble_eq_true rfl) ?_
        show WR _ cd_155 0 [some (.long w.toInt64), none, some (.long 0), none, some (.long 2), none] [] (sI (sI h (ad 0) 6 0) (ad 0) 6 (-3)) _
        refine r_lload rfl rfl ?_
        refine r_lload rfl rfl ?_
        refine r_lif_lt (tg := 17) rfl rfl rfl (fun _ => ?_) (fun q => False.elim (by have := i_rg w; have := w_t w; have : (0 : Int64).toInt = 0 := rfl; have := i_lt c4; have : (0 : Int32).toInt = 0 := rfl; have := l_nlt q; omega))
        refine r_ic (x := 0) rfl rfl ?_
        refine r_zret rfl (.inl rfl) ?_
        show WR _ cd_190 23 [some (.ref (ad 30)), some (.int c), some (.int w), none, none] [.int 0] (sI (sI h (ad 0) 6 0) (ad 0) 6 (-3)) _
        refine r_if_ne (tg := 33) rfl rfl (fun q => absurd q (by decide)) (fun _ => ?_)
        refine r_aload rfl rfl ?_
        refine r_ic (x := (-3)) rfl rfl ?_
        refine r_cv (y := 171) (ra := [.int (-3)]) (rest := []) rfl ⟨⟨rfl, rfl⟩, rfl, by decide⟩ (fx_t30 fx) rfl rfl (Nat.le_of_ble_eq_true rfl) ?_
        refine in_171 (Nat.le_of_ble_eq_true rfl) ?_
        show WR _ cd_171 0 [some (.ref (ad 30)), some (.int (-3))] [] (sI (sI h (ad 0) 6 0) (ad 0) 6 (-3)) _
        refine r_aload rfl rfl ?_
        refine r_iload rfl rfl ?_
        refine r_putI rfl ⟨rfl, rfl, rfl⟩ (fx_t30 fx) ?_
        refine r_lc (x := 0) rfl rfl ?_
        refine r_lret rfl ?_
        show WR _ cd_190 32 [some (.ref (ad 30)), some (.int c), some (.int w), none, none] [.long 0] (sI (sI (sI h (ad 0) 6 0) (ad 0) 6 (-3)) (ad 30) 11 (-3)) _
        refine r_lret rfl ?_
        exact ⟨rfl, Rel.why r (((Chg.rf.sI (fx_j fx) (.inl (by decide))).sI (fx_j fx) (.inl (by decide))).sI (fx_j fx) (.inl (by decide))) ⟨rfl, by decide⟩ (Eq.trans (Eq.trans (I_ne (fx_ne fx (by decide))) I_eq) (Eq.symm I_eq)), Nat.le_add_right _ _, Nat.le_add_right _ _⟩
      · obtain ⟨k5, hk5, ek5⟩ := ix_of (x := w) (n := 2147483648) (by have := i_rg w; have := i_nlt c4; have : (0 : Int32).toInt = 0 := rfl; omega) (by have := i_rg w; have := i_nlt c4; have : (0 : Int32).toInt = 0 := rfl; omega)
        refine r_iload rfl rfl ?_
        refine WR_tI (y := nI k5) ek5 ?_
        refine r_ic (x := 2) rfl rfl ?_
        refine r_icmp_le (tg := 35) rfl rfl (fun c6 => ?_) (fun c6 => ?_)
        · refine r_aload rfl rfl ?_
          refine r_iload rfl rfl ?_
          refine WR_tI (y := nI k2) ek2 ?_
          refine r_cv (y := 66) (ra := [.int (nI k2)]) (rest := []) rfl ⟨⟨rfl, rfl⟩, rfl, by decide⟩ (fx_t0 fx) rfl rfl (Nat.le_of_ble_eq_true rfl) ?_
          refine in_66 (Nat.le_of_ble_eq_true rfl) ?_
          show WR _ cd_66 0 [some (.ref (ad 0)), some (.int (nI k2)), none, none] [] (sI h (ad 0) 6 0) _
          refine r_aload rfl rfl ?_
          refine r_getA (b := ad 1) rfl ⟨rfl, rfl, rfl⟩ (fx_t0 fx) (fx_r0_0 fx) ?_
          refine r_iload rfl rfl ?_
          rcases rs.cs (n := n) (sa := sa) (c := k2) (by have := i_eq ek2; have : (nI k2).toInt = ((k2 : Nat) : Int) := nI_toInt (by omega); have := i_rg c; have := i_nle c3; have : (24 : Int32).toInt = 24 := rfl; have := i_nlt c1; have : (0 : Int32).toInt = 0 := rfl; omega) with ⟨v7, w7⟩ | ⟨q7, kd7, hq7, hn7, v7, w7, dz7, tg7, s1_7, k1_7, k2_7, hk_7, we7⟩ | ⟨t7, ln7, sz7, ht7, v7, w7, dz7, tg7, r_7, tg2_7, l1_7, l2_7, hl_7, kd_7, n_7, sz_7, hs_7, al7, rw7⟩ | ⟨t7, sz7, ht7, v7, w7, dz7, tg7, r_7, tg2_7, k1_7, l2_7, k2_7, n_7, sz_7, hs_7, al7, rw7⟩ | ⟨t7, kd7, sz7, ht7, v7, w7, dz7, tg7, r_7, tg2_7, k1_7, l2_7, k2_7, hk_7, n_7, sz_7, hs_7, al7, rw7⟩
          · refine r_aaload0 rfl (isQ_of (fx_t1 fx) (by decide)) (vp_ct (fx_n1 fx) (vp_in_nI (by have := i_eq ek2; have : (nI k2).toInt = ((k2 : Nat) : Int) := nI_toInt (by omega); have := i_rg c; have := i_nle c3; have : (24 : Int32).toInt = 24 := rfl; have := i_nlt c1; have : (0 : Int32).toInt = 0 := rfl; omega) (by omega))) (Eq.trans (congrArg (hR (sI h (ad 0) 6 0) (ad 1)) ((nI_clamp (by have := i_eq ek2; have : (nI k2).toInt = ((k2 : Nat) : Int) := nI_toInt (by omega); have := i_rg c; have := i_nle c3; have : (24 : Int32).toInt = 24 := rfl; have := i_nlt c1; have : (0 : Int32).toInt = 0 := rfl; omega)) : _ = k2)) (Eq.trans R_oI w7)) ?_
            refine r_astore0 (lv' := [some (.ref (ad 0)), some (.int (nI k2)), some (.null), none]) rfl (Nat.le_of_ble_eq_true rfl) rfl ?_
            refine r_aload0 rfl rfl ?_
            refine r_instN rfl (by decide) ?_
            refine r_if_eq (tg := 21) rfl rfl (fun _ => ?_) (fun q => absurd q (by decide))
            refine r_aload rfl rfl ?_
            refine r_aload0 rfl rfl ?_
            refine r_ifnonnullN (tg := 31) rfl rfl ?_
            refine r_ic (x := (-11)) rfl rfl ?_
            refine r_goto (tg := 33) rfl rfl ?_
            refine r_putI rfl ⟨rfl, rfl, rfl⟩ (fx_t0 fx) ?_
            refine r_null rfl ?_
            refine r_aret0 rfl ?_
            show WR _ cd_72 40 [some (.ref (ad 0)), some (.int c), some (.int w), none] [.null] (sI (sI h (ad 0) 6 0) (ad 0) 6 (-11)) _
            refine r_astore0 (lv' := [some (.ref (ad 0)), some (.int c), some (.int w), some (.null)]) rfl (Nat.le_of_ble_eq_true rfl) rfl ?_
            refine r_aload0 rfl rfl ?_
            refine r_ifnonnullN (tg := 47) rfl rfl ?_
            refine r_lc (x := 0) rfl rfl ?_
            refine r_lret rfl ?_
            show EV _ 190 [.ref (ad 30), .int c, .int w] (sI (sI h (ad 0) 6 0) (ad 0) 6 (-11)) _
            refine in_190 (Nat.le_of_ble_eq_true rfl) ?_
            show WR _ cd_190 0 [some (.ref (ad 30)), some (.int c), some (.int w), none, none] [] (sI (sI h (ad 0) 6 0) (ad 0) 6 (-11)) _
            refine r_iload rfl rfl ?_
            refine WR_tI (y := nI k2) ek2 ?_
            refine r_cs (y := 153) (ra := [.int (nI k2)]) (rest := []) rfl ⟨⟨rfl, rfl⟩, by decide⟩ rfl rfl (Nat.le_of_ble_eq_true rfl) ?_
            refine in_153 (Nat.le_of_ble_eq_true rfl) ?_
            show WR _ cd_153 0 [some (.int (nI k2))] [] (sI (sI h (ad 0) 6 0) (ad 0) 6 (-11)) _
            refine r_iload rfl rfl ?_
            refine r_if_lt (tg := 14) rfl rfl (fun q => False.elim (by have : (nI k2).toInt = ((k2 : Nat) : Int) := nI_toInt (by omega); have : (0 : Int32).toInt = 0 := rfl; have := i_eq ek2; have := i_rg c; have := i_nle c3; have : (24 : Int32).toInt = 24 := rfl; have := i_nlt c1; have := i_lt q; omega)) (fun _ => ?_)
            refine r_iload rfl rfl ?_
            refine r_ic (x := 24) rfl rfl ?_
            refine r_icmp_ge (tg := 14) rfl rfl (fun q => False.elim (by have : (nI k2).toInt = ((k2 : Nat) : Int) := nI_toInt (by omega); have : (24 : Int32).toInt = 24 := rfl; have := i_eq ek2; have := i_rg c; have := i_nle c3; have := i_nlt c1; have : (0 : Int32).toInt = 0 := rfl; have := i_le q; omega)) (fun _ => ?_)
            refine r_ic (x := 1) rfl rfl ?_
            refine r_goto (tg := 15) rfl rfl ?_
            refine r_zret rfl (.inr rfl) ?_
            show WR _ cd_190 4 [some (.ref (ad 30)), some (.int c), some (.int w), none, none] [.int 1] (sI (sI h (ad 0) 6 0) (ad 0) 6 (-11)) _
            refine r_if_ne (tg := 14) rfl rfl (fun _ => ?_) (fun q => absurd q (by decide))
            refine r_iload rfl rfl ?_
            refine WR_tI (y := nI k5) ek5 ?_
            refine r_i2l rfl ?_
            refine WR_tL (y := lN k5) (nI_l (by have := i_eq ek5; have : (nI k5).toInt = ((k5 : Nat) : Int) := nI_toInt (by omega); have := i_rg w; have := i_le c6; have : (2 : Int32).toInt = 2 := rfl; have := i_nlt c4; have : (0 : Int32).toInt = 0 := rfl; omega)) ?_
            refine r_lc (x := 0) rfl rfl ?_
            refine r_ldc (x := .long 2) rfl rfl ?_
            refine r_cs (y := 155) (ra := [.long 2, .long 0, .long (lN k5)]) (rest := []) rfl ⟨⟨rfl, rfl⟩, by decide⟩ rfl rfl (Nat.le_of_ble_eq_true rfl) ?_
            refine in_155 (Nat.le_of_ble_eq_true rfl) ?_
            show WR _ cd_155 0 [some (.long (lN k5)), none, some (.long 0), none, some (.long 2), none] [] (sI (sI h (ad 0) 6 0) (ad 0) 6 (-11)) _
            refine r_lload rfl rfl ?_
            refine r_lload rfl rfl ?_
            refine r_lif_lt (tg := 17) rfl rfl rfl (fun q => False.elim (by have : (lN k5).toInt = ((k5 : Nat) : Int) := lN_toInt (by omega); have : (0 : Int64).toInt = 0 := rfl; have := i_eq ek5; have : (nI k5).toInt = ((k5 : Nat) : Int) := nI_toInt (by omega); have := i_rg w; have := i_le c6; have : (2 : Int32).toInt = 2 := rfl; have := i_nlt c4; have : (0 : Int32).toInt = 0 := rfl; have := l_lt q; omega)) (fun _ => ?_)
            refine r_lload rfl rfl ?_
            refine r_lload rfl rfl ?_
            refine r_lif_gt (tg := 17) rfl rfl rfl (fun q => False.elim (by have : (lN k5).toInt = ((k5 : Nat) : Int) := lN_toInt (by omega); have : (2 : Int64).toInt = 2 := rfl; have := i_eq ek5; have : (nI k5).toInt = ((k5 : Nat) : Int) := nI_toInt (by omega); have := i_rg w; have := i_le c6; have : (2 : Int32).toInt = 2 := rfl; have := i_nlt c4; have : (0 : Int32).toInt = 0 := rfl; have := l_lt q; omega)) (fun _ => ?_)
            refine r_ic (x := 1) rfl rfl ?_
            refine r_goto (tg := 18) rfl rfl ?_
            refine r_zret rfl (.inr rfl) ?_
            show WR _ cd_190 23 [some (.ref (ad 30)), some (.int c), some (.int w), none, none] [.int 1] (sI (sI h (ad 0) 6 0) (ad 0) 6 (-11)) _
            refine r_if_ne (tg := 33) rfl rfl (fun _ => ?_) (fun q => absurd q (by decide))
            refine r_aload rfl rfl ?_
            refine r_aload rfl rfl ?_
            refine r_getA (b := ad 31) rfl ⟨rfl, rfl, rfl⟩ (fx_t30 fx) (fx_r30_0 fx) ?_
            refine r_iload rfl rfl ?_
            refine WR_tI (y := nI k2) ek2 ?_
            refine r_iaload rfl (.inl (fx_t31 fx)) (vp_ct (fx_n31 fx) (vp_in_nI (by have := i_eq ek2; have : (nI k2).toInt = ((k2 : Nat) : Int) := nI_toInt (by omega); have := i_rg c; have := i_nle c3; have : (24 : Int32).toInt = 24 := rfl; have := i_nlt c1; have : (0 : Int32).toInt = 0 := rfl; omega) (by omega))) ?_
            refine WR_tI (congrArg (hI (sI (sI h (ad 0) 6 0) (ad 0) 6 (-11)) (ad 31)) ((nI_clamp (by have := i_eq ek2; have : (nI k2).toInt = ((k2 : Nat) : Int) := nI_toInt (by omega); have := i_rg c; have := i_nle c3; have : (24 : Int32).toInt = 24 := rfl; have := i_nlt c1; have : (0 : Int32).toInt = 0 := rfl; omega)) : _ = k2)) ?_
            refine WR_tI (y := (-1)) (Eq.trans (I_ne (fx_ne fx (by decide))) (Eq.trans (I_ne (fx_ne fx (by decide))) v7)) ?_
            refine r_cv (y := 185) (ra := [.int (-1)]) (rest := []) rfl ⟨⟨rfl, rfl⟩, rfl, by decide⟩ (fx_t30 fx) rfl rfl (Nat.le_of_ble_eq_true rfl) ?_
            refine in_185 (Nat.le_of_ble_eq_true rfl) ?_
            show WR _ cd_185 0 [some (.ref (ad 30)), some (.int (-1))] [] (sI (sI h (ad 0) 6 0) (ad 0) 6 (-11)) _
            refine r_iload rfl rfl ?_
            refine r_ic (x := (-1)) rfl rfl ?_
            refine r_icmp_eq (tg := 16) rfl rfl (fun _ => ?_) (fun q => absurd q (by decide))
            refine r_iload rfl rfl ?_
            refine r_ic (x := (-1)) rfl rfl ?_
            refine r_icmp_ne (tg := 25) rfl rfl (fun q => absurd q (by decide)) (fun _ => ?_)
            refine r_ic (x := 1) rfl rfl ?_
            refine r_goto (tg := 26) rfl rfl ?_
            refine r_iret rfl ?_
            show WR _ cd_190 43 [some (.ref (ad 30)), some (.int c), some (.int w), none, none] [.int 1] (sI (sI h (ad 0) 6 0) (ad 0) 6 (-11)) _
            refine r_istore (lv' := [some (.ref (ad 30)), some (.int c), some (.int w), some (.int 1), none]) rfl (Nat.le_of_ble_eq_true rfl) rfl ?_
            refine r_iload rfl rfl ?_
            refine r_if_le (tg := 57) rfl rfl (fun q => absurd q (by decide)) (fun _ => ?_)
            refine r_aload rfl rfl ?_
            refine r_ic (x := (-10)) rfl rfl ?_
            refine r_iload rfl rfl ?_
            refine r_isub rfl ?_
            refine WR_tI (y := (-11)) rfl ?_
            refine r_cv (y := 171) (ra := [.int (-11)]) (rest := []) rfl ⟨⟨rfl, rfl⟩, rfl, by decide⟩ (fx_t30 fx) rfl rfl (Nat.le_of_ble_eq_true rfl) ?_
            refine in_171 (Nat.le_of_ble_eq_true rfl) ?_
            show WR _ cd_171 0 [some (.ref (ad 30)), some (.int (-11))] [] (sI (sI h (ad 0) 6 0) (ad 0) 6 (-11)) _
            refine r_aload rfl rfl ?_
            refine r_iload rfl rfl ?_
            refine r_putI rfl ⟨rfl, rfl, rfl⟩ (fx_t30 fx) ?_
            refine r_lc (x := 0) rfl rfl ?_
            refine r_lret rfl ?_
            show WR _ cd_190 56 [some (.ref (ad 30)), some (.int c), some (.int w), some (.int 1), none] [.long 0] (sI (sI (sI h (ad 0) 6 0) (ad 0) 6 (-11)) (ad 30) 11 (-11)) _
            refine r_lret rfl ?_
            exact ⟨rfl, Rel.why r (((Chg.rf.sI (fx_j fx) (.inl (by decide))).sI (fx_j fx) (.inl (by decide))).sI (fx_j fx) (.inl (by decide))) ⟨rfl, by decide⟩ (Eq.trans (Eq.trans (I_ne (fx_ne fx (by decide))) I_eq) (Eq.symm I_eq)), Nat.le_add_right _ _, Nat.le_add_right _ _⟩
          · refine r_aaloadA (b := pa q7) rfl (isQ_of (fx_t1 fx) (by decide)) (vp_ct (fx_n1 fx) (vp_in_nI (by have := i_eq ek2; have : (nI k2).toInt = ((k2 : Nat) : Int) := nI_toInt (by omega); have := i_rg c; have := i_nle c3; have : (24 : Int32).toInt = 24 := rfl; have := i_nlt c1; have : (0 : Int32).toInt = 0 := rfl; omega) (by omega))) (Eq.trans (congrArg (hR (sI h (ad 0) 6 0) (ad 1)) ((nI_clamp (by have := i_eq ek2; have : (nI k2).toInt = ((k2 : Nat) : Int) := nI_toInt (by omega); have := i_rg c; have := i_nle c3; have : (24 : Int32).toInt = 24 := rfl; have := i_nlt c1; have : (0 : Int32).toInt = 0 := rfl; omega)) : _ = k2)) (Eq.trans R_oI w7)) ?_
            refine r_astore (lv' := [some (.ref (ad 0)), some (.int (nI k2)), some (.ref (pa q7)), none]) rfl (Nat.le_of_ble_eq_true rfl) rfl ?_
            refine r_aload rfl rfl ?_
            refine r_instY rfl (by decide) tg7 ?_
            refine r_if_eq (tg := 21) rfl rfl (fun q => absurd q (by decide)) (fun _ => ?_)
            refine r_aload rfl rfl ?_
            refine r_cast rfl tg7 ?_
            refine r_astore (lv' := [some (.ref (ad 0)), some (.int (nI k2)), some (.ref (pa q7)), some (.ref (pa q7))]) rfl (Nat.le_of_ble_eq_true rfl) rfl ?_
            refine r_aload rfl rfl ?_
            refine r_aret rfl ?_
            show WR _ cd_72 40 [some (.ref (ad 0)), some (.int c), some (.int w), none] [.ref (pa q7)] (sI h (ad 0) 6 0) _
            refine r_astore (lv' := [some (.ref (ad 0)), some (.int c), some (.int w), some (.ref (pa q7))]) rfl (Nat.le_of_ble_eq_true rfl) rfl ?_
            refine r_aload rfl rfl ?_
            refine r_ifnonnullA (tg := 47) rfl rfl ?_
            refine r_iload rfl rfl ?_
            refine WR_tI (y := nI k5) ek5 ?_
            refine r_if_ne (tg := 59) rfl rfl (fun c8 => ?_) (fun c8 => ?_)
            · refine r_iload rfl rfl ?_
              refine WR_tI (y := nI k5) ek5 ?_
              refine r_ic (x := 1) rfl rfl ?_
              refine r_icmp_ne (tg := 72) rfl rfl (fun c9 => ?_) (fun c9 => ?_)
              · refine r_aload rfl rfl ?_
                refine r_getL rfl ⟨rfl, rfl, rfl⟩ tg7 ?_
                refine WR_tL (y := hL h (pa q7) 2) L_oI ?_
                refine r_lret rfl ?_
                show EV _ 190 [.ref (ad 30), .int c, .int w] (sI h (ad 0) 6 0) _
                refine in_190 (Nat.le_of_ble_eq_true rfl) ?_
                show WR _ cd_190 0 [some (.ref (ad 30)), some (.int c), some (.int w), none, none] [] (sI h (ad 0) 6 0) _
                refine r_iload rfl rfl ?_
                refine WR_tI (y := nI k2) ek2 ?_
                refine r_cs (y := 153) (ra := [.int (nI k2)]) (rest := []) rfl ⟨⟨rfl, rfl⟩, by decide⟩ rfl rfl (Nat.le_of_ble_eq_true rfl) ?_
                refine in_153 (Nat.le_of_ble_eq_true rfl) ?_
                show WR _ cd_153 0 [some (.int (nI k2))] [] (sI h (ad 0) 6 0) _
                refine r_iload rfl rfl ?_
                refine r_if_lt (tg := 14) rfl rfl (fun q => False.elim (by have : (nI k2).toInt = ((k2 : Nat) : Int) := nI_toInt (by omega); have : (0 : Int32).toInt = 0 := rfl; have := i_eq ek2; have := i_rg c; have := i_nle c3; have : (24 : Int32).toInt = 24 := rfl; have := i_nlt c1; have := i_lt q; omega)) (fun _ => ?_)
                refine r_iload rfl rfl ?_
                refine r_ic (x := 24) rfl rfl ?_
                refine r_icmp_ge (tg := 14) rfl rfl (fun q => False.elim (by have : (nI k2).toInt = ((k2 : Nat) : Int) := nI_toInt (by omega); have : (24 : Int32).toInt = 24 := rfl; have := i_eq ek2; have := i_rg c; have := i_nle c3; have := i_nlt c1; have : (0 : Int32).toInt = 0 := rfl; have := i_le q; omega)) (fun _ => ?_)
                refine r_ic (x := 1) rfl rfl ?_
                refine r_goto (tg := 15) rfl rfl ?_
                refine r_zret rfl (.inr rfl) ?_
                show WR _ cd_190 4 [some (.ref (ad 30)), some (.int c), some (.int w), none, none] [.int 1] (sI h (ad 0) 6 0) _
                refine r_if_ne (tg := 14) rfl rfl (fun _ => ?_) (fun q => absurd q (by decide))
                refine r_iload rfl rfl ?_
                refine WR_tI (y := nI k5) ek5 ?_
                refine r_i2l rfl ?_
                refine WR_tL (y := lN k5) (nI_l (by have := i_eq ek5; have : (nI k5).toInt = ((k5 : Nat) : Int) := nI_toInt (by omega); have := i_rg w; have := i_le c6; have : (2 : Int32).toInt = 2 := rfl; have := i_nlt c4; have : (0 : Int32).toInt = 0 := rfl; have := i_neq c8; omega)) ?_
                refine r_lc (x := 0) rfl rfl ?_
                refine r_ldc (x := .long 2) rfl rfl ?_
                refine r_cs (y := 155) (ra := [.long 2, .long 0, .long (lN k5)]) (rest := []) rfl ⟨⟨rfl, rfl⟩, by decide⟩ rfl rfl (Nat.le_of_ble_eq_true rfl) ?_
                refine in_155 (Nat.le_of_ble_eq_true rfl) ?_
                show WR _ cd_155 0 [some (.long (lN k5)), none, some (.long 0), none, some (.long 2), none] [] (sI h (ad 0) 6 0) _
                refine r_lload rfl rfl ?_
                refine r_lload rfl rfl ?_
                refine r_lif_lt (tg := 17) rfl rfl rfl (fun q => False.elim (by have : (lN k5).toInt = ((k5 : Nat) : Int) := lN_toInt (by omega); have : (0 : Int64).toInt = 0 := rfl; have := i_eq ek5; have : (nI k5).toInt = ((k5 : Nat) : Int) := nI_toInt (by omega); have := i_rg w; have := i_le c6; have : (2 : Int32).toInt = 2 := rfl; have := i_nlt c4; have : (0 : Int32).toInt = 0 := rfl; have := i_neq c8; have := l_lt q; omega)) (fun _ => ?_)
                refine r_lload rfl rfl ?_
                refine r_lload rfl rfl ?_
                refine r_lif_gt (tg := 17) rfl rfl rfl (fun q => False.elim (by have : (lN k5).toInt = ((k5 : Nat) : Int) := lN_toInt (by omega); have : (2 : Int64).toInt = 2 := rfl; have := i_eq ek5; have : (nI k5).toInt = ((k5 : Nat) : Int) := nI_toInt (by omega); have := i_rg w; have := i_le c6; have : (2 : Int32).toInt = 2 := rfl; have := i_nlt c4; have : (0 : Int32).toInt = 0 := rfl; have := l_lt q; omega)) (fun _ => ?_)
                refine r_ic (x := 1) rfl rfl ?_
                refine r_goto (tg := 18) rfl rfl ?_
                refine r_zret rfl (.inr rfl) ?_
                show WR _ cd_190 23 [some (.ref (ad 30)), some (.int c), some (.int w), none, none] [.int 1] (sI h (ad 0) 6 0) _
                refine r_if_ne (tg := 33) rfl rfl (fun _ => ?_) (fun q => absurd q (by decide))
                refine r_aload rfl rfl ?_
                refine r_aload rfl rfl ?_
                refine r_getA (b := ad 31) rfl ⟨rfl, rfl, rfl⟩ (fx_t30 fx) (fx_r30_0 fx) ?_
                refine r_iload rfl rfl ?_
                refine WR_tI (y := nI k2) ek2 ?_
                refine r_iaload rfl (.inl (fx_t31 fx)) (vp_ct (fx_n31 fx) (vp_in_nI (by have := i_eq ek2; have : (nI k2).toInt = ((k2 : Nat) : Int) := nI_toInt (by omega); have := i_rg c; have := i_nle c3; have : (24 : Int32).toInt = 24 := rfl; have := i_nlt c1; have : (0 : Int32).toInt = 0 := rfl; omega) (by omega))) ?_
                refine WR_tI (congrArg (hI (sI h (ad 0) 6 0) (ad 31)) ((nI_clamp (by have := i_eq ek2; have : (nI k2).toInt = ((k2 : Nat) : Int) := nI_toInt (by omega); have := i_rg c; have := i_nle c3; have : (24 : Int32).toInt = 24 := rfl; have := i_nlt c1; have : (0 : Int32).toInt = 0 := rfl; omega)) : _ = k2)) ?_
                refine WR_tI (y := nI (q7 + 1000)) (Eq.trans (I_ne (fx_ne fx (by decide))) v7) ?_
                refine r_cv (y := 185) (ra := [.int (nI (q7 + 1000))]) (rest := []) rfl ⟨⟨rfl, rfl⟩, rfl, by decide⟩ (fx_t30 fx) rfl rfl (Nat.le_of_ble_eq_true rfl) ?_
                refine in_185 (Nat.le_of_ble_eq_true rfl) ?_
                show WR _ cd_185 0 [some (.ref (ad 30)), some (.int (nI (q7 + 1000)))] [] (sI h (ad 0) 6 0) _
                refine r_iload rfl rfl ?_
                refine r_ic (x := (-1)) rfl rfl ?_
                refine r_icmp_eq (tg := 16) rfl rfl (fun q => False.elim (by have : (nI (q7 + 1000)).toInt = ((q7 + 1000 : Nat) : Int) := nI_toInt (by omega); have : (-1 : Int32).toInt = -1 := rfl; have := i_eq q; omega)) (fun _ => ?_)
                refine r_iload rfl rfl ?_
                refine r_ic (x := 1000) rfl rfl ?_
                refine r_icmp_ge (tg := 16) rfl rfl (fun _ => ?_) (fun q => False.elim (by have : (nI (q7 + 1000)).toInt = ((q7 + 1000 : Nat) : Int) := nI_toInt (by omega); have : (1000 : Int32).toInt = 1000 := rfl; have := i_nle q; omega))
                refine r_iload rfl rfl ?_
                refine r_ic (x := (-1)) rfl rfl ?_
                refine r_icmp_ne (tg := 25) rfl rfl (fun _ => ?_) (fun q => False.elim (by have : (nI (q7 + 1000)).toInt = ((q7 + 1000 : Nat) : Int) := nI_toInt (by omega); have : (-1 : Int32).toInt = -1 := rfl; have := i_eq q; omega))
                refine r_ic (x := 0) rfl rfl ?_
                refine r_iret rfl ?_
                show WR _ cd_190 43 [some (.ref (ad 30)), some (.int c), some (.int w), none, none] [.int 0] (sI h (ad 0) 6 0) _
                refine r_istore (lv' := [some (.ref (ad 30)), some (.int c), some (.int w), some (.int 0), none]) rfl (Nat.le_of_ble_eq_true rfl) rfl ?_
                refine r_iload rfl rfl ?_
                refine r_if_le (tg := 57) rfl rfl (fun _ => ?_) (fun q => absurd q (by decide))
                refine r_aload rfl rfl ?_
                refine r_ic (x := 0) rfl rfl ?_
                refine r_putI rfl ⟨rfl, rfl, rfl⟩ (fx_t30 fx) ?_
                refine r_aload rfl rfl ?_
                refine r_getA (b := ad 31) rfl ⟨rfl, rfl, rfl⟩ (fx_t30 fx) (fx_r30_0 fx) ?_
                refine r_iload rfl rfl ?_
                refine WR_tI (y := nI k2) ek2 ?_
                refine r_iaload rfl (.inl (fx_t31 fx)) (vp_ct (fx_n31 fx) (vp_in_nI (by have := i_eq ek2; have : (nI k2).toInt = ((k2 : Nat) : Int) := nI_toInt (by omega); have := i_rg c; have := i_nle c3; have : (24 : Int32).toInt = 24 := rfl; have := i_nlt c1; have : (0 : Int32).toInt = 0 := rfl; omega) (by omega))) ?_
                refine WR_tI (congrArg (hI (sI (sI h (ad 0) 6 0) (ad 30) 11 0) (ad 31)) ((nI_clamp (by have := i_eq ek2; have : (nI k2).toInt = ((k2 : Nat) : Int) := nI_toInt (by omega); have := i_rg c; have := i_nle c3; have : (24 : Int32).toInt = 24 := rfl; have := i_nlt c1; have : (0 : Int32).toInt = 0 := rfl; omega)) : _ = k2)) ?_
                refine WR_tI (y := nI (q7 + 1000)) (Eq.trans (I_ne (fx_ne fx (by decide))) (Eq.trans (I_ne (fx_ne fx (by decide))) v7)) ?_
                refine r_ic (x := 1000) rfl rfl ?_
                refine r_isub rfl ?_
                refine WR_tI (y := nI q7) (Eq.trans (pk_sub (a := q7 + 1000) (b := 1000) (by omega)) (congrArg nI (by omega))) ?_
                refine r_istore (lv' := [some (.ref (ad 30)), some (.int c), some (.int w), some (.int 0), some (.int (nI q7))]) rfl (Nat.le_of_ble_eq_true rfl) rfl ?_
                refine r_iload rfl rfl ?_
                refine WR_tI (y := nI k5) ek5 ?_
                refine r_if_ne (tg := 89) rfl rfl (fun _ => ?_) (fun q => False.elim (by have : (nI k5).toInt = ((k5 : Nat) : Int) := nI_toInt (by omega); have : (0 : Int32).toInt = 0 := rfl; have := i_eq ek5; have := i_rg w; have := i_le c6; have : (2 : Int32).toInt = 2 := rfl; have := i_nlt c4; have := i_neq c8; have := i_eq q; omega))
                refine r_iload rfl rfl ?_
                refine WR_tI (y := nI k5) ek5 ?_
                refine r_ic (x := 1) rfl rfl ?_
                refine r_icmp_ne (tg := 100) rfl rfl (fun _ => ?_) (fun q => False.elim (by have : (nI k5).toInt = ((k5 : Nat) : Int) := nI_toInt (by omega); have : (1 : Int32).toInt = 1 := rfl; have := i_eq ek5; have := i_rg w; have := i_le c6; have : (2 : Int32).toInt = 2 := rfl; have := i_nlt c4; have : (0 : Int32).toInt = 0 := rfl; have := i_neq c9; have := i_eq q; omega))
                refine r_aload rfl rfl ?_
                refine r_getA (b := ad 38) rfl ⟨rfl, rfl, rfl⟩ (fx_t30 fx) (fx_r30_8 fx) ?_
                refine r_iload rfl rfl ?_
                refine r_laload rfl (fx_t38 fx) (vp_ct (fx_n38 fx) (vp_in_nI (by omega) (by omega))) ?_
                refine WR_tL (congrArg (hL (sI (sI h (ad 0) 6 0) (ad 30) 11 0) (ad 38)) ((nI_clamp (by omega)) : _ = q7)) ?_
                refine WR_tL (y := hL h (pa q7) 2) (Eq.trans L_oI (Eq.trans L_oI we7.symm)) ?_
                refine r_lret rfl ?_
                exact ⟨rfl, Rel.why r ((Chg.rf.sI (fx_j fx) (.inl (by decide))).sI (fx_j fx) (.inl (by decide))) ⟨rfl, by decide⟩ (Eq.trans (Eq.trans (I_ne (fx_ne fx (by decide))) I_eq) (Eq.symm I_eq)), Nat.le_add_right _ _, Nat.le_add_right _ _⟩
              · refine r_aload rfl rfl ?_
                refine r_getI rfl ⟨rfl, rfl, rfl⟩ tg7 ?_
                refine WR_tI (y := nI q7) (Eq.trans (I_ne (dy_ad fx (.inl (by decide)) dz7)) s1_7) ?_
                refine r_i2l rfl ?_
                refine WR_tL (y := lN q7) (nI_l (by omega)) ?_
                refine r_goto (tg := 76) rfl rfl ?_
                refine r_lret rfl ?_
                show EV _ 190 [.ref (ad 30), .int c, .int w] (sI h (ad 0) 6 0) _
                refine in_190 (Nat.le_of_ble_eq_true rfl) ?_
                show WR _ cd_190 0 [some (.ref (ad 30)), some (.int c), some (.int w), none, none] [] (sI h (ad 0) 6 0) _
                refine r_iload rfl rfl ?_
                refine WR_tI (y := nI k2) ek2 ?_
                refine r_cs (y := 153) (ra := [.int (nI k2)]) (rest := []) rfl ⟨⟨rfl, rfl⟩, by decide⟩ rfl rfl (Nat.le_of_ble_eq_true rfl) ?_
                refine in_153 (Nat.le_of_ble_eq_true rfl) ?_
                show WR _ cd_153 0 [some (.int (nI k2))] [] (sI h (ad 0) 6 0) _
                refine r_iload rfl rfl ?_
                refine r_if_lt (tg := 14) rfl rfl (fun q => False.elim (by have : (nI k2).toInt = ((k2 : Nat) : Int) := nI_toInt (by omega); have : (0 : Int32).toInt = 0 := rfl; have := i_eq ek2; have := i_rg c; have := i_nle c3; have : (24 : Int32).toInt = 24 := rfl; have := i_nlt c1; have := i_lt q; omega)) (fun _ => ?_)
                refine r_iload rfl rfl ?_
                refine r_ic (x := 24) rfl rfl ?_
                refine r_icmp_ge (tg := 14) rfl rfl (fun q => False.elim (by have : (nI k2).toInt = ((k2 : Nat) : Int) := nI_toInt (by omega); have : (24 : Int32).toInt = 24 := rfl; have := i_eq ek2; have := i_rg c; have := i_nle c3; have := i_nlt c1; have : (0 : Int32).toInt = 0 := rfl; have := i_le q; omega)) (fun _ => ?_)
                refine r_ic (x := 1) rfl rfl ?_
                refine r_goto (tg := 15) rfl rfl ?_
                refine r_zret rfl (.inr rfl) ?_
                show WR _ cd_190 4 [some (.ref (ad 30)), some (.int c), some (.int w), none, none] [.int 1] (sI h (ad 0) 6 0) _
                refine r_if_ne (tg := 14) rfl rfl (fun _ => ?_) (fun q => absurd q (by decide))
                refine r_iload rfl rfl ?_
                refine WR_tI (y := nI k5) ek5 ?_
                refine r_i2l rfl ?_
                refine WR_tL (y := lN k5) (nI_l (by have := i_eq ek5; have : (nI k5).toInt = ((k5 : Nat) : Int) := nI_toInt (by omega); have := i_rg w; have := i_le c6; have : (2 : Int32).toInt = 2 := rfl; have := i_eq c9; have : (1 : Int32).toInt = 1 := rfl; have := i_nlt c4; have : (0 : Int32).toInt = 0 := rfl; have := i_neq c8; omega)) ?_
                refine r_lc (x := 0) rfl rfl ?_
                refine r_ldc (x := .long 2) rfl rfl ?_
                refine r_cs (y := 155) (ra := [.long 2, .long 0, .long (lN k5)]) (rest := []) rfl ⟨⟨rfl, rfl⟩, by decide⟩ rfl rfl (Nat.le_of_ble_eq_true rfl) ?_
                refine in_155 (Nat.le_of_ble_eq_true rfl) ?_
                show WR _ cd_155 0 [some (.long (lN k5)), none, some (.long 0), none, some (.long 2), none] [] (sI h (ad 0) 6 0) _
                refine r_lload rfl rfl ?_
                refine r_lload rfl rfl ?_
                refine r_lif_lt (tg := 17) rfl rfl rfl (fun q => False.elim (by have : (lN k5).toInt = ((k5 : Nat) : Int) := lN_toInt (by omega); have : (0 : Int64).toInt = 0 := rfl; have := i_eq ek5; have : (nI k5).toInt = ((k5 : Nat) : Int) := nI_toInt (by omega); have := i_rg w; have := i_le c6; have : (2 : Int32).toInt = 2 := rfl; have := i_eq c9; have : (1 : Int32).toInt = 1 := rfl; have := i_nlt c4; have : (0 : Int32).toInt = 0 := rfl; have := i_neq c8; have := l_lt q; omega)) (fun _ => ?_)
                refine r_lload rfl rfl ?_
                refine r_lload rfl rfl ?_
                refine r_lif_gt (tg := 17) rfl rfl rfl (fun q => False.elim (by have : (lN k5).toInt = ((k5 : Nat) : Int) := lN_toInt (by omega); have : (2 : Int64).toInt = 2 := rfl; have := i_eq ek5; have : (nI k5).toInt = ((k5 : Nat) : Int) := nI_toInt (by omega); have := i_rg w; have := i_le c6; have : (2 : Int32).toInt = 2 := rfl; have := i_eq c9; have : (1 : Int32).toInt = 1 := rfl; have := i_nlt c4; have : (0 : Int32).toInt = 0 := rfl; have := i_neq c8; have := l_lt q; omega)) (fun _ => ?_)
                refine r_ic (x := 1) rfl rfl ?_
                refine r_goto (tg := 18) rfl rfl ?_
                refine r_zret rfl (.inr rfl) ?_
                show WR _ cd_190 23 [some (.ref (ad 30)), some (.int c), some (.int w), none, none] [.int 1] (sI h (ad 0) 6 0) _
                refine r_if_ne (tg := 33) rfl rfl (fun _ => ?_) (fun q => absurd q (by decide))
                refine r_aload rfl rfl ?_
                refine r_aload rfl rfl ?_
                refine r_getA (b := ad 31) rfl ⟨rfl, rfl, rfl⟩ (fx_t30 fx) (fx_r30_0 fx) ?_
                refine r_iload rfl rfl ?_
                refine WR_tI (y := nI k2) ek2 ?_
                refine r_iaload rfl (.inl (fx_t31 fx)) (vp_ct (fx_n31 fx) (vp_in_nI (by have := i_eq ek2; have : (nI k2).toInt = ((k2 : Nat) : Int) := nI_toInt (by omega); have := i_rg c; have := i_nle c3; have : (24 : Int32).toInt = 24 := rfl; have := i_nlt c1; have : (0 : Int32).toInt = 0 := rfl; omega) (by omega))) ?_
                refine WR_tI (congrArg (hI (sI h (ad 0) 6 0) (ad 31)) ((nI_clamp (by have := i_eq ek2; have : (nI k2).toInt = ((k2 : Nat) : Int) := nI_toInt (by omega); have := i_rg c; have := i_nle c3; have : (24 : Int32).toInt = 24 := rfl; have := i_nlt c1; have : (0 : Int32).toInt = 0 := rfl; omega)) : _ = k2)) ?_
                refine WR_tI (y := nI (q7 + 1000)) (Eq.trans (I_ne (fx_ne fx (by decide))) v7) ?_
                refine r_cv (y := 185) (ra := [.int (nI (q7 + 1000))]) (rest := []) rfl ⟨⟨rfl, rfl⟩, rfl, by decide⟩ (fx_t30 fx) rfl rfl (Nat.le_of_ble_eq_true rfl) ?_
                refine in_185 (Nat.le_of_ble_eq_true rfl) ?_
                show WR _ cd_185 0 [some (.ref (ad 30)), some (.int (nI (q7 + 1000)))] [] (sI h (ad 0) 6 0) _
                refine r_iload rfl rfl ?_
                refine r_ic (x := (-1)) rfl rfl ?_
                refine r_icmp_eq (tg := 16) rfl rfl (fun q => False.elim (by have : (nI (q7 + 1000)).toInt = ((q7 + 1000 : Nat) : Int) := nI_toInt (by omega); have : (-1 : Int32).toInt = -1 := rfl; have := i_eq q; omega)) (fun _ => ?_)
                refine r_iload rfl rfl ?_
                refine r_ic (x := 1000) rfl rfl ?_
                refine r_icmp_ge (tg := 16) rfl rfl (fun _ => ?_) (fun q => False.elim (by have : (nI (q7 + 1000)).toInt = ((q7 + 1000 : Nat) : Int) := nI_toInt (by omega); have : (1000 : Int32).toInt = 1000 := rfl; have := i_nle q; omega))
                refine r_iload rfl rfl ?_
                refine r_ic (x := (-1)) rfl rfl ?_
                refine r_icmp_ne (tg := 25) rfl rfl (fun _ => ?_) (fun q => False.elim (by have : (nI (q7 + 1000)).toInt = ((q7 + 1000 : Nat) : Int) := nI_toInt (by omega); have : (-1 : Int32).toInt = -1 := rfl; have := i_eq q; omega))
                refine r_ic (x := 0) rfl rfl ?_
                refine r_iret rfl ?_
                show WR _ cd_190 43 [some (.ref (ad 30)), some (.int c), some (.int w), none, none] [.int 0] (sI h (ad 0) 6 0) _
                refine r_istore (lv' := [some (.ref (ad 30)), some (.int c), some (.int w), some (.int 0), none]) rfl (Nat.le_of_ble_eq_true rfl) rfl ?_
                refine r_iload rfl rfl ?_
                refine r_if_le (tg := 57) rfl rfl (fun _ => ?_) (fun q => absurd q (by decide))
                refine r_aload rfl rfl ?_
                refine r_ic (x := 0) rfl rfl ?_
                refine r_putI rfl ⟨rfl, rfl, rfl⟩ (fx_t30 fx) ?_
                refine r_aload rfl rfl ?_
                refine r_getA (b := ad 31) rfl ⟨rfl, rfl, rfl⟩ (fx_t30 fx) (fx_r30_0 fx) ?_
                refine r_iload rfl rfl ?_
                refine WR_tI (y := nI k2) ek2 ?_
                refine r_iaload rfl (.inl (fx_t31 fx)) (vp_ct (fx_n31 fx) (vp_in_nI (by have := i_eq ek2; have : (nI k2).toInt = ((k2 : Nat) : Int) := nI_toInt (by omega); have := i_rg c; have := i_nle c3; have : (24 : Int32).toInt = 24 := rfl; have := i_nlt c1; have : (0 : Int32).toInt = 0 := rfl; omega) (by omega))) ?_
                refine WR_tI (congrArg (hI (sI (sI h (ad 0) 6 0) (ad 30) 11 0) (ad 31)) ((nI_clamp (by have := i_eq ek2; have : (nI k2).toInt = ((k2 : Nat) : Int) := nI_toInt (by omega); have := i_rg c; have := i_nle c3; have : (24 : Int32).toInt = 24 := rfl; have := i_nlt c1; have : (0 : Int32).toInt = 0 := rfl; omega)) : _ = k2)) ?_
                refine WR_tI (y := nI (q7 + 1000)) (Eq.trans (I_ne (fx_ne fx (by decide))) (Eq.trans (I_ne (fx_ne fx (by decide))) v7)) ?_
                refine r_ic (x := 1000) rfl rfl ?_
                refine r_isub rfl ?_
                refine WR_tI (y := nI q7) (Eq.trans (pk_sub (a := q7 + 1000) (b := 1000) (by omega)) (congrArg nI (by omega))) ?_
                refine r_istore (lv' := [some (.ref (ad 30)), some (.int c), some (.int w), some (.int 0), some (.int (nI q7))]) rfl (Nat.le_of_ble_eq_true rfl) rfl ?_
                refine r_iload rfl rfl ?_
                refine WR_tI (y := nI k5) ek5 ?_
                refine r_if_ne (tg := 89) rfl rfl (fun _ => ?_) (fun q => False.elim (by have : (nI k5).toInt = ((k5 : Nat) : Int) := nI_toInt (by omega); have : (0 : Int32).toInt = 0 := rfl; have := i_eq ek5; have := i_rg w; have := i_le c6; have : (2 : Int32).toInt = 2 := rfl; have := i_eq c9; have : (1 : Int32).toInt = 1 := rfl; have := i_nlt c4; have := i_neq c8; have := i_eq q; omega))
                refine r_iload rfl rfl ?_
                refine WR_tI (y := nI k5) ek5 ?_
                refine r_ic (x := 1) rfl rfl ?_
                refine r_icmp_ne (tg := 100) rfl rfl (fun q => False.elim (by have : (nI k5).toInt = ((k5 : Nat) : Int) := nI_toInt (by omega); have : (1 : Int32).toInt = 1 := rfl; have := i_eq ek5; have := i_rg w; have := i_le c6; have : (2 : Int32).toInt = 2 := rfl; have := i_eq c9; have := i_nlt c4; have : (0 : Int32).toInt = 0 := rfl; have := i_neq q; omega)) (fun _ => ?_)
                refine r_iload rfl rfl ?_
                refine r_i2l rfl ?_
                refine WR_tL (y := lN q7) (nI_l (by omega)) ?_
                refine r_goto (tg := 107) rfl rfl ?_
                refine r_lret rfl ?_
                exact ⟨rfl, Rel.why r ((Chg.rf.sI (fx_j fx) (.inl (by decide))).sI (fx_j fx) (.inl (by decide))) ⟨rfl, by decide⟩ (Eq.trans (Eq.trans (I_ne (fx_ne fx (by decide))) I_eq) (Eq.symm I_eq)), Nat.le_add_right _ _, Nat.le_add_right _ _⟩
            · refine r_aload rfl rfl ?_
              refine r_getI rfl ⟨rfl, rfl, rfl⟩ tg7 ?_
              refine WR_tI (y := nI kd7) (Eq.trans (I_ne (dy_ad fx (.inl (by decide)) dz7)) k1_7) ?_
              refine r_i2l rfl ?_
              refine WR_tL (y := lN kd7) (nI_l (by omega)) ?_
              refine r_goto (tg := 76) rfl rfl ?_
              refine r_lret rfl ?_
              show EV _ 190 [.ref (ad 30), .int c, .int w] (sI h (ad 0) 6 0) _
              refine in_190 (Nat.le_of_ble_eq_true rfl) ?_
              show WR _ cd_190 0 [some (.ref (ad 30)), some (.int c), some (.int w), none, none] [] (sI h (ad 0) 6 0) _
              refine r_iload rfl rfl ?_
              refine WR_tI (y := nI k2) ek2 ?_
              refine r_cs (y := 153) (ra := [.int (nI k2)]) (rest := []) rfl ⟨⟨rfl, rfl⟩, by decide⟩ rfl rfl (Nat.le_of_ble_eq_true rfl) ?_
              refine in_153 (Nat.le_of_ble_eq_true rfl) ?_
              show WR _ cd_153 0 [some (.int (nI k2))] [] (sI h (ad 0) 6 0) _
              refine r_iload rfl rfl ?_
              refine r_if_lt (tg := 14) rfl rfl (fun q => False.elim (by have : (nI k2).toInt = ((k2 : Nat) : Int) := nI_toInt (by omega); have : (0 : Int32).toInt = 0 := rfl; have := i_eq ek2; have := i_rg c; have := i_nle c3; have : (24 : Int32).toInt = 24 := rfl; have := i_nlt c1; have := i_lt q; omega)) (fun _ => ?_)
              refine r_iload rfl rfl ?_
              refine r_ic (x := 24) rfl rfl ?_
              refine r_icmp_ge (tg := 14) rfl rfl (fun q => False.elim (by have : (nI k2).toInt = ((k2 : Nat) : Int) := nI_toInt (by omega); have : (24 : Int32).toInt = 24 := rfl; have := i_eq ek2; have := i_rg c; have := i_nle c3; have := i_nlt c1; have : (0 : Int32).toInt = 0 := rfl; have := i_le q; omega)) (fun _ => ?_)
              refine r_ic (x := 1) rfl rfl ?_
              refine r_goto (tg := 15) rfl rfl ?_
              refine r_zret rfl (.inr rfl) ?_
              show WR _ cd_190 4 [some (.ref (ad 30)), some (.int c), some (.int w), none, none] [.int 1] (sI h (ad 0) 6 0) _
              refine r_if_ne (tg := 14) rfl rfl (fun _ => ?_) (fun q => absurd q (by decide))
              refine r_iload rfl rfl ?_
              refine WR_tI (y := nI k5) ek5 ?_
              refine r_i2l rfl ?_
              refine WR_tL (y := lN k5) (nI_l (by have := i_eq ek5; have : (nI k5).toInt = ((k5 : Nat) : Int) := nI_toInt (by omega); have := i_rg w; have := i_le c6; have : (2 : Int32).toInt = 2 := rfl; have := i_eq c8; have : (0 : Int32).toInt = 0 := rfl; have := i_nlt c4; omega)) ?_
              refine r_lc (x := 0) rfl rfl ?_
              refine r_ldc (x := .long 2) rfl rfl ?_
              refine r_cs (y := 155) (ra := [.long 2, .long 0, .long (lN k5)]) (rest := []) rfl ⟨⟨rfl, rfl⟩, by decide⟩ rfl rfl (Nat.le_of_ble_eq_true rfl) ?_
              refine in_155 (Nat.le_of_ble_eq_true rfl) ?_
              show WR _ cd_155 0 [some (.long (lN k5)), none, some (.long 0), none, some (.long 2), none] [] (sI h (ad 0) 6 0) _
              refine r_lload rfl rfl ?_
              refine r_lload rfl rfl ?_
              refine r_lif_lt (tg := 17) rfl rfl rfl (fun q => False.elim (by have : (lN k5).toInt = ((k5 : Nat) : Int) := lN_toInt (by omega); have : (0 : Int64).toInt = 0 := rfl; have := i_eq ek5; have : (nI k5).toInt = ((k5 : Nat) : Int) := nI_toInt (by omega); have := i_rg w; have := i_le c6; have : (2 : Int32).toInt = 2 := rfl; have := i_eq c8; have : (0 : Int32).toInt = 0 := rfl; have := i_nlt c4; have := l_lt q; omega)) (fun _ => ?_)
              refine r_lload rfl rfl ?_
              refine r_lload rfl rfl ?_
              refine r_lif_gt (tg := 17) rfl rfl rfl (fun q => False.elim (by have : (lN k5).toInt = ((k5 : Nat) : Int) := lN_toInt (by omega); have : (2 : Int64).toInt = 2 := rfl; have := i_eq ek5; have : (nI k5).toInt = ((k5 : Nat) : Int) := nI_toInt (by omega); have := i_rg w; have := i_le c6; have : (2 : Int32).toInt = 2 := rfl; have := i_eq c8; have : (0 : Int32).toInt = 0 := rfl; have := i_nlt c4; have := l_lt q; omega)) (fun _ => ?_)
              refine r_ic (x := 1) rfl rfl ?_
              refine r_goto (tg := 18) rfl rfl ?_
              refine r_zret rfl (.inr rfl) ?_
              show WR _ cd_190 23 [some (.ref (ad 30)), some (.int c), some (.int w), none, none] [.int 1] (sI h (ad 0) 6 0) _
              refine r_if_ne (tg := 33) rfl rfl (fun _ => ?_) (fun q => absurd q (by decide))
              refine r_aload rfl rfl ?_
              refine r_aload rfl rfl ?_
              refine r_getA (b := ad 31) rfl ⟨rfl, rfl, rfl⟩ (fx_t30 fx) (fx_r30_0 fx) ?_
              refine r_iload rfl rfl ?_
              refine WR_tI (y := nI k2) ek2 ?_
              refine r_iaload rfl (.inl (fx_t31 fx)) (vp_ct (fx_n31 fx) (vp_in_nI (by have := i_eq ek2; have : (nI k2).toInt = ((k2 : Nat) : Int) := nI_toInt (by omega); have := i_rg c; have := i_nle c3; have : (24 : Int32).toInt = 24 := rfl; have := i_nlt c1; have : (0 : Int32).toInt = 0 := rfl; omega) (by omega))) ?_
              refine WR_tI (congrArg (hI (sI h (ad 0) 6 0) (ad 31)) ((nI_clamp (by have := i_eq ek2; have : (nI k2).toInt = ((k2 : Nat) : Int) := nI_toInt (by omega); have := i_rg c; have := i_nle c3; have : (24 : Int32).toInt = 24 := rfl; have := i_nlt c1; have : (0 : Int32).toInt = 0 := rfl; omega)) : _ = k2)) ?_
              refine WR_tI (y := nI (q7 + 1000)) (Eq.trans (I_ne (fx_ne fx (by decide))) v7) ?_
              refine r_cv (y := 185) (ra := [.int (nI (q7 + 1000))]) (rest := []) rfl ⟨⟨rfl, rfl⟩, rfl, by decide⟩ (fx_t30 fx) rfl rfl (Nat.le_of_ble_eq_true rfl) ?_
              refine in_185 (Nat.le_of_ble_eq_true rfl) ?_
              show WR _ cd_185 0 [some (.ref (ad 30)), some (.int (nI (q7 + 1000)))] [] (sI h (ad 0) 6 0) _
              refine r_iload rfl rfl ?_
              refine r_ic (x := (-1)) rfl rfl ?_
              refine r_icmp_eq (tg := 16) rfl rfl (fun q => False.elim (by have : (nI (q7 + 1000)).toInt = ((q7 + 1000 : Nat) : Int) := nI_toInt (by omega); have : (-1 : Int32).toInt = -1 := rfl; have := i_eq q; omega)) (fun _ => ?_)
              refine r_iload rfl rfl ?_
              refine r_ic (x := 1000) rfl rfl ?_
              refine r_icmp_ge (tg := 16) rfl rfl (fun _ => ?_) (fun q => False.elim (by have : (nI (q7 + 1000)).toInt = ((q7 + 1000 : Nat) : Int) := nI_toInt (by omega); have : (1000 : Int32).toInt = 1000 := rfl; have := i_nle q; omega))
              refine r_iload rfl rfl ?_
              refine r_ic (x := (-1)) rfl rfl ?_
              refine r_icmp_ne (tg := 25) rfl rfl (fun _ => ?_) (fun q => False.elim (by have : (nI (q7 + 1000)).toInt = ((q7 + 1000 : Nat) : Int) := nI_toInt (by omega); have : (-1 : Int32).toInt = -1 := rfl; have := i_eq q; omega))
              refine r_ic (x := 0) rfl rfl ?_
              refine r_iret rfl ?_
              show WR _ cd_190 43 [some (.ref (ad 30)), some (.int c), some (.int w), none, none] [.int 0] (sI h (ad 0) 6 0) _
              refine r_istore (lv' := [some (.ref (ad 30)), some (.int c), some (.int w), some (.int 0), none]) rfl (Nat.le_of_ble_eq_true rfl) rfl ?_
              refine r_iload rfl rfl ?_
              refine r_if_le (tg := 57) rfl rfl (fun _ => ?_) (fun q => absurd q (by decide))
              refine r_aload rfl rfl ?_
              refine r_ic (x := 0) rfl rfl ?_
              refine r_putI rfl ⟨rfl, rfl, rfl⟩ (fx_t30 fx) ?_
              refine r_aload rfl rfl ?_
              refine r_getA (b := ad 31) rfl ⟨rfl, rfl, rfl⟩ (fx_t30 fx) (fx_r30_0 fx) ?_
              refine r_iload rfl rfl ?_
              refine WR_tI (y := nI k2) ek2 ?_
              refine r_iaload rfl (.inl (fx_t31 fx)) (vp_ct (fx_n31 fx) (vp_in_nI (by have := i_eq ek2; have : (nI k2).toInt = ((k2 : Nat) : Int) := nI_toInt (by omega); have := i_rg c; have := i_nle c3; have : (24 : Int32).toInt = 24 := rfl; have := i_nlt c1; have : (0 : Int32).toInt = 0 := rfl; omega) (by omega))) ?_
              refine WR_tI (congrArg (hI (sI (sI h (ad 0) 6 0) (ad 30) 11 0) (ad 31)) ((nI_clamp (by have := i_eq ek2; have : (nI k2).toInt = ((k2 : Nat) : Int) := nI_toInt (by omega); have := i_rg c; have := i_nle c3; have : (24 : Int32).toInt = 24 := rfl; have := i_nlt c1; have : (0 : Int32).toInt = 0 := rfl; omega)) : _ = k2)) ?_
              refine WR_tI (y := nI (q7 + 1000)) (Eq.trans (I_ne (fx_ne fx (by decide))) (Eq.trans (I_ne (fx_ne fx (by decide))) v7)) ?_
              refine r_ic (x := 1000) rfl rfl ?_
              refine r_isub rfl ?_
              refine WR_tI (y := nI q7) (Eq.trans (pk_sub (a := q7 + 1000) (b := 1000) (by omega)) (congrArg nI (by omega))) ?_
              refine r_istore (lv' := [some (.ref (ad 30)), some (.int c), some (.int w), some (.int 0), some (.int (nI q7))]) rfl (Nat.le_of_ble_eq_true rfl) rfl ?_
              refine r_iload rfl rfl ?_
              refine WR_tI (y := nI k5) ek5 ?_
              refine r_if_ne (tg := 89) rfl rfl (fun q => False.elim (by have : (nI k5).toInt = ((k5 : Nat) : Int) := nI_toInt (by omega); have : (0 : Int32).toInt = 0 := rfl; have := i_eq ek5; have := i_rg w; have := i_le c6; have : (2 : Int32).toInt = 2 := rfl; have := i_eq c8; have := i_nlt c4; have := i_neq q; omega)) (fun _ => ?_)
              refine r_aload rfl rfl ?_
              refine r_getA (b := ad 37) rfl ⟨rfl, rfl, rfl⟩ (fx_t30 fx) (fx_r30_7 fx) ?_
              refine r_iload rfl rfl ?_
              refine r_iaload rfl (.inl (fx_t37 fx)) (vp_ct (fx_n37 fx) (vp_in_nI (by omega) (by omega))) ?_
              refine WR_tI (congrArg (hI (sI (sI h (ad 0) 6 0) (ad 30) 11 0) (ad 37)) ((nI_clamp (by omega)) : _ = q7)) ?_
              refine WR_tI (y := nI kd7) (Eq.trans (I_ne (fx_ne fx (by decide))) (Eq.trans (I_ne (fx_ne fx (by decide))) k2_7)) ?_
              refine r_i2l rfl ?_
              refine WR_tL (y := lN kd7) (nI_l (by omega)) ?_
              refine r_goto (tg := 107) rfl rfl ?_
              refine r_lret rfl ?_
              exact ⟨rfl, Rel.why r ((Chg.rf.sI (fx_j fx) (.inl (by decide))).sI (fx_j fx) (.inl (by decide))) ⟨rfl, by decide⟩ (Eq.trans (Eq.trans (I_ne (fx_ne fx (by decide))) I_eq) (Eq.symm I_eq)), Nat.le_add_right _ _, Nat.le_add_right _ _⟩
          · refine r_aaloadA (b := mid t7) rfl (isQ_of (fx_t1 fx) (by decide)) (vp_ct (fx_n1 fx) (vp_in_nI (by have := i_eq ek2; have : (nI k2).toInt = ((k2 : Nat) : Int) := nI_toInt (by omega); have := i_rg c; have := i_nle c3; have : (24 : Int32).toInt = 24 := rfl; have := i_nlt c1; have : (0 : Int32).toInt = 0 := rfl; omega) (by omega))) (Eq.trans (congrArg (hR (sI h (ad 0) 6 0) (ad 1)) ((nI_clamp (by have := i_eq ek2; have : (nI k2).toInt = ((k2 : Nat) : Int) := nI_toInt (by omega); have := i_rg c; have := i_nle c3; have : (24 : Int32).toInt = 24 := rfl; have := i_nlt c1; have : (0 : Int32).toInt = 0 := rfl; omega)) : _ = k2)) (Eq.trans R_oI w7)) ?_
            refine r_astore (lv' := [some (.ref (ad 0)), some (.int (nI k2)), some (.ref (mid t7)), none]) rfl (Nat.le_of_ble_eq_true rfl) rfl ?_
            refine r_aload rfl rfl ?_
            refine r_instW rfl (by decide) tg7 (by decide) ?_
            refine r_if_eq (tg := 21) rfl rfl (fun _ => ?_) (fun q => absurd q (by decide))
            refine r_aload rfl rfl ?_
            refine r_aload rfl rfl ?_
            refine r_ifnonnullA (tg := 31) rfl rfl ?_
            refine r_ic (x := (-14)) rfl rfl ?_
            refine r_putI rfl ⟨rfl, rfl, rfl⟩ (fx_t0 fx) ?_
            refine r_null rfl ?_
            refine r_aret0 rfl ?_
            show WR _ cd_72 40 [some (.ref (ad 0)), some (.int c), some (.int w), none] [.null] (sI (sI h (ad 0) 6 0) (ad 0) 6 (-14)) _
            refine r_astore0 (lv' := [some (.ref (ad 0)), some (.int c), some (.int w), some (.null)]) rfl (Nat.le_of_ble_eq_true rfl) rfl ?_
            refine r_aload0 rfl rfl ?_
            refine r_ifnonnullN (tg := 47) rfl rfl ?_
            refine r_lc (x := 0) rfl rfl ?_
            refine r_lret rfl ?_
            show EV _ 190 [.ref (ad 30), .int c, .int w] (sI (sI h (ad 0) 6 0) (ad 0) 6 (-14)) _
            refine in_190 (Nat.le_of_ble_eq_true rfl) ?_
            show WR _ cd_190 0 [some (.ref (ad 30)), some (.int c), some (.int w), none, none] [] (sI (sI h (ad 0) 6 0) (ad 0) 6 (-14)) _
            refine r_iload rfl rfl ?_
            refine WR_tI (y := nI k2) ek2 ?_
            refine r_cs (y := 153) (ra := [.int (nI k2)]) (rest := []) rfl ⟨⟨rfl, rfl⟩, by decide⟩ rfl rfl (Nat.le_of_ble_eq_true rfl) ?_
            refine in_153 (Nat.le_of_ble_eq_true rfl) ?_
            show WR _ cd_153 0 [some (.int (nI k2))] [] (sI (sI h (ad 0) 6 0) (ad 0) 6 (-14)) _
            refine r_iload rfl rfl ?_
            refine r_if_lt (tg := 14) rfl rfl (fun q => False.elim (by have : (nI k2).toInt = ((k2 : Nat) : Int) := nI_toInt (by omega); have : (0 : Int32).toInt = 0 := rfl; have := i_eq ek2; have := i_rg c; have := i_nle c3; have : (24 : Int32).toInt = 24 := rfl; have := i_nlt c1; have := i_lt q; omega)) (fun _ => ?_)
            refine r_iload rfl rfl ?_
            refine r_ic (x := 24) rfl rfl ?_
            refine r_icmp_ge (tg := 14) rfl rfl (fun q => False.elim (by have : (nI k2).toInt = ((k2 : Nat) : Int) := nI_toInt (by omega); have : (24 : Int32).toInt = 24 := rfl; have := i_eq ek2; have := i_rg c; have := i_nle c3; have := i_nlt c1; have : (0 : Int32).toInt = 0 := rfl; have := i_le q; omega)) (fun _ => ?_)
            refine r_ic (x := 1) rfl rfl ?_
            refine r_goto (tg := 15) rfl rfl ?_
            refine r_zret rfl (.inr rfl) ?_
            show WR _ cd_190 4 [some (.ref (ad 30)), some (.int c), some (.int w), none, none] [.int 1] (sI (sI h (ad 0) 6 0) (ad 0) 6 (-14)) _
            refine r_if_ne (tg := 14) rfl rfl (fun _ => ?_) (fun q => absurd q (by decide))
            refine r_iload rfl rfl ?_
            refine WR_tI (y := nI k5) ek5 ?_
            refine r_i2l rfl ?_
            refine WR_tL (y := lN k5) (nI_l (by have := i_eq ek5; have : (nI k5).toInt = ((k5 : Nat) : Int) := nI_toInt (by omega); have := i_rg w; have := i_le c6; have : (2 : Int32).toInt = 2 := rfl; have := i_nlt c4; have : (0 : Int32).toInt = 0 := rfl; omega)) ?_
            refine r_lc (x := 0) rfl rfl ?_
            refine r_ldc (x := .long 2) rfl rfl ?_
            refine r_cs (y := 155) (ra := [.long 2, .long 0, .long (lN k5)]) (rest := []) rfl ⟨⟨rfl, rfl⟩, by decide⟩ rfl rfl (Nat.le_of_ble_eq_true rfl) ?_
            refine in_155 (Nat.le_of_ble_eq_true rfl) ?_
            show WR _ cd_155 0 [some (.long (lN k5)), none, some (.long 0), none, some (.long 2), none] [] (sI (sI h (ad 0) 6 0) (ad 0) 6 (-14)) _
            refine r_lload rfl rfl ?_
            refine r_lload rfl rfl ?_
            refine r_lif_lt (tg := 17) rfl rfl rfl (fun q => False.elim (by have : (lN k5).toInt = ((k5 : Nat) : Int) := lN_toInt (by omega); have : (0 : Int64).toInt = 0 := rfl; have := i_eq ek5; have : (nI k5).toInt = ((k5 : Nat) : Int) := nI_toInt (by omega); have := i_rg w; have := i_le c6; have : (2 : Int32).toInt = 2 := rfl; have := i_nlt c4; have : (0 : Int32).toInt = 0 := rfl; have := l_lt q; omega)) (fun _ => ?_)
            refine r_lload rfl rfl ?_
            refine r_lload rfl rfl ?_
            refine r_lif_gt (tg := 17) rfl rfl rfl (fun q => False.elim (by have : (lN k5).toInt = ((k5 : Nat) : Int) := lN_toInt (by omega); have : (2 : Int64).toInt = 2 := rfl; have := i_eq ek5; have : (nI k5).toInt = ((k5 : Nat) : Int) := nI_toInt (by omega); have := i_rg w; have := i_le c6; have : (2 : Int32).toInt = 2 := rfl; have := i_nlt c4; have : (0 : Int32).toInt = 0 := rfl; have := l_lt q; omega)) (fun _ => ?_)
            refine r_ic (x := 1) rfl rfl ?_
            refine r_goto (tg := 18) rfl rfl ?_
            refine r_zret rfl (.inr rfl) ?_
            show WR _ cd_190 23 [some (.ref (ad 30)), some (.int c), some (.int w), none, none] [.int 1] (sI (sI h (ad 0) 6 0) (ad 0) 6 (-14)) _
            refine r_if_ne (tg := 33) rfl rfl (fun _ => ?_) (fun q => absurd q (by decide))
            refine r_aload rfl rfl ?_
            refine r_aload rfl rfl ?_
            refine r_getA (b := ad 31) rfl ⟨rfl, rfl, rfl⟩ (fx_t30 fx) (fx_r30_0 fx) ?_
            refine r_iload rfl rfl ?_
            refine WR_tI (y := nI k2) ek2 ?_
            refine r_iaload rfl (.inl (fx_t31 fx)) (vp_ct (fx_n31 fx) (vp_in_nI (by have := i_eq ek2; have : (nI k2).toInt = ((k2 : Nat) : Int) := nI_toInt (by omega); have := i_rg c; have := i_nle c3; have : (24 : Int32).toInt = 24 := rfl; have := i_nlt c1; have : (0 : Int32).toInt = 0 := rfl; omega) (by omega))) ?_
            refine WR_tI (congrArg (hI (sI (sI h (ad 0) 6 0) (ad 0) 6 (-14)) (ad 31)) ((nI_clamp (by have := i_eq ek2; have : (nI k2).toInt = ((k2 : Nat) : Int) := nI_toInt (by omega); have := i_rg c; have := i_nle c3; have : (24 : Int32).toInt = 24 := rfl; have := i_nlt c1; have : (0 : Int32).toInt = 0 := rfl; omega)) : _ = k2)) ?_
            refine WR_tI (y := nI t7) (Eq.trans (I_ne (fx_ne fx (by decide))) (Eq.trans (I_ne (fx_ne fx (by decide))) v7)) ?_
            refine r_cv (y := 185) (ra := [.int (nI t7)]) (rest := []) rfl ⟨⟨rfl, rfl⟩, rfl, by decide⟩ (fx_t30 fx) rfl rfl (Nat.le_of_ble_eq_true rfl) ?_
            refine in_185 (Nat.le_of_ble_eq_true rfl) ?_
            show WR _ cd_185 0 [some (.ref (ad 30)), some (.int (nI t7))] [] (sI (sI h (ad 0) 6 0) (ad 0) 6 (-14)) _
            refine r_iload rfl rfl ?_
            refine r_ic (x := (-1)) rfl rfl ?_
            refine r_icmp_eq (tg := 16) rfl rfl (fun q => False.elim (by have : (nI t7).toInt = ((t7 : Nat) : Int) := nI_toInt (by omega); have : (-1 : Int32).toInt = -1 := rfl; have := i_eq q; omega)) (fun _ => ?_)
            refine r_iload rfl rfl ?_
            refine r_ic (x := 1000) rfl rfl ?_
            refine r_icmp_ge (tg := 16) rfl rfl (fun q => False.elim (by have : (nI t7).toInt = ((t7 : Nat) : Int) := nI_toInt (by omega); have : (1000 : Int32).toInt = 1000 := rfl; have := i_le q; omega)) (fun _ => ?_)
            refine r_ic (x := 4) rfl rfl ?_
            refine r_goto (tg := 26) rfl rfl ?_
            refine r_iret rfl ?_
            show WR _ cd_190 43 [some (.ref (ad 30)), some (.int c), some (.int w), none, none] [.int 4] (sI (sI h (ad 0) 6 0) (ad 0) 6 (-14)) _
            refine r_istore (lv' := [some (.ref (ad 30)), some (.int c), some (.int w), some (.int 4), none]) rfl (Nat.le_of_ble_eq_true rfl) rfl ?_
            refine r_iload rfl rfl ?_
            refine r_if_le (tg := 57) rfl rfl (fun q => absurd q (by decide)) (fun _ => ?_)
            refine r_aload rfl rfl ?_
            refine r_ic (x := (-10)) rfl rfl ?_
            refine r_iload rfl rfl ?_
            refine r_isub rfl ?_
            refine WR_tI (y := (-14)) rfl ?_
            refine r_cv (y := 171) (ra := [.int (-14)]) (rest := []) rfl ⟨⟨rfl, rfl⟩, rfl, by decide⟩ (fx_t30 fx) rfl rfl (Nat.le_of_ble_eq_true rfl) ?_
            refine in_171 (Nat.le_of_ble_eq_true rfl) ?_
            show WR _ cd_171 0 [some (.ref (ad 30)), some (.int (-14))] [] (sI (sI h (ad 0) 6 0) (ad 0) 6 (-14)) _
            refine r_aload rfl rfl ?_
            refine r_iload rfl rfl ?_
            refine r_putI rfl ⟨rfl, rfl, rfl⟩ (fx_t30 fx) ?_
            refine r_lc (x := 0) rfl rfl ?_
            refine r_lret rfl ?_
            show WR _ cd_190 56 [some (.ref (ad 30)), some (.int c), some (.int w), some (.int 4), none] [.long 0] (sI (sI (sI h (ad 0) 6 0) (ad 0) 6 (-14)) (ad 30) 11 (-14)) _
            refine r_lret rfl ?_
            exact ⟨rfl, Rel.why r (((Chg.rf.sI (fx_j fx) (.inl (by decide))).sI (fx_j fx) (.inl (by decide))).sI (fx_j fx) (.inl (by decide))) ⟨rfl, by decide⟩ (Eq.trans (Eq.trans (I_ne (fx_ne fx (by decide))) I_eq) (Eq.symm I_eq)), Nat.le_add_right _ _, Nat.le_add_right _ _⟩
          · refine r_aaloadA (b := mid t7) rfl (isQ_of (fx_t1 fx) (by decide)) (vp_ct (fx_n1 fx) (vp_in_nI (by have := i_eq ek2; have : (nI k2).toInt = ((k2 : Nat) : Int) := nI_toInt (by omega); have := i_rg c; have := i_nle c3; have : (24 : Int32).toInt = 24 := rfl; have := i_nlt c1; have : (0 : Int32).toInt = 0 := rfl; omega) (by omega))) (Eq.trans (congrArg (hR (sI h (ad 0) 6 0) (ad 1)) ((nI_clamp (by have := i_eq ek2; have : (nI k2).toInt = ((k2 : Nat) : Int) := nI_toInt (by omega); have := i_rg c; have := i_nle c3; have : (24 : Int32).toInt = 24 := rfl; have := i_nlt c1; have : (0 : Int32).toInt = 0 := rfl; omega)) : _ = k2)) (Eq.trans R_oI w7)) ?_
            refine r_astore (lv' := [some (.ref (ad 0)), some (.int (nI k2)), some (.ref (mid t7)), none]) rfl (Nat.le_of_ble_eq_true rfl) rfl ?_
            refine r_aload rfl rfl ?_
            refine r_instW rfl (by decide) tg7 (by decide) ?_
            refine r_if_eq (tg := 21) rfl rfl (fun _ => ?_) (fun q => absurd q (by decide))
            refine r_aload rfl rfl ?_
            refine r_aload rfl rfl ?_
            refine r_ifnonnullA (tg := 31) rfl rfl ?_
            refine r_ic (x := (-14)) rfl rfl ?_
            refine r_putI rfl ⟨rfl, rfl, rfl⟩ (fx_t0 fx) ?_
            refine r_null rfl ?_
            refine r_aret0 rfl ?_
            show WR _ cd_72 40 [some (.ref (ad 0)), some (.int c), some (.int w), none] [.null] (sI (sI h (ad 0) 6 0) (ad 0) 6 (-14)) _
            refine r_astore0 (lv' := [some (.ref (ad 0)), some (.int c), some (.int w), some (.null)]) rfl (Nat.le_of_ble_eq_true rfl) rfl ?_
            refine r_aload0 rfl rfl ?_
            refine r_ifnonnullN (tg := 47) rfl rfl ?_
            refine r_lc (x := 0) rfl rfl ?_
            refine r_lret rfl ?_
            show EV _ 190 [.ref (ad 30), .int c, .int w] (sI (sI h (ad 0) 6 0) (ad 0) 6 (-14)) _
            refine in_190 (Nat.le_of_ble_eq_true rfl) ?_
            show WR _ cd_190 0 [some (.ref (ad 30)), some (.int c), some (.int w), none, none] [] (sI (sI h (ad 0) 6 0) (ad 0) 6 (-14)) _
            refine r_iload rfl rfl ?_
            refine WR_tI (y := nI k2) ek2 ?_
            refine r_cs (y := 153) (ra := [.int (nI k2)]) (rest := []) rfl ⟨⟨rfl, rfl⟩, by decide⟩ rfl rfl (Nat.le_of_ble_eq_true rfl) ?_
            refine in_153 (Nat.le_of_ble_eq_true rfl) ?_
            show WR _ cd_153 0 [some (.int (nI k2))] [] (sI (sI h (ad 0) 6 0) (ad 0) 6 (-14)) _
            refine r_iload rfl rfl ?_
            refine r_if_lt (tg := 14) rfl rfl (fun q => False.elim (by have : (nI k2).toInt = ((k2 : Nat) : Int) := nI_toInt (by omega); have : (0 : Int32).toInt = 0 := rfl; have := i_eq ek2; have := i_rg c; have := i_nle c3; have : (24 : Int32).toInt = 24 := rfl; have := i_nlt c1; have := i_lt q; omega)) (fun _ => ?_)
            refine r_iload rfl rfl ?_
            refine r_ic (x := 24) rfl rfl ?_
            refine r_icmp_ge (tg := 14) rfl rfl (fun q => False.elim (by have : (nI k2).toInt = ((k2 : Nat) : Int) := nI_toInt (by omega); have : (24 : Int32).toInt = 24 := rfl; have := i_eq ek2; have := i_rg c; have := i_nle c3; have := i_nlt c1; have : (0 : Int32).toInt = 0 := rfl; have := i_le q; omega)) (fun _ => ?_)
            refine r_ic (x := 1) rfl rfl ?_
            refine r_goto (tg := 15) rfl rfl ?_
            refine r_zret rfl (.inr rfl) ?_
            show WR _ cd_190 4 [some (.ref (ad 30)), some (.int c), some (.int w), none, none] [.int 1] (sI (sI h (ad 0) 6 0) (ad 0) 6 (-14)) _
            refine r_if_ne (tg := 14) rfl rfl (fun _ => ?_) (fun q => absurd q (by decide))
            refine r_iload rfl rfl ?_
            refine WR_tI (y := nI k5) ek5 ?_
            refine r_i2l rfl ?_
            refine WR_tL (y := lN k5) (nI_l (by have := i_eq ek5; have : (nI k5).toInt = ((k5 : Nat) : Int) := nI_toInt (by omega); have := i_rg w; have := i_le c6; have : (2 : Int32).toInt = 2 := rfl; have := i_nlt c4; have : (0 : Int32).toInt = 0 := rfl; omega)) ?_
            refine r_lc (x := 0) rfl rfl ?_
            refine r_ldc (x := .long 2) rfl rfl ?_
            refine r_cs (y := 155) (ra := [.long 2, .long 0, .long (lN k5)]) (rest := []) rfl ⟨⟨rfl, rfl⟩, by decide⟩ rfl rfl (Nat.le_of_ble_eq_true rfl) ?_
            refine in_155 (Nat.le_of_ble_eq_true rfl) ?_
            show WR _ cd_155 0 [some (.long (lN k5)), none, some (.long 0), none, some (.long 2), none] [] (sI (sI h (ad 0) 6 0) (ad 0) 6 (-14)) _
            refine r_lload rfl rfl ?_
            refine r_lload rfl rfl ?_
            refine r_lif_lt (tg := 17) rfl rfl rfl (fun q => False.elim (by have : (lN k5).toInt = ((k5 : Nat) : Int) := lN_toInt (by omega); have : (0 : Int64).toInt = 0 := rfl; have := i_eq ek5; have : (nI k5).toInt = ((k5 : Nat) : Int) := nI_toInt (by omega); have := i_rg w; have := i_le c6; have : (2 : Int32).toInt = 2 := rfl; have := i_nlt c4; have : (0 : Int32).toInt = 0 := rfl; have := l_lt q; omega)) (fun _ => ?_)
            refine r_lload rfl rfl ?_
            refine r_lload rfl rfl ?_
            refine r_lif_gt (tg := 17) rfl rfl rfl (fun q => False.elim (by have : (lN k5).toInt = ((k5 : Nat) : Int) := lN_toInt (by omega); have : (2 : Int64).toInt = 2 := rfl; have := i_eq ek5; have : (nI k5).toInt = ((k5 : Nat) : Int) := nI_toInt (by omega); have := i_rg w; have := i_le c6; have : (2 : Int32).toInt = 2 := rfl; have := i_nlt c4; have : (0 : Int32).toInt = 0 := rfl; have := l_lt q; omega)) (fun _ => ?_)
            refine r_ic (x := 1) rfl rfl ?_
            refine r_goto (tg := 18) rfl rfl ?_
            refine r_zret rfl (.inr rfl) ?_
            show WR _ cd_190 23 [some (.ref (ad 30)), some (.int c), some (.int w), none, none] [.int 1] (sI (sI h (ad 0) 6 0) (ad 0) 6 (-14)) _
            refine r_if_ne (tg := 33) rfl rfl (fun _ => ?_) (fun q => absurd q (by decide))
            refine r_aload rfl rfl ?_
            refine r_aload rfl rfl ?_
            refine r_getA (b := ad 31) rfl ⟨rfl, rfl, rfl⟩ (fx_t30 fx) (fx_r30_0 fx) ?_
            refine r_iload rfl rfl ?_
            refine WR_tI (y := nI k2) ek2 ?_
            refine r_iaload rfl (.inl (fx_t31 fx)) (vp_ct (fx_n31 fx) (vp_in_nI (by have := i_eq ek2; have : (nI k2).toInt = ((k2 : Nat) : Int) := nI_toInt (by omega); have := i_rg c; have := i_nle c3; have : (24 : Int32).toInt = 24 := rfl; have := i_nlt c1; have : (0 : Int32).toInt = 0 := rfl; omega) (by omega))) ?_
            refine WR_tI (congrArg (hI (sI (sI h (ad 0) 6 0) (ad 0) 6 (-14)) (ad 31)) ((nI_clamp (by have := i_eq ek2; have : (nI k2).toInt = ((k2 : Nat) : Int) := nI_toInt (by omega); have := i_rg c; have := i_nle c3; have : (24 : Int32).toInt = 24 := rfl; have := i_nlt c1; have : (0 : Int32).toInt = 0 := rfl; omega)) : _ = k2)) ?_
            refine WR_tI (y := nI t7) (Eq.trans (I_ne (fx_ne fx (by decide))) (Eq.trans (I_ne (fx_ne fx (by decide))) v7)) ?_
            refine r_cv (y := 185) (ra := [.int (nI t7)]) (rest := []) rfl ⟨⟨rfl, rfl⟩, rfl, by decide⟩ (fx_t30 fx) rfl rfl (Nat.le_of_ble_eq_true rfl) ?_
            refine in_185 (Nat.le_of_ble_eq_true rfl) ?_
            show WR _ cd_185 0 [some (.ref (ad 30)), some (.int (nI t7))] [] (sI (sI h (ad 0) 6 0) (ad 0) 6 (-14)) _
            refine r_iload rfl rfl ?_
            refine r_ic (x := (-1)) rfl rfl ?_
            refine r_icmp_eq (tg := 16) rfl rfl (fun q => False.elim (by have : (nI t7).toInt = ((t7 : Nat) : Int) := nI_toInt (by omega); have : (-1 : Int32).toInt = -1 := rfl; have := i_eq q; omega)) (fun _ => ?_)
            refine r_iload rfl rfl ?_
            refine r_ic (x := 1000) rfl rfl ?_
            refine r_icmp_ge (tg := 16) rfl rfl (fun q => False.elim (by have : (nI t7).toInt = ((t7 : Nat) : Int) := nI_toInt (by omega); have : (1000 : Int32).toInt = 1000 := rfl; have := i_le q; omega)) (fun _ => ?_)
            refine r_ic (x := 4) rfl rfl ?_
            refine r_goto (tg := 26) rfl rfl ?_
            refine r_iret rfl ?_
            show WR _ cd_190 43 [some (.ref (ad 30)), some (.int c), some (.int w), none, none] [.int 4] (sI (sI h (ad 0) 6 0) (ad 0) 6 (-14)) _
            refine r_istore (lv' := [some (.ref (ad 30)), some (.int c), some (.int w), some (.int 4), none]) rfl (Nat.le_of_ble_eq_true rfl) rfl ?_
            refine r_iload rfl rfl ?_
            refine r_if_le (tg := 57) rfl rfl (fun q => absurd q (by decide)) (fun _ => ?_)
            refine r_aload rfl rfl ?_
            refine r_ic (x := (-10)) rfl rfl ?_
            refine r_iload rfl rfl ?_
            refine r_isub rfl ?_
            refine WR_tI (y := (-14)) rfl ?_
            refine r_cv (y := 171) (ra := [.int (-14)]) (rest := []) rfl ⟨⟨rfl, rfl⟩, rfl, by decide⟩ (fx_t30 fx) rfl rfl (Nat.le_of_ble_eq_true rfl) ?_
            refine in_171 (Nat.le_of_ble_eq_true rfl) ?_
            show WR _ cd_171 0 [some (.ref (ad 30)), some (.int (-14))] [] (sI (sI h (ad 0) 6 0) (ad 0) 6 (-14)) _
            refine r_aload rfl rfl ?_
            refine r_iload rfl rfl ?_
            refine r_putI rfl ⟨rfl, rfl, rfl⟩ (fx_t30 fx) ?_
            refine r_lc (x := 0) rfl rfl ?_
            refine r_lret rfl ?_
            show WR _ cd_190 56 [some (.ref (ad 30)), some (.int c), some (.int w), some (.int 4), none] [.long 0] (sI (sI (sI h (ad 0) 6 0) (ad 0) 6 (-14)) (ad 30) 11 (-14)) _
            refine r_lret rfl ?_
            exact ⟨rfl, Rel.why r (((Chg.rf.sI (fx_j fx) (.inl (by decide))).sI (fx_j fx) (.inl (by decide))).sI (fx_j fx) (.inl (by decide))) ⟨rfl, by decide⟩ (Eq.trans (Eq.trans (I_ne (fx_ne fx (by decide))) I_eq) (Eq.symm I_eq)), Nat.le_add_right _ _, Nat.le_add_right _ _⟩
          · refine r_aaloadA (b := mid t7) rfl (isQ_of (fx_t1 fx) (by decide)) (vp_ct (fx_n1 fx) (vp_in_nI (by have := i_eq ek2; have : (nI k2).toInt = ((k2 : Nat) : Int) := nI_toInt (by omega); have := i_rg c; have := i_nle c3; have : (24 : Int32).toInt = 24 := rfl; have := i_nlt c1; have : (0 : Int32).toInt = 0 := rfl; omega) (by omega))) (Eq.trans (congrArg (hR (sI h (ad 0) 6 0) (ad 1)) ((nI_clamp (by have := i_eq ek2; have : (nI k2).toInt = ((k2 : Nat) : Int) := nI_toInt (by omega); have := i_rg c; have := i_nle c3; have : (24 : Int32).toInt = 24 := rfl; have := i_nlt c1; have : (0 : Int32).toInt = 0 := rfl; omega)) : _ = k2)) (Eq.trans R_oI w7)) ?_
            refine r_astore (lv' := [some (.ref (ad 0)), some (.int (nI k2)), some (.ref (mid t7)), none]) rfl (Nat.le_of_ble_eq_true rfl) rfl ?_
            refine r_aload rfl rfl ?_
            refine r_instW rfl (by decide) tg7 (by decide) ?_
            refine r_if_eq (tg := 21) rfl rfl (fun _ => ?_) (fun q => absurd q (by decide))
            refine r_aload rfl rfl ?_
            refine r_aload rfl rfl ?_
            refine r_ifnonnullA (tg := 31) rfl rfl ?_
            refine r_ic (x := (-14)) rfl rfl ?_
            refine r_putI rfl ⟨rfl, rfl, rfl⟩ (fx_t0 fx) ?_
            refine r_null rfl ?_
            refine r_aret0 rfl ?_
            show WR _ cd_72 40 [some (.ref (ad 0)), some (.int c), some (.int w), none] [.null] (sI (sI h (ad 0) 6 0) (ad 0) 6 (-14)) _
            refine r_astore0 (lv' := [some (.ref (ad 0)), some (.int c), some (.int w), some (.null)]) rfl (Nat.le_of_ble_eq_true rfl) rfl ?_
            refine r_aload0 rfl rfl ?_
            refine r_ifnonnullN (tg := 47) rfl rfl ?_
            refine r_lc (x := 0) rfl rfl ?_
            refine r_lret rfl ?_
            show EV _ 190 [.ref (ad 30), .int c, .int w] (sI (sI h (ad 0) 6 0) (ad 0) 6 (-14)) _
            refine in_190 (Nat.le_of_ble_eq_true rfl) ?_
            show WR _ cd_190 0 [some (.ref (ad 30)), some (.int c), some (.int w), none, none] [] (sI (sI h (ad 0) 6 0) (ad 0) 6 (-14)) _
            refine r_iload rfl rfl ?_
            refine WR_tI (y := nI k2) ek2 ?_
            refine r_cs (y := 153) (ra := [.int (nI k2)]) (rest := []) rfl ⟨⟨rfl, rfl⟩, by decide⟩ rfl rfl (Nat.le_of_ble_eq_true rfl) ?_
            refine in_153 (Nat.le_of_ble_eq_true rfl) ?_
            show WR _ cd_153 0 [some (.int (nI k2))] [] (sI (sI h (ad 0) 6 0) (ad 0) 6 (-14)) _
            refine r_iload rfl rfl ?_
            refine r_if_lt (tg := 14) rfl rfl (fun q => False.elim (by have : (nI k2).toInt = ((k2 : Nat) : Int) := nI_toInt (by omega); have : (0 : Int32).toInt = 0 := rfl; have := i_eq ek2; have := i_rg c; have := i_nle c3; have : (24 : Int32).toInt = 24 := rfl; have := i_nlt c1; have := i_lt q; omega)) (fun _ => ?_)
            refine r_iload rfl rfl ?_
            refine r_ic (x := 24) rfl rfl ?_
            refine r_icmp_ge (tg := 14) rfl rfl (fun q => False.elim (by have : (nI k2).toInt = ((k2 : Nat) : Int) := nI_toInt (by omega); have : (24 : Int32).toInt = 24 := rfl; have := i_eq ek2; have := i_rg c; have := i_nle c3; have := i_nlt c1; have : (0 : Int32).toInt = 0 := rfl; have := i_le q; omega)) (fun _ => ?_)
            refine r_ic (x := 1) rfl rfl ?_
            refine r_goto (tg := 15) rfl rfl ?_
            refine r_zret rfl (.inr rfl) ?_
            show WR _ cd_190 4 [some (.ref (ad 30)), some (.int c), some (.int w), none, none] [.int 1] (sI (sI h (ad 0) 6 0) (ad 0) 6 (-14)) _
            refine r_if_ne (tg := 14) rfl rfl (fun _ => ?_) (fun q => absurd q (by decide))
            refine r_iload rfl rfl ?_
            refine WR_tI (y := nI k5) ek5 ?_
            refine r_i2l rfl ?_
            refine WR_tL (y := lN k5) (nI_l (by have := i_eq ek5; have : (nI k5).toInt = ((k5 : Nat) : Int) := nI_toInt (by omega); have := i_rg w; have := i_le c6; have : (2 : Int32).toInt = 2 := rfl; have := i_nlt c4; have : (0 : Int32).toInt = 0 := rfl; omega)) ?_
            refine r_lc (x := 0) rfl rfl ?_
            refine r_ldc (x := .long 2) rfl rfl ?_
            refine r_cs (y := 155) (ra := [.long 2, .long 0, .long (lN k5)]) (rest := []) rfl ⟨⟨rfl, rfl⟩, by decide⟩ rfl rfl (Nat.le_of_ble_eq_true rfl) ?_
            refine in_155 (Nat.le_of_ble_eq_true rfl) ?_
            show WR _ cd_155 0 [some (.long (lN k5)), none, some (.long 0), none, some (.long 2), none] [] (sI (sI h (ad 0) 6 0) (ad 0) 6 (-14)) _
            refine r_lload rfl rfl ?_
            refine r_lload rfl rfl ?_
            refine r_lif_lt (tg := 17) rfl rfl rfl (fun q => False.elim (by have : (lN k5).toInt = ((k5 : Nat) : Int) := lN_toInt (by omega); have : (0 : Int64).toInt = 0 := rfl; have := i_eq ek5; have : (nI k5).toInt = ((k5 : Nat) : Int) := nI_toInt (by omega); have := i_rg w; have := i_le c6; have : (2 : Int32).toInt = 2 := rfl; have := i_nlt c4; have : (0 : Int32).toInt = 0 := rfl; have := l_lt q; omega)) (fun _ => ?_)
            refine r_lload rfl rfl ?_
            refine r_lload rfl rfl ?_
            refine r_lif_gt (tg := 17) rfl rfl rfl (fun q => False.elim (by have : (lN k5).toInt = ((k5 : Nat) : Int) := lN_toInt (by omega); have : (2 : Int64).toInt = 2 := rfl; have := i_eq ek5; have : (nI k5).toInt = ((k5 : Nat) : Int) := nI_toInt (by omega); have := i_rg w; have := i_le c6; have : (2 : Int32).toInt = 2 := rfl; have := i_nlt c4; have : (0 : Int32).toInt = 0 := rfl; have := l_lt q; omega)) (fun _ => ?_)
            refine r_ic (x := 1) rfl rfl ?_
            refine r_goto (tg := 18) rfl rfl ?_
            refine r_zret rfl (.inr rfl) ?_
            show WR _ cd_190 23 [some (.ref (ad 30)), some (.int c), some (.int w), none, none] [.int 1] (sI (sI h (ad 0) 6 0) (ad 0) 6 (-14)) _
            refine r_if_ne (tg := 33) rfl rfl (fun _ => ?_) (fun q => absurd q (by decide))
            refine r_aload rfl rfl ?_
            refine r_aload rfl rfl ?_
            refine r_getA (b := ad 31) rfl ⟨rfl, rfl, rfl⟩ (fx_t30 fx) (fx_r30_0 fx) ?_
            refine r_iload rfl rfl ?_
            refine WR_tI (y := nI k2) ek2 ?_
            refine r_iaload rfl (.inl (fx_t31 fx)) (vp_ct (fx_n31 fx) (vp_in_nI (by have := i_eq ek2; have : (nI k2).toInt = ((k2 : Nat) : Int) := nI_toInt (by omega); have := i_rg c; have := i_nle c3; have : (24 : Int32).toInt = 24 := rfl; have := i_nlt c1; have : (0 : Int32).toInt = 0 := rfl; omega) (by omega))) ?_
            refine WR_tI (congrArg (hI (sI (sI h (ad 0) 6 0) (ad 0) 6 (-14)) (ad 31)) ((nI_clamp (by have := i_eq ek2; have : (nI k2).toInt = ((k2 : Nat) : Int) := nI_toInt (by omega); have := i_rg c; have := i_nle c3; have : (24 : Int32).toInt = 24 := rfl; have := i_nlt c1; have : (0 : Int32).toInt = 0 := rfl; omega)) : _ = k2)) ?_
            refine WR_tI (y := nI t7) (Eq.trans (I_ne (fx_ne fx (by decide))) (Eq.trans (I_ne (fx_ne fx (by decide))) v7)) ?_
            refine r_cv (y := 185) (ra := [.int (nI t7)]) (rest := []) rfl ⟨⟨rfl, rfl⟩, rfl, by decide⟩ (fx_t30 fx) rfl rfl (Nat.le_of_ble_eq_true rfl) ?_
            refine in_185 (Nat.le_of_ble_eq_true rfl) ?_
            show WR _ cd_185 0 [some (.ref (ad 30)), some (.int (nI t7))] [] (sI (sI h (ad 0) 6 0) (ad 0) 6 (-14)) _
            refine r_iload rfl rfl ?_
            refine r_ic (x := (-1)) rfl rfl ?_
            refine r_icmp_eq (tg := 16) rfl rfl (fun q => False.elim (by have : (nI t7).toInt = ((t7 : Nat) : Int) := nI_toInt (by omega); have : (-1 : Int32).toInt = -1 := rfl; have := i_eq q; omega)) (fun _ => ?_)
            refine r_iload rfl rfl ?_
            refine r_ic (x := 1000) rfl rfl ?_
            refine r_icmp_ge (tg := 16) rfl rfl (fun q => False.elim (by have : (nI t7).toInt = ((t7 : Nat) : Int) := nI_toInt (by omega); have : (1000 : Int32).toInt = 1000 := rfl; have := i_le q; omega)) (fun _ => ?_)
            refine r_ic (x := 4) rfl rfl ?_
            refine r_goto (tg := 26) rfl rfl ?_
            refine r_iret rfl ?_
            show WR _ cd_190 43 [some (.ref (ad 30)), some (.int c), some (.int w), none, none] [.int 4] (sI (sI h (ad 0) 6 0) (ad 0) 6 (-14)) _
            refine r_istore (lv' := [some (.ref (ad 30)), some (.int c), some (.int w), some (.int 4), none]) rfl (Nat.le_of_ble_eq_true rfl) rfl ?_
            refine r_iload rfl rfl ?_
            refine r_if_le (tg := 57) rfl rfl (fun q => absurd q (by decide)) (fun _ => ?_)
            refine r_aload rfl rfl ?_
            refine r_ic (x := (-10)) rfl rfl ?_
            refine r_iload rfl rfl ?_
            refine r_isub rfl ?_
            refine WR_tI (y := (-14)) rfl ?_
            refine r_cv (y := 171) (ra := [.int (-14)]) (rest := []) rfl ⟨⟨rfl, rfl⟩, rfl, by decide⟩ (fx_t30 fx) rfl rfl (Nat.le_of_ble_eq_true rfl) ?_
            refine in_171 (Nat.le_of_ble_eq_true rfl) ?_
            show WR _ cd_171 0 [some (.ref (ad 30)), some (.int (-14))] [] (sI (sI h (ad 0) 6 0) (ad 0) 6 (-14)) _
            refine r_aload rfl rfl ?_
            refine r_iload rfl rfl ?_
            refine r_putI rfl ⟨rfl, rfl, rfl⟩ (fx_t30 fx) ?_
            refine r_lc (x := 0) rfl rfl ?_
            refine r_lret rfl ?_
            show WR _ cd_190 56 [some (.ref (ad 30)), some (.int c), some (.int w), some (.int 4), none] [.long 0] (sI (sI (sI h (ad 0) 6 0) (ad 0) 6 (-14)) (ad 30) 11 (-14)) _
            refine r_lret rfl ?_
            exact ⟨rfl, Rel.why r (((Chg.rf.sI (fx_j fx) (.inl (by decide))).sI (fx_j fx) (.inl (by decide))).sI (fx_j fx) (.inl (by decide))) ⟨rfl, by decide⟩ (Eq.trans (Eq.trans (I_ne (fx_ne fx (by decide))) I_eq) (Eq.symm I_eq)), Nat.le_add_right _ _, Nat.le_add_right _ _⟩
        · refine r_aload rfl rfl ?_
          refine r_ic (x := (-3)) rfl rfl ?_
          refine r_cv (y := 65) (ra := [.int (-3)]) (rest := []) rfl ⟨⟨rfl, rfl⟩, rfl, by decide⟩ (fx_t0 fx) rfl rfl (Nat.le_of_ble_eq_true rfl) ?_
          refine in_65 (Nat.le_of_ble_eq_true rfl) ?_
          show WR _ cd_65 0 [some (.ref (ad 0)), some (.int (-3))] [] (sI h (ad 0) 6 0) _
          refine r_aload rfl rfl ?_
          refine r_iload rfl rfl ?_
          refine r_putI rfl ⟨rfl, rfl, rfl⟩ (fx_t0 fx) ?_
          refine r_lc (x := 0) rfl rfl ?_
          refine r_lret rfl ?_
          show WR _ cd_72 34 [some (.ref (ad 0)), some (.int c), some (.int w), none] [.long 0] (sI (sI h (ad 0) 6 0) (ad 0) 6 (-3)) _
          refine r_lret rfl ?_
          show EV _ 190 [.ref (ad 30), .int c, .int w] (sI (sI h (ad 0) 6 0) (ad 0) 6 (-3)) _
          refine in_190 (Nat.le_of_ble_eq_true rfl) ?_
          show WR _ cd_190 0 [some (.ref (ad 30)), some (.int c), some (.int w), none, none] [] (sI (sI h (ad 0) 6 0) (ad 0) 6 (-3)) _
          refine r_iload rfl rfl ?_
          refine WR_tI (y := nI k2) ek2 ?_
          refine r_cs (y := 153) (ra := [.int (nI k2)]) (rest := []) rfl ⟨⟨rfl, rfl⟩, by decide⟩ rfl rfl (Nat.le_of_ble_eq_true rfl) ?_
          refine in_153 (Nat.le_of_ble_eq_true rfl) ?_
          show WR _ cd_153 0 [some (.int (nI k2))] [] (sI (sI h (ad 0) 6 0) (ad 0) 6 (-3)) _
          refine r_iload rfl rfl ?_
          refine r_if_lt (tg := 14) rfl rfl (fun q => False.elim (by have : (nI k2).toInt = ((k2 : Nat) : Int) := nI_toInt (by omega); have : (0 : Int32).toInt = 0 := rfl; have := i_eq ek2; have := i_rg c; have := i_nle c3; have : (24 : Int32).toInt = 24 := rfl; have := i_nlt c1; have := i_lt q; omega)) (fun _ => ?_)
          refine r_iload rfl rfl ?_
          refine r_ic (x := 24) rfl rfl ?_
          refine r_icmp_ge (tg := 14) rfl rfl (fun q => False.elim (by have : (nI k2).toInt = ((k2 : Nat) : Int) := nI_toInt (by omega); have : (24 : Int32).toInt = 24 := rfl; have := i_eq ek2; have := i_rg c; have := i_nle c3; have := i_nlt c1; have : (0 : Int32).toInt = 0 := rfl; have := i_le q; omega)) (fun _ => ?_)
          refine r_ic (x := 1) rfl rfl ?_
          refine r_goto (tg := 15) rfl rfl ?_
          refine r_zret rfl (.inr rfl) ?_
          show WR _ cd_190 4 [some (.ref (ad 30)), some (.int c), some (.int w), none, none] [.int 1] (sI (sI h (ad 0) 6 0) (ad 0) 6 (-3)) _
          refine r_if_ne (tg := 14) rfl rfl (fun _ => ?_) (fun q => absurd q (by decide))
          refine r_iload rfl rfl ?_
          refine WR_tI (y := nI k5) ek5 ?_
          refine r_i2l rfl ?_
          refine WR_tL (y := lN k5) (nI_l (by have := i_eq ek5; have : (nI k5).toInt = ((k5 : Nat) : Int) := nI_toInt (by omega); have := i_rg w; have := i_nle c6; have : (2 : Int32).toInt = 2 := rfl; have := i_nlt c4; have : (0 : Int32).toInt = 0 := rfl; omega)) ?_
          refine r_lc (x := 0) rfl rfl ?_
          refine r_ldc (x := .long 2) rfl rfl ?_
          refine r_cs (y := 155) (ra := [.long 2, .long 0, .long (lN k5)]) (rest := []) rfl ⟨⟨rfl, rfl⟩, by decide⟩ rfl rfl (Nat.le_of_ble_eq_true rfl) ?_
          refine in_155 (Nat.le_of_ble_eq_true rfl) ?_
          show WR _ cd_155 0 [some (.long (lN k5)), none, some (.long 0), none, some (.long 2), none] [] (sI (sI h (ad 0) 6 0) (ad 0) 6 (-3)) _
          refine r_lload rfl rfl ?_
          refine r_lload rfl rfl ?_
          refine r_lif_lt (tg := 17) rfl rfl rfl (fun q => False.elim (by have : (lN k5).toInt = ((k5 : Nat) : Int) := lN_toInt (by omega); have : (0 : Int64).toInt = 0 := rfl; have := i_eq ek5; have : (nI k5).toInt = ((k5 : Nat) : Int) := nI_toInt (by omega); have := i_rg w; have := i_nle c6; have : (2 : Int32).toInt = 2 := rfl; have := i_nlt c4; have : (0 : Int32).toInt = 0 := rfl; have := l_lt q; omega)) (fun _ => ?_)
          refine r_lload rfl rfl ?_
          refine r_lload rfl rfl ?_
          refine r_lif_gt (tg := 17) rfl rfl rfl (fun _ => ?_) (fun q => False.elim (by have : (lN k5).toInt = ((k5 : Nat) : Int) := lN_toInt (by omega); have : (2 : Int64).toInt = 2 := rfl; have := i_eq ek5; have : (nI k5).toInt = ((k5 : Nat) : Int) := nI_toInt (by omega); have := i_rg w; have := i_nle c6; have : (2 : Int32).toInt = 2 := rfl; have := i_nlt c4; have : (0 : Int32).toInt = 0 := rfl; have := l_nlt q; omega))
          refine r_ic (x := 0) rfl rfl ?_
          refine r_zret rfl (.inl rfl) ?_
          show WR _ cd_190 23 [some (.ref (ad 30)), some (.int c), some (.int w), none, none] [.int 0] (sI (sI h (ad 0) 6 0) (ad 0) 6 (-3)) _
          refine r_if_ne (tg := 33) rfl rfl (fun q => absurd q (by decide)) (fun _ => ?_)
          refine r_aload rfl rfl ?_
          refine r_ic (x := (-3)) rfl rfl ?_
          refine r_cv (y := 171) (ra := [.int (-3)]) (rest := []) rfl ⟨⟨rfl, rfl⟩, rfl, by decide⟩ (fx_t30 fx) rfl rfl (Nat.le_of_ble_eq_true rfl) ?_
          refine in_171 (Nat.le_of_ble_eq_true rfl) ?_
          show WR _ cd_171 0 [some (.ref (ad 30)), some (.int (-3))] [] (sI (sI h (ad 0) 6 0) (ad 0) 6 (-3)) _
          refine r_aload rfl rfl ?_
          refine r_iload rfl rfl ?_
          refine r_putI rfl ⟨rfl, rfl, rfl⟩ (fx_t30 fx) ?_
          refine r_lc (x := 0) rfl rfl ?_
          refine r_lret rfl ?_
          show WR _ cd_190 32 [some (.ref (ad 30)), some (.int c), some (.int w), none, none] [.long 0] (sI (sI (sI h (ad 0) 6 0) (ad 0) 6 (-3)) (ad 30) 11 (-3)) _
          refine r_lret rfl ?_
          exact ⟨rfl, Rel.why r (((Chg.rf.sI (fx_j fx) (.inl (by decide))).sI (fx_j fx) (.inl (by decide))).sI (fx_j fx) (.inl (by decide))) ⟨rfl, by decide⟩ (Eq.trans (Eq.trans (I_ne (fx_ne fx (by decide))) I_eq) (Eq.symm I_eq)), Nat.le_add_right _ _, Nat.le_add_right _ _⟩

set_option maxHeartbeats 2000000 in
theorem k_get {n : Nat} {ad sa : Nat → Nat} {z0 : Nat} {h : mH} (r : Rel n ad sa z0 h) (c : Int32) (l : Int32) (i : Int32) : AP n ad sa z0 h 40 170 [.int c, .int l, .int i] := by
  obtain ⟨mid, pa, np, fx, ry, rt, ra, rp, rf, rst, ru, rs⟩ := id r
  have fx0 := fx
  unfold AP
  refine in_40 (Nat.le_of_ble_eq_true rfl) ?_
  show WR _ cd_40 0 [some (.ref (ad 0)), some (.int c), some (.int l), some (.int i), none] [] h _
  refine r_aload rfl rfl ?_
  refine r_ic (x := 0) rfl rfl ?_
  refine r_putI rfl ⟨rfl, rfl, rfl⟩ (fx_t0 fx) ?_
  refine r_aload rfl rfl ?_
  refine r_iload rfl rfl ?_
  refine r_iload rfl rfl ?_
  refine r_iload rfl rfl ?_
  refine r_cv (y := 30) (ra := [.int i, .int l, .int c]) (rest := []) rfl ⟨⟨rfl, rfl⟩, rfl, by decide⟩ (fx_t0 fx) rfl rfl (Nat.le_of_ble_eq_true rfl) ?_
  refine in_30 (Nat.le_of_ble_eq_true rfl) ?_
  show WR _ cd_30 0 [some (.ref (ad 0)), some (.int c), some (.int l), some (.int i), none] [] (sI h (ad 0) 6 0) _
  refine r_iload rfl rfl ?_
  refine r_cs (y := 12) (ra := [.int c]) (rest := []) rfl ⟨⟨rfl, rfl⟩, by decide⟩ rfl rfl (Nat.le_of_ble_eq_true rfl) ?_
  refine in_12 (Nat.le_of_ble_eq_true rfl) ?_
  show WR _ cd_12 0 [some (.int c)] [] (sI h (ad 0) 6 0) _
  refine r_iload rfl rfl ?_
  refine r_if_lt (tg := 14) rfl rfl (fun c1 => ?_) (fun c1 => ?_)
  · refine r_ic (x := 0) rfl rfl ?_
    refine r_zret rfl (.inl rfl) ?_
    show WR _ cd_30 4 [some (.ref (ad 0)), some (.int c), some (.int l), some (.int i), none] [.int 0] (sI h (ad 0) 6 0) _
    refine r_if_ne (tg := 15) rfl rfl (fun q => absurd q (by decide)) (fun _ => ?_)
    refine r_aload rfl rfl ?_
    refine r_ic (x := (-2)) rfl rfl ?_
    refine r_putI rfl ⟨rfl, rfl, rfl⟩ (fx_t0 fx) ?_
    refine r_null rfl ?_
    refine r_aret0 rfl ?_
    show WR _ cd_40 12 [some (.ref (ad 0)), some (.int c), some (.int l), some (.int i), none] [.null] (sI (sI h (ad 0) 6 0) (ad 0) 6 (-2)) _
    refine r_astore0 (lv' := [some (.ref (ad 0)), some (.int c), some (.int l), some (.int i), some (.null)]) rfl (Nat.le_of_ble_eq_true rfl) rfl ?_
    refine r_aload0 rfl rfl ?_
    refine r_ifnonnullN (tg := 23) rfl rfl ?_
    refine r_lc (x := 0) rfl rfl ?_
    refine r_goto (tg := 30) rfl rfl ?_
    refine r_lret rfl ?_
    show EV _ 170 [.ref (ad 30), .int c, .int l, .int i] (sI (sI h (ad 0) 6 0) (ad 0) 6 (-2)) _
    refine in_170 (Nat.le_of_ble_eq_true rfl) ?_
    show WR _ cd_170 0 [some (.ref (ad 30)), some (.int c), some (.int l), some (.int i), none] [] (sI (sI h (ad 0) 6 0) (ad 0) 6 (-2)) _
    refine r_iload rfl rfl ?_
    refine r_cs (y := 153) (ra := [.int c]) (rest := []) rfl ⟨⟨rfl, rfl⟩, by decide⟩ rfl rfl (Nat.le_of_ble_eq_true rfl) ?_
    refine in_153 (Nat.le_of_ble_eq_true rfl) ?_
    show WR _ cd_153 0 [some (.int c)] [] (sI (sI h (ad 0) 6 0) (ad 0) 6 (-2)) _
    refine r_iload rfl rfl ?_
    refine r_if_lt (tg := 14) rfl rfl (fun _ => ?_) (fun q => False.elim (by have := i_rg c; have : (0 : Int32).toInt = 0 := rfl; have := i_lt c1; have := i_nlt q; omega))
    refine r_ic (x := 0) rfl rfl ?_
    refine r_zret rfl (.inl rfl) ?_
    show WR _ cd_170 4 [some (.ref (ad 30)), some (.int c), some (.int l), some (.int i), none] [.int 0] (sI (sI h (ad 0) 6 0) (ad 0) 6 (-2)) _
    refine r_if_ne (tg := 14) rfl rfl (fun q => absurd q (by decide)) (fun _ => ?_)
    refine r_aload rfl rfl ?_
    refine r_ic (x := (-2)) rfl rfl ?_
    refine r_cv (y := 171) (ra := [.int (-2)]) (rest := []) rfl ⟨⟨rfl, rfl⟩, rfl, by decide⟩ (fx_t30 fx) rfl rfl (Nat.le_of_ble_eq_true rfl) ?_
    refine in_171 (Nat.le_of_ble_eq_true rfl) ?_
    show WR _ cd_171 0 [some (.ref (ad 30)), some (.int (-2))] [] (sI (sI h (ad 0) 6 0) (ad 0) 6 (-2)) _
    refine r_aload rfl rfl ?_
    refine r_iload rfl rfl ?_
    refine r_putI rfl ⟨rfl, rfl, rfl⟩ (fx_t30 fx) ?_
    refine r_lc (x := 0) rfl rfl ?_
    refine r_lret rfl ?_
    show WR _ cd_170 13 [some (.ref (ad 30)), some (.int c), some (.int l), some (.int i), none] [.long 0] (sI (sI (sI h (ad 0) 6 0) (ad 0) 6 (-2)) (ad 30) 11 (-2)) _
    refine r_lret rfl ?_
    exact ⟨rfl, Rel.why r (((Chg.rf.sI (fx_j fx) (.inl (by decide))).sI (fx_j fx) (.inl (by decide))).sI (fx_j fx) (.inl (by decide))) ⟨rfl, by decide⟩ (Eq.trans (Eq.trans (I_ne (fx_ne fx (by decide))) I_eq) (Eq.symm I_eq)), Nat.le_add_right _ _, Nat.le_add_right _ _⟩
  · obtain ⟨k2, hk2, ek2⟩ := ix_of (x := c) (n := 2147483648) (by have := i_rg c; have := i_nlt c1; have : (0 : Int32).toInt = 0 := rfl; omega) (by have := i_rg c; have := i_nlt c1; have : (0 : Int32).toInt = 0 := rfl; omega)
    refine r_iload rfl rfl ?_
    refine WR_tI (y := nI k2) ek2 ?_
    refine r_ic (x := 24) rfl rfl ?_
    refine r_icmp_ge (tg := 14) rfl rfl (fun c3 => ?_) (fun c3 => ?_)
    · refine r_ic (x := 0) rfl rfl ?_
      refine r_zret rfl (.inl rfl) ?_
      show WR _ cd_30 4 [some (.ref (ad 0)), some (.int c), some (.int l), some (.int i), none] [.int 0] (sI h (ad 0) 6 0) _
      refine r_if_ne (tg := 15) rfl rfl (fun q => absurd q (by decide)) (fun _ => ?_)
      refine r_aload rfl rfl ?_
      refine r_ic (x := (-2)) rfl rfl ?_
      refine r_putI rfl ⟨rfl, rfl, rfl⟩ (fx_t0 fx) ?_
      refine r_null rfl ?_
      refine r_aret0 rfl ?_
      show WR _ cd_40 12 [some (.ref (ad 0)), some (.int c), some (.int l), some (.int i), none] [.null] (sI (sI h (ad 0) 6 0) (ad 0) 6 (-2)) _
      refine r_astore0 (lv' := [some (.ref (ad 0)), some (.int c), some (.int l), some (.int i), some (.null)]) rfl (Nat.le_of_ble_eq_true rfl) rfl ?_
      refine r_aload0 rfl rfl ?_
      refine r_ifnonnullN (tg := 23) rfl rfl ?_
      refine r_lc (x := 0) rfl rfl ?_
      refine r_goto (tg := 30) rfl rfl ?_
      refine r_lret rfl ?_
      show EV _ 170 [.ref (ad 30), .int c, .int l, .int i] (sI (sI h (ad 0) 6 0) (ad 0) 6 (-2)) _
      refine in_170 (Nat.le_of_ble_eq_true rfl) ?_
      show WR _ cd_170 0 [some (.ref (ad 30)), some (.int c), some (.int l), some (.int i), none] [] (sI (sI h (ad 0) 6 0) (ad 0) 6 (-2)) _
      refine r_iload rfl rfl ?_
      refine WR_tI (y := nI k2) ek2 ?_
      refine r_cs (y := 153) (ra := [.int (nI k2)]) (rest := []) rfl ⟨⟨rfl, rfl⟩, by decide⟩ rfl rfl (Nat.le_of_ble_eq_true rfl) ?_
      refine in_153 (Nat.le_of_ble_eq_true rfl) ?_
      show WR _ cd_153 0 [some (.int (nI k2))] [] (sI (sI h (ad 0) 6 0) (ad 0) 6 (-2)) _
      refine r_iload rfl rfl ?_
      refine r_if_lt (tg := 14) rfl rfl (fun q => False.elim (by have : (nI k2).toInt = ((k2 : Nat) : Int) := nI_toInt (by omega); have : (0 : Int32).toInt = 0 := rfl; have := i_eq ek2; have := i_rg c; have := i_le c3; have : (24 : Int32).toInt = 24 := rfl; have := i_nlt c1; have := i_lt q; omega)) (fun _ => ?_)
      refine r_iload rfl rfl ?_
      refine r_ic (x := 24) rfl rfl ?_
      refine r_icmp_ge (tg := 14) rfl rfl (fun _ => ?_) (fun q => False.elim (by have : (nI k2).toInt = ((k2 : Nat) : Int) := nI_toInt (by omega); have : (24 : Int32).toInt = 24 := rfl; have := i_eq ek2; have := i_rg c; have := i_le c3; have := i_nlt c1; have : (0 : Int32).toInt = 0 := rfl; have := i_nle q; omega))
      refine r_ic (x := 0) rfl rfl ?_
      refine r_zret rfl (.inl rfl) ?_
      show WR _ cd_170 4 [some (.ref (ad 30)), some (.int c), some (.int l), some (.int i), none] [.int 0] (sI (sI h (ad 0) 6 0) (ad 0) 6 (-2)) _
      refine r_if_ne (tg := 14) rfl rfl (fun q => absurd q (by decide)) (fun _ => ?_)
      refine r_aload rfl rfl ?_
      refine r_ic (x := (-2)) rfl rfl ?_
      refine r_cv (y := 171) (ra := [.int (-2)]) (rest := []) rfl ⟨⟨rfl, rfl⟩, rfl, by decide⟩ (fx_t30 fx) rfl rfl (Nat.le_of_ble_eq_true rfl) ?_
      refine in_171 (Nat.le_of_ble_eq_true rfl) ?_
      show WR _ cd_171 0 [some (.ref (ad 30)), some (.int (-2))] [] (sI (sI h (ad 0) 6 0) (ad 0) 6 (-2)) _
      refine r_aload rfl rfl ?_
      refine r_iload rfl rfl ?_
      refine r_putI rfl ⟨rfl, rfl, rfl⟩ (fx_t30 fx) ?_
      refine r_lc (x := 0) rfl rfl ?_
      refine r_lret rfl ?_
      show WR _ cd_170 13 [some (.ref (ad 30)), some (.int c), some (.int l), some (.int i), none] [.long 0] (sI (sI (sI h (ad 0) 6 0) (ad 0) 6 (-2)) (ad 30) 11 (-2)) _
      refine r_lret rfl ?_
      exact ⟨rfl, Rel.why r (((Chg.rf.sI (fx_j fx) (.inl (by decide))).sI (fx_j fx) (.inl (by decide))).sI (fx_j fx) (.inl (by decide))) ⟨rfl, by decide⟩ (Eq.trans (Eq.trans (I_ne (fx_ne fx (by decide))) I_eq) (Eq.symm I_eq)), Nat.le_add_right _ _, Nat.le_add_right _ _⟩
    · refine r_ic (x := 1) rfl rfl ?_
      refine r_goto (tg := 15) rfl rfl ?_
      refine r_zret rfl (.inr rfl) ?_
      show WR _ cd_30 4 [some (.ref (ad 0)), some (.int c), some (.int l), some (.int i), none] [.int 1] (sI h (ad 0) 6 0) _
      refine r_if_ne (tg := 15) rfl rfl (fun _ => ?_) (fun q => absurd q (by decide))
      refine r_iload rfl rfl ?_
      refine r_cs (y := 14) (ra := [.int l]) (rest := []) rfl ⟨⟨rfl, rfl⟩, by decide⟩ rfl rfl (Nat.le_of_ble_eq_true rfl) ?_
      refine in_14 (Nat.le_of_ble_eq_true rfl) ?_
      show WR _ cd_14 0 [some (.int l)] [] (sI h (ad 0) 6 0) _
      refine r_iload rfl rfl ?_
      refine r_if_lt (tg := 14) rfl rfl (fun c4 => ?_) (fun c4 => ?_)
      · refine r_ic (x := 0) rfl rfl ?_
        refine r_zret rfl (.inl rfl) ?_
        show WR _ cd_30 19 [some (.ref (ad 0)), some (.int c), some (.int l), some (.int i), none] [.int 0] (sI h (ad 0) 6 0) _
        refine r_if_ne (tg := 30) rfl rfl (fun q => absurd q (by decide)) (fun _ => ?_)
        refine r_aload rfl rfl ?_
        refine r_ic (x := (-3)) rfl rfl ?_
        refine r_putI rfl ⟨rfl, rfl, rfl⟩ (fx_t0 fx) ?_
        refine r_null rfl ?_
        refine r_aret0 rfl ?_
        show WR _ cd_40 12 [some (.ref (ad 0)), some (.int c), some (.int l), some (.int i), none] [.null] (sI (sI h (ad 0) 6 0) (ad 0) 6 (-3)) _
        refine r_astore0 (lv' := [some (.ref (ad 0)), some (.int c), some (.int l), some (.int i), some (.null)]) rfl (Nat.le_of_ble_eq_true rfl) rfl ?_
        refine r_aload0 rfl rfl ?_
        refine r_ifnonnullN (tg := 23) rfl rfl ?_
        refine r_lc (x := 0) rfl rfl ?_
        refine r_goto (tg := 30) rfl rfl ?_
        refine r_lret rfl ?_
        show EV _ 170 [.ref (ad 30), .int c, .int l, .int i] (sI (sI h (ad 0) 6 0) (ad 0) 6 (-3)) _
        refine in_170 (Nat.le_of_ble_eq_true rfl) ?_
        show WR _ cd_170 0 [some (.ref (ad 30)), some (.int c), some (.int l), some (.int i), none] [] (sI (sI h (ad 0) 6 0) (ad 0) 6 (-3)) _
        refine r_iload rfl rfl ?_
        refine WR_tI (y := nI k2) ek2 ?_
        refine r_cs (y := 153) (ra := [.int (nI k2)]) (rest := []) rfl ⟨⟨rfl, rfl⟩, by decide⟩ rfl rfl (Nat.le_of_ble_eq_true rfl) ?_
        refine in_153 (Nat.le_of_ble_eq_true rfl) ?_
        show WR _ cd_153 0 [some (.int (nI k2))] [] (sI (sI h (ad 0) 6 0) (ad 0) 6 (-3)) _
        refine r_iload rfl rfl ?_
        refine r_if_lt (tg := 14) rfl rfl (fun q => False.elim (by have : (nI k2).toInt = ((k2 : Nat) : Int) := nI_toInt (by omega); have : (0 : Int32).toInt = 0 := rfl; have := i_eq ek2; have := i_rg c; have := i_nle c3; have : (24 : Int32).toInt = 24 := rfl; have := i_nlt c1; have := i_lt q; omega)) (fun _ => ?_)
        refine r_iload rfl rfl ?_
        refine r_ic (x := 24) rfl rfl ?_
        refine r_icmp_ge (tg := 14) rfl rfl (fun q => False.elim (by have : (nI k2).toInt = ((k2 : Nat) : Int) := nI_toInt (by omega); have : (24 : Int32).toInt = 24 := rfl; have := i_eq ek2; have := i_rg c; have := i_nle c3; have := i_nlt c1; have : (0 : Int32).toInt = 0 := rfl; have := i_le q; omega)) (fun _ => ?_)
        refine r_ic (x := 1) rfl rfl ?_
        refine r_goto (tg := 15) rfl rfl ?_
        refine r_zret rfl (.inr rfl) ?_
        show WR _ cd_170 4 [some (.ref (ad 30)), some (.int c), some (.int l), some (.int i), none] [.int 1] (sI (sI h (ad 0) 6 0) (ad 0) 6 (-3)) _
        refine r_if_ne (tg := 14) rfl rfl (fun _ => ?_) (fun q => absurd q (by decide))
        refine r_iload rfl rfl ?_
        refine r_i2l rfl ?_
        refine r_lc (x := 0) rfl rfl ?_
        refine r_ldc (x := .long 7) rfl rfl ?_
        refine r_cs (y := 155) (ra := [.long 7, .long 0, .long l.toInt64]) (rest := []) rfl ⟨⟨rfl, rfl⟩, by decide⟩ rfl rfl (Nat.le_of_ble_eq_true rfl) ?_
        refine in_155 (Nat.le_of_ble_eq_true rfl) ?_
        show WR _ cd_155 0 [some (.long l.toInt64), none, some (.long 0), none, some (.long 7), none] [] (sI (sI h (ad 0) 6 0) (ad 0) 6 (-3)) _
        refine r_lload rfl rfl ?_
        refine r_lload rfl rfl ?_
        refine r_lif_lt (tg := 17) rfl rfl rfl (fun _ => ?_) (fun q => False.elim (by have := i_rg l; have := w_t l; have : (0 : Int64).toInt = 0 := rfl; have := i_lt c4; have : (0 : Int32).toInt = 0 := rfl; have := l_nlt q; omega))
        refine r_ic (x := 0) rfl rfl ?_
        refine r_zret rfl (.inl rfl) ?_
        show WR _ cd_170 23 [some (.ref (ad 30)), some (.int c), some (.int l), some (.int i), none] [.int 0] (sI (sI h (ad 0) 6 0) (ad 0) 6 (-3)) _
        refine r_if_ne (tg := 33) rfl rfl (fun q => absurd q (by decide)) (fun _ => ?_)
        refine r_aload rfl rfl ?_
        refine r_ic (x := (-3)) rfl rfl ?_
        refine r_cv (y := 171) (ra := [.int (-3)]) (rest := []) rfl ⟨⟨rfl, rfl⟩, rfl, by decide⟩ (fx_t30 fx) rfl rfl (Nat.le_of_ble_eq_true rfl) ?_
        refine in_171 (Nat.le_of_ble_eq_true rfl) ?_
        show WR _ cd_171 0 [some (.ref (ad 30)), some (.int (-3))] [] (sI (sI h (ad 0) 6 0) (ad 0) 6 (-3)) _
        refine r_aload rfl rfl ?_
        refine r_iload rfl rfl ?_
        refine r_putI rfl ⟨rfl, rfl, rfl⟩ (fx_t30 fx) ?_
        refine r_lc (x := 0) rfl rfl ?_
        refine r_lret rfl ?_
        show WR _ cd_170 32 [some (.ref (ad 30)), some (.int c), some (.int l), some (.int i), none] [.long 0] (sI (sI (sI h (ad 0) 6 0) (ad 0) 6 (-3)) (ad 30) 11 (-3)) _
        refine r_lret rfl ?_
        exact ⟨rfl, Rel.why r (((Chg.rf.sI (fx_j fx) (.inl (by decide))).sI (fx_j fx) (.inl (by decide))).sI (fx_j fx) (.inl (by decide))) ⟨rfl, by decide⟩ (Eq.trans (Eq.trans (I_ne (fx_ne fx (by decide))) I_eq) (Eq.symm I_eq)), Nat.le_add_right _ _, Nat.le_add_right _ _⟩
      · obtain ⟨k5, hk5, ek5⟩ := ix_of (x := l) (n := 2147483648) (by have := i_rg l; have := i_nlt c4; have : (0 : Int32).toInt = 0 := rfl; omega) (by have := i_rg l; have := i_nlt c4; have : (0 : Int32).toInt = 0 := rfl; omega)
        refine r_iload rfl rfl ?_
        refine WR_tI (y := nI k5) ek5 ?_
        refine r_ic (x := 8) rfl rfl ?_
        refine r_icmp_ge (tg := 14) rfl rfl (fun c6 => ?_) (fun c6 => ?_)
        · refine r_ic (x := 0) rfl rfl ?_
          refine r_zret rfl (.inl rfl) ?_
          show WR _ cd_30 19 [some (.ref (ad 0)), some (.int c), some (.int l), some (.int i), none] [.int 0] (sI h (ad 0) 6 0) _
          refine r_if_ne (tg := 30) rfl rfl (fun q => absurd q (by decide)) (fun _ => ?_)
          refine r_aload rfl rfl ?_
          refine r_ic (x := (-3)) rfl rfl ?_
          refine r_putI rfl ⟨rfl, rfl, rfl⟩ (fx_t0 fx) ?_
          refine r_null rfl ?_
          refine r_aret0 rfl ?_
          show WR _ cd_40 12 [some (.ref (ad 0)), some (.int c), some (.int l), some (.int i), none] [.null] (sI (sI h (ad 0) 6 0) (ad 0) 6 (-3)) _
          refine r_astore0 (lv' := [some (.ref (ad 0)), some (.int c), some (.int l), some (.int i), some (.null)]) rfl (Nat.le_of_ble_eq_true rfl) rfl ?_
          refine r_aload0 rfl rfl ?_
          refine r_ifnonnullN (tg := 23) rfl rfl ?_
          refine r_lc (x := 0) rfl rfl ?_
          refine r_goto (tg := 30) rfl rfl ?_
          refine r_lret rfl ?_
          show EV _ 170 [.ref (ad 30), .int c, .int l, .int i] (sI (sI h (ad 0) 6 0) (ad 0) 6 (-3)) _
          refine in_170 (Nat.le_of_ble_eq_true rfl) ?_
          show WR _ cd_170 0 [some (.ref (ad 30)), some (.int c), some (.int l), some (.int i), none] [] (sI (sI h (ad 0) 6 0) (ad 0) 6 (-3)) _
          refine r_iload rfl rfl ?_
          refine WR_tI (y := nI k2) ek2 ?_
          refine r_cs (y := 153) (ra := [.int (nI k2)]) (rest := []) rfl ⟨⟨rfl, rfl⟩, by decide⟩ rfl rfl (Nat.le_of_ble_eq_true rfl) ?_
          refine in_153 (Nat.le_of_ble_eq_true rfl) ?_
          show WR _ cd_153 0 [some (.int (nI k2))] [] (sI (sI h (ad 0) 6 0) (ad 0) 6 (-3)) _
          refine r_iload rfl rfl ?_
          refine r_if_lt (tg := 14) rfl rfl (fun q => False.elim (by have : (nI k2).toInt = ((k2 : Nat) : Int) := nI_toInt (by omega); have : (0 : Int32).toInt = 0 := rfl; have := i_eq ek2; have := i_rg c; have := i_nle c3; have : (24 : Int32).toInt = 24 := rfl; have := i_nlt c1; have := i_lt q; omega)) (fun _ => ?_)
          refine r_iload rfl rfl ?_
          refine r_ic (x := 24) rfl rfl ?_
          refine r_icmp_ge (tg := 14) rfl rfl (fun q => False.elim (by have : (nI k2).toInt = ((k2 : Nat) : Int) := nI_toInt (by omega); have : (24 : Int32).toInt = 24 := rfl; have := i_eq ek2; have := i_rg c; have := i_nle c3; have := i_nlt c1; have : (0 : Int32).toInt = 0 := rfl; have := i_le q; omega)) (fun _ => ?_)
          refine r_ic (x := 1) rfl rfl ?_
          refine r_goto (tg := 15) rfl rfl ?_
          refine r_zret rfl (.inr rfl) ?_
          show WR _ cd_170 4 [some (.ref (ad 30)), some (.int c), some (.int l), some (.int i), none] [.int 1] (sI (sI h (ad 0) 6 0) (ad 0) 6 (-3)) _
          refine r_if_ne (tg := 14) rfl rfl (fun _ => ?_) (fun q => absurd q (by decide))
          refine r_iload rfl rfl ?_
          refine WR_tI (y := nI k5) ek5 ?_
          refine r_i2l rfl ?_
          refine WR_tL (y := lN k5) (nI_l (by have := i_eq ek5; have : (nI k5).toInt = ((k5 : Nat) : Int) := nI_toInt (by omega); have := i_rg l; have := i_le c6; have : (8 : Int32).toInt = 8 := rfl; have := i_nlt c4; have : (0 : Int32).toInt = 0 := rfl; omega)) ?_
          refine r_lc (x := 0) rfl rfl ?_
          refine r_ldc (x := .long 7) rfl rfl ?_
          refine r_cs (y := 155) (ra := [.long 7, .long 0, .long (lN k5)]) (rest := []) rfl ⟨⟨rfl, rfl⟩, by decide⟩ rfl rfl (Nat.le_of_ble_eq_true rfl) ?_
          refine in_155 (Nat.le_of_ble_eq_true rfl) ?_
          show WR _ cd_155 0 [some (.long (lN k5)), none, some (.long 0), none, some (.long 7), none] [] (sI (sI h (ad 0) 6 0) (ad 0) 6 (-3)) _
          refine r_lload rfl rfl ?_
          refine r_lload rfl rfl ?_
          refine r_lif_lt (tg := 17) rfl rfl rfl (fun q => False.elim (by have : (lN k5).toInt = ((k5 : Nat) : Int) := lN_toInt (by omega); have : (0 : Int64).toInt = 0 := rfl; have := i_eq ek5; have : (nI k5).toInt = ((k5 : Nat) : Int) := nI_toInt (by omega); have := i_rg l; have := i_le c6; have : (8 : Int32).toInt = 8 := rfl; have := i_nlt c4; have : (0 : Int32).toInt = 0 := rfl; have := l_lt q; omega)) (fun _ => ?_)
          refine r_lload rfl rfl ?_
          refine r_lload rfl rfl ?_
          refine r_lif_gt (tg := 17) rfl rfl rfl (fun _ => ?_) (fun q => False.elim (by have : (lN k5).toInt = ((k5 : Nat) : Int) := lN_toInt (by omega); have : (7 : Int64).toInt = 7 := rfl; have := i_eq ek5; have : (nI k5).toInt = ((k5 : Nat) : Int) := nI_toInt (by omega); have := i_rg l; have := i_le c6; have : (8 : Int32).toInt = 8 := rfl; have := i_nlt c4; have : (0 : Int32).toInt = 0 := rfl; have := l_nlt q; omega))
          refine r_ic (x := 0) rfl rfl ?_
          refine r_zret rfl (.inl rfl) ?_
          show WR _ cd_170 23 [some (.ref (ad 30)), some (.int c), some (.int l), some (.int i), none] [.int 0] (sI (sI h (ad 0) 6 0) (ad 0) 6 (-3)) _
          refine r_if_ne (tg := 33) rfl rfl (fun q => absurd q (by decide)) (fun _ => ?_)
          refine r_aload rfl rfl ?_
          refine r_ic (x := (-3)) rfl rfl ?_
          refine r_cv (y := 171) (ra := [.int (-3)]) (rest := []) rfl ⟨⟨rfl, rfl⟩, rfl, by decide⟩ (fx_t30 fx) rfl rfl (Nat.le_of_ble_eq_true rfl) ?_
          refine in_171 (Nat.le_of_ble_eq_true rfl) ?_
          show WR _ cd_171 0 [some (.ref (ad 30)), some (.int (-3))] [] (sI (sI h (ad 0) 6 0) (ad 0) 6 (-3)) _
          refine r_aload rfl rfl ?_
          refine r_iload rfl rfl ?_
          refine r_putI rfl ⟨rfl, rfl, rfl⟩ (fx_t30 fx) ?_
          refine r_lc (x := 0) rfl rfl ?_
          refine r_lret rfl ?_
          show WR _ cd_170 32 [some (.ref (ad 30)), some (.int c), some (.int l), some (.int i), none] [.long 0] (sI (sI (sI h (ad 0) 6 0) (ad 0) 6 (-3)) (ad 30) 11 (-3)) _
          refine r_lret rfl ?_
          exact ⟨rfl, Rel.why r (((Chg.rf.sI (fx_j fx) (.inl (by decide))).sI (fx_j fx) (.inl (by decide))).sI (fx_j fx) (.inl (by decide))) ⟨rfl, by decide⟩ (Eq.trans (Eq.trans (I_ne (fx_ne fx (by decide))) I_eq) (Eq.symm I_eq)), Nat.le_add_right _ _, Nat.le_add_right _ _⟩
        · refine r_ic (x := 1) rfl rfl ?_
          refine r_goto (tg := 15) rfl rfl ?_
          refine r_zret rfl (.inr rfl) ?_
          show WR _ cd_30 19 [some (.ref (ad 0)), some (.int c), some (.int l), some (.int i), none] [.int 1] (sI h (ad 0) 6 0) _
          refine r_if_ne (tg := 30) rfl rfl (fun _ => ?_) (fun q => absurd q (by decide))
          refine r_aload rfl rfl ?_
          refine r_iload rfl rfl ?_
          refine WR_tI (y := nI k2) ek2 ?_
          refine r_iload rfl rfl ?_
          refine WR_tI (y := nI k5) ek5 ?_
          refine r_cv (y := 31) (ra := [.int (nI k5), .int (nI k2)]) (rest := []) rfl ⟨⟨rfl, rfl⟩, rfl, by decide⟩ (fx_t0 fx) rfl rfl (Nat.le_of_ble_eq_true rfl) ?_
          refine in_31 (Nat.le_of_ble_eq_true rfl) ?_
          show WR _ cd_31 0 [some (.ref (ad 0)), some (.int (nI k2)), some (.int (nI k5)), none, none] [] (sI h (ad 0) 6 0) _
          refine r_aload rfl rfl ?_
          refine r_getA (b := ad 1) rfl ⟨rfl, rfl, rfl⟩ (fx_t0 fx) (fx_r0_0 fx) ?_
          refine r_iload rfl rfl ?_
          rcases rs.cs (n := n) (sa := sa) (c := k2) (by have := i_eq ek2; have : (nI k2).toInt = ((k2 : Nat) : Int) := nI_toInt (by omega); have := i_rg c; have := i_nle c3; have : (24 : Int32).toInt = 24 := rfl; have := i_nlt c1; have : (0 : Int32).toInt = 0 := rfl; omega) with ⟨v7, w7⟩ | ⟨q7, kd7, hq7, hn7, v7, w7, dz7, tg7, s1_7, k1_7, k2_7, hk_7, we7⟩ | ⟨t7, ln7, sz7, ht7, v7, w7, dz7, tg7, r_7, tg2_7, l1_7, l2_7, hl_7, kd_7, n_7, sz_7, hs_7, al7, rw7⟩ | ⟨t7, sz7, ht7, v7, w7, dz7, tg7, r_7, tg2_7, k1_7, l2_7, k2_7, n_7, sz_7, hs_7, al7, rw7⟩ | ⟨t7, kd7, sz7, ht7, v7, w7, dz7, tg7, r_7, tg2_7, k1_7, l2_7, k2_7, hk_7, n_7, sz_7, hs_7, al7, rw7⟩
          · refine r_aaload0 rfl (isQ_of (fx_t1 fx) (by decide)) (vp_ct (fx_n1 fx) (vp_in_nI (by have := i_eq ek2; have : (nI k2).toInt = ((k2 : Nat) : Int) := nI_toInt (by omega); have := i_rg c; have := i_nle c3; have : (24 : Int32).toInt = 24 := rfl; have := i_nlt c1; have : (0 : Int32).toInt = 0 := rfl; omega) (by omega))) (Eq.trans (congrArg (hR (sI h (ad 0) 6 0) (ad 1)) ((nI_clamp (by have := i_eq ek2; have : (nI k2).toInt = ((k2 : Nat) : Int) := nI_toInt (by omega); have := i_rg c; have := i_nle c3; have : (24 : Int32).toInt = 24 := rfl; have := i_nlt c1; have : (0 : Int32).toInt = 0 := rfl; omega)) : _ = k2)) (Eq.trans R_oI w7)) ?_
            refine r_astore0 (lv' := [some (.ref (ad 0)), some (.int (nI k2)), some (.int (nI k5)), some (.null), none]) rfl (Nat.le_of_ble_eq_true rfl) rfl ?_
            refine r_aload0 rfl rfl ?_
            refine r_instN rfl (by decide) ?_
            refine r_if_eq (tg := 32) rfl rfl (fun _ => ?_) (fun q => absurd q (by decide))
            refine r_aload rfl rfl ?_
            refine r_aload0 rfl rfl ?_
            refine r_ifnonnullN (tg := 42) rfl rfl ?_
            refine r_ic (x := (-11)) rfl rfl ?_
            refine r_goto (tg := 44) rfl rfl ?_
            refine r_putI rfl ⟨rfl, rfl, rfl⟩ (fx_t0 fx) ?_
            refine r_null rfl ?_
            refine r_aret0 rfl ?_
            show WR _ cd_30 36 [some (.ref (ad 0)), some (.int c), some (.int l), some (.int i), none] [.null] (sI (sI h (ad 0) 6 0) (ad 0) 6 (-11)) _
            refine r_astore0 (lv' := [some (.ref (ad 0)), some (.int c), some (.int l), some (.int i), some (.null)]) rfl (Nat.le_of_ble_eq_true rfl) rfl ?_
            refine r_aload0 rfl rfl ?_
            refine r_ifnullN (tg := 61) rfl rfl ?_
            refine r_aload0 rfl rfl ?_
            refine r_aret0 rfl ?_
            show WR _ cd_40 12 [some (.ref (ad 0)), some (.int c), some (.int l), some (.int i), none] [.null] (sI (sI h (ad 0) 6 0) (ad 0) 6 (-11)) _
            refine r_astore0 (lv' := [some (.ref (ad 0)), some (.int c), some (.int l), some (.int i), some (.null)]) rfl (Nat.le_of_ble_eq_true rfl) rfl ?_
            refine r_aload0 rfl rfl ?_
            refine r_ifnonnullN (tg := 23) rfl rfl ?_
            refine r_lc (x := 0) rfl rfl ?_
            refine r_goto (tg := 30) rfl rfl ?_
            refine r_lret rfl ?_
            show EV _ 170 [.ref (ad 30), .int c, .int l, .int i] (sI (sI h (ad 0) 6 0) (ad 0) 6 (-11)) _
            refine in_170 (Nat.le_of_ble_eq_true rfl) ?_
            show WR _ cd_170 0 [some (.ref (ad 30)), some (.int c), some (.int l), some (.int i), none] [] (sI (sI h (ad 0) 6 0) (ad 0) 6 (-11)) _
            refine r_iload rfl rfl ?_
            refine WR_tI (y := nI k2) ek2 ?_
            refine r_cs (y := 153) (ra := [.int (nI k2)]) (rest := []) rfl ⟨⟨rfl, rfl⟩, by decide⟩ rfl rfl (Nat.le_of_ble_eq_true rfl) ?_
            refine in_153 (Nat.le_of_ble_eq_true rfl) ?_
            show WR _ cd_153 0 [some (.int (nI k2))] [] (sI (sI h (ad 0) 6 0) (ad 0) 6 (-11)) _
            refine r_iload rfl rfl ?_
            refine r_if_lt (tg := 14) rfl rfl (fun q => False.elim (by have : (nI k2).toInt = ((k2 : Nat) : Int) := nI_toInt (by omega); have : (0 : Int32).toInt = 0 := rfl; have := i_eq ek2; have := i_rg c; have := i_nle c3; have : (24 : Int32).toInt = 24 := rfl; have := i_nlt c1; have := i_lt q; omega)) (fun _ => ?_)
            refine r_iload rfl rfl ?_
            refine r_ic (x := 24) rfl rfl ?_
            refine r_icmp_ge (tg := 14) rfl rfl (fun q => False.elim (by have : (nI k2).toInt = ((k2 : Nat) : Int) := nI_toInt (by omega); have : (24 : Int32).toInt = 24 := rfl; have := i_eq ek2; have := i_rg c; have := i_nle c3; have := i_nlt c1; have : (0 : Int32).toInt = 0 := rfl; have := i_le q; omega)) (fun _ => ?_)
            refine r_ic (x := 1) rfl rfl ?_
            refine r_goto (tg := 15) rfl rfl ?_
            refine r_zret rfl (.inr rfl) ?_
            show WR _ cd_170 4 [some (.ref (ad 30)), some (.int c), some (.int l), some (.int i), none] [.int 1] (sI (sI h (ad 0) 6 0) (ad 0) 6 (-11)) _
            refine r_if_ne (tg := 14) rfl rfl (fun _ => ?_) (fun q => absurd q (by decide))
            refine r_iload rfl rfl ?_
            refine WR_tI (y := nI k5) ek5 ?_
            refine r_i2l rfl ?_
            refine WR_tL (y := lN k5) (nI_l (by have := i_eq ek5; have : (nI k5).toInt = ((k5 : Nat) : Int) := nI_toInt (by omega); have := i_rg l; have := i_nle c6; have : (8 : Int32).toInt = 8 := rfl; have := i_nlt c4; have : (0 : Int32).toInt = 0 := rfl; omega)) ?_
            refine r_lc (x := 0) rfl rfl ?_
            refine r_ldc (x := .long 7) rfl rfl ?_
            refine r_cs (y := 155) (ra := [.long 7, .long 0, .long (lN k5)]) (rest := []) rfl ⟨⟨rfl, rfl⟩, by decide⟩ rfl rfl (Nat.le_of_ble_eq_true rfl) ?_
            refine in_155 (Nat.le_of_ble_eq_true rfl) ?_
            show WR _ cd_155 0 [some (.long (lN k5)), none, some (.long 0), none, some (.long 7), none] [] (sI (sI h (ad 0) 6 0) (ad 0) 6 (-11)) _
            refine r_lload rfl rfl ?_
            refine r_lload rfl rfl ?_
            refine r_lif_lt (tg := 17) rfl rfl rfl (fun q => False.elim (by have : (lN k5).toInt = ((k5 : Nat) : Int) := lN_toInt (by omega); have : (0 : Int64).toInt = 0 := rfl; have := i_eq ek5; have : (nI k5).toInt = ((k5 : Nat) : Int) := nI_toInt (by omega); have := i_rg l; have := i_nle c6; have : (8 : Int32).toInt = 8 := rfl; have := i_nlt c4; have : (0 : Int32).toInt = 0 := rfl; have := l_lt q; omega)) (fun _ => ?_)
            refine r_lload rfl rfl ?_
            refine r_lload rfl rfl ?_
            refine r_lif_gt (tg := 17) rfl rfl rfl (fun q => False.elim (by have : (lN k5).toInt = ((k5 : Nat) : Int) := lN_toInt (by omega); have : (7 : Int64).toInt = 7 := rfl; have := i_eq ek5; have : (nI k5).toInt = ((k5 : Nat) : Int) := nI_toInt (by omega); have := i_rg l; have := i_nle c6; have : (8 : Int32).toInt = 8 := rfl; have := i_nlt c4; have : (0 : Int32).toInt = 0 := rfl; have := l_lt q; omega)) (fun _ => ?_)
            refine r_ic (x := 1) rfl rfl ?_
            refine r_goto (tg := 18) rfl rfl ?_
            refine r_zret rfl (.inr rfl) ?_
            show WR _ cd_170 23 [some (.ref (ad 30)), some (.int c), some (.int l), some (.int i), none] [.int 1] (sI (sI h (ad 0) 6 0) (ad 0) 6 (-11)) _
            refine r_if_ne (tg := 33) rfl rfl (fun _ => ?_) (fun q => absurd q (by decide))
            refine r_aload rfl rfl ?_
            refine r_aload rfl rfl ?_
            refine r_getA (b := ad 31) rfl ⟨rfl, rfl, rfl⟩ (fx_t30 fx) (fx_r30_0 fx) ?_
            refine r_iload rfl rfl ?_
            refine WR_tI (y := nI k2) ek2 ?_
            refine r_iaload rfl (.inl (fx_t31 fx)) (vp_ct (fx_n31 fx) (vp_in_nI (by have := i_eq ek2; have : (nI k2).toInt = ((k2 : Nat) : Int) := nI_toInt (by omega); have := i_rg c; have := i_nle c3; have : (24 : Int32).toInt = 24 := rfl; have := i_nlt c1; have : (0 : Int32).toInt = 0 := rfl; omega) (by omega))) ?_
            refine WR_tI (congrArg (hI (sI (sI h (ad 0) 6 0) (ad 0) 6 (-11)) (ad 31)) ((nI_clamp (by have := i_eq ek2; have : (nI k2).toInt = ((k2 : Nat) : Int) := nI_toInt (by omega); have := i_rg c; have := i_nle c3; have : (24 : Int32).toInt = 24 := rfl; have := i_nlt c1; have : (0 : Int32).toInt = 0 := rfl; omega)) : _ = k2)) ?_
            refine WR_tI (y := (-1)) (Eq.trans (I_ne (fx_ne fx (by decide))) (Eq.trans (I_ne (fx_ne fx (by decide))) v7)) ?_
            refine r_iload rfl rfl ?_
            refine WR_tI (y := nI k5) ek5 ?_
            refine r_iload rfl rfl ?_
            refine r_cv (y := 168) (ra := [.int i, .int (nI k5), .int (-1)]) (rest := []) rfl ⟨⟨rfl, rfl⟩, rfl, by decide⟩ (fx_t30 fx) rfl rfl (Nat.le_of_ble_eq_true rfl) ?_
            refine in_168 (Nat.le_of_ble_eq_true rfl) ?_
            show WR _ cd_168 0 [some (.ref (ad 30)), some (.int (-1)), some (.int (nI k5)), some (.int i)] [] (sI (sI h (ad 0) 6 0) (ad 0) 6 (-11)) _
            refine r_iload rfl rfl ?_
            refine r_ic (x := (-1)) rfl rfl ?_
            refine r_icmp_eq (tg := 18) rfl rfl (fun _ => ?_) (fun q => absurd q (by decide))
            refine r_iload rfl rfl ?_
            refine r_ic (x := (-1)) rfl rfl ?_
            refine r_icmp_ne (tg := 27) rfl rfl (fun q => absurd q (by decide)) (fun _ => ?_)
            refine r_ic (x := 1) rfl rfl ?_
            refine r_goto (tg := 50) rfl rfl ?_
            refine r_iret rfl ?_
            show WR _ cd_170 45 [some (.ref (ad 30)), some (.int c), some (.int l), some (.int i), none] [.int 1] (sI (sI h (ad 0) 6 0) (ad 0) 6 (-11)) _
            refine r_istore (lv' := [some (.ref (ad 30)), some (.int c), some (.int l), some (.int i), some (.int 1)]) rfl (Nat.le_of_ble_eq_true rfl) rfl ?_
            refine r_iload rfl rfl ?_
            refine r_if_le (tg := 62) rfl rfl (fun q => absurd q (by decide)) (fun _ => ?_)
            refine r_aload rfl rfl ?_
            refine r_ic (x := (-10)) rfl rfl ?_
            refine r_iload rfl rfl ?_
            refine r_isub rfl ?_
            refine WR_tI (y := (-11)) rfl ?_
            refine r_cv (y := 171) (ra := [.int (-11)]) (rest := []) rfl ⟨⟨rfl, rfl⟩, rfl, by decide⟩ (fx_t30 fx) rfl rfl (Nat.le_of_ble_eq_true rfl) ?_
            refine in_171 (Nat.le_of_ble_eq_true rfl) ?_
            show WR _ cd_171 0 [some (.ref (ad 30)), some (.int (-11))] [] (sI (sI h (ad 0) 6 0) (ad 0) 6 (-11)) _
            refine r_aload rfl rfl ?_
            refine r_iload rfl rfl ?_
            refine r_putI rfl ⟨rfl, rfl, rfl⟩ (fx_t30 fx) ?_
            refine r_lc (x := 0) rfl rfl ?_
            refine r_lret rfl ?_
            show WR _ cd_170 61 [some (.ref (ad 30)), some (.int c), some (.int l), some (.int i), some (.int 1)] [.long 0] (sI (sI (sI h (ad 0) 6 0) (ad 0) 6 (-11)) (ad 30) 11 (-11)) _
            refine r_lret rfl ?_
            exact ⟨rfl, Rel.why r (((Chg.rf.sI (fx_j fx) (.inl (by decide))).sI (fx_j fx) (.inl (by decide))).sI (fx_j fx) (.inl (by decide))) ⟨rfl, by decide⟩ (Eq.trans (Eq.trans (I_ne (fx_ne fx (by decide))) I_eq) (Eq.symm I_eq)), Nat.le_add_right _ _, Nat.le_add_right _ _⟩
          · refine r_aaloadA (b := pa q7) rfl (isQ_of (fx_t1 fx) (by decide)) (vp_ct (fx_n1 fx) (vp_in_nI (by have := i_eq ek2; have : (nI k2).toInt = ((k2 : Nat) : Int) := nI_toInt (by omega); have := i_rg c; have := i_nle c3; have : (24 : Int32).toInt = 24 := rfl; have := i_nlt c1; have : (0 : Int32).toInt = 0 := rfl; omega) (by omega))) (Eq.trans (congrArg (hR (sI h (ad 0) 6 0) (ad 1)) ((nI_clamp (by have := i_eq ek2; have : (nI k2).toInt = ((k2 : Nat) : Int) := nI_toInt (by omega); have := i_rg c; have := i_nle c3; have : (24 : Int32).toInt = 24 := rfl; have := i_nlt c1; have : (0 : Int32).toInt = 0 := rfl; omega)) : _ = k2)) (Eq.trans R_oI w7)) ?_
            refine r_astore (lv' := [some (.ref (ad 0)), some (.int (nI k2)), some (.int (nI k5)), some (.ref (pa q7)), none]) rfl (Nat.le_of_ble_eq_true rfl) rfl ?_
            refine r_aload rfl rfl ?_
            refine r_instW rfl (by decide) tg7 (by decide) ?_
            refine r_if_eq (tg := 32) rfl rfl (fun _ => ?_) (fun q => absurd q (by decide))
            refine r_aload rfl rfl ?_
            refine r_aload rfl rfl ?_
            refine r_ifnonnullA (tg := 42) rfl rfl ?_
            refine r_ic (x := (-14)) rfl rfl ?_
            refine r_putI rfl ⟨rfl, rfl, rfl⟩ (fx_t0 fx) ?_
            refine r_null rfl ?_
            refine r_aret0 rfl ?_
            show WR _ cd_30 36 [some (.ref (ad 0)), some (.int c), some (.int l), some (.int i), none] [.null] (sI (sI h (ad 0) 6 0) (ad 0) 6 (-14)) _
            refine r_astore0 (lv' := [some (.ref (ad 0)), some (.int c), some (.int l), some (.int i), some (.null)]) rfl (Nat.le_of_ble_eq_true rfl) rfl ?_
            refine r_aload0 rfl rfl ?_
            refine r_ifnullN (tg := 61) rfl rfl ?_
            refine r_aload0 rfl rfl ?_
            refine r_aret0 rfl ?_
            show WR _ cd_40 12 [some (.ref (ad 0)), some (.int c), some (.int l), some (.int i), none] [.null] (sI (sI h (ad 0) 6 0) (ad 0) 6 (-14)) _
            refine r_astore0 (lv' := [some (.ref (ad 0)), some (.int c), some (.int l), some (.int i), some (.null)]) rfl (Nat.le_of_ble_eq_true rfl) rfl ?_
            refine r_aload0 rfl rfl ?_
            refine r_ifnonnullN (tg := 23) rfl rfl ?_
            refine r_lc (x := 0) rfl rfl ?_
            refine r_goto (tg := 30) rfl rfl ?_
            refine r_lret rfl ?_
            show EV _ 170 [.ref (ad 30), .int c, .int l, .int i] (sI (sI h (ad 0) 6 0) (ad 0) 6 (-14)) _
            refine in_170 (Nat.le_of_ble_eq_true rfl) ?_
            show WR _ cd_170 0 [some (.ref (ad 30)), some (.int c), some (.int l), some (.int i), none] [] (sI (sI h (ad 0) 6 0) (ad 0) 6 (-14)) _
            refine r_iload rfl rfl ?_
            refine WR_tI (y := nI k2) ek2 ?_
            refine r_cs (y := 153) (ra := [.int (nI k2)]) (rest := []) rfl ⟨⟨rfl, rfl⟩, by decide⟩ rfl rfl (Nat.le_of_ble_eq_true rfl) ?_
            refine in_153 (Nat.le_of_ble_eq_true rfl) ?_
            show WR _ cd_153 0 [some (.int (nI k2))] [] (sI (sI h (ad 0) 6 0) (ad 0) 6 (-14)) _
            refine r_iload rfl rfl ?_
            refine r_if_lt (tg := 14) rfl rfl (fun q => False.elim (by have : (nI k2).toInt = ((k2 : Nat) : Int) := nI_toInt (by omega); have : (0 : Int32).toInt = 0 := rfl; have := i_eq ek2; have := i_rg c; have := i_nle c3; have : (24 : Int32).toInt = 24 := rfl; have := i_nlt c1; have := i_lt q; omega)) (fun _ => ?_)
            refine r_iload rfl rfl ?_
            refine r_ic (x := 24) rfl rfl ?_
            refine r_icmp_ge (tg := 14) rfl rfl (fun q => False.elim (by have : (nI k2).toInt = ((k2 : Nat) : Int) := nI_toInt (by omega); have : (24 : Int32).toInt = 24 := rfl; have := i_eq ek2; have := i_rg c; have := i_nle c3; have := i_nlt c1; have : (0 : Int32).toInt = 0 := rfl; have := i_le q; omega)) (fun _ => ?_)
            refine r_ic (x := 1) rfl rfl ?_
            refine r_goto (tg := 15) rfl rfl ?_
            refine r_zret rfl (.inr rfl) ?_
            show WR _ cd_170 4 [some (.ref (ad 30)), some (.int c), some (.int l), some (.int i), none] [.int 1] (sI (sI h (ad 0) 6 0) (ad 0) 6 (-14)) _
            refine r_if_ne (tg := 14) rfl rfl (fun _ => ?_) (fun q => absurd q (by decide))
            refine r_iload rfl rfl ?_
            refine WR_tI (y := nI k5) ek5 ?_
            refine r_i2l rfl ?_
            refine WR_tL (y := lN k5) (nI_l (by have := i_eq ek5; have : (nI k5).toInt = ((k5 : Nat) : Int) := nI_toInt (by omega); have := i_rg l; have := i_nle c6; have : (8 : Int32).toInt = 8 := rfl; have := i_nlt c4; have : (0 : Int32).toInt = 0 := rfl; omega)) ?_
            refine r_lc (x := 0) rfl rfl ?_
            refine r_ldc (x := .long 7) rfl rfl ?_
            refine r_cs (y := 155) (ra := [.long 7, .long 0, .long (lN k5)]) (rest := []) rfl ⟨⟨rfl, rfl⟩, by decide⟩ rfl rfl (Nat.le_of_ble_eq_true rfl) ?_
            refine in_155 (Nat.le_of_ble_eq_true rfl) ?_
            show WR _ cd_155 0 [some (.long (lN k5)), none, some (.long 0), none, some (.long 7), none] [] (sI (sI h (ad 0) 6 0) (ad 0) 6 (-14)) _
            refine r_lload rfl rfl ?_
            refine r_lload rfl rfl ?_
            refine r_lif_lt (tg := 17) rfl rfl rfl (fun q => False.elim (by have : (lN k5).toInt = ((k5 : Nat) : Int) := lN_toInt (by omega); have : (0 : Int64).toInt = 0 := rfl; have := i_eq ek5; have : (nI k5).toInt = ((k5 : Nat) : Int) := nI_toInt (by omega); have := i_rg l; have := i_nle c6; have : (8 : Int32).toInt = 8 := rfl; have := i_nlt c4; have : (0 : Int32).toInt = 0 := rfl; have := l_lt q; omega)) (fun _ => ?_)
            refine r_lload rfl rfl ?_
            refine r_lload rfl rfl ?_
            refine r_lif_gt (tg := 17) rfl rfl rfl (fun q => False.elim (by have : (lN k5).toInt = ((k5 : Nat) : Int) := lN_toInt (by omega); have : (7 : Int64).toInt = 7 := rfl; have := i_eq ek5; have : (nI k5).toInt = ((k5 : Nat) : Int) := nI_toInt (by omega); have := i_rg l; have := i_nle c6; have : (8 : Int32).toInt = 8 := rfl; have := i_nlt c4; have : (0 : Int32).toInt = 0 := rfl; have := l_lt q; omega)) (fun _ => ?_)
            refine r_ic (x := 1) rfl rfl ?_
            refine r_goto (tg := 18) rfl rfl ?_
            refine r_zret rfl (.inr rfl) ?_
            show WR _ cd_170 23 [some (.ref (ad 30)), some (.int c), some (.int l), some (.int i), none] [.int 1] (sI (sI h (ad 0) 6 0) (ad 0) 6 (-14)) _
            refine r_if_ne (tg := 33) rfl rfl (fun _ => ?_) (fun q => absurd q (by decide))
            refine r_aload rfl rfl ?_
            refine r_aload rfl rfl ?_
            refine r_getA (b := ad 31) rfl ⟨rfl, rfl, rfl⟩ (fx_t30 fx) (fx_r30_0 fx) ?_
            refine r_iload rfl rfl ?_
            refine WR_tI (y := nI k2) ek2 ?_
            refine r_iaload rfl (.inl (fx_t31 fx)) (vp_ct (fx_n31 fx) (vp_in_nI (by have := i_eq ek2; have : (nI k2).toInt = ((k2 : Nat) : Int) := nI_toInt (by omega); have := i_rg c; have := i_nle c3; have : (24 : Int32).toInt = 24 := rfl; have := i_nlt c1; have : (0 : Int32).toInt = 0 := rfl; omega) (by omega))) ?_
            refine WR_tI (congrArg (hI (sI (sI h (ad 0) 6 0) (ad 0) 6 (-14)) (ad 31)) ((nI_clamp (by have := i_eq ek2; have : (nI k2).toInt = ((k2 : Nat) : Int) := nI_toInt (by omega); have := i_rg c; have := i_nle c3; have : (24 : Int32).toInt = 24 := rfl; have := i_nlt c1; have : (0 : Int32).toInt = 0 := rfl; omega)) : _ = k2)) ?_
            refine WR_tI (y := nI (q7 + 1000)) (Eq.trans (I_ne (fx_ne fx (by decide))) (Eq.trans (I_ne (fx_ne fx (by decide))) v7)) ?_
            refine r_iload rfl rfl ?_
            refine WR_tI (y := nI k5) ek5 ?_
            refine r_iload rfl rfl ?_
            refine r_cv (y := 168) (ra := [.int i, .int (nI k5), .int (nI (q7 + 1000))]) (rest := []) rfl ⟨⟨rfl, rfl⟩, rfl, by decide⟩ (fx_t30 fx) rfl rfl (Nat.le_of_ble_eq_true rfl) ?_
            refine in_168 (Nat.le_of_ble_eq_true rfl) ?_
            show WR _ cd_168 0 [some (.ref (ad 30)), some (.int (nI (q7 + 1000))), some (.int (nI k5)), some (.int i)] [] (sI (sI h (ad 0) 6 0) (ad 0) 6 (-14)) _
            refine r_iload rfl rfl ?_
            refine r_ic (x := (-1)) rfl rfl ?_
            refine r_icmp_eq (tg := 18) rfl rfl (fun q => False.elim (by have : (nI (q7 + 1000)).toInt = ((q7 + 1000 : Nat) : Int) := nI_toInt (by omega); have : (-1 : Int32).toInt = -1 := rfl; have := i_eq q; omega)) (fun _ => ?_)
            refine r_aload rfl rfl ?_
            refine r_iload rfl rfl ?_
            refine r_cv (y := 166) (ra := [.int (nI (q7 + 1000))]) (rest := []) rfl ⟨⟨rfl, rfl⟩, rfl, by decide⟩ (fx_t30 fx) rfl rfl (Nat.le_of_ble_eq_true rfl) ?_
            refine in_166 (Nat.le_of_ble_eq_true rfl) ?_
            show WR _ cd_166 0 [some (.ref (ad 30)), some (.int (nI (q7 + 1000)))] [] (sI (sI h (ad 0) 6 0) (ad 0) 6 (-14)) _
            refine r_iload rfl rfl ?_
            refine r_ic (x := (-1)) rfl rfl ?_
            refine r_icmp_ne (tg := 9) rfl rfl (fun _ => ?_) (fun q => False.elim (by have : (nI (q7 + 1000)).toInt = ((q7 + 1000 : Nat) : Int) := nI_toInt (by omega); have : (-1 : Int32).toInt = -1 := rfl; have := i_eq q; omega))
            refine r_iload rfl rfl ?_
            refine r_ic (x := 1000) rfl rfl ?_
            refine r_icmp_lt (tg := 21) rfl rfl (fun q => False.elim (by have : (nI (q7 + 1000)).toInt = ((q7 + 1000 : Nat) : Int) := nI_toInt (by omega); have : (1000 : Int32).toInt = 1000 := rfl; have := i_lt q; omega)) (fun _ => ?_)
            refine r_ic (x := 10) rfl rfl ?_
            refine r_goto (tg := 27) rfl rfl ?_
            refine r_iret rfl ?_
            show WR _ cd_168 10 [some (.ref (ad 30)), some (.int (nI (q7 + 1000))), some (.int (nI k5)), some (.int i)] [.int 10] (sI (sI h (ad 0) 6 0) (ad 0) 6 (-14)) _
            refine r_iload rfl rfl ?_
            refine r_icmp_eq (tg := 18) rfl rfl (fun q => False.elim (by have : (10 : Int32).toInt = 10 := rfl; have : (nI k5).toInt = ((k5 : Nat) : Int) := nI_toInt (by omega); have := i_eq ek5; have := i_rg l; have := i_nle c6; have : (8 : Int32).toInt = 8 := rfl; have := i_nlt c4; have : (0 : Int32).toInt = 0 := rfl; have := i_eq q; omega)) (fun _ => ?_)
            refine r_ic (x := 4) rfl rfl ?_
            refine r_goto (tg := 50) rfl rfl ?_
            refine r_iret rfl ?_
            show WR _ cd_170 45 [some (.ref (ad 30)), some (.int c), some (.int l), some (.int i), none] [.int 4] (sI (sI h (ad 0) 6 0) (ad 0) 6 (-14)) _
            refine r_istore (lv' := [some (.ref (ad 30)), some (.int c), some (.int l), some (.int i), some (.int 4)]) rfl (Nat.le_of_ble_eq_true rfl) rfl ?_
            refine r_iload rfl rfl ?_
            refine r_if_le (tg := 62) rfl rfl (fun q => absurd q (by decide)) (fun _ => ?_)
            refine r_aload rfl rfl ?_
            refine r_ic (x := (-10)) rfl rfl ?_
            refine r_iload rfl rfl ?_
            refine r_isub rfl ?_
            refine WR_tI (y := (-14)) rfl ?_
            refine r_cv (y := 171) (ra := [.int (-14)]) (rest := []) rfl ⟨⟨rfl, rfl⟩, rfl, by decide⟩ (fx_t30 fx) rfl rfl (Nat.le_of_ble_eq_true rfl) ?_
            refine in_171 (Nat.le_of_ble_eq_true rfl) ?_
            show WR _ cd_171 0 [some (.ref (ad 30)), some (.int (-14))] [] (sI (sI h (ad 0) 6 0) (ad 0) 6 (-14)) _
            refine r_aload rfl rfl ?_
            refine r_iload rfl rfl ?_
            refine r_putI rfl ⟨rfl, rfl, rfl⟩ (fx_t30 fx) ?_
            refine r_lc (x := 0) rfl rfl ?_
            refine r_lret rfl ?_
            show WR _ cd_170 61 [some (.ref (ad 30)), some (.int c), some (.int l), some (.int i), some (.int 4)] [.long 0] (sI (sI (sI h (ad 0) 6 0) (ad 0) 6 (-14)) (ad 30) 11 (-14)) _
            refine r_lret rfl ?_
            exact ⟨rfl, Rel.why r (((Chg.rf.sI (fx_j fx) (.inl (by decide))).sI (fx_j fx) (.inl (by decide))).sI (fx_j fx) (.inl (by decide))) ⟨rfl, by decide⟩ (Eq.trans (Eq.trans (I_ne (fx_ne fx (by decide))) I_eq) (Eq.symm I_eq)), Nat.le_add_right _ _, Nat.le_add_right _ _⟩
          · refine r_aaloadA (b := mid t7) rfl (isQ_of (fx_t1 fx) (by decide)) (vp_ct (fx_n1 fx) (vp_in_nI (by have := i_eq ek2; have : (nI k2).toInt = ((k2 : Nat) : Int) := nI_toInt (by omega); have := i_rg c; have := i_nle c3; have : (24 : Int32).toInt = 24 := rfl; have := i_nlt c1; have : (0 : Int32).toInt = 0 := rfl; omega) (by omega))) (Eq.trans (congrArg (hR (sI h (ad 0) 6 0) (ad 1)) ((nI_clamp (by have := i_eq ek2; have : (nI k2).toInt = ((k2 : Nat) : Int) := nI_toInt (by omega); have := i_rg c; have := i_nle c3; have : (24 : Int32).toInt = 24 := rfl; have := i_nlt c1; have : (0 : Int32).toInt = 0 := rfl; omega)) : _ = k2)) (Eq.trans R_oI w7)) ?_
            refine r_astore (lv' := [some (.ref (ad 0)), some (.int (nI k2)), some (.int (nI k5)), some (.ref (mid t7)), none]) rfl (Nat.le_of_ble_eq_true rfl) rfl ?_
            refine r_aload rfl rfl ?_
            refine r_instY rfl (by decide) tg7 ?_
            refine r_if_eq (tg := 32) rfl rfl (fun q => absurd q (by decide)) (fun _ => ?_)
            refine r_aload rfl rfl ?_
            refine r_cast rfl tg7 ?_
            refine r_astore (lv' := [some (.ref (ad 0)), some (.int (nI k2)), some (.int (nI k5)), some (.ref (mid t7)), some (.ref (mid t7))]) rfl (Nat.le_of_ble_eq_true rfl) rfl ?_
            refine r_aload rfl rfl ?_
            refine r_getI rfl ⟨rfl, rfl, rfl⟩ tg7 ?_
            refine WR_tI (y := nI ln7) (Eq.trans (I_ne (dy_ad fx (.inl (by decide)) dz7)) l1_7) ?_
            refine r_iload rfl rfl ?_
            refine r_icmp_ne (tg := 32) rfl rfl (fun c8 => ?_) (fun c8 => ?_)
            · refine r_aload rfl rfl ?_
              refine r_aload rfl rfl ?_
              refine r_ifnonnullA (tg := 42) rfl rfl ?_
              refine r_ic (x := (-14)) rfl rfl ?_
              refine r_putI rfl ⟨rfl, rfl, rfl⟩ (fx_t0 fx) ?_
              refine r_null rfl ?_
              refine r_aret0 rfl ?_
              show WR _ cd_30 36 [some (.ref (ad 0)), some (.int c), some (.int l), some (.int i), none] [.null] (sI (sI h (ad 0) 6 0) (ad 0) 6 (-14)) _
              refine r_astore0 (lv' := [some (.ref (ad 0)), some (.int c), some (.int l), some (.int i), some (.null)]) rfl (Nat.le_of_ble_eq_true rfl) rfl ?_
              refine r_aload0 rfl rfl ?_
              refine r_ifnullN (tg := 61) rfl rfl ?_
              refine r_aload0 rfl rfl ?_
              refine r_aret0 rfl ?_
              show WR _ cd_40 12 [some (.ref (ad 0)), some (.int c), some (.int l), some (.int i), none] [.null] (sI (sI h (ad 0) 6 0) (ad 0) 6 (-14)) _
              refine r_astore0 (lv' := [some (.ref (ad 0)), some (.int c), some (.int l), some (.int i), some (.null)]) rfl (Nat.le_of_ble_eq_true rfl) rfl ?_
              refine r_aload0 rfl rfl ?_
              refine r_ifnonnullN (tg := 23) rfl rfl ?_
              refine r_lc (x := 0) rfl rfl ?_
              refine r_goto (tg := 30) rfl rfl ?_
              refine r_lret rfl ?_
              show EV _ 170 [.ref (ad 30), .int c, .int l, .int i] (sI (sI h (ad 0) 6 0) (ad 0) 6 (-14)) _
              refine in_170 (Nat.le_of_ble_eq_true rfl) ?_
              show WR _ cd_170 0 [some (.ref (ad 30)), some (.int c), some (.int l), some (.int i), none] [] (sI (sI h (ad 0) 6 0) (ad 0) 6 (-14)) _
              refine r_iload rfl rfl ?_
              refine WR_tI (y := nI k2) ek2 ?_
              refine r_cs (y := 153) (ra := [.int (nI k2)]) (rest := []) rfl ⟨⟨rfl, rfl⟩, by decide⟩ rfl rfl (Nat.le_of_ble_eq_true rfl) ?_
              refine in_153 (Nat.le_of_ble_eq_true rfl) ?_
              show WR _ cd_153 0 [some (.int (nI k2))] [] (sI (sI h (ad 0) 6 0) (ad 0) 6 (-14)) _
              refine r_iload rfl rfl ?_
              refine r_if_lt (tg := 14) rfl rfl (fun q => False.elim (by have : (nI k2).toInt = ((k2 : Nat) : Int) := nI_toInt (by omega); have : (0 : Int32).toInt = 0 := rfl; have := i_eq ek2; have := i_rg c; have := i_nle c3; have : (24 : Int32).toInt = 24 := rfl; have := i_nlt c1; have := i_lt q; omega)) (fun _ => ?_)
              refine r_iload rfl rfl ?_
              refine r_ic (x := 24) rfl rfl ?_
              refine r_icmp_ge (tg := 14) rfl rfl (fun q => False.elim (by have : (nI k2).toInt = ((k2 : Nat) : Int) := nI_toInt (by omega); have : (24 : Int32).toInt = 24 := rfl; have := i_eq ek2; have := i_rg c; have := i_nle c3; have := i_nlt c1; have : (0 : Int32).toInt = 0 := rfl; have := i_le q; omega)) (fun _ => ?_)
              refine r_ic (x := 1) rfl rfl ?_
              refine r_goto (tg := 15) rfl rfl ?_
              refine r_zret rfl (.inr rfl) ?_
              show WR _ cd_170 4 [some (.ref (ad 30)), some (.int c), some (.int l), some (.int i), none] [.int 1] (sI (sI h (ad 0) 6 0) (ad 0) 6 (-14)) _
              refine r_if_ne (tg := 14) rfl rfl (fun _ => ?_) (fun q => absurd q (by decide))
              refine r_iload rfl rfl ?_
              refine WR_tI (y := nI k5) ek5 ?_
              refine r_i2l rfl ?_
              refine WR_tL (y := lN k5) (nI_l (by have := i_eq ek5; have : (nI k5).toInt = ((k5 : Nat) : Int) := nI_toInt (by omega); have := i_rg l; have := i_nle c6; have : (8 : Int32).toInt = 8 := rfl; have := i_nlt c4; have : (0 : Int32).toInt = 0 := rfl; omega)) ?_
              refine r_lc (x := 0) rfl rfl ?_
              refine r_ldc (x := .long 7) rfl rfl ?_
              refine r_cs (y := 155) (ra := [.long 7, .long 0, .long (lN k5)]) (rest := []) rfl ⟨⟨rfl, rfl⟩, by decide⟩ rfl rfl (Nat.le_of_ble_eq_true rfl) ?_
              refine in_155 (Nat.le_of_ble_eq_true rfl) ?_
              show WR _ cd_155 0 [some (.long (lN k5)), none, some (.long 0), none, some (.long 7), none] [] (sI (sI h (ad 0) 6 0) (ad 0) 6 (-14)) _
              refine r_lload rfl rfl ?_
              refine r_lload rfl rfl ?_
              refine r_lif_lt (tg := 17) rfl rfl rfl (fun q => False.elim (by have : (lN k5).toInt = ((k5 : Nat) : Int) := lN_toInt (by omega); have : (0 : Int64).toInt = 0 := rfl; have := i_eq ek5; have : (nI k5).toInt = ((k5 : Nat) : Int) := nI_toInt (by omega); have := i_rg l; have := i_nle c6; have : (8 : Int32).toInt = 8 := rfl; have := i_nlt c4; have : (0 : Int32).toInt = 0 := rfl; have := l_lt q; omega)) (fun _ => ?_)
              refine r_lload rfl rfl ?_
              refine r_lload rfl rfl ?_
              refine r_lif_gt (tg := 17) rfl rfl rfl (fun q => False.elim (by have : (lN k5).toInt = ((k5 : Nat) : Int) := lN_toInt (by omega); have : (7 : Int64).toInt = 7 := rfl; have := i_eq ek5; have : (nI k5).toInt = ((k5 : Nat) : Int) := nI_toInt (by omega); have := i_rg l; have := i_nle c6; have : (8 : Int32).toInt = 8 := rfl; have := i_nlt c4; have : (0 : Int32).toInt = 0 := rfl; have := l_lt q; omega)) (fun _ => ?_)
              refine r_ic (x := 1) rfl rfl ?_
              refine r_goto (tg := 18) rfl rfl ?_
              refine r_zret rfl (.inr rfl) ?_
              show WR _ cd_170 23 [some (.ref (ad 30)), some (.int c), some (.int l), some (.int i), none] [.int 1] (sI (sI h (ad 0) 6 0) (ad 0) 6 (-14)) _
              refine r_if_ne (tg := 33) rfl rfl (fun _ => ?_) (fun q => absurd q (by decide))
              refine r_aload rfl rfl ?_
              refine r_aload rfl rfl ?_
              refine r_getA (b := ad 31) rfl ⟨rfl, rfl, rfl⟩ (fx_t30 fx) (fx_r30_0 fx) ?_
              refine r_iload rfl rfl ?_
              refine WR_tI (y := nI k2) ek2 ?_
              refine r_iaload rfl (.inl (fx_t31 fx)) (vp_ct (fx_n31 fx) (vp_in_nI (by have := i_eq ek2; have : (nI k2).toInt = ((k2 : Nat) : Int) := nI_toInt (by omega); have := i_rg c; have := i_nle c3; have : (24 : Int32).toInt = 24 := rfl; have := i_nlt c1; have : (0 : Int32).toInt = 0 := rfl; omega) (by omega))) ?_
              refine WR_tI (congrArg (hI (sI (sI h (ad 0) 6 0) (ad 0) 6 (-14)) (ad 31)) ((nI_clamp (by have := i_eq ek2; have : (nI k2).toInt = ((k2 : Nat) : Int) := nI_toInt (by omega); have := i_rg c; have := i_nle c3; have : (24 : Int32).toInt = 24 := rfl; have := i_nlt c1; have : (0 : Int32).toInt = 0 := rfl; omega)) : _ = k2)) ?_
              refine WR_tI (y := nI t7) (Eq.trans (I_ne (fx_ne fx (by decide))) (Eq.trans (I_ne (fx_ne fx (by decide))) v7)) ?_
              refine r_iload rfl rfl ?_
              refine WR_tI (y := nI k5) ek5 ?_
              refine r_iload rfl rfl ?_
              refine r_cv (y := 168) (ra := [.int i, .int (nI k5), .int (nI t7)]) (rest := []) rfl ⟨⟨rfl, rfl⟩, rfl, by decide⟩ (fx_t30 fx) rfl rfl (Nat.le_of_ble_eq_true rfl) ?_
              refine in_168 (Nat.le_of_ble_eq_true rfl) ?_
              show WR _ cd_168 0 [some (.ref (ad 30)), some (.int (nI t7)), some (.int (nI k5)), some (.int i)] [] (sI (sI h (ad 0) 6 0) (ad 0) 6 (-14)) _
              refine r_iload rfl rfl ?_
              refine r_ic (x := (-1)) rfl rfl ?_
              refine r_icmp_eq (tg := 18) rfl rfl (fun q => False.elim (by have : (nI t7).toInt = ((t7 : Nat) : Int) := nI_toInt (by omega); have : (-1 : Int32).toInt = -1 := rfl; have := i_eq q; omega)) (fun _ => ?_)
              refine r_aload rfl rfl ?_
              refine r_iload rfl rfl ?_
              refine r_cv (y := 166) (ra := [.int (nI t7)]) (rest := []) rfl ⟨⟨rfl, rfl⟩, rfl, by decide⟩ (fx_t30 fx) rfl rfl (Nat.le_of_ble_eq_true rfl) ?_
              refine in_166 (Nat.le_of_ble_eq_true rfl) ?_
              show WR _ cd_166 0 [some (.ref (ad 30)), some (.int (nI t7))] [] (sI (sI h (ad 0) 6 0) (ad 0) 6 (-14)) _
              refine r_iload rfl rfl ?_
              refine r_ic (x := (-1)) rfl rfl ?_
              refine r_icmp_ne (tg := 9) rfl rfl (fun _ => ?_) (fun q => False.elim (by have : (nI t7).toInt = ((t7 : Nat) : Int) := nI_toInt (by omega); have : (-1 : Int32).toInt = -1 := rfl; have := i_eq q; omega))
              refine r_iload rfl rfl ?_
              refine r_ic (x := 1000) rfl rfl ?_
              refine r_icmp_lt (tg := 21) rfl rfl (fun _ => ?_) (fun q => False.elim (by have : (nI t7).toInt = ((t7 : Nat) : Int) := nI_toInt (by omega); have : (1000 : Int32).toInt = 1000 := rfl; have := i_nlt q; omega))
              refine r_aload rfl rfl ?_
              refine r_getA (b := ad 33) rfl ⟨rfl, rfl, rfl⟩ (fx_t30 fx) (fx_r30_2 fx) ?_
              refine r_iload rfl rfl ?_
              refine r_iaload rfl (.inl (fx_t33 fx)) (vp_ct (fx_n33 fx) (vp_in_nI (by omega) (by omega))) ?_
              refine WR_tI (congrArg (hI (sI (sI h (ad 0) 6 0) (ad 0) 6 (-14)) (ad 33)) ((nI_clamp (by omega)) : _ = t7)) ?_
              refine WR_tI (y := nI ln7) (Eq.trans (I_ne (fx_ne fx (by decide))) (Eq.trans (I_ne (fx_ne fx (by decide))) l2_7)) ?_
              refine r_iret rfl ?_
              show WR _ cd_168 10 [some (.ref (ad 30)), some (.int (nI t7)), some (.int (nI k5)), some (.int i)] [.int (nI ln7)] (sI (sI h (ad 0) 6 0) (ad 0) 6 (-14)) _
              refine r_iload rfl rfl ?_
              refine r_icmp_eq (tg := 18) rfl rfl (fun q => False.elim (by have : (nI ln7).toInt = ((ln7 : Nat) : Int) := nI_toInt (by omega); have : (nI k5).toInt = ((k5 : Nat) : Int) := nI_toInt (by omega); have := i_eq ek5; have := i_rg l; have := i_nle c6; have : (8 : Int32).toInt = 8 := rfl; have := i_nlt c4; have : (0 : Int32).toInt = 0 := rfl; have := i_neq c8; have := i_eq q; omega)) (fun _ => ?_)
              refine r_ic (x := 4) rfl rfl ?_
              refine r_goto (tg := 50) rfl rfl ?_
              refine r_iret rfl ?_
              show WR _ cd_170 45 [some (.ref (ad 30)), some (.int c), some (.int l), some (.int i), none] [.int 4] (sI (sI h (ad 0) 6 0) (ad 0) 6 (-14)) _
              refine r_istore (lv' := [some (.ref (ad 30)), some (.int c), some (.int l), some (.int i), some (.int 4)]) rfl (Nat.le_of_ble_eq_true rfl) rfl ?_
              refine r_iload rfl rfl ?_
              refine r_if_le (tg := 62) rfl rfl (fun q => absurd q (by decide)) (fun _ => ?_)
              refine r_aload rfl rfl ?_
              refine r_ic (x := (-10)) rfl rfl ?_
              refine r_iload rfl rfl ?_
              refine r_isub rfl ?_
              refine WR_tI (y := (-14)) rfl ?_
              refine r_cv (y := 171) (ra := [.int (-14)]) (rest := []) rfl ⟨⟨rfl, rfl⟩, rfl, by decide⟩ (fx_t30 fx) rfl rfl (Nat.le_of_ble_eq_true rfl) ?_
              refine in_171 (Nat.le_of_ble_eq_true rfl) ?_
              show WR _ cd_171 0 [some (.ref (ad 30)), some (.int (-14))] [] (sI (sI h (ad 0) 6 0) (ad 0) 6 (-14)) _
              refine r_aload rfl rfl ?_
              refine r_iload rfl rfl ?_
              refine r_putI rfl ⟨rfl, rfl, rfl⟩ (fx_t30 fx) ?_
              refine r_lc (x := 0) rfl rfl ?_
              refine r_lret rfl ?_
              show WR _ cd_170 61 [some (.ref (ad 30)), some (.int c), some (.int l), some (.int i), some (.int 4)] [.long 0] (sI (sI (sI h (ad 0) 6 0) (ad 0) 6 (-14)) (ad 30) 11 (-14)) _
              refine r_lret rfl ?_
              exact ⟨rfl, Rel.why r (((Chg.rf.sI (fx_j fx) (.inl (by decide))).sI (fx_j fx) (.inl (by decide))).sI (fx_j fx) (.inl (by decide))) ⟨rfl, by decide⟩ (Eq.trans (Eq.trans (I_ne (fx_ne fx (by decide))) I_eq) (Eq.symm I_eq)), Nat.le_add_right _ _, Nat.le_add_right _ _⟩
            · refine r_aload rfl rfl ?_
              refine r_aret rfl ?_
              show WR _ cd_30 36 [some (.ref (ad 0)), some (.int c), some (.int l), some (.int i), none] [.ref (mid t7)] (sI h (ad 0) 6 0) _
              refine r_astore (lv' := [some (.ref (ad 0)), some (.int c), some (.int l), some (.int i), some (.ref (mid t7))]) rfl (Nat.le_of_ble_eq_true rfl) rfl ?_
              refine r_aload rfl rfl ?_
              refine r_ifnullA (tg := 61) rfl rfl ?_
              refine r_aload rfl rfl ?_
              refine r_iload rfl rfl ?_
              refine r_ic (x := 1) rfl rfl ?_
              refine r_cv (y := 32) (ra := [.int 1, .int i]) (rest := []) rfl ⟨⟨rfl, rfl⟩, rfl, by decide⟩ tg7 rfl rfl (Nat.le_of_ble_eq_true rfl) ?_
              refine in_32 (Nat.le_of_ble_eq_true rfl) ?_
              show WR _ cd_32 0 [some (.ref (mid t7)), some (.int i), some (.int 1)] [] (sI h (ad 0) 6 0) _
              refine r_iload rfl rfl ?_
              refine r_if_lt (tg := 22) rfl rfl (fun c9 => ?_) (fun c9 => ?_)
              · refine r_ic (x := 0) rfl rfl ?_
                refine r_zret rfl (.inl rfl) ?_
                show WR _ cd_30 50 [some (.ref (ad 0)), some (.int c), some (.int l), some (.int i), some (.ref (mid t7))] [.int 0] (sI h (ad 0) 6 0) _
                refine r_if_ne (tg := 61) rfl rfl (fun q => absurd q (by decide)) (fun _ => ?_)
                refine r_aload rfl rfl ?_
                refine r_ic (x := (-12)) rfl rfl ?_
                refine r_putI rfl ⟨rfl, rfl, rfl⟩ (fx_t0 fx) ?_
                refine r_null rfl ?_
                refine r_aret0 rfl ?_
                show WR _ cd_40 12 [some (.ref (ad 0)), some (.int c), some (.int l), some (.int i), none] [.null] (sI (sI h (ad 0) 6 0) (ad 0) 6 (-12)) _
                refine r_astore0 (lv' := [some (.ref (ad 0)), some (.int c), some (.int l), some (.int i), some (.null)]) rfl (Nat.le_of_ble_eq_true rfl) rfl ?_
                refine r_aload0 rfl rfl ?_
                refine r_ifnonnullN (tg := 23) rfl rfl ?_
                refine r_lc (x := 0) rfl rfl ?_
                refine r_goto (tg := 30) rfl rfl ?_
                refine r_lret rfl ?_
                show EV _ 170 [.ref (ad 30), .int c, .int l, .int i] (sI (sI h (ad 0) 6 0) (ad 0) 6 (-12)) _
                refine in_170 (Nat.le_of_ble_eq_true rfl) ?_
                show WR _ cd_170 0 [some (.ref (ad 30)), some (.int c), some (.int l), some (.int i), none] [] (sI (sI h (ad 0) 6 0) (ad 0) 6 (-12)) _
                refine r_iload rfl rfl ?_
                refine WR_tI (y := nI k2) ek2 ?_
                refine r_cs (y := 153) (ra := [.int (nI k2)]) (rest := []) rfl ⟨⟨rfl, rfl⟩, by decide⟩ rfl rfl (Nat.le_of_ble_eq_true rfl) ?_
                refine in_153 (Nat.le_of_ble_eq_true rfl) ?_
                show WR _ cd_153 0 [some (.int (nI k2))] [] (sI (sI h (ad 0) 6 0) (ad 0) 6 (-12)) _
                refine r_iload rfl rfl ?_
                refine r_if_lt (tg := 14) rfl rfl (fun q => False.elim (by have : (nI k2).toInt = ((k2 : Nat) : Int) := nI_toInt (by omega); have : (0 : Int32).toInt = 0 := rfl; have := i_eq ek2; have := i_rg c; have := i_nle c3; have : (24 : Int32).toInt = 24 := rfl; have := i_nlt c1; have := i_lt q; omega)) (fun _ => ?_)
                refine r_iload rfl rfl ?_
                refine r_ic (x := 24) rfl rfl ?_
                refine r_icmp_ge (tg := 14) rfl rfl (fun q => False.elim (by have : (nI k2).toInt = ((k2 : Nat) : Int) := nI_toInt (by omega); have : (24 : Int32).toInt = 24 := rfl; have := i_eq ek2; have := i_rg c; have := i_nle c3; have := i_nlt c1; have : (0 : Int32).toInt = 0 := rfl; have := i_le q; omega)) (fun _ => ?_)
                refine r_ic (x := 1) rfl rfl ?_
                refine r_goto (tg := 15) rfl rfl ?_
                refine r_zret rfl (.inr rfl) ?_
                show WR _ cd_170 4 [some (.ref (ad 30)), some (.int c), some (.int l), some (.int i), none] [.int 1] (sI (sI h (ad 0) 6 0) (ad 0) 6 (-12)) _
                refine r_if_ne (tg := 14) rfl rfl (fun _ => ?_) (fun q => absurd q (by decide))
                refine r_iload rfl rfl ?_
                refine WR_tI (y := nI k5) ek5 ?_
                refine r_i2l rfl ?_
                refine WR_tL (y := lN k5) (nI_l (by have := i_eq ek5; have : (nI k5).toInt = ((k5 : Nat) : Int) := nI_toInt (by omega); have := i_rg l; have := i_nle c6; have : (8 : Int32).toInt = 8 := rfl; have := i_eq c8; have : (nI ln7).toInt = ((ln7 : Nat) : Int) := nI_toInt (by omega); have := i_nlt c4; have : (0 : Int32).toInt = 0 := rfl; omega)) ?_
                refine r_lc (x := 0) rfl rfl ?_
                refine r_ldc (x := .long 7) rfl rfl ?_
                refine r_cs (y := 155) (ra := [.long 7, .long 0, .long (lN k5)]) (rest := []) rfl ⟨⟨rfl, rfl⟩, by decide⟩ rfl rfl (Nat.le_of_ble_eq_true rfl) ?_
                refine in_155 (Nat.le_of_ble_eq_true rfl) ?_
                show WR _ cd_155 0 [some (.long (lN k5)), none, some (.long 0), none, some (.long 7), none] [] (sI (sI h (ad 0) 6 0) (ad 0) 6 (-12)) _
                refine r_lload rfl rfl ?_
                refine r_lload rfl rfl ?_
                refine r_lif_lt (tg := 17) rfl rfl rfl (fun q => False.elim (by have : (lN k5).toInt = ((k5 : Nat) : Int) := lN_toInt (by omega); have : (0 : Int64).toInt = 0 := rfl; have := i_eq ek5; have : (nI k5).toInt = ((k5 : Nat) : Int) := nI_toInt (by omega); have := i_rg l; have := i_nle c6; have : (8 : Int32).toInt = 8 := rfl; have := i_eq c8; have : (nI ln7).toInt = ((ln7 : Nat) : Int) := nI_toInt (by omega); have := i_nlt c4; have : (0 : Int32).toInt = 0 := rfl; have := l_lt q; omega)) (fun _ => ?_)
                refine r_lload rfl rfl ?_
                refine r_lload rfl rfl ?_
                refine r_lif_gt (tg := 17) rfl rfl rfl (fun q => False.elim (by have : (lN k5).toInt = ((k5 : Nat) : Int) := lN_toInt (by omega); have : (7 : Int64).toInt = 7 := rfl; have := i_eq ek5; have : (nI k5).toInt = ((k5 : Nat) : Int) := nI_toInt (by omega); have := i_rg l; have := i_nle c6; have : (8 : Int32).toInt = 8 := rfl; have := i_eq c8; have : (nI ln7).toInt = ((ln7 : Nat) : Int) := nI_toInt (by omega); have := i_nlt c4; have : (0 : Int32).toInt = 0 := rfl; have := l_lt q; omega)) (fun _ => ?_)
                refine r_ic (x := 1) rfl rfl ?_
                refine r_goto (tg := 18) rfl rfl ?_
                refine r_zret rfl (.inr rfl) ?_
                show WR _ cd_170 23 [some (.ref (ad 30)), some (.int c), some (.int l), some (.int i), none] [.int 1] (sI (sI h (ad 0) 6 0) (ad 0) 6 (-12)) _
                refine r_if_ne (tg := 33) rfl rfl (fun _ => ?_) (fun q => absurd q (by decide))
                refine r_aload rfl rfl ?_
                refine r_aload rfl rfl ?_
                refine r_getA (b := ad 31) rfl ⟨rfl, rfl, rfl⟩ (fx_t30 fx) (fx_r30_0 fx) ?_
                refine r_iload rfl rfl ?_
                refine WR_tI (y := nI k2) ek2 ?_
                refine r_iaload rfl (.inl (fx_t31 fx)) (vp_ct (fx_n31 fx) (vp_in_nI (by have := i_eq ek2; have : (nI k2).toInt = ((k2 : Nat) : Int) := nI_toInt (by omega); have := i_rg c; have := i_nle c3; have : (24 : Int32).toInt = 24 := rfl; have := i_nlt c1; have : (0 : Int32).toInt = 0 := rfl; omega) (by omega))) ?_
                refine WR_tI (congrArg (hI (sI (sI h (ad 0) 6 0) (ad 0) 6 (-12)) (ad 31)) ((nI_clamp (by have := i_eq ek2; have : (nI k2).toInt = ((k2 : Nat) : Int) := nI_toInt (by omega); have := i_rg c; have := i_nle c3; have : (24 : Int32).toInt = 24 := rfl; have := i_nlt c1; have : (0 : Int32).toInt = 0 := rfl; omega)) : _ = k2)) ?_
                refine WR_tI (y := nI t7) (Eq.trans (I_ne (fx_ne fx (by decide))) (Eq.trans (I_ne (fx_ne fx (by decide))) v7)) ?_
                refine r_iload rfl rfl ?_
                refine WR_tI (y := nI k5) ek5 ?_
                refine r_iload rfl rfl ?_
                refine r_cv (y := 168) (ra := [.int i, .int (nI k5), .int (nI t7)]) (rest := []) rfl ⟨⟨rfl, rfl⟩, rfl, by decide⟩ (fx_t30 fx) rfl rfl (Nat.le_of_ble_eq_true rfl) ?_
                refine in_168 (Nat.le_of_ble_eq_true rfl) ?_
                show WR _ cd_168 0 [some (.ref (ad 30)), some (.int (nI t7)), some (.int (nI k5)), some (.int i)] [] (sI (sI h (ad 0) 6 0) (ad 0) 6 (-12)) _
                refine r_iload rfl rfl ?_
                refine r_ic (x := (-1)) rfl rfl ?_
                refine r_icmp_eq (tg := 18) rfl rfl (fun q => False.elim (by have : (nI t7).toInt = ((t7 : Nat) : Int) := nI_toInt (by omega); have : (-1 : Int32).toInt = -1 := rfl; have := i_eq q; omega)) (fun _ => ?_)
                refine r_aload rfl rfl ?_
                refine r_iload rfl rfl ?_
                refine r_cv (y := 166) (ra := [.int (nI t7)]) (rest := []) rfl ⟨⟨rfl, rfl⟩, rfl, by decide⟩ (fx_t30 fx) rfl rfl (Nat.le_of_ble_eq_true rfl) ?_
                refine in_166 (Nat.le_of_ble_eq_true rfl) ?_
                show WR _ cd_166 0 [some (.ref (ad 30)), some (.int (nI t7))] [] (sI (sI h (ad 0) 6 0) (ad 0) 6 (-12)) _
                refine r_iload rfl rfl ?_
                refine r_ic (x := (-1)) rfl rfl ?_
                refine r_icmp_ne (tg := 9) rfl rfl (fun _ => ?_) (fun q => False.elim (by have : (nI t7).toInt = ((t7 : Nat) : Int) := nI_toInt (by omega); have : (-1 : Int32).toInt = -1 := rfl; have := i_eq q; omega))
                refine r_iload rfl rfl ?_
                refine r_ic (x := 1000) rfl rfl ?_
                refine r_icmp_lt (tg := 21) rfl rfl (fun _ => ?_) (fun q => False.elim (by have : (nI t7).toInt = ((t7 : Nat) : Int) := nI_toInt (by omega); have : (1000 : Int32).toInt = 1000 := rfl; have := i_nlt q; omega))
                refine r_aload rfl rfl ?_
                refine r_getA (b := ad 33) rfl ⟨rfl, rfl, rfl⟩ (fx_t30 fx) (fx_r30_2 fx) ?_
                refine r_iload rfl rfl ?_
                refine r_iaload rfl (.inl (fx_t33 fx)) (vp_ct (fx_n33 fx) (vp_in_nI (by omega) (by omega))) ?_
                refine WR_tI (congrArg (hI (sI (sI h (ad 0) 6 0) (ad 0) 6 (-12)) (ad 33)) ((nI_clamp (by omega)) : _ = t7)) ?_
                refine WR_tI (y := nI ln7) (Eq.trans (I_ne (fx_ne fx (by decide))) (Eq.trans (I_ne (fx_ne fx (by decide))) l2_7)) ?_
                refine r_iret rfl ?_
                show WR _ cd_168 10 [some (.ref (ad 30)), some (.int (nI t7)), some (.int (nI k5)), some (.int i)] [.int (nI ln7)] (sI (sI h (ad 0) 6 0) (ad 0) 6 (-12)) _
                refine r_iload rfl rfl ?_
                refine r_icmp_eq (tg := 18) rfl rfl (fun _ => ?_) (fun q => False.elim (by have : (nI ln7).toInt = ((ln7 : Nat) : Int) := nI_toInt (by omega); have : (nI k5).toInt = ((k5 : Nat) : Int) := nI_toInt (by omega); have := i_eq ek5; have := i_rg l; have := i_nle c6; have : (8 : Int32).toInt = 8 := rfl; have := i_eq c8; have := i_nlt c4; have : (0 : Int32).toInt = 0 := rfl; have := i_neq q; omega))
                refine r_iload rfl rfl ?_
                refine r_ic (x := (-1)) rfl rfl ?_
                refine r_icmp_ne (tg := 27) rfl rfl (fun _ => ?_) (fun q => False.elim (by have : (nI t7).toInt = ((t7 : Nat) : Int) := nI_toInt (by omega); have : (-1 : Int32).toInt = -1 := rfl; have := i_eq q; omega))
                refine r_iload rfl rfl ?_
                refine r_i2l rfl ?_
                refine r_lc (x := 0) rfl rfl ?_
                refine r_aload rfl rfl ?_
                refine r_getA (b := ad 35) rfl ⟨rfl, rfl, rfl⟩ (fx_t30 fx) (fx_r30_4 fx) ?_
                refine r_iload rfl rfl ?_
                refine r_iaload rfl (.inl (fx_t35 fx)) (vp_ct (fx_n35 fx) (vp_in_nI (by omega) (by omega))) ?_
                refine WR_tI (congrArg (hI (sI (sI h (ad 0) 6 0) (ad 0) 6 (-12)) (ad 35)) ((nI_clamp (by omega)) : _ = t7)) ?_
                refine WR_tI (y := nI sz7) (Eq.trans (I_ne (fx_ne fx (by decide))) (Eq.trans (I_ne (fx_ne fx (by decide))) sz_7)) ?_
                refine r_ic (x := 1) rfl rfl ?_
                refine r_isub rfl ?_
                refine r_i2l rfl ?_
                refine r_cs (y := 155) (ra := [.long (((nI sz7) - 1).toInt64), .long 0, .long i.toInt64]) (rest := []) rfl ⟨⟨rfl, rfl⟩, by decide⟩ rfl rfl (Nat.le_of_ble_eq_true rfl) ?_
                refine in_155 (Nat.le_of_ble_eq_true rfl) ?_
                show WR _ cd_155 0 [some (.long i.toInt64), none, some (.long 0), none, some (.long (((nI sz7) - 1).toInt64)), none] [] (sI (sI h (ad 0) 6 0) (ad 0) 6 (-12)) _
                refine r_lload rfl rfl ?_
                refine r_lload rfl rfl ?_
                refine r_lif_lt (tg := 17) rfl rfl rfl (fun _ => ?_) (fun q => False.elim (by have := i_rg i; have := w_t i; have : (0 : Int64).toInt = 0 := rfl; have := i_lt c9; have : (0 : Int32).toInt = 0 := rfl; have := l_nlt q; omega))
                refine r_ic (x := 0) rfl rfl ?_
                refine r_zret rfl (.inl rfl) ?_
                show WR _ cd_168 42 [some (.ref (ad 30)), some (.int (nI t7)), some (.int (nI k5)), some (.int i)] [.int 0] (sI (sI h (ad 0) 6 0) (ad 0) 6 (-12)) _
                refine r_if_ne (tg := 49) rfl rfl (fun q => absurd q (by decide)) (fun _ => ?_)
                refine r_ic (x := 2) rfl rfl ?_
                refine r_goto (tg := 50) rfl rfl ?_
                refine r_iret rfl ?_
                show WR _ cd_170 45 [some (.ref (ad 30)), some (.int c), some (.int l), some (.int i), none] [.int 2] (sI (sI h (ad 0) 6 0) (ad 0) 6 (-12)) _
                refine r_istore (lv' := [some (.ref (ad 30)), some (.int c), some (.int l), some (.int i), some (.int 2)]) rfl (Nat.le_of_ble_eq_true rfl) rfl ?_
                refine r_iload rfl rfl ?_
                refine r_if_le (tg := 62) rfl rfl (fun q => absurd q (by decide)) (fun _ => ?_)
                refine r_aload rfl rfl ?_
                refine r_ic (x := (-10)) rfl rfl ?_
                refine r_iload rfl rfl ?_
                refine r_isub rfl ?_
                refine WR_tI (y := (-12)) rfl ?_
                refine r_cv (y := 171) (ra := [.int (-12)]) (rest := []) rfl ⟨⟨rfl, rfl⟩, rfl, by decide⟩ (fx_t30 fx) rfl rfl (Nat.le_of_ble_eq_true rfl) ?_
                refine in_171 (Nat.le_of_ble_eq_true rfl) ?_
                show WR _ cd_171 0 [some (.ref (ad 30)), some (.int (-12))] [] (sI (sI h (ad 0) 6 0) (ad 0) 6 (-12)) _
                refine r_aload rfl rfl ?_
                refine r_iload rfl rfl ?_
                refine r_putI rfl ⟨rfl, rfl, rfl⟩ (fx_t30 fx) ?_
                refine r_lc (x := 0) rfl rfl ?_
                refine r_lret rfl ?_
                show WR _ cd_170 61 [some (.ref (ad 30)), some (.int c), some (.int l), some (.int i), some (.int 2)] [.long 0] (sI (sI (sI h (ad 0) 6 0) (ad 0) 6 (-12)) (ad 30) 11 (-12)) _
                refine r_lret rfl ?_
                exact ⟨rfl, Rel.why r (((Chg.rf.sI (fx_j fx) (.inl (by decide))).sI (fx_j fx) (.inl (by decide))).sI (fx_j fx) (.inl (by decide))) ⟨rfl, by decide⟩ (Eq.trans (Eq.trans (I_ne (fx_ne fx (by decide))) I_eq) (Eq.symm I_eq)), Nat.le_add_right _ _, Nat.le_add_right _ _⟩
              · refine r_iload rfl rfl ?_
                refine r_if_lt (tg := 22) rfl rfl (fun q => absurd q (by decide)) (fun _ => ?_)
                refine r_iload rfl rfl ?_
                refine r_aload rfl rfl ?_
                refine r_cw (y := 34) (ra := []) (rest := [.int 1]) rfl ⟨rfl, rfl⟩ (by rw [show hT (sI h (ad 0) 6 0) (mid t7) = 5 from tg7]; rfl) rfl rfl (Nat.le_of_ble_eq_true rfl) ?_
                refine in_34 (Nat.le_of_ble_eq_true rfl) ?_
                show WR _ cd_34 0 [some (.ref (mid t7))] [] (sI h (ad 0) 6 0) _
                refine r_aload rfl rfl ?_
                refine r_getA (b := mid t7 + 1) rfl ⟨rfl, rfl, rfl⟩ tg7 (Eq.trans R_oI r_7) ?_
                refine r_alen rfl (isA_of tg2_7 (by decide)) ?_
                refine WR_tI (y := nI sz7) (congrArg nI n_7) ?_
                refine r_iret rfl ?_
                show WR _ cd_32 13 [some (.ref (mid t7)), some (.int i), some (.int 1)] [.int (nI sz7), .int 1] (sI h (ad 0) 6 0) _
                obtain ⟨k10, hk10, ek10⟩ := ix_of (x := i) (n := 2147483648) (by have := i_rg i; have := i_nlt c9; have : (0 : Int32).toInt = 0 := rfl; omega) (by have := i_rg i; have := i_nlt c9; have : (0 : Int32).toInt = 0 := rfl; omega)
                refine r_iload rfl rfl ?_
                refine WR_tI (y := nI k10) ek10 ?_
                refine r_isub rfl ?_
                refine r_icmp_gt (tg := 22) rfl rfl (fun c11 => ?_) (fun c11 => ?_)
                · refine r_ic (x := 0) rfl rfl ?_
                  refine r_zret rfl (.inl rfl) ?_
                  show WR _ cd_30 50 [some (.ref (ad 0)), some (.int c), some (.int l), some (.int i), some (.ref (mid t7))] [.int 0] (sI h (ad 0) 6 0) _
                  refine r_if_ne (tg := 61) rfl rfl (fun q => absurd q (by decide)) (fun _ => ?_)
                  refine r_aload rfl rfl ?_
                  refine r_ic (x := (-12)) rfl rfl ?_
                  refine r_putI rfl ⟨rfl, rfl, rfl⟩ (fx_t0 fx) ?_
                  refine r_null rfl ?_
                  refine r_aret0 rfl ?_
                  show WR _ cd_40 12 [some (.ref (ad 0)), some (.int c), some (.int l), some (.int i), none] [.null] (sI (sI h (ad 0) 6 0) (ad 0) 6 (-12)) _
                  refine r_astore0 (lv' := [some (.ref (ad 0)), some (.int c), some (.int l), some (.int i), some (.null)]) rfl (Nat.le_of_ble_eq_true rfl) rfl ?_
                  refine r_aload0 rfl rfl ?_
                  refine r_ifnonnullN (tg := 23) rfl rfl ?_
                  refine r_lc (x := 0) rfl rfl ?_
                  refine r_goto (tg := 30) rfl rfl ?_
                  refine r_lret rfl ?_
                  show EV _ 170 [.ref (ad 30), .int c, .int l, .int i] (sI (sI h (ad 0) 6 0) (ad 0) 6 (-12)) _
                  refine in_170 (Nat.le_of_ble_eq_true rfl) ?_
                  show WR _ cd_170 0 [some (.ref (ad 30)), some (.int c), some (.int l), some (.int i), none] [] (sI (sI h (ad 0) 6 0) (ad 0) 6 (-12)) _
                  refine r_iload rfl rfl ?_
                  refine WR_tI (y := nI k2) ek2 ?_
                  refine r_cs (y := 153) (ra := [.int (nI k2)]) (rest := []) rfl ⟨⟨rfl, rfl⟩, by decide⟩ rfl rfl (Nat.le_of_ble_eq_true rfl) ?_
                  refine in_153 (Nat.le_of_ble_eq_true rfl) ?_
                  show WR _ cd_153 0 [some (.int (nI k2))] [] (sI (sI h (ad 0) 6 0) (ad 0) 6 (-12)) _
                  refine r_iload rfl rfl ?_
                  refine r_if_lt (tg := 14) rfl rfl (fun q => False.elim (by have : (nI k2).toInt = ((k2 : Nat) : Int) := nI_toInt (by omega); have : (0 : Int32).toInt = 0 := rfl; have := i_eq ek2; have := i_rg c; have := i_nle c3; have : (24 : Int32).toInt = 24 := rfl; have := i_nlt c1; have := i_lt q; omega)) (fun _ => ?_)
                  refine r_iload rfl rfl ?_
                  refine r_ic (x := 24) rfl rfl ?_
                  refine r_icmp_ge (tg := 14) rfl rfl (fun q => False.elim (by have : (nI k2).toInt = ((k2 : Nat) : Int) := nI_toInt (by omega); have : (24 : Int32).toInt = 24 := rfl; have := i_eq ek2; have := i_rg c; have := i_nle c3; have := i_nlt c1; have : (0 : Int32).toInt = 0 := rfl; have := i_le q; omega)) (fun _ => ?_)
                  refine r_ic (x := 1) rfl rfl ?_
                  refine r_goto (tg := 15) rfl rfl ?_
                  refine r_zret rfl (.inr rfl) ?_
                  show WR _ cd_170 4 [some (.ref (ad 30)), some (.int c), some (.int l), some (.int i), none] [.int 1] (sI (sI h (ad 0) 6 0) (ad 0) 6 (-12)) _
                  refine r_if_ne (tg := 14) rfl rfl (fun _ => ?_) (fun q => absurd q (by decide))
                  refine r_iload rfl rfl ?_
                  refine WR_tI (y := nI k5) ek5 ?_
                  refine r_i2l rfl ?_
                  refine WR_tL (y := lN k5) (nI_l (by have := i_eq ek5; have : (nI k5).toInt = ((k5 : Nat) : Int) := nI_toInt (by omega); have := i_rg l; have := i_nle c6; have : (8 : Int32).toInt = 8 := rfl; have := i_eq c8; have : (nI ln7).toInt = ((ln7 : Nat) : Int) := nI_toInt (by omega); have := i_nlt c4; have : (0 : Int32).toInt = 0 := rfl; omega)) ?_
                  refine r_lc (x := 0) rfl rfl ?_
                  refine r_ldc (x := .long 7) rfl rfl ?_
                  refine r_cs (y := 155) (ra := [.long 7, .long 0, .long (lN k5)]) (rest := []) rfl ⟨⟨rfl, rfl⟩, by decide⟩ rfl rfl (Nat.le_of_ble_eq_true rfl) ?_
                  refine in_155 (Nat.le_of_ble_eq_true rfl) ?_
                  show WR _ cd_155 0 [some (.long (lN k5)), none, some (.long 0), none, some (.long 7), none] [] (sI (sI h (ad 0) 6 0) (ad 0) 6 (-12)) _
                  refine r_lload rfl rfl ?_
                  refine r_lload rfl rfl ?_
                  refine r_lif_lt (tg := 17) rfl rfl rfl (fun q => False.elim (by have : (lN k5).toInt = ((k5 : Nat) : Int) := lN_toInt (by omega); have : (0 : Int64).toInt = 0 := rfl; have := i_eq ek5; have : (nI k5).toInt = ((k5 : Nat) : Int) := nI_toInt (by omega); have := i_rg l; have := i_nle c6; have : (8 : Int32).toInt = 8 := rfl; have := i_eq c8; have : (nI ln7).toInt = ((ln7 : Nat) : Int) := nI_toInt (by omega); have := i_nlt c4; have : (0 : Int32).toInt = 0 := rfl; have := l_lt q; omega)) (fun _ => ?_)
                  refine r_lload rfl rfl ?_
                  refine r_lload rfl rfl ?_
                  refine r_lif_gt (tg := 17) rfl rfl rfl (fun q => False.elim (by have : (lN k5).toInt = ((k5 : Nat) : Int) := lN_toInt (by omega); have : (7 : Int64).toInt = 7 := rfl; have := i_eq ek5; have : (nI k5).toInt = ((k5 : Nat) : Int) := nI_toInt (by omega); have := i_rg l; have := i_nle c6; have : (8 : Int32).toInt = 8 := rfl; have := i_eq c8; have : (nI ln7).toInt = ((ln7 : Nat) : Int) := nI_toInt (by omega); have := i_nlt c4; have : (0 : Int32).toInt = 0 := rfl; have := l_lt q; omega)) (fun _ => ?_)
                  refine r_ic (x := 1) rfl rfl ?_
                  refine r_goto (tg := 18) rfl rfl ?_
                  refine r_zret rfl (.inr rfl) ?_
                  show WR _ cd_170 23 [some (.ref (ad 30)), some (.int c), some (.int l), some (.int i), none] [.int 1] (sI (sI h (ad 0) 6 0) (ad 0) 6 (-12)) _
                  refine r_if_ne (tg := 33) rfl rfl (fun _ => ?_) (fun q => absurd q (by decide))
                  refine r_aload rfl rfl ?_
                  refine r_aload rfl rfl ?_
                  refine r_getA (b := ad 31) rfl ⟨rfl, rfl, rfl⟩ (fx_t30 fx) (fx_r30_0 fx) ?_
                  refine r_iload rfl rfl ?_
                  refine WR_tI (y := nI k2) ek2 ?_
                  refine r_iaload rfl (.inl (fx_t31 fx)) (vp_ct (fx_n31 fx) (vp_in_nI (by have := i_eq ek2; have : (nI k2).toInt = ((k2 : Nat) : Int) := nI_toInt (by omega); have := i_rg c; have := i_nle c3; have : (24 : Int32).toInt = 24 := rfl; have := i_nlt c1; have : (0 : Int32).toInt = 0 := rfl; omega) (by omega))) ?_
                  refine WR_tI (congrArg (hI (sI (sI h (ad 0) 6 0) (ad 0) 6 (-12)) (ad 31)) ((nI_clamp (by have := i_eq ek2; have : (nI k2).toInt = ((k2 : Nat) : Int) := nI_toInt (by omega); have := i_rg c; have := i_nle c3; have : (24 : Int32).toInt = 24 := rfl; have := i_nlt c1; have : (0 : Int32).toInt = 0 := rfl; omega)) : _ = k2)) ?_
                  refine WR_tI (y := nI t7) (Eq.trans (I_ne (fx_ne fx (by decide))) (Eq.trans (I_ne (fx_ne fx (by decide))) v7)) ?_
                  refine r_iload rfl rfl ?_
                  refine WR_tI (y := nI k5) ek5 ?_
                  refine r_iload rfl rfl ?_
                  refine WR_tI (y := nI k10) ek10 ?_
                  refine r_cv (y := 168) (ra := [.int (nI k10), .int (nI k5), .int (nI t7)]) (rest := []) rfl ⟨⟨rfl, rfl⟩, rfl, by decide⟩ (fx_t30 fx) rfl rfl (Nat.le_of_ble_eq_true rfl) ?_
                  refine in_168 (Nat.le_of_ble_eq_true rfl) ?_
                  show WR _ cd_168 0 [some (.ref (ad 30)), some (.int (nI t7)), some (.int (nI k5)), some (.int (nI k10))] [] (sI (sI h (ad 0) 6 0) (ad 0) 6 (-12)) _
                  refine r_iload rfl rfl ?_
                  refine r_ic (x := (-1)) rfl rfl ?_
                  refine r_icmp_eq (tg := 18) rfl rfl (fun q => False.elim (by have : (nI t7).toInt = ((t7 : Nat) : Int) := nI_toInt (by omega); have : (-1 : Int32).toInt = -1 := rfl; have := i_eq q; omega)) (fun _ => ?_)
                  refine r_aload rfl rfl ?_
                  refine r_iload rfl rfl ?_
                  refine r_cv (y := 166) (ra := [.int (nI t7)]) (rest := []) rfl ⟨⟨rfl, rfl⟩, rfl, by decide⟩ (fx_t30 fx) rfl rfl (Nat.le_of_ble_eq_true rfl) ?_
                  refine in_166 (Nat.le_of_ble_eq_true rfl) ?_
                  show WR _ cd_166 0 [some (.ref (ad 30)), some (.int (nI t7))] [] (sI (sI h (ad 0) 6 0) (ad 0) 6 (-12)) _
                  refine r_iload rfl rfl ?_
                  refine r_ic (x := (-1)) rfl rfl ?_
                  refine r_icmp_ne (tg := 9) rfl rfl (fun _ => ?_) (fun q => False.elim (by have : (nI t7).toInt = ((t7 : Nat) : Int) := nI_toInt (by omega); have : (-1 : Int32).toInt = -1 := rfl; have := i_eq q; omega))
                  refine r_iload rfl rfl ?_
                  refine r_ic (x := 1000) rfl rfl ?_
                  refine r_icmp_lt (tg := 21) rfl rfl (fun _ => ?_) (fun q => False.elim (by have : (nI t7).toInt = ((t7 : Nat) : Int) := nI_toInt (by omega); have : (1000 : Int32).toInt = 1000 := rfl; have := i_nlt q; omega))
                  refine r_aload rfl rfl ?_
                  refine r_getA (b := ad 33) rfl ⟨rfl, rfl, rfl⟩ (fx_t30 fx) (fx_r30_2 fx) ?_
                  refine r_iload rfl rfl ?_
                  refine r_iaload rfl (.inl (fx_t33 fx)) (vp_ct (fx_n33 fx) (vp_in_nI (by omega) (by omega))) ?_
                  refine WR_tI (congrArg (hI (sI (sI h (ad 0) 6 0) (ad 0) 6 (-12)) (ad 33)) ((nI_clamp (by omega)) : _ = t7)) ?_
                  refine WR_tI (y := nI ln7) (Eq.trans (I_ne (fx_ne fx (by decide))) (Eq.trans (I_ne (fx_ne fx (by decide))) l2_7)) ?_
                  refine r_iret rfl ?_
                  show WR _ cd_168 10 [some (.ref (ad 30)), some (.int (nI t7)), some (.int (nI k5)), some (.int (nI k10))] [.int (nI ln7)] (sI (sI h (ad 0) 6 0) (ad 0) 6 (-12)) _
                  refine r_iload rfl rfl ?_
                  refine r_icmp_eq (tg := 18) rfl rfl (fun _ => ?_) (fun q => False.elim (by have : (nI ln7).toInt = ((ln7 : Nat) : Int) := nI_toInt (by omega); have : (nI k5).toInt = ((k5 : Nat) : Int) := nI_toInt (by omega); have := i_eq ek5; have := i_rg l; have := i_nle c6; have : (8 : Int32).toInt = 8 := rfl; have := i_eq c8; have := i_nlt c4; have : (0 : Int32).toInt = 0 := rfl; have := i_neq q; omega))
                  refine r_iload rfl rfl ?_
                  refine r_ic (x := (-1)) rfl rfl ?_
                  refine r_icmp_ne (tg := 27) rfl rfl (fun _ => ?_) (fun q => False.elim (by have : (nI t7).toInt = ((t7 : Nat) : Int) := nI_toInt (by omega); have : (-1 : Int32).toInt = -1 := rfl; have := i_eq q; omega))
                  refine r_iload rfl rfl ?_
                  refine r_i2l rfl ?_
                  refine WR_tL (y := lN k10) (nI_l (by have := i_eq ek10; have : (nI k10).toInt = ((k10 : Nat) : Int) := nI_toInt (by omega); have := i_rg i; have := i_lt c11; have : (1 : Int32).toInt = 1 := rfl; have : (nI sz7).toInt = ((sz7 : Nat) : Int) := nI_toInt (by omega); have := sub_t (x := nI sz7) (y := nI k10) (by have : (nI sz7).toInt = ((sz7 : Nat) : Int) := nI_toInt (by omega); have : (nI k10).toInt = ((k10 : Nat) : Int) := nI_toInt (by omega); have := i_eq ek10; have := i_rg i; have := i_nlt c9; have : (0 : Int32).toInt = 0 := rfl; omega) (by have : (nI sz7).toInt = ((sz7 : Nat) : Int) := nI_toInt (by omega); have : (nI k10).toInt = ((k10 : Nat) : Int) := nI_toInt (by omega); have := i_eq ek10; have := i_rg i; have := i_nlt c9; have : (0 : Int32).toInt = 0 := rfl; omega); have := i_nlt c9; have : (0 : Int32).toInt = 0 := rfl; omega)) ?_
                  refine r_lc (x := 0) rfl rfl ?_
                  refine r_aload rfl rfl ?_
                  refine r_getA (b := ad 35) rfl ⟨rfl, rfl, rfl⟩ (fx_t30 fx) (fx_r30_4 fx) ?_
                  refine r_iload rfl rfl ?_
                  refine r_iaload rfl (.inl (fx_t35 fx)) (vp_ct (fx_n35 fx) (vp_in_nI (by omega) (by omega))) ?_
                  refine WR_tI (congrArg (hI (sI (sI h (ad 0) 6 0) (ad 0) 6 (-12)) (ad 35)) ((nI_clamp (by omega)) : _ = t7)) ?_
                  refine WR_tI (y := nI sz7) (Eq.trans (I_ne (fx_ne fx (by decide))) (Eq.trans (I_ne (fx_ne fx (by decide))) sz_7)) ?_
                  refine r_ic (x := 1) rfl rfl ?_
                  refine r_isub rfl ?_
                  refine r_i2l rfl ?_
                  refine r_cs (y := 155) (ra := [.long (((nI sz7) - 1).toInt64), .long 0, .long (lN k10)]) (rest := []) rfl ⟨⟨rfl, rfl⟩, by decide⟩ rfl rfl (Nat.le_of_ble_eq_true rfl) ?_
                  refine in_155 (Nat.le_of_ble_eq_true rfl) ?_
                  show WR _ cd_155 0 [some (.long (lN k10)), none, some (.long 0), none, some (.long (((nI sz7) - 1).toInt64)), none] [] (sI (sI h (ad 0) 6 0) (ad 0) 6 (-12)) _
                  refine r_lload rfl rfl ?_
                  refine r_lload rfl rfl ?_
                  refine r_lif_lt (tg := 17) rfl rfl rfl (fun q => False.elim (by have : (lN k10).toInt = ((k10 : Nat) : Int) := lN_toInt (by omega); have : (0 : Int64).toInt = 0 := rfl; have := i_eq ek10; have : (nI k10).toInt = ((k10 : Nat) : Int) := nI_toInt (by omega); have := i_rg i; have := i_lt c11; have : (1 : Int32).toInt = 1 := rfl; have : (nI sz7).toInt = ((sz7 : Nat) : Int) := nI_toInt (by omega); have := sub_t (x := nI sz7) (y := nI k10) (by have : (nI sz7).toInt = ((sz7 : Nat) : Int) := nI_toInt (by omega); have : (nI k10).toInt = ((k10 : Nat) : Int) := nI_toInt (by omega); have := i_eq ek10; have := i_rg i; have := i_nlt c9; have : (0 : Int32).toInt = 0 := rfl; omega) (by have : (nI sz7).toInt = ((sz7 : Nat) : Int) := nI_toInt (by omega); have : (nI k10).toInt = ((k10 : Nat) : Int) := nI_toInt (by omega); have := i_eq ek10; have := i_rg i; have := i_nlt c9; have : (0 : Int32).toInt = 0 := rfl; omega); have := i_nlt c9; have : (0 : Int32).toInt = 0 := rfl; have := l_lt q; omega)) (fun _ => ?_)
                  refine r_lload rfl rfl ?_
                  refine r_lload rfl rfl ?_
                  refine r_lif_gt (tg := 17) rfl rfl rfl (fun _ => ?_) (fun q => False.elim (by have : (lN k10).toInt = ((k10 : Nat) : Int) := lN_toInt (by omega); have : (nI sz7).toInt = ((sz7 : Nat) : Int) := nI_toInt (by omega); have : (1 : Int32).toInt = 1 := rfl; have := sub_t (x := nI sz7) (y := 1) (by have : (nI sz7).toInt = ((sz7 : Nat) : Int) := nI_toInt (by omega); have : (1 : Int32).toInt = 1 := rfl; have := i_lt c11; have : (nI k10).toInt = ((k10 : Nat) : Int) := nI_toInt (by omega); have := sub_t (x := nI sz7) (y := nI k10) (by have : (nI sz7).toInt = ((sz7 : Nat) : Int) := nI_toInt (by omega); have : (nI k10).toInt = ((k10 : Nat) : Int) := nI_toInt (by omega); have := i_eq ek10; have := i_rg i; have := i_nlt c9; have : (0 : Int32).toInt = 0 := rfl; omega) (by have : (nI sz7).toInt = ((sz7 : Nat) : Int) := nI_toInt (by omega); have : (nI k10).toInt = ((k10 : Nat) : Int) := nI_toInt (by omega); have := i_eq ek10; have := i_rg i; have := i_nlt c9; have : (0 : Int32).toInt = 0 := rfl; omega); have := i_eq ek10; have := i_rg i; have := i_nlt c9; have : (0 : Int32).toInt = 0 := rfl; omega) (by have : (nI sz7).toInt = ((sz7 : Nat) : Int) := nI_toInt (by omega); have : (1 : Int32).toInt = 1 := rfl; have := i_lt c11; have : (nI k10).toInt = ((k10 : Nat) : Int) := nI_toInt (by omega); have := sub_t (x := nI sz7) (y := nI k10) (by have : (nI sz7).toInt = ((sz7 : Nat) : Int) := nI_toInt (by omega); have : (nI k10).toInt = ((k10 : Nat) : Int) := nI_toInt (by omega); have := i_eq ek10; have := i_rg i; have := i_nlt c9; have : (0 : Int32).toInt = 0 := rfl; omega) (by have : (nI sz7).toInt = ((sz7 : Nat) : Int) := nI_toInt (by omega); have : (nI k10).toInt = ((k10 : Nat) : Int) := nI_toInt (by omega); have := i_eq ek10; have := i_rg i; have := i_nlt c9; have : (0 : Int32).toInt = 0 := rfl; omega); have := i_eq ek10; have := i_rg i; have := i_nlt c9; have : (0 : Int32).toInt = 0 := rfl; omega); have := w_t ((nI sz7) - 1); have := i_eq ek10; have : (nI k10).toInt = ((k10 : Nat) : Int) := nI_toInt (by omega); have := i_rg i; have := i_lt c11; have := sub_t (x := nI sz7) (y := nI k10) (by have : (nI sz7).toInt = ((sz7 : Nat) : Int) := nI_toInt (by omega); have : (nI k10).toInt = ((k10 : Nat) : Int) := nI_toInt (by omega); have := i_eq ek10; have := i_rg i; have := i_nlt c9; have : (0 : Int32).toInt = 0 := rfl; omega) (by have : (nI sz7).toInt = ((sz7 : Nat) : Int) := nI_toInt (by omega); have : (nI k10).toInt = ((k10 : Nat) : Int) := nI_toInt (by omega); have := i_eq ek10; have := i_rg i; have := i_nlt c9; have : (0 : Int32).toInt = 0 := rfl; omega); have := i_nlt c9; have : (0 : Int32).toInt = 0 := rfl; have := l_nlt q; omega))
                  refine r_ic (x := 0) rfl rfl ?_
                  refine r_zret rfl (.inl rfl) ?_
                  show WR _ cd_168 42 [some (.ref (ad 30)), some (.int (nI t7)), some (.int (nI k5)), some (.int (nI k10))] [.int 0] (sI (sI h (ad 0) 6 0) (ad 0) 6 (-12)) _
                  refine r_if_ne (tg := 49) rfl rfl (fun q => absurd q (by decide)) (fun _ => ?_)
                  refine r_ic (x := 2) rfl rfl ?_
                  refine r_goto (tg := 50) rfl rfl ?_
                  refine r_iret rfl ?_
                  show WR _ cd_170 45 [some (.ref (ad 30)), some (.int c), some (.int l), some (.int i), none] [.int 2] (sI (sI h (ad 0) 6 0) (ad 0) 6 (-12)) _
                  refine r_istore (lv' := [some (.ref (ad 30)), some (.int c), some (.int l), some (.int i), some (.int 2)]) rfl (Nat.le_of_ble_eq_true rfl) rfl ?_
                  refine r_iload rfl rfl ?_
                  refine r_if_le (tg := 62) rfl rfl (fun q => absurd q (by decide)) (fun _ => ?_)
                  refine r_aload rfl rfl ?_
                  refine r_ic (x := (-10)) rfl rfl ?_
                  refine r_iload rfl rfl ?_
                  refine r_isub rfl ?_
                  refine WR_tI (y := (-12)) rfl ?_
                  refine r_cv (y := 171) (ra := [.int (-12)]) (rest := []) rfl ⟨⟨rfl, rfl⟩, rfl, by decide⟩ (fx_t30 fx) rfl rfl (Nat.le_of_ble_eq_true rfl) ?_
                  refine in_171 (Nat.le_of_ble_eq_true rfl) ?_
                  show WR _ cd_171 0 [some (.ref (ad 30)), some (.int (-12))] [] (sI (sI h (ad 0) 6 0) (ad 0) 6 (-12)) _
                  refine r_aload rfl rfl ?_
                  refine r_iload rfl rfl ?_
                  refine r_putI rfl ⟨rfl, rfl, rfl⟩ (fx_t30 fx) ?_
                  refine r_lc (x := 0) rfl rfl ?_
                  refine r_lret rfl ?_
                  show WR _ cd_170 61 [some (.ref (ad 30)), some (.int c), some (.int l), some (.int i), some (.int 2)] [.long 0] (sI (sI (sI h (ad 0) 6 0) (ad 0) 6 (-12)) (ad 30) 11 (-12)) _
                  refine r_lret rfl ?_
                  exact ⟨rfl, Rel.why r (((Chg.rf.sI (fx_j fx) (.inl (by decide))).sI (fx_j fx) (.inl (by decide))).sI (fx_j fx) (.inl (by decide))) ⟨rfl, by decide⟩ (Eq.trans (Eq.trans (I_ne (fx_ne fx (by decide))) I_eq) (Eq.symm I_eq)), Nat.le_add_right _ _, Nat.le_add_right _ _⟩
                · refine r_ic (x := 1) rfl rfl ?_
                  refine r_goto (tg := 23) rfl rfl ?_
                  refine r_zret rfl (.inr rfl) ?_
                  show WR _ cd_30 50 [some (.ref (ad 0)), some (.int c), some (.int l), some (.int i), some (.ref (mid t7))] [.int 1] (sI h (ad 0) 6 0) _
                  refine r_if_ne (tg := 61) rfl rfl (fun _ => ?_) (fun q => absurd q (by decide))
                  refine r_aload rfl rfl ?_
                  refine r_aret rfl ?_
                  show WR _ cd_40 12 [some (.ref (ad 0)), some (.int c), some (.int l), some (.int i), none] [.ref (mid t7)] (sI h (ad 0) 6 0) _
                  refine r_astore (lv' := [some (.ref (ad 0)), some (.int c), some (.int l), some (.int i), some (.ref (mid t7))]) rfl (Nat.le_of_ble_eq_true rfl) rfl ?_
                  refine r_aload rfl rfl ?_
                  refine r_ifnonnullA (tg := 23) rfl rfl ?_
                  refine r_aload rfl rfl ?_
                  refine r_getA (b := mid t7 + 1) rfl ⟨rfl, rfl, rfl⟩ tg7 (Eq.trans R_oI r_7) ?_
                  refine r_iload rfl rfl ?_
                  refine WR_tI (y := nI k10) ek10 ?_
                  refine r_laload rfl tg2_7 (vp_ct n_7 (vp_in_nI (by have := i_eq ek10; have : (nI k10).toInt = ((k10 : Nat) : Int) := nI_toInt (by omega); have := i_rg i; have := i_nlt c11; have : (1 : Int32).toInt = 1 := rfl; have : (nI sz7).toInt = ((sz7 : Nat) : Int) := nI_toInt (by omega); have := sub_t (x := nI sz7) (y := nI k10) (by have : (nI sz7).toInt = ((sz7 : Nat) : Int) := nI_toInt (by omega); have : (nI k10).toInt = ((k10 : Nat) : Int) := nI_toInt (by omega); have := i_eq ek10; have := i_rg i; have := i_nlt c9; have : (0 : Int32).toInt = 0 := rfl; omega) (by have : (nI sz7).toInt = ((sz7 : Nat) : Int) := nI_toInt (by omega); have : (nI k10).toInt = ((k10 : Nat) : Int) := nI_toInt (by omega); have := i_eq ek10; have := i_rg i; have := i_nlt c9; have : (0 : Int32).toInt = 0 := rfl; omega); have := i_nlt c9; have : (0 : Int32).toInt = 0 := rfl; omega) (by omega))) ?_
                  refine WR_tL (congrArg (hL (sI h (ad 0) 6 0) (mid t7 + 1)) ((nI_clamp (by have := i_eq ek10; have : (nI k10).toInt = ((k10 : Nat) : Int) := nI_toInt (by omega); have := i_rg i; have := i_nlt c11; have : (1 : Int32).toInt = 1 := rfl; have : (nI sz7).toInt = ((sz7 : Nat) : Int) := nI_toInt (by omega); have := sub_t (x := nI sz7) (y := nI k10) (by have : (nI sz7).toInt = ((sz7 : Nat) : Int) := nI_toInt (by omega); have : (nI k10).toInt = ((k10 : Nat) : Int) := nI_toInt (by omega); have := i_eq ek10; have := i_rg i; have := i_nlt c9; have : (0 : Int32).toInt = 0 := rfl; omega) (by have : (nI sz7).toInt = ((sz7 : Nat) : Int) := nI_toInt (by omega); have : (nI k10).toInt = ((k10 : Nat) : Int) := nI_toInt (by omega); have := i_eq ek10; have := i_rg i; have := i_nlt c9; have : (0 : Int32).toInt = 0 := rfl; omega); have := i_nlt c9; have : (0 : Int32).toInt = 0 := rfl; omega)) : _ = k10)) ?_
                  refine WR_tL (y := hL h (mid t7 + 1) k10) L_oI ?_
                  refine r_lret rfl ?_
                  show EV _ 170 [.ref (ad 30), .int c, .int l, .int i] (sI h (ad 0) 6 0) _
                  refine in_170 (Nat.le_of_ble_eq_true rfl) ?_
                  show WR _ cd_170 0 [some (.ref (ad 30)), some (.int c), some (.int l), some (.int i), none] [] (sI h (ad 0) 6 0) _
                  refine r_iload rfl rfl ?_
                  refine WR_tI (y := nI k2) ek2 ?_
                  refine r_cs (y := 153) (ra := [.int (nI k2)]) (rest := []) rfl ⟨⟨rfl, rfl⟩, by decide⟩ rfl rfl (Nat.le_of_ble_eq_true rfl) ?_
                  refine in_153 (Nat.le_of_ble_eq_true rfl) ?_
                  show WR _ cd_153 0 [some (.int (nI k2))] [] (sI h (ad 0) 6 0) _
                  refine r_iload rfl rfl ?_
                  refine r_if_lt (tg := 14) rfl rfl (fun q => False.elim (by have : (nI k2).toInt = ((k2 : Nat) : Int) := nI_toInt (by omega); have : (0 : Int32).toInt = 0 := rfl; have := i_eq ek2; have := i_rg c; have := i_nle c3; have : (24 : Int32).toInt = 24 := rfl; have := i_nlt c1; have := i_lt q; omega)) (fun _ => ?_)
                  refine r_iload rfl rfl ?_
                  refine r_ic (x := 24) rfl rfl ?_
                  refine r_icmp_ge (tg := 14) rfl rfl (fun q => False.elim (by have : (nI k2).toInt = ((k2 : Nat) : Int) := nI_toInt (by omega); have : (24 : Int32).toInt = 24 := rfl; have := i_eq ek2; have := i_rg c; have := i_nle c3; have := i_nlt c1; have : (0 : Int32).toInt = 0 := rfl; have := i_le q; omega)) (fun _ => ?_)
                  refine r_ic (x := 1) rfl rfl ?_
                  refine r_goto (tg := 15) rfl rfl ?_
                  refine r_zret rfl (.inr rfl) ?_
                  show WR _ cd_170 4 [some (.ref (ad 30)), some (.int c), some (.int l), some (.int i), none] [.int 1] (sI h (ad 0) 6 0) _
                  refine r_if_ne (tg := 14) rfl rfl (fun _ => ?_) (fun q => absurd q (by decide))
                  refine r_iload rfl rfl ?_
                  refine WR_tI (y := nI k5) ek5 ?_
                  refine r_i2l rfl ?_
                  refine WR_tL (y := lN k5) (nI_l (by have := i_eq ek5; have : (nI k5).toInt = ((k5 : Nat) : Int) := nI_toInt (by omega); have := i_rg l; have := i_nle c6; have : (8 : Int32).toInt = 8 := rfl; have := i_eq c8; have : (nI ln7).toInt = ((ln7 : Nat) : Int) := nI_toInt (by omega); have := i_nlt c4; have : (0 : Int32).toInt = 0 := rfl; omega)) ?_
                  refine r_lc (x := 0) rfl rfl ?_
                  refine r_ldc (x := .long 7) rfl rfl ?_
                  refine r_cs (y := 155) (ra := [.long 7, .long 0, .long (lN k5)]) (rest := []) rfl ⟨⟨rfl, rfl⟩, by decide⟩ rfl rfl (Nat.le_of_ble_eq_true rfl) ?_
                  refine in_155 (Nat.le_of_ble_eq_true rfl) ?_
                  show WR _ cd_155 0 [some (.long (lN k5)), none, some (.long 0), none, some (.long 7), none] [] (sI h (ad 0) 6 0) _
                  refine r_lload rfl rfl ?_
                  refine r_lload rfl rfl ?_
                  refine r_lif_lt (tg := 17) rfl rfl rfl (fun q => False.elim (by have : (lN k5).toInt = ((k5 : Nat) : Int) := lN_toInt (by omega); have : (0 : Int64).toInt = 0 := rfl; have := i_eq ek5; have : (nI k5).toInt = ((k5 : Nat) : Int) := nI_toInt (by omega); have := i_rg l; have := i_nle c6; have : (8 : Int32).toInt = 8 := rfl; have := i_eq c8; have : (nI ln7).toInt = ((ln7 : Nat) : Int) := nI_toInt (by omega); have := i_nlt c4; have : (0 : Int32).toInt = 0 := rfl; have := l_lt q; omega)) (fun _ => ?_)
                  refine r_lload rfl rfl ?_
                  refine r_lload rfl rfl ?_
                  refine r_lif_gt (tg := 17) rfl rfl rfl (fun q => False.elim (by have : (lN k5).toInt = ((k5 : Nat) : Int) := lN_toInt (by omega); have : (7 : Int64).toInt = 7 := rfl; have := i_eq ek5; have : (nI k5).toInt = ((k5 : Nat) : Int) := nI_toInt (by omega); have := i_rg l; have := i_nle c6; have : (8 : Int32).toInt = 8 := rfl; have := i_eq c8; have : (nI ln7).toInt = ((ln7 : Nat) : Int) := nI_toInt (by omega); have := i_nlt c4; have : (0 : Int32).toInt = 0 := rfl; have := l_lt q; omega)) (fun _ => ?_)
                  refine r_ic (x := 1) rfl rfl ?_
                  refine r_goto (tg := 18) rfl rfl ?_
                  refine r_zret rfl (.inr rfl) ?_
                  show WR _ cd_170 23 [some (.ref (ad 30)), some (.int c), some (.int l), some (.int i), none] [.int 1] (sI h (ad 0) 6 0) _
                  refine r_if_ne (tg := 33) rfl rfl (fun _ => ?_) (fun q => absurd q (by decide))
                  refine r_aload rfl rfl ?_
                  refine r_aload rfl rfl ?_
                  refine r_getA (b := ad 31) rfl ⟨rfl, rfl, rfl⟩ (fx_t30 fx) (fx_r30_0 fx) ?_
                  refine r_iload rfl rfl ?_
                  refine WR_tI (y := nI k2) ek2 ?_
                  refine r_iaload rfl (.inl (fx_t31 fx)) (vp_ct (fx_n31 fx) (vp_in_nI (by have := i_eq ek2; have : (nI k2).toInt = ((k2 : Nat) : Int) := nI_toInt (by omega); have := i_rg c; have := i_nle c3; have : (24 : Int32).toInt = 24 := rfl; have := i_nlt c1; have : (0 : Int32).toInt = 0 := rfl; omega) (by omega))) ?_
                  refine WR_tI (congrArg (hI (sI h (ad 0) 6 0) (ad 31)) ((nI_clamp (by have := i_eq ek2; have : (nI k2).toInt = ((k2 : Nat) : Int) := nI_toInt (by omega); have := i_rg c; have := i_nle c3; have : (24 : Int32).toInt = 24 := rfl; have := i_nlt c1; have : (0 : Int32).toInt = 0 := rfl; omega)) : _ = k2)) ?_
                  refine WR_tI (y := nI t7) (Eq.trans (I_ne (fx_ne fx (by decide))) v7) ?_
                  refine r_iload rfl rfl ?_
                  refine WR_tI (y := nI k5) ek5 ?_
                  refine r_iload rfl rfl ?_
                  refine WR_tI (y := nI k10) ek10 ?_
                  refine r_cv (y := 168) (ra := [.int (nI k10), .int (nI k5), .int (nI t7)]) (rest := []) rfl ⟨⟨rfl, rfl⟩, rfl, by decide⟩ (fx_t30 fx) rfl rfl (Nat.le_of_ble_eq_true rfl) ?_
                  refine in_168 (Nat.le_of_ble_eq_true rfl) ?_
                  show WR _ cd_168 0 [some (.ref (ad 30)), some (.int (nI t7)), some (.int (nI k5)), some (.int (nI k10))] [] (sI h (ad 0) 6 0) _
                  refine r_iload rfl rfl ?_
                  refine r_ic (x := (-1)) rfl rfl ?_
                  refine r_icmp_eq (tg := 18) rfl rfl (fun q => False.elim (by have : (nI t7).toInt = ((t7 : Nat) : Int) := nI_toInt (by omega); have : (-1 : Int32).toInt = -1 := rfl; have := i_eq q; omega)) (fun _ => ?_)
                  refine r_aload rfl rfl ?_
                  refine r_iload rfl rfl ?_
                  refine r_cv (y := 166) (ra := [.int (nI t7)]) (rest := []) rfl ⟨⟨rfl, rfl⟩, rfl, by decide⟩ (fx_t30 fx) rfl rfl (Nat.le_of_ble_eq_true rfl) ?_
                  refine in_166 (Nat.le_of_ble_eq_true rfl) ?_
                  show WR _ cd_166 0 [some (.ref (ad 30)), some (.int (nI t7))] [] (sI h (ad 0) 6 0) _
                  refine r_iload rfl rfl ?_
                  refine r_ic (x := (-1)) rfl rfl ?_
                  refine r_icmp_ne (tg := 9) rfl rfl (fun _ => ?_) (fun q => False.elim (by have : (nI t7).toInt = ((t7 : Nat) : Int) := nI_toInt (by omega); have : (-1 : Int32).toInt = -1 := rfl; have := i_eq q; omega))
                  refine r_iload rfl rfl ?_
                  refine r_ic (x := 1000) rfl rfl ?_
                  refine r_icmp_lt (tg := 21) rfl rfl (fun _ => ?_) (fun q => False.elim (by have : (nI t7).toInt = ((t7 : Nat) : Int) := nI_toInt (by omega); have : (1000 : Int32).toInt = 1000 := rfl; have := i_nlt q; omega))
                  refine r_aload rfl rfl ?_
                  refine r_getA (b := ad 33) rfl ⟨rfl, rfl, rfl⟩ (fx_t30 fx) (fx_r30_2 fx) ?_
                  refine r_iload rfl rfl ?_
                  refine r_iaload rfl (.inl (fx_t33 fx)) (vp_ct (fx_n33 fx) (vp_in_nI (by omega) (by omega))) ?_
                  refine WR_tI (congrArg (hI (sI h (ad 0) 6 0) (ad 33)) ((nI_clamp (by omega)) : _ = t7)) ?_
                  refine WR_tI (y := nI ln7) (Eq.trans (I_ne (fx_ne fx (by decide))) l2_7) ?_
                  refine r_iret rfl ?_
                  show WR _ cd_168 10 [some (.ref (ad 30)), some (.int (nI t7)), some (.int (nI k5)), some (.int (nI k10))] [.int (nI ln7)] (sI h (ad 0) 6 0) _
                  refine r_iload rfl rfl ?_
                  refine r_icmp_eq (tg := 18) rfl rfl (fun _ => ?_) (fun q => False.elim (by have : (nI ln7).toInt = ((ln7 : Nat) : Int) := nI_toInt (by omega); have : (nI k5).toInt = ((k5 : Nat) : Int) := nI_toInt (by omega); have := i_eq ek5; have := i_rg l; have := i_nle c6; have : (8 : Int32).toInt = 8 := rfl; have := i_eq c8; have := i_nlt c4; have : (0 : Int32).toInt = 0 := rfl; have := i_neq q; omega))
                  refine r_iload rfl rfl ?_
                  refine r_ic (x := (-1)) rfl rfl ?_
                  refine r_icmp_ne (tg := 27) rfl rfl (fun _ => ?_) (fun q => False.elim (by have : (nI t7).toInt = ((t7 : Nat) : Int) := nI_toInt (by omega); have : (-1 : Int32).toInt = -1 := rfl; have := i_eq q; omega))
                  refine r_iload rfl rfl ?_
                  refine r_i2l rfl ?_
                  refine WR_tL (y := lN k10) (nI_l (by have := i_eq ek10; have : (nI k10).toInt = ((k10 : Nat) : Int) := nI_toInt (by omega); have := i_rg i; have := i_nlt c11; have : (1 : Int32).toInt = 1 := rfl; have : (nI sz7).toInt = ((sz7 : Nat) : Int) := nI_toInt (by omega); have := sub_t (x := nI sz7) (y := nI k10) (by have : (nI sz7).toInt = ((sz7 : Nat) : Int) := nI_toInt (by omega); have : (nI k10).toInt = ((k10 : Nat) : Int) := nI_toInt (by omega); have := i_eq ek10; have := i_rg i; have := i_nlt c9; have : (0 : Int32).toInt = 0 := rfl; omega) (by have : (nI sz7).toInt = ((sz7 : Nat) : Int) := nI_toInt (by omega); have : (nI k10).toInt = ((k10 : Nat) : Int) := nI_toInt (by omega); have := i_eq ek10; have := i_rg i; have := i_nlt c9; have : (0 : Int32).toInt = 0 := rfl; omega); have := i_nlt c9; have : (0 : Int32).toInt = 0 := rfl; omega)) ?_
                  refine r_lc (x := 0) rfl rfl ?_
                  refine r_aload rfl rfl ?_
                  refine r_getA (b := ad 35) rfl ⟨rfl, rfl, rfl⟩ (fx_t30 fx) (fx_r30_4 fx) ?_
                  refine r_iload rfl rfl ?_
                  refine r_iaload rfl (.inl (fx_t35 fx)) (vp_ct (fx_n35 fx) (vp_in_nI (by omega) (by omega))) ?_
                  refine WR_tI (congrArg (hI (sI h (ad 0) 6 0) (ad 35)) ((nI_clamp (by omega)) : _ = t7)) ?_
                  refine WR_tI (y := nI sz7) (Eq.trans (I_ne (fx_ne fx (by decide))) sz_7) ?_
                  refine r_ic (x := 1) rfl rfl ?_
                  refine r_isub rfl ?_
                  refine WR_tI (y := nI (sz7 - 1)) (Eq.trans (pk_sub (a := sz7) (b := 1) (by have := i_nlt c11; have : (1 : Int32).toInt = 1 := rfl; have : (nI sz7).toInt = ((sz7 : Nat) : Int) := nI_toInt (by omega); have : (nI k10).toInt = ((k10 : Nat) : Int) := nI_toInt (by omega); have := sub_t (x := nI sz7) (y := nI k10) (by have : (nI sz7).toInt = ((sz7 : Nat) : Int) := nI_toInt (by omega); have : (nI k10).toInt = ((k10 : Nat) : Int) := nI_toInt (by omega); have := i_eq ek10; have := i_rg i; have := i_nlt c9; have : (0 : Int32).toInt = 0 := rfl; omega) (by have : (nI sz7).toInt = ((sz7 : Nat) : Int) := nI_toInt (by omega); have : (nI k10).toInt = ((k10 : Nat) : Int) := nI_toInt (by omega); have := i_eq ek10; have := i_rg i; have := i_nlt c9; have : (0 : Int32).toInt = 0 := rfl; omega); have := i_eq ek10; have := i_rg i; have := i_nlt c9; have : (0 : Int32).toInt = 0 := rfl; omega)) (congrArg nI (by have := i_nlt c11; have : (1 : Int32).toInt = 1 := rfl; have : (nI sz7).toInt = ((sz7 : Nat) : Int) := nI_toInt (by omega); have : (nI k10).toInt = ((k10 : Nat) : Int) := nI_toInt (by omega); have := sub_t (x := nI sz7) (y := nI k10) (by have : (nI sz7).toInt = ((sz7 : Nat) : Int) := nI_toInt (by omega); have : (nI k10).toInt = ((k10 : Nat) : Int) := nI_toInt (by omega); have := i_eq ek10; have := i_rg i; have := i_nlt c9; have : (0 : Int32).toInt = 0 := rfl; omega) (by have : (nI sz7).toInt = ((sz7 : Nat) : Int) := nI_toInt (by omega); have : (nI k10).toInt = ((k10 : Nat) : Int) := nI_toInt (by omega); have := i_eq ek10; have := i_rg i; have := i_nlt c9; have : (0 : Int32).toInt = 0 := rfl; omega); have := i_eq ek10; have := i_rg i; have := i_nlt c9; have : (0 : Int32).toInt = 0 := rfl; omega))) ?_
                  refine r_i2l rfl ?_
                  refine WR_tL (y := lN (sz7 - 1)) (nI_l (by have := i_nlt c11; have : (1 : Int32).toInt = 1 := rfl; have : (nI sz7).toInt = ((sz7 : Nat) : Int) := nI_toInt (by omega); have : (nI k10).toInt = ((k10 : Nat) : Int) := nI_toInt (by omega); have := sub_t (x := nI sz7) (y := nI k10) (by have : (nI sz7).toInt = ((sz7 : Nat) : Int) := nI_toInt (by omega); have : (nI k10).toInt = ((k10 : Nat) : Int) := nI_toInt (by omega); have := i_eq ek10; have := i_rg i; have := i_nlt c9; have : (0 : Int32).toInt = 0 := rfl; omega) (by have : (nI sz7).toInt = ((sz7 : Nat) : Int) := nI_toInt (by omega); have : (nI k10).toInt = ((k10 : Nat) : Int) := nI_toInt (by omega); have := i_eq ek10; have := i_rg i; have := i_nlt c9; have : (0 : Int32).toInt = 0 := rfl; omega); have := i_eq ek10; have := i_rg i; have := i_nlt c9; have : (0 : Int32).toInt = 0 := rfl; omega)) ?_
                  refine r_cs (y := 155) (ra := [.long (lN (sz7 - 1)), .long 0, .long (lN k10)]) (rest := []) rfl ⟨⟨rfl, rfl⟩, by decide⟩ rfl rfl (Nat.le_of_ble_eq_true rfl) ?_
                  refine in_155 (Nat.le_of_ble_eq_true rfl) ?_
                  show WR _ cd_155 0 [some (.long (lN k10)), none, some (.long 0), none, some (.long (lN (sz7 - 1))), none] [] (sI h (ad 0) 6 0) _
                  refine r_lload rfl rfl ?_
                  refine r_lload rfl rfl ?_
                  refine r_lif_lt (tg := 17) rfl rfl rfl (fun q => False.elim (by have : (lN k10).toInt = ((k10 : Nat) : Int) := lN_toInt (by omega); have : (0 : Int64).toInt = 0 := rfl; have := i_eq ek10; have : (nI k10).toInt = ((k10 : Nat) : Int) := nI_toInt (by omega); have := i_rg i; have := i_nlt c11; have : (1 : Int32).toInt = 1 := rfl; have : (nI sz7).toInt = ((sz7 : Nat) : Int) := nI_toInt (by omega); have := sub_t (x := nI sz7) (y := nI k10) (by have : (nI sz7).toInt = ((sz7 : Nat) : Int) := nI_toInt (by omega); have : (nI k10).toInt = ((k10 : Nat) : Int) := nI_toInt (by omega); have := i_eq ek10; have := i_rg i; have := i_nlt c9; have : (0 : Int32).toInt = 0 := rfl; omega) (by have : (nI sz7).toInt = ((sz7 : Nat) : Int) := nI_toInt (by omega); have : (nI k10).toInt = ((k10 : Nat) : Int) := nI_toInt (by omega); have := i_eq ek10; have := i_rg i; have := i_nlt c9; have : (0 : Int32).toInt = 0 := rfl; omega); have := i_nlt c9; have : (0 : Int32).toInt = 0 := rfl; have := l_lt q; omega)) (fun _ => ?_)
                  refine r_lload rfl rfl ?_
                  refine r_lload rfl rfl ?_
                  refine r_lif_gt (tg := 17) rfl rfl rfl (fun q => False.elim (by have : (lN k10).toInt = ((k10 : Nat) : Int) := lN_toInt (by omega); have : (lN (sz7 - 1)).toInt = ((sz7 - 1 : Nat) : Int) := lN_toInt (by omega); have := i_eq ek10; have : (nI k10).toInt = ((k10 : Nat) : Int) := nI_toInt (by omega); have := i_rg i; have := i_nlt c11; have : (1 : Int32).toInt = 1 := rfl; have : (nI sz7).toInt = ((sz7 : Nat) : Int) := nI_toInt (by omega); have := sub_t (x := nI sz7) (y := nI k10) (by have : (nI sz7).toInt = ((sz7 : Nat) : Int) := nI_toInt (by omega); have : (nI k10).toInt = ((k10 : Nat) : Int) := nI_toInt (by omega); have := i_eq ek10; have := i_rg i; have := i_nlt c9; have : (0 : Int32).toInt = 0 := rfl; omega) (by have : (nI sz7).toInt = ((sz7 : Nat) : Int) := nI_toInt (by omega); have : (nI k10).toInt = ((k10 : Nat) : Int) := nI_toInt (by omega); have := i_eq ek10; have := i_rg i; have := i_nlt c9; have : (0 : Int32).toInt = 0 := rfl; omega); have := i_nlt c9; have : (0 : Int32).toInt = 0 := rfl; have := l_lt q; omega)) (fun _ => ?_)
                  refine r_ic (x := 1) rfl rfl ?_
                  refine r_goto (tg := 18) rfl rfl ?_
                  refine r_zret rfl (.inr rfl) ?_
                  show WR _ cd_168 42 [some (.ref (ad 30)), some (.int (nI t7)), some (.int (nI k5)), some (.int (nI k10))] [.int 1] (sI h (ad 0) 6 0) _
                  refine r_if_ne (tg := 49) rfl rfl (fun _ => ?_) (fun q => absurd q (by decide))
                  refine r_ic (x := 0) rfl rfl ?_
                  refine r_iret rfl ?_
                  show WR _ cd_170 45 [some (.ref (ad 30)), some (.int c), some (.int l), some (.int i), none] [.int 0] (sI h (ad 0) 6 0) _
                  refine r_istore (lv' := [some (.ref (ad 30)), some (.int c), some (.int l), some (.int i), some (.int 0)]) rfl (Nat.le_of_ble_eq_true rfl) rfl ?_
                  refine r_iload rfl rfl ?_
                  refine r_if_le (tg := 62) rfl rfl (fun _ => ?_) (fun q => absurd q (by decide))
                  refine r_aload rfl rfl ?_
                  refine r_ic (x := 0) rfl rfl ?_
                  refine r_putI rfl ⟨rfl, rfl, rfl⟩ (fx_t30 fx) ?_
                  refine r_aload rfl rfl ?_
                  refine r_getA (b := ad 36) rfl ⟨rfl, rfl, rfl⟩ (fx_t30 fx) (fx_r30_5 fx) ?_
                  refine r_ic (x := 30) rfl rfl ?_
                  refine r_aload rfl rfl ?_
                  refine r_getA (b := ad 31) rfl ⟨rfl, rfl, rfl⟩ (fx_t30 fx) (fx_r30_0 fx) ?_
                  refine r_iload rfl rfl ?_
                  refine WR_tI (y := nI k2) ek2 ?_
                  refine r_iaload rfl (.inl (fx_t31 fx)) (vp_ct (fx_n31 fx) (vp_in_nI (by have := i_eq ek2; have : (nI k2).toInt = ((k2 : Nat) : Int) := nI_toInt (by omega); have := i_rg c; have := i_nle c3; have : (24 : Int32).toInt = 24 := rfl; have := i_nlt c1; have : (0 : Int32).toInt = 0 := rfl; omega) (by omega))) ?_
                  refine WR_tI (congrArg (hI (sI (sI h (ad 0) 6 0) (ad 30) 11 0) (ad 31)) ((nI_clamp (by have := i_eq ek2; have : (nI k2).toInt = ((k2 : Nat) : Int) := nI_toInt (by omega); have := i_rg c; have := i_nle c3; have : (24 : Int32).toInt = 24 := rfl; have := i_nlt c1; have : (0 : Int32).toInt = 0 := rfl; omega)) : _ = k2)) ?_
                  refine WR_tI (y := nI t7) (Eq.trans (I_ne (fx_ne fx (by decide))) (Eq.trans (I_ne (fx_ne fx (by decide))) v7)) ?_
                  refine r_imul rfl ?_
                  refine WR_tI (y := nI (30 * t7)) (Eq.trans (pk_mul 30 t7) (congrArg nI (by omega))) ?_
                  refine r_iload rfl rfl ?_
                  refine WR_tI (y := nI k10) ek10 ?_
                  refine r_iadd rfl ?_
                  refine WR_tI (y := nI (30 * t7 + k10)) (Eq.trans (nI_add (30 * t7) k10) (congrArg nI (by have := i_eq ek10; have : (nI k10).toInt = ((k10 : Nat) : Int) := nI_toInt (by omega); have := i_rg i; have := i_nlt c11; have : (1 : Int32).toInt = 1 := rfl; have : (nI sz7).toInt = ((sz7 : Nat) : Int) := nI_toInt (by omega); have := sub_t (x := nI sz7) (y := nI k10) (by have : (nI sz7).toInt = ((sz7 : Nat) : Int) := nI_toInt (by omega); have : (nI k10).toInt = ((k10 : Nat) : Int) := nI_toInt (by omega); have := i_eq ek10; have := i_rg i; have := i_nlt c9; have : (0 : Int32).toInt = 0 := rfl; omega) (by have : (nI sz7).toInt = ((sz7 : Nat) : Int) := nI_toInt (by omega); have : (nI k10).toInt = ((k10 : Nat) : Int) := nI_toInt (by omega); have := i_eq ek10; have := i_rg i; have := i_nlt c9; have : (0 : Int32).toInt = 0 := rfl; omega); have := i_nlt c9; have : (0 : Int32).toInt = 0 := rfl; omega))) ?_
                  refine r_laload rfl (fx_t36 fx) (vp_ct (fx_n36 fx) (vp_in_nI (by have := i_eq ek10; have : (nI k10).toInt = ((k10 : Nat) : Int) := nI_toInt (by omega); have := i_rg i; have := i_nlt c11; have : (1 : Int32).toInt = 1 := rfl; have : (nI sz7).toInt = ((sz7 : Nat) : Int) := nI_toInt (by omega); have := sub_t (x := nI sz7) (y := nI k10) (by have : (nI sz7).toInt = ((sz7 : Nat) : Int) := nI_toInt (by omega); have : (nI k10).toInt = ((k10 : Nat) : Int) := nI_toInt (by omega); have := i_eq ek10; have := i_rg i; have := i_nlt c9; have : (0 : Int32).toInt = 0 := rfl; omega) (by have : (nI sz7).toInt = ((sz7 : Nat) : Int) := nI_toInt (by omega); have : (nI k10).toInt = ((k10 : Nat) : Int) := nI_toInt (by omega); have := i_eq ek10; have := i_rg i; have := i_nlt c9; have : (0 : Int32).toInt = 0 := rfl; omega); have := i_nlt c9; have : (0 : Int32).toInt = 0 := rfl; omega) (by omega))) ?_
                  refine WR_tL (congrArg (hL (sI (sI h (ad 0) 6 0) (ad 30) 11 0) (ad 36)) ((nI_clamp (by have := i_eq ek10; have : (nI k10).toInt = ((k10 : Nat) : Int) := nI_toInt (by omega); have := i_rg i; have := i_nlt c11; have : (1 : Int32).toInt = 1 := rfl; have : (nI sz7).toInt = ((sz7 : Nat) : Int) := nI_toInt (by omega); have := sub_t (x := nI sz7) (y := nI k10) (by have : (nI sz7).toInt = ((sz7 : Nat) : Int) := nI_toInt (by omega); have : (nI k10).toInt = ((k10 : Nat) : Int) := nI_toInt (by omega); have := i_eq ek10; have := i_rg i; have := i_nlt c9; have : (0 : Int32).toInt = 0 := rfl; omega) (by have : (nI sz7).toInt = ((sz7 : Nat) : Int) := nI_toInt (by omega); have : (nI k10).toInt = ((k10 : Nat) : Int) := nI_toInt (by omega); have := i_eq ek10; have := i_rg i; have := i_nlt c9; have : (0 : Int32).toInt = 0 := rfl; omega); have := i_nlt c9; have : (0 : Int32).toInt = 0 := rfl; omega)) : _ = 30 * t7 + k10)) ?_
                  refine WR_tL (y := hL h (mid t7 + 1) k10) (Eq.trans L_oI (Eq.trans L_oI (al7 k10 (by have := i_eq ek10; have : (nI k10).toInt = ((k10 : Nat) : Int) := nI_toInt (by omega); have := i_rg i; have := i_nlt c11; have : (1 : Int32).toInt = 1 := rfl; have : (nI sz7).toInt = ((sz7 : Nat) : Int) := nI_toInt (by omega); have := sub_t (x := nI sz7) (y := nI k10) (by have : (nI sz7).toInt = ((sz7 : Nat) : Int) := nI_toInt (by omega); have : (nI k10).toInt = ((k10 : Nat) : Int) := nI_toInt (by omega); have := i_eq ek10; have := i_rg i; have := i_nlt c9; have : (0 : Int32).toInt = 0 := rfl; omega) (by have : (nI sz7).toInt = ((sz7 : Nat) : Int) := nI_toInt (by omega); have : (nI k10).toInt = ((k10 : Nat) : Int) := nI_toInt (by omega); have := i_eq ek10; have := i_rg i; have := i_nlt c9; have : (0 : Int32).toInt = 0 := rfl; omega); have := i_nlt c9; have : (0 : Int32).toInt = 0 := rfl; omega)).1.symm)) ?_
                  refine r_lret rfl ?_
                  exact ⟨rfl, Rel.why r ((Chg.rf.sI (fx_j fx) (.inl (by decide))).sI (fx_j fx) (.inl (by decide))) ⟨rfl, by decide⟩ (Eq.trans (Eq.trans (I_ne (fx_ne fx (by decide))) I_eq) (Eq.symm I_eq)), Nat.le_add_right _ _, Nat.le_add_right _ _⟩
          · refine r_aaloadA (b := mid t7) rfl (isQ_of (fx_t1 fx) (by decide)) (vp_ct (fx_n1 fx) (vp_in_nI (by have := i_eq ek2; have : (nI k2).toInt = ((k2 : Nat) : Int) := nI_toInt (by omega); have := i_rg c; have := i_nle c3; have : (24 : Int32).toInt = 24 := rfl; have := i_nlt c1; have : (0 : Int32).toInt = 0 := rfl; omega) (by omega))) (Eq.trans (congrArg (hR (sI h (ad 0) 6 0) (ad 1)) ((nI_clamp (by have := i_eq ek2; have : (nI k2).toInt = ((k2 : Nat) : Int) := nI_toInt (by omega); have := i_rg c; have := i_nle c3; have : (24 : Int32).toInt = 24 := rfl; have := i_nlt c1; have : (0 : Int32).toInt = 0 := rfl; omega)) : _ = k2)) (Eq.trans R_oI w7)) ?_
            refine r_astore (lv' := [some (.ref (ad 0)), some (.int (nI k2)), some (.int (nI k5)), some (.ref (mid t7)), none]) rfl (Nat.le_of_ble_eq_true rfl) rfl ?_
            refine r_aload rfl rfl ?_
            refine r_instW rfl (by decide) tg7 (by decide) ?_
            refine r_if_eq (tg := 32) rfl rfl (fun _ => ?_) (fun q => absurd q (by decide))
            refine r_aload rfl rfl ?_
            refine r_aload rfl rfl ?_
            refine r_ifnonnullA (tg := 42) rfl rfl ?_
            refine r_ic (x := (-14)) rfl rfl ?_
            refine r_putI rfl ⟨rfl, rfl, rfl⟩ (fx_t0 fx) ?_
            refine r_null rfl ?_
            refine r_aret0 rfl ?_
            show WR _ cd_30 36 [some (.ref (ad 0)), some (.int c), some (.int l), some (.int i), none] [.null] (sI (sI h (ad 0) 6 0) (ad 0) 6 (-14)) _
            refine r_astore0 (lv' := [some (.ref (ad 0)), some (.int c), some (.int l), some (.int i), some (.null)]) rfl (Nat.le_of_ble_eq_true rfl) rfl ?_
            refine r_aload0 rfl rfl ?_
            refine r_ifnullN (tg := 61) rfl rfl ?_
            refine r_aload0 rfl rfl ?_
            refine r_aret0 rfl ?_
            show WR _ cd_40 12 [some (.ref (ad 0)), some (.int c), some (.int l), some (.int i), none] [.null] (sI (sI h (ad 0) 6 0) (ad 0) 6 (-14)) _
            refine r_astore0 (lv' := [some (.ref (ad 0)), some (.int c), some (.int l), some (.int i), some (.null)]) rfl (Nat.le_of_ble_eq_true rfl) rfl ?_
            refine r_aload0 rfl rfl ?_
            refine r_ifnonnullN (tg := 23) rfl rfl ?_
            refine r_lc (x := 0) rfl rfl ?_
            refine r_goto (tg := 30) rfl rfl ?_
            refine r_lret rfl ?_
            show EV _ 170 [.ref (ad 30), .int c, .int l, .int i] (sI (sI h (ad 0) 6 0) (ad 0) 6 (-14)) _
            refine in_170 (Nat.le_of_ble_eq_true rfl) ?_
            show WR _ cd_170 0 [some (.ref (ad 30)), some (.int c), some (.int l), some (.int i), none] [] (sI (sI h (ad 0) 6 0) (ad 0) 6 (-14)) _
            refine r_iload rfl rfl ?_
            refine WR_tI (y := nI k2) ek2 ?_
            refine r_cs (y := 153) (ra := [.int (nI k2)]) (rest := []) rfl ⟨⟨rfl, rfl⟩, by decide⟩ rfl rfl (Nat.le_of_ble_eq_true rfl) ?_
            refine in_153 (Nat.le_of_ble_eq_true rfl) ?_
            show WR _ cd_153 0 [some (.int (nI k2))] [] (sI (sI h (ad 0) 6 0) (ad 0) 6 (-14)) _
            refine r_iload rfl rfl ?_
            refine r_if_lt (tg := 14) rfl rfl (fun q => False.elim (by have : (nI k2).toInt = ((k2 : Nat) : Int) := nI_toInt (by omega); have : (0 : Int32).toInt = 0 := rfl; have := i_eq ek2; have := i_rg c; have := i_nle c3; have : (24 : Int32).toInt = 24 := rfl; have := i_nlt c1; have := i_lt q; omega)) (fun _ => ?_)
            refine r_iload rfl rfl ?_
            refine r_ic (x := 24) rfl rfl ?_
            refine r_icmp_ge (tg := 14) rfl rfl (fun q => False.elim (by have : (nI k2).toInt = ((k2 : Nat) : Int) := nI_toInt (by omega); have : (24 : Int32).toInt = 24 := rfl; have := i_eq ek2; have := i_rg c; have := i_nle c3; have := i_nlt c1; have : (0 : Int32).toInt = 0 := rfl; have := i_le q; omega)) (fun _ => ?_)
            refine r_ic (x := 1) rfl rfl ?_
            refine r_goto (tg := 15) rfl rfl ?_
            refine r_zret rfl (.inr rfl) ?_
            show WR _ cd_170 4 [some (.ref (ad 30)), some (.int c), some (.int l), some (.int i), none] [.int 1] (sI (sI h (ad 0) 6 0) (ad 0) 6 (-14)) _
            refine r_if_ne (tg := 14) rfl rfl (fun _ => ?_) (fun q => absurd q (by decide))
            refine r_iload rfl rfl ?_
            refine WR_tI (y := nI k5) ek5 ?_
            refine r_i2l rfl ?_
            refine WR_tL (y := lN k5) (nI_l (by have := i_eq ek5; have : (nI k5).toInt = ((k5 : Nat) : Int) := nI_toInt (by omega); have := i_rg l; have := i_nle c6; have : (8 : Int32).toInt = 8 := rfl; have := i_nlt c4; have : (0 : Int32).toInt = 0 := rfl; omega)) ?_
            refine r_lc (x := 0) rfl rfl ?_
            refine r_ldc (x := .long 7) rfl rfl ?_
            refine r_cs (y := 155) (ra := [.long 7, .long 0, .long (lN k5)]) (rest := []) rfl ⟨⟨rfl, rfl⟩, by decide⟩ rfl rfl (Nat.le_of_ble_eq_true rfl) ?_
            refine in_155 (Nat.le_of_ble_eq_true rfl) ?_
            show WR _ cd_155 0 [some (.long (lN k5)), none, some (.long 0), none, some (.long 7), none] [] (sI (sI h (ad 0) 6 0) (ad 0) 6 (-14)) _
            refine r_lload rfl rfl ?_
            refine r_lload rfl rfl ?_
            refine r_lif_lt (tg := 17) rfl rfl rfl (fun q => False.elim (by have : (lN k5).toInt = ((k5 : Nat) : Int) := lN_toInt (by omega); have : (0 : Int64).toInt = 0 := rfl; have := i_eq ek5; have : (nI k5).toInt = ((k5 : Nat) : Int) := nI_toInt (by omega); have := i_rg l; have := i_nle c6; have : (8 : Int32).toInt = 8 := rfl; have := i_nlt c4; have : (0 : Int32).toInt = 0 := rfl; have := l_lt q; omega)) (fun _ => ?_)
            refine r_lload rfl rfl ?_
            refine r_lload rfl rfl ?_
            refine r_lif_gt (tg := 17) rfl rfl rfl (fun q => False.elim (by have : (lN k5).toInt = ((k5 : Nat) : Int) := lN_toInt (by omega); have : (7 : Int64).toInt = 7 := rfl; have := i_eq ek5; have : (nI k5).toInt = ((k5 : Nat) : Int) := nI_toInt (by omega); have := i_rg l; have := i_nle c6; have : (8 : Int32).toInt = 8 := rfl; have := i_nlt c4; have : (0 : Int32).toInt = 0 := rfl; have := l_lt q; omega)) (fun _ => ?_)
            refine r_ic (x := 1) rfl rfl ?_
            refine r_goto (tg := 18) rfl rfl ?_
            refine r_zret rfl (.inr rfl) ?_
            show WR _ cd_170 23 [some (.ref (ad 30)), some (.int c), some (.int l), some (.int i), none] [.int 1] (sI (sI h (ad 0) 6 0) (ad 0) 6 (-14)) _
            refine r_if_ne (tg := 33) rfl rfl (fun _ => ?_) (fun q => absurd q (by decide))
            refine r_aload rfl rfl ?_
            refine r_aload rfl rfl ?_
            refine r_getA (b := ad 31) rfl ⟨rfl, rfl, rfl⟩ (fx_t30 fx) (fx_r30_0 fx) ?_
            refine r_iload rfl rfl ?_
            refine WR_tI (y := nI k2) ek2 ?_
            refine r_iaload rfl (.inl (fx_t31 fx)) (vp_ct (fx_n31 fx) (vp_in_nI (by have := i_eq ek2; have : (nI k2).toInt = ((k2 : Nat) : Int) := nI_toInt (by omega); have := i_rg c; have := i_nle c3; have : (24 : Int32).toInt = 24 := rfl; have := i_nlt c1; have : (0 : Int32).toInt = 0 := rfl; omega) (by omega))) ?_
            refine WR_tI (congrArg (hI (sI (sI h (ad 0) 6 0) (ad 0) 6 (-14)) (ad 31)) ((nI_clamp (by have := i_eq ek2; have : (nI k2).toInt = ((k2 : Nat) : Int) := nI_toInt (by omega); have := i_rg c; have := i_nle c3; have : (24 : Int32).toInt = 24 := rfl; have := i_nlt c1; have : (0 : Int32).toInt = 0 := rfl; omega)) : _ = k2)) ?_
            refine WR_tI (y := nI t7) (Eq.trans (I_ne (fx_ne fx (by decide))) (Eq.trans (I_ne (fx_ne fx (by decide))) v7)) ?_
            refine r_iload rfl rfl ?_
            refine WR_tI (y := nI k5) ek5 ?_
            refine r_iload rfl rfl ?_
            refine r_cv (y := 168) (ra := [.int i, .int (nI k5), .int (nI t7)]) (rest := []) rfl ⟨⟨rfl, rfl⟩, rfl, by decide⟩ (fx_t30 fx) rfl rfl (Nat.le_of_ble_eq_true rfl) ?_
            refine in_168 (Nat.le_of_ble_eq_true rfl) ?_
            show WR _ cd_168 0 [some (.ref (ad 30)), some (.int (nI t7)), some (.int (nI k5)), some (.int i)] [] (sI (sI h (ad 0) 6 0) (ad 0) 6 (-14)) _
            refine r_iload rfl rfl ?_
            refine r_ic (x := (-1)) rfl rfl ?_
            refine r_icmp_eq (tg := 18) rfl rfl (fun q => False.elim (by have : (nI t7).toInt = ((t7 : Nat) : Int) := nI_toInt (by omega); have : (-1 : Int32).toInt = -1 := rfl; have := i_eq q; omega)) (fun _ => ?_)
            refine r_aload rfl rfl ?_
            refine r_iload rfl rfl ?_
            refine r_cv (y := 166) (ra := [.int (nI t7)]) (rest := []) rfl ⟨⟨rfl, rfl⟩, rfl, by decide⟩ (fx_t30 fx) rfl rfl (Nat.le_of_ble_eq_true rfl) ?_
            refine in_166 (Nat.le_of_ble_eq_true rfl) ?_
            show WR _ cd_166 0 [some (.ref (ad 30)), some (.int (nI t7))] [] (sI (sI h (ad 0) 6 0) (ad 0) 6 (-14)) _
            refine r_iload rfl rfl ?_
            refine r_ic (x := (-1)) rfl rfl ?_
            refine r_icmp_ne (tg := 9) rfl rfl (fun _ => ?_) (fun q => False.elim (by have : (nI t7).toInt = ((t7 : Nat) : Int) := nI_toInt (by omega); have : (-1 : Int32).toInt = -1 := rfl; have := i_eq q; omega))
            refine r_iload rfl rfl ?_
            refine r_ic (x := 1000) rfl rfl ?_
            refine r_icmp_lt (tg := 21) rfl rfl (fun _ => ?_) (fun q => False.elim (by have : (nI t7).toInt = ((t7 : Nat) : Int) := nI_toInt (by omega); have : (1000 : Int32).toInt = 1000 := rfl; have := i_nlt q; omega))
            refine r_aload rfl rfl ?_
            refine r_getA (b := ad 33) rfl ⟨rfl, rfl, rfl⟩ (fx_t30 fx) (fx_r30_2 fx) ?_
            refine r_iload rfl rfl ?_
            refine r_iaload rfl (.inl (fx_t33 fx)) (vp_ct (fx_n33 fx) (vp_in_nI (by omega) (by omega))) ?_
            refine WR_tI (congrArg (hI (sI (sI h (ad 0) 6 0) (ad 0) 6 (-14)) (ad 33)) ((nI_clamp (by omega)) : _ = t7)) ?_
            refine WR_tI (y := 8) (Eq.trans (I_ne (fx_ne fx (by decide))) (Eq.trans (I_ne (fx_ne fx (by decide))) l2_7)) ?_
            refine r_iret rfl ?_
            show WR _ cd_168 10 [some (.ref (ad 30)), some (.int (nI t7)), some (.int (nI k5)), some (.int i)] [.int 8] (sI (sI h (ad 0) 6 0) (ad 0) 6 (-14)) _
            refine r_iload rfl rfl ?_
            refine r_icmp_eq (tg := 18) rfl rfl (fun q => False.elim (by have : (8 : Int32).toInt = 8 := rfl; have : (nI k5).toInt = ((k5 : Nat) : Int) := nI_toInt (by omega); have := i_eq ek5; have := i_rg l; have := i_nle c6; have := i_nlt c4; have : (0 : Int32).toInt = 0 := rfl; have := i_eq q; omega)) (fun _ => ?_)
            refine r_ic (x := 4) rfl rfl ?_
            refine r_goto (tg := 50) rfl rfl ?_
            refine r_iret rfl ?_
            show WR _ cd_170 45 [some (.ref (ad 30)), some (.int c), some (.int l), some (.int i), none] [.int 4] (sI (sI h (ad 0) 6 0) (ad 0) 6 (-14)) _
            refine r_istore (lv' := [some (.ref (ad 30)), some (.int c), some (.int l), some (.int i), some (.int 4)]) rfl (Nat.le_of_ble_eq_true rfl) rfl ?_
            refine r_iload rfl rfl ?_
            refine r_if_le (tg := 62) rfl rfl (fun q => absurd q (by decide)) (fun _ => ?_)
            refine r_aload rfl rfl ?_
            refine r_ic (x := (-10)) rfl rfl ?_
            refine r_iload rfl rfl ?_
            refine r_isub rfl ?_
            refine WR_tI (y := (-14)) rfl ?_
            refine r_cv (y := 171) (ra := [.int (-14)]) (rest := []) rfl ⟨⟨rfl, rfl⟩, rfl, by decide⟩ (fx_t30 fx) rfl rfl (Nat.le_of_ble_eq_true rfl) ?_
            refine in_171 (Nat.le_of_ble_eq_true rfl) ?_
            show WR _ cd_171 0 [some (.ref (ad 30)), some (.int (-14))] [] (sI (sI h (ad 0) 6 0) (ad 0) 6 (-14)) _
            refine r_aload rfl rfl ?_
            refine r_iload rfl rfl ?_
            refine r_putI rfl ⟨rfl, rfl, rfl⟩ (fx_t30 fx) ?_
            refine r_lc (x := 0) rfl rfl ?_
            refine r_lret rfl ?_
            show WR _ cd_170 61 [some (.ref (ad 30)), some (.int c), some (.int l), some (.int i), some (.int 4)] [.long 0] (sI (sI (sI h (ad 0) 6 0) (ad 0) 6 (-14)) (ad 30) 11 (-14)) _
            refine r_lret rfl ?_
            exact ⟨rfl, Rel.why r (((Chg.rf.sI (fx_j fx) (.inl (by decide))).sI (fx_j fx) (.inl (by decide))).sI (fx_j fx) (.inl (by decide))) ⟨rfl, by decide⟩ (Eq.trans (Eq.trans (I_ne (fx_ne fx (by decide))) I_eq) (Eq.symm I_eq)), Nat.le_add_right _ _, Nat.le_add_right _ _⟩
          · refine r_aaloadA (b := mid t7) rfl (isQ_of (fx_t1 fx) (by decide)) (vp_ct (fx_n1 fx) (vp_in_nI (by have := i_eq ek2; have : (nI k2).toInt = ((k2 : Nat) : Int) := nI_toInt (by omega); have := i_rg c; have := i_nle c3; have : (24 : Int32).toInt = 24 := rfl; have := i_nlt c1; have : (0 : Int32).toInt = 0 := rfl; omega) (by omega))) (Eq.trans (congrArg (hR (sI h (ad 0) 6 0) (ad 1)) ((nI_clamp (by have := i_eq ek2; have : (nI k2).toInt = ((k2 : Nat) : Int) := nI_toInt (by omega); have := i_rg c; have := i_nle c3; have : (24 : Int32).toInt = 24 := rfl; have := i_nlt c1; have : (0 : Int32).toInt = 0 := rfl; omega)) : _ = k2)) (Eq.trans R_oI w7)) ?_
            refine r_astore (lv' := [some (.ref (ad 0)), some (.int (nI k2)), some (.int (nI k5)), some (.ref (mid t7)), none]) rfl (Nat.le_of_ble_eq_true rfl) rfl ?_
            refine r_aload rfl rfl ?_
            refine r_instW rfl (by decide) tg7 (by decide) ?_
            refine r_if_eq (tg := 32) rfl rfl (fun _ => ?_) (fun q => absurd q (by decide))
            refine r_aload rfl rfl ?_
            refine r_aload rfl rfl ?_
            refine r_ifnonnullA (tg := 42) rfl rfl ?_
            refine r_ic (x := (-14)) rfl rfl ?_
            refine r_putI rfl ⟨rfl, rfl, rfl⟩ (fx_t0 fx) ?_
            refine r_null rfl ?_
            refine r_aret0 rfl ?_
            show WR _ cd_30 36 [some (.ref (ad 0)), some (.int c), some (.int l), some (.int i), none] [.null] (sI (sI h (ad 0) 6 0) (ad 0) 6 (-14)) _
            refine r_astore0 (lv' := [some (.ref (ad 0)), some (.int c), some (.int l), some (.int i), some (.null)]) rfl (Nat.le_of_ble_eq_true rfl) rfl ?_
            refine r_aload0 rfl rfl ?_
            refine r_ifnullN (tg := 61) rfl rfl ?_
            refine r_aload0 rfl rfl ?_
            refine r_aret0 rfl ?_
            show WR _ cd_40 12 [some (.ref (ad 0)), some (.int c), some (.int l), some (.int i), none] [.null] (sI (sI h (ad 0) 6 0) (ad 0) 6 (-14)) _
            refine r_astore0 (lv' := [some (.ref (ad 0)), some (.int c), some (.int l), some (.int i), some (.null)]) rfl (Nat.le_of_ble_eq_true rfl) rfl ?_
            refine r_aload0 rfl rfl ?_
            refine r_ifnonnullN (tg := 23) rfl rfl ?_
            refine r_lc (x := 0) rfl rfl ?_
            refine r_goto (tg := 30) rfl rfl ?_
            refine r_lret rfl ?_
            show EV _ 170 [.ref (ad 30), .int c, .int l, .int i] (sI (sI h (ad 0) 6 0) (ad 0) 6 (-14)) _
            refine in_170 (Nat.le_of_ble_eq_true rfl) ?_
            show WR _ cd_170 0 [some (.ref (ad 30)), some (.int c), some (.int l), some (.int i), none] [] (sI (sI h (ad 0) 6 0) (ad 0) 6 (-14)) _
            refine r_iload rfl rfl ?_
            refine WR_tI (y := nI k2) ek2 ?_
            refine r_cs (y := 153) (ra := [.int (nI k2)]) (rest := []) rfl ⟨⟨rfl, rfl⟩, by decide⟩ rfl rfl (Nat.le_of_ble_eq_true rfl) ?_
            refine in_153 (Nat.le_of_ble_eq_true rfl) ?_
            show WR _ cd_153 0 [some (.int (nI k2))] [] (sI (sI h (ad 0) 6 0) (ad 0) 6 (-14)) _
            refine r_iload rfl rfl ?_
            refine r_if_lt (tg := 14) rfl rfl (fun q => False.elim (by have : (nI k2).toInt = ((k2 : Nat) : Int) := nI_toInt (by omega); have : (0 : Int32).toInt = 0 := rfl; have := i_eq ek2; have := i_rg c; have := i_nle c3; have : (24 : Int32).toInt = 24 := rfl; have := i_nlt c1; have := i_lt q; omega)) (fun _ => ?_)
            refine r_iload rfl rfl ?_
            refine r_ic (x := 24) rfl rfl ?_
            refine r_icmp_ge (tg := 14) rfl rfl (fun q => False.elim (by have : (nI k2).toInt = ((k2 : Nat) : Int) := nI_toInt (by omega); have : (24 : Int32).toInt = 24 := rfl; have := i_eq ek2; have := i_rg c; have := i_nle c3; have := i_nlt c1; have : (0 : Int32).toInt = 0 := rfl; have := i_le q; omega)) (fun _ => ?_)
            refine r_ic (x := 1) rfl rfl ?_
            refine r_goto (tg := 15) rfl rfl ?_
            refine r_zret rfl (.inr rfl) ?_
            show WR _ cd_170 4 [some (.ref (ad 30)), some (.int c), some (.int l), some (.int i), none] [.int 1] (sI (sI h (ad 0) 6 0) (ad 0) 6 (-14)) _
            refine r_if_ne (tg := 14) rfl rfl (fun _ => ?_) (fun q => absurd q (by decide))
            refine r_iload rfl rfl ?_
            refine WR_tI (y := nI k5) ek5 ?_
            refine r_i2l rfl ?_
            refine WR_tL (y := lN k5) (nI_l (by have := i_eq ek5; have : (nI k5).toInt = ((k5 : Nat) : Int) := nI_toInt (by omega); have := i_rg l; have := i_nle c6; have : (8 : Int32).toInt = 8 := rfl; have := i_nlt c4; have : (0 : Int32).toInt = 0 := rfl; omega)) ?_
            refine r_lc (x := 0) rfl rfl ?_
            refine r_ldc (x := .long 7) rfl rfl ?_
            refine r_cs (y := 155) (ra := [.long 7, .long 0, .long (lN k5)]) (rest := []) rfl ⟨⟨rfl, rfl⟩, by decide⟩ rfl rfl (Nat.le_of_ble_eq_true rfl) ?_
            refine in_155 (Nat.le_of_ble_eq_true rfl) ?_
            show WR _ cd_155 0 [some (.long (lN k5)), none, some (.long 0), none, some (.long 7), none] [] (sI (sI h (ad 0) 6 0) (ad 0) 6 (-14)) _
            refine r_lload rfl rfl ?_
            refine r_lload rfl rfl ?_
            refine r_lif_lt (tg := 17) rfl rfl rfl (fun q => False.elim (by have : (lN k5).toInt = ((k5 : Nat) : Int) := lN_toInt (by omega); have : (0 : Int64).toInt = 0 := rfl; have := i_eq ek5; have : (nI k5).toInt = ((k5 : Nat) : Int) := nI_toInt (by omega); have := i_rg l; have := i_nle c6; have : (8 : Int32).toInt = 8 := rfl; have := i_nlt c4; have : (0 : Int32).toInt = 0 := rfl; have := l_lt q; omega)) (fun _ => ?_)
            refine r_lload rfl rfl ?_
            refine r_lload rfl rfl ?_
            refine r_lif_gt (tg := 17) rfl rfl rfl (fun q => False.elim (by have : (lN k5).toInt = ((k5 : Nat) : Int) := lN_toInt (by omega); have : (7 : Int64).toInt = 7 := rfl; have := i_eq ek5; have : (nI k5).toInt = ((k5 : Nat) : Int) := nI_toInt (by omega); have := i_rg l; have := i_nle c6; have : (8 : Int32).toInt = 8 := rfl; have := i_nlt c4; have : (0 : Int32).toInt = 0 := rfl; have := l_lt q; omega)) (fun _ => ?_)
            refine r_ic (x := 1) rfl rfl ?_
            refine r_goto (tg := 18) rfl rfl ?_
            refine r_zret rfl (.inr rfl) ?_
            show WR _ cd_170 23 [some (.ref (ad 30)), some (.int c), some (.int l), some (.int i), none] [.int 1] (sI (sI h (ad 0) 6 0) (ad 0) 6 (-14)) _
            refine r_if_ne (tg := 33) rfl rfl (fun _ => ?_) (fun q => absurd q (by decide))
            refine r_aload rfl rfl ?_
            refine r_aload rfl rfl ?_
            refine r_getA (b := ad 31) rfl ⟨rfl, rfl, rfl⟩ (fx_t30 fx) (fx_r30_0 fx) ?_
            refine r_iload rfl rfl ?_
            refine WR_tI (y := nI k2) ek2 ?_
            refine r_iaload rfl (.inl (fx_t31 fx)) (vp_ct (fx_n31 fx) (vp_in_nI (by have := i_eq ek2; have : (nI k2).toInt = ((k2 : Nat) : Int) := nI_toInt (by omega); have := i_rg c; have := i_nle c3; have : (24 : Int32).toInt = 24 := rfl; have := i_nlt c1; have : (0 : Int32).toInt = 0 := rfl; omega) (by omega))) ?_
            refine WR_tI (congrArg (hI (sI (sI h (ad 0) 6 0) (ad 0) 6 (-14)) (ad 31)) ((nI_clamp (by have := i_eq ek2; have : (nI k2).toInt = ((k2 : Nat) : Int) := nI_toInt (by omega); have := i_rg c; have := i_nle c3; have : (24 : Int32).toInt = 24 := rfl; have := i_nlt c1; have : (0 : Int32).toInt = 0 := rfl; omega)) : _ = k2)) ?_
            refine WR_tI (y := nI t7) (Eq.trans (I_ne (fx_ne fx (by decide))) (Eq.trans (I_ne (fx_ne fx (by decide))) v7)) ?_
            refine r_iload rfl rfl ?_
            refine WR_tI (y := nI k5) ek5 ?_
            refine r_iload rfl rfl ?_
            refine r_cv (y := 168) (ra := [.int i, .int (nI k5), .int (nI t7)]) (rest := []) rfl ⟨⟨rfl, rfl⟩, rfl, by decide⟩ (fx_t30 fx) rfl rfl (Nat.le_of_ble_eq_true rfl) ?_
            refine in_168 (Nat.le_of_ble_eq_true rfl) ?_
            show WR _ cd_168 0 [some (.ref (ad 30)), some (.int (nI t7)), some (.int (nI k5)), some (.int i)] [] (sI (sI h (ad 0) 6 0) (ad 0) 6 (-14)) _
            refine r_iload rfl rfl ?_
            refine r_ic (x := (-1)) rfl rfl ?_
            refine r_icmp_eq (tg := 18) rfl rfl (fun q => False.elim (by have : (nI t7).toInt = ((t7 : Nat) : Int) := nI_toInt (by omega); have : (-1 : Int32).toInt = -1 := rfl; have := i_eq q; omega)) (fun _ => ?_)
            refine r_aload rfl rfl ?_
            refine r_iload rfl rfl ?_
            refine r_cv (y := 166) (ra := [.int (nI t7)]) (rest := []) rfl ⟨⟨rfl, rfl⟩, rfl, by decide⟩ (fx_t30 fx) rfl rfl (Nat.le_of_ble_eq_true rfl) ?_
            refine in_166 (Nat.le_of_ble_eq_true rfl) ?_
            show WR _ cd_166 0 [some (.ref (ad 30)), some (.int (nI t7))] [] (sI (sI h (ad 0) 6 0) (ad 0) 6 (-14)) _
            refine r_iload rfl rfl ?_
            refine r_ic (x := (-1)) rfl rfl ?_
            refine r_icmp_ne (tg := 9) rfl rfl (fun _ => ?_) (fun q => False.elim (by have : (nI t7).toInt = ((t7 : Nat) : Int) := nI_toInt (by omega); have : (-1 : Int32).toInt = -1 := rfl; have := i_eq q; omega))
            refine r_iload rfl rfl ?_
            refine r_ic (x := 1000) rfl rfl ?_
            refine r_icmp_lt (tg := 21) rfl rfl (fun _ => ?_) (fun q => False.elim (by have : (nI t7).toInt = ((t7 : Nat) : Int) := nI_toInt (by omega); have : (1000 : Int32).toInt = 1000 := rfl; have := i_nlt q; omega))
            refine r_aload rfl rfl ?_
            refine r_getA (b := ad 33) rfl ⟨rfl, rfl, rfl⟩ (fx_t30 fx) (fx_r30_2 fx) ?_
            refine r_iload rfl rfl ?_
            refine r_iaload rfl (.inl (fx_t33 fx)) (vp_ct (fx_n33 fx) (vp_in_nI (by omega) (by omega))) ?_
            refine WR_tI (congrArg (hI (sI (sI h (ad 0) 6 0) (ad 0) 6 (-14)) (ad 33)) ((nI_clamp (by omega)) : _ = t7)) ?_
            refine WR_tI (y := 9) (Eq.trans (I_ne (fx_ne fx (by decide))) (Eq.trans (I_ne (fx_ne fx (by decide))) l2_7)) ?_
            refine r_iret rfl ?_
            show WR _ cd_168 10 [some (.ref (ad 30)), some (.int (nI t7)), some (.int (nI k5)), some (.int i)] [.int 9] (sI (sI h (ad 0) 6 0) (ad 0) 6 (-14)) _
            refine r_iload rfl rfl ?_
            refine r_icmp_eq (tg := 18) rfl rfl (fun q => False.elim (by have : (9 : Int32).toInt = 9 := rfl; have : (nI k5).toInt = ((k5 : Nat) : Int) := nI_toInt (by omega); have := i_eq ek5; have := i_rg l; have := i_nle c6; have : (8 : Int32).toInt = 8 := rfl; have := i_nlt c4; have : (0 : Int32).toInt = 0 := rfl; have := i_eq q; omega)) (fun _ => ?_)
            refine r_ic (x := 4) rfl rfl ?_
            refine r_goto (tg := 50) rfl rfl ?_
            refine r_iret rfl ?_
            show WR _ cd_170 45 [some (.ref (ad 30)), some (.int c), some (.int l), some (.int i), none] [.int 4] (sI (sI h (ad 0) 6 0) (ad 0) 6 (-14)) _
            refine r_istore (lv' := [some (.ref (ad 30)), some (.int c), some (.int l), some (.int i), some (.int 4)]) rfl (Nat.le_of_ble_eq_true rfl) rfl ?_
            refine r_iload rfl rfl ?_
            refine r_if_le (tg := 62) rfl rfl (fun q => absurd q (by decide)) (fun _ => ?_)
            refine r_aload rfl rfl ?_
            refine r_ic (x := (-10)) rfl rfl ?_
            refine r_iload rfl rfl ?_
            refine r_isub rfl ?_
            refine WR_tI (y := (-14)) rfl ?_
            refine r_cv (y := 171) (ra := [.int (-14)]) (rest := []) rfl ⟨⟨rfl, rfl⟩, rfl, by decide⟩ (fx_t30 fx) rfl rfl (Nat.le_of_ble_eq_true rfl) ?_
            refine in_171 (Nat.le_of_ble_eq_true rfl) ?_
            show WR _ cd_171 0 [some (.ref (ad 30)), some (.int (-14))] [] (sI (sI h (ad 0) 6 0) (ad 0) 6 (-14)) _
            refine r_aload rfl rfl ?_
            refine r_iload rfl rfl ?_
            refine r_putI rfl ⟨rfl, rfl, rfl⟩ (fx_t30 fx) ?_
            refine r_lc (x := 0) rfl rfl ?_
            refine r_lret rfl ?_
            show WR _ cd_170 61 [some (.ref (ad 30)), some (.int c), some (.int l), some (.int i), some (.int 4)] [.long 0] (sI (sI (sI h (ad 0) 6 0) (ad 0) 6 (-14)) (ad 30) 11 (-14)) _
            refine r_lret rfl ?_
            exact ⟨rfl, Rel.why r (((Chg.rf.sI (fx_j fx) (.inl (by decide))).sI (fx_j fx) (.inl (by decide))).sI (fx_j fx) (.inl (by decide))) ⟨rfl, by decide⟩ (Eq.trans (Eq.trans (I_ne (fx_ne fx (by decide))) I_eq) (Eq.symm I_eq)), Nat.le_add_right _ _, Nat.le_add_right _ _⟩

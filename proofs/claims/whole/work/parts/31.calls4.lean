/-! ===== calls into grids and cradles; printed ===== -/
set_option maxHeartbeats 2000000 in
theorem k_getAt {n : Nat} {ad sa : Nat → Nat} {z0 : Nat} {h : mH} (r : Rel n ad sa z0 h) (c : Int32) (i : Int32) (j : Int32) : AP n ad sa z0 h 44 174 [.int c, .int i, .int j] := by
  obtain ⟨mid, pa, np, fx, ry, rt, ra, rp, rf, rst, ru, rs⟩ := id r
  have fx0 := fx
  unfold AP
  refine in_44 (Nat.le_of_ble_eq_true rfl) ?_
  show WR _ cd_44 0 [some (.ref (ad 0)), some (.int c), some (.int i), some (.int j), none] [] h _
  refine r_aload rfl rfl ?_
  refine r_ic (x := 0) rfl rfl ?_
  refine r_putI rfl ⟨rfl, rfl, rfl⟩ (fx_t0 fx) ?_
  refine r_aload rfl rfl ?_
  refine r_iload rfl rfl ?_
  refine r_iload rfl rfl ?_
  refine r_iload rfl rfl ?_
  refine r_cv (y := 42) (ra := [.int j, .int i, .int c]) (rest := []) rfl ⟨⟨rfl, rfl⟩, rfl, by decide⟩ (fx_t0 fx) rfl rfl (Nat.le_of_ble_eq_true rfl) ?_
  refine in_42 (Nat.le_of_ble_eq_true rfl) ?_
  show WR _ cd_42 0 [some (.ref (ad 0)), some (.int c), some (.int i), some (.int j), none, none, none] [] (sI h (ad 0) 6 0) _
  refine r_iload rfl rfl ?_
  refine r_cs (y := 12) (ra := [.int c]) (rest := []) rfl ⟨⟨rfl, rfl⟩, by decide⟩ rfl rfl (Nat.le_of_ble_eq_true rfl) ?_
  refine in_12 (Nat.le_of_ble_eq_true rfl) ?_
  show WR _ cd_12 0 [some (.int c)] [] (sI h (ad 0) 6 0) _
  refine r_iload rfl rfl ?_
  refine r_if_lt (tg := 14) rfl rfl (fun c1 => ?_) (fun c1 => ?_)
  · refine r_ic (x := 0) rfl rfl ?_
    refine r_zret rfl (.inl rfl) ?_
    show WR _ cd_42 4 [some (.ref (ad 0)), some (.int c), some (.int i), some (.int j), none, none, none] [.int 0] (sI h (ad 0) 6 0) _
    refine r_if_ne (tg := 15) rfl rfl (fun q => absurd q (by decide)) (fun _ => ?_)
    refine r_aload rfl rfl ?_
    refine r_ic (x := (-2)) rfl rfl ?_
    refine r_putI rfl ⟨rfl, rfl, rfl⟩ (fx_t0 fx) ?_
    refine r_null rfl ?_
    refine r_aret0 rfl ?_
    show WR _ cd_44 12 [some (.ref (ad 0)), some (.int c), some (.int i), some (.int j), none] [.null] (sI (sI h (ad 0) 6 0) (ad 0) 6 (-2)) _
    refine r_astore0 (lv' := [some (.ref (ad 0)), some (.int c), some (.int i), some (.int j), some (.null)]) rfl (Nat.le_of_ble_eq_true rfl) rfl ?_
    refine r_aload0 rfl rfl ?_
    refine r_ifnonnullN (tg := 23) rfl rfl ?_
    refine r_ic (x := 0) rfl rfl ?_
    refine r_goto (tg := 31) rfl rfl ?_
    refine r_iret rfl ?_
    show EV _ 174 [.ref (ad 30), .int c, .int i, .int j] (sI (sI h (ad 0) 6 0) (ad 0) 6 (-2)) _
    refine in_174 (Nat.le_of_ble_eq_true rfl) ?_
    show WR _ cd_174 0 [some (.ref (ad 30)), some (.int c), some (.int i), some (.int j), none] [] (sI (sI h (ad 0) 6 0) (ad 0) 6 (-2)) _
    refine r_iload rfl rfl ?_
    refine r_cs (y := 153) (ra := [.int c]) (rest := []) rfl ⟨⟨rfl, rfl⟩, by decide⟩ rfl rfl (Nat.le_of_ble_eq_true rfl) ?_
    refine in_153 (Nat.le_of_ble_eq_true rfl) ?_
    show WR _ cd_153 0 [some (.int c)] [] (sI (sI h (ad 0) 6 0) (ad 0) 6 (-2)) _
    refine r_iload rfl rfl ?_
    refine r_if_lt (tg := 14) rfl rfl (fun _ => ?_) (fun q => False.elim (by have := i_lt c1; have := i_rg c; have : (0 : Int32).toInt = 0 := rfl; have := i_nlt q; omega))
    refine r_ic (x := 0) rfl rfl ?_
    refine r_zret rfl (.inl rfl) ?_
    show WR _ cd_174 4 [some (.ref (ad 30)), some (.int c), some (.int i), some (.int j), none] [.int 0] (sI (sI h (ad 0) 6 0) (ad 0) 6 (-2)) _
    refine r_if_ne (tg := 15) rfl rfl (fun q => absurd q (by decide)) (fun _ => ?_)
    refine r_aload rfl rfl ?_
    refine r_ic (x := (-2)) rfl rfl ?_
    refine r_cv (y := 171) (ra := [.int (-2)]) (rest := []) rfl ⟨⟨rfl, rfl⟩, rfl, by decide⟩ (fx_t30 fx) rfl rfl (Nat.le_of_ble_eq_true rfl) ?_
    refine in_171 (Nat.le_of_ble_eq_true rfl) ?_
    show WR _ cd_171 0 [some (.ref (ad 30)), some (.int (-2))] [] (sI (sI h (ad 0) 6 0) (ad 0) 6 (-2)) _
    refine r_aload rfl rfl ?_
    refine r_iload rfl rfl ?_
    refine r_putI rfl ⟨rfl, rfl, rfl⟩ (fx_t30 fx) ?_
    refine r_lc (x := 0) rfl rfl ?_
    refine r_lret rfl ?_
    show WR _ cd_174 13 [some (.ref (ad 30)), some (.int c), some (.int i), some (.int j), none] [.long 0] (sI (sI (sI h (ad 0) 6 0) (ad 0) 6 (-2)) (ad 30) 11 (-2)) _
    refine r_l2i rfl ?_
    refine WR_tI (y := 0) rfl ?_
    refine r_iret rfl ?_
    exact ⟨rfl, Rel.why r (((Chg.rf.sI (fx_j fx) (.inl (by decide))).sI (fx_j fx) (.inl (by decide))).sI (fx_j fx) (.inl (by decide))) ⟨rfl, by decide⟩ (Eq.trans (Eq.trans (I_ne (fx_ne fx (by decide))) I_eq) (Eq.symm I_eq)), Nat.le_add_right _ _, Nat.le_add_right _ _⟩
  · obtain ⟨k2, hk2, ek2⟩ := ix_of (x := c) (n := 2147483648) (by have := i_nlt c1; have := i_rg c; have : (0 : Int32).toInt = 0 := rfl; omega) (by have := i_nlt c1; have := i_rg c; have : (0 : Int32).toInt = 0 := rfl; omega)
    refine r_iload rfl rfl ?_
    refine WR_tI (y := nI k2) ek2 ?_
    refine r_ic (x := 24) rfl rfl ?_
    refine r_icmp_ge (tg := 14) rfl rfl (fun c3 => ?_) (fun c3 => ?_)
    · refine r_ic (x := 0) rfl rfl ?_
      refine r_zret rfl (.inl rfl) ?_
      show WR _ cd_42 4 [some (.ref (ad 0)), some (.int c), some (.int i), some (.int j), none, none, none] [.int 0] (sI h (ad 0) 6 0) _
      refine r_if_ne (tg := 15) rfl rfl (fun q => absurd q (by decide)) (fun _ => ?_)
      refine r_aload rfl rfl ?_
      refine r_ic (x := (-2)) rfl rfl ?_
      refine r_putI rfl ⟨rfl, rfl, rfl⟩ (fx_t0 fx) ?_
      refine r_null rfl ?_
      refine r_aret0 rfl ?_
      show WR _ cd_44 12 [some (.ref (ad 0)), some (.int c), some (.int i), some (.int j), none] [.null] (sI (sI h (ad 0) 6 0) (ad 0) 6 (-2)) _
      refine r_astore0 (lv' := [some (.ref (ad 0)), some (.int c), some (.int i), some (.int j), some (.null)]) rfl (Nat.le_of_ble_eq_true rfl) rfl ?_
      refine r_aload0 rfl rfl ?_
      refine r_ifnonnullN (tg := 23) rfl rfl ?_
      refine r_ic (x := 0) rfl rfl ?_
      refine r_goto (tg := 31) rfl rfl ?_
      refine r_iret rfl ?_
      show EV _ 174 [.ref (ad 30), .int c, .int i, .int j] (sI (sI h (ad 0) 6 0) (ad 0) 6 (-2)) _
      refine in_174 (Nat.le_of_ble_eq_true rfl) ?_
      show WR _ cd_174 0 [some (.ref (ad 30)), some (.int c), some (.int i), some (.int j), none] [] (sI (sI h (ad 0) 6 0) (ad 0) 6 (-2)) _
      refine r_iload rfl rfl ?_
      refine WR_tI (y := nI k2) ek2 ?_
      refine r_cs (y := 153) (ra := [.int (nI k2)]) (rest := []) rfl ⟨⟨rfl, rfl⟩, by decide⟩ rfl rfl (Nat.le_of_ble_eq_true rfl) ?_
      refine in_153 (Nat.le_of_ble_eq_true rfl) ?_
      show WR _ cd_153 0 [some (.int (nI k2))] [] (sI (sI h (ad 0) 6 0) (ad 0) 6 (-2)) _
      refine r_iload rfl rfl ?_
      refine r_if_lt (tg := 14) rfl rfl (fun q => False.elim (by have := i_nlt c1; have := i_rg c; have : (0 : Int32).toInt = 0 := rfl; have := i_eq ek2; have : (nI k2).toInt = ((k2 : Nat) : Int) := nI_toInt (by omega); have := i_le c3; have : (24 : Int32).toInt = 24 := rfl; have := i_lt q; omega)) (fun _ => ?_)
      refine r_iload rfl rfl ?_
      refine r_ic (x := 24) rfl rfl ?_
      refine r_icmp_ge (tg := 14) rfl rfl (fun _ => ?_) (fun q => False.elim (by have := i_nlt c1; have := i_rg c; have : (0 : Int32).toInt = 0 := rfl; have := i_eq ek2; have : (nI k2).toInt = ((k2 : Nat) : Int) := nI_toInt (by omega); have := i_le c3; have : (24 : Int32).toInt = 24 := rfl; have := i_nle q; omega))
      refine r_ic (x := 0) rfl rfl ?_
      refine r_zret rfl (.inl rfl) ?_
      show WR _ cd_174 4 [some (.ref (ad 30)), some (.int c), some (.int i), some (.int j), none] [.int 0] (sI (sI h (ad 0) 6 0) (ad 0) 6 (-2)) _
      refine r_if_ne (tg := 15) rfl rfl (fun q => absurd q (by decide)) (fun _ => ?_)
      refine r_aload rfl rfl ?_
      refine r_ic (x := (-2)) rfl rfl ?_
      refine r_cv (y := 171) (ra := [.int (-2)]) (rest := []) rfl ⟨⟨rfl, rfl⟩, rfl, by decide⟩ (fx_t30 fx) rfl rfl (Nat.le_of_ble_eq_true rfl) ?_
      refine in_171 (Nat.le_of_ble_eq_true rfl) ?_
      show WR _ cd_171 0 [some (.ref (ad 30)), some (.int (-2))] [] (sI (sI h (ad 0) 6 0) (ad 0) 6 (-2)) _
      refine r_aload rfl rfl ?_
      refine r_iload rfl rfl ?_
      refine r_putI rfl ⟨rfl, rfl, rfl⟩ (fx_t30 fx) ?_
      refine r_lc (x := 0) rfl rfl ?_
      refine r_lret rfl ?_
      show WR _ cd_174 13 [some (.ref (ad 30)), some (.int c), some (.int i), some (.int j), none] [.long 0] (sI (sI (sI h (ad 0) 6 0) (ad 0) 6 (-2)) (ad 30) 11 (-2)) _
      refine r_l2i rfl ?_
      refine WR_tI (y := 0) rfl ?_
      refine r_iret rfl ?_
      exact ⟨rfl, Rel.why r (((Chg.rf.sI (fx_j fx) (.inl (by decide))).sI (fx_j fx) (.inl (by decide))).sI (fx_j fx) (.inl (by decide))) ⟨rfl, by decide⟩ (Eq.trans (Eq.trans (I_ne (fx_ne fx (by decide))) I_eq) (Eq.symm I_eq)), Nat.le_add_right _ _, Nat.le_add_right _ _⟩
    · refine r_ic (x := 1) rfl rfl ?_
      refine r_goto (tg := 15) rfl rfl ?_
      refine r_zret rfl (.inr rfl) ?_
      show WR _ cd_42 4 [some (.ref (ad 0)), some (.int c), some (.int i), some (.int j), none, none, none] [.int 1] (sI h (ad 0) 6 0) _
      refine r_if_ne (tg := 15) rfl rfl (fun _ => ?_) (fun q => absurd q (by decide))
      refine r_aload rfl rfl ?_
      refine r_iload rfl rfl ?_
      refine WR_tI (y := nI k2) ek2 ?_
      refine r_ic (x := 8) rfl rfl ?_
      refine r_cv (y := 43) (ra := [.int 8, .int (nI k2)]) (rest := []) rfl ⟨⟨rfl, rfl⟩, rfl, by decide⟩ (fx_t0 fx) rfl rfl (Nat.le_of_ble_eq_true rfl) ?_
      refine in_43 (Nat.le_of_ble_eq_true rfl) ?_
      show WR _ cd_43 0 [some (.ref (ad 0)), some (.int (nI k2)), some (.int 8), none, none] [] (sI h (ad 0) 6 0) _
      refine r_aload rfl rfl ?_
      refine r_getA (b := ad 1) rfl ⟨rfl, rfl, rfl⟩ (fx_t0 fx) (fx_r0_0 fx) ?_
      refine r_iload rfl rfl ?_
      rcases rs.cs (n := n) (sa := sa) (c := k2) (by have := i_nlt c1; have := i_rg c; have : (0 : Int32).toInt = 0 := rfl; have := i_eq ek2; have : (nI k2).toInt = ((k2 : Nat) : Int) := nI_toInt (by omega); have := i_nle c3; have : (24 : Int32).toInt = 24 := rfl; omega) with ⟨v4, w4⟩ | ⟨q4, kd4, hq4, hn4, v4, w4, dz4, tg4, s1_4, k1_4, k2_4, hk_4, we4⟩ | ⟨t4, ln4, sz4, ht4, v4, w4, dz4, tg4, r_4, tg2_4, l1_4, l2_4, hl_4, kd_4, n_4, sz_4, hs_4, al4, rw4⟩ | ⟨t4, sz4, ht4, v4, w4, dz4, tg4, r_4, tg2_4, k1_4, l2_4, k2_4, n_4, sz_4, hs_4, al4, rw4⟩ | ⟨t4, kd4, sz4, ht4, v4, w4, dz4, tg4, r_4, tg2_4, k1_4, l2_4, k2_4, hk_4, n_4, sz_4, hs_4, al4, rw4⟩
      · refine r_aaload0 rfl (isQ_of (fx_t1 fx) (by decide)) (vp_ct (fx_n1 fx) (vp_in_nI (by have := i_nlt c1; have := i_rg c; have : (0 : Int32).toInt = 0 := rfl; have := i_eq ek2; have : (nI k2).toInt = ((k2 : Nat) : Int) := nI_toInt (by omega); have := i_nle c3; have : (24 : Int32).toInt = 24 := rfl; omega) (by omega))) (Eq.trans (congrArg (hR (sI h (ad 0) 6 0) (ad 1)) ((nI_clamp (by have := i_nlt c1; have := i_rg c; have : (0 : Int32).toInt = 0 := rfl; have := i_eq ek2; have : (nI k2).toInt = ((k2 : Nat) : Int) := nI_toInt (by omega); have := i_nle c3; have : (24 : Int32).toInt = 24 := rfl; omega)) : _ = k2)) (Eq.trans R_oI w4)) ?_
        refine r_astore0 (lv' := [some (.ref (ad 0)), some (.int (nI k2)), some (.int 8), some (.null), none]) rfl (Nat.le_of_ble_eq_true rfl) rfl ?_
        refine r_aload0 rfl rfl ?_
        refine r_instN rfl (by decide) ?_
        refine r_if_eq (tg := 32) rfl rfl (fun _ => ?_) (fun q => absurd q (by decide))
        refine r_aload rfl rfl ?_
        refine r_aload0 rfl rfl ?_
        refine r_ifnonnullN (tg := 42) rfl rfl ?_
        refine r_ic (x := (-11)) rfl rfl ?_
        refine r_goto (tg := 44) rfl rfl ?_
        refine r_putI rfl ⟨rfl, rfl, rfl⟩ (fx_t0 fx) ?_
        refine r_null rfl ?_
        refine r_aret0 rfl ?_
        show WR _ cd_42 22 [some (.ref (ad 0)), some (.int c), some (.int i), some (.int j), none, none, none] [.null] (sI (sI h (ad 0) 6 0) (ad 0) 6 (-11)) _
        refine r_astore0 (lv' := [some (.ref (ad 0)), some (.int c), some (.int i), some (.int j), some (.null), none, none]) rfl (Nat.le_of_ble_eq_true rfl) rfl ?_
        refine r_aload0 rfl rfl ?_
        refine r_ifnonnullN (tg := 31) rfl rfl ?_
        refine r_null rfl ?_
        refine r_aret0 rfl ?_
        show WR _ cd_44 12 [some (.ref (ad 0)), some (.int c), some (.int i), some (.int j), none] [.null] (sI (sI h (ad 0) 6 0) (ad 0) 6 (-11)) _
        refine r_astore0 (lv' := [some (.ref (ad 0)), some (.int c), some (.int i), some (.int j), some (.null)]) rfl (Nat.le_of_ble_eq_true rfl) rfl ?_
        refine r_aload0 rfl rfl ?_
        refine r_ifnonnullN (tg := 23) rfl rfl ?_
        refine r_ic (x := 0) rfl rfl ?_
        refine r_goto (tg := 31) rfl rfl ?_
        refine r_iret rfl ?_
        show EV _ 174 [.ref (ad 30), .int c, .int i, .int j] (sI (sI h (ad 0) 6 0) (ad 0) 6 (-11)) _
        refine in_174 (Nat.le_of_ble_eq_true rfl) ?_
        show WR _ cd_174 0 [some (.ref (ad 30)), some (.int c), some (.int i), some (.int j), none] [] (sI (sI h (ad 0) 6 0) (ad 0) 6 (-11)) _
        refine r_iload rfl rfl ?_
        refine WR_tI (y := nI k2) ek2 ?_
        refine r_cs (y := 153) (ra := [.int (nI k2)]) (rest := []) rfl ⟨⟨rfl, rfl⟩, by decide⟩ rfl rfl (Nat.le_of_ble_eq_true rfl) ?_
        refine in_153 (Nat.le_of_ble_eq_true rfl) ?_
        show WR _ cd_153 0 [some (.int (nI k2))] [] (sI (sI h (ad 0) 6 0) (ad 0) 6 (-11)) _
        refine r_iload rfl rfl ?_
        refine r_if_lt (tg := 14) rfl rfl (fun q => False.elim (by have := i_nlt c1; have := i_rg c; have : (0 : Int32).toInt = 0 := rfl; have := i_eq ek2; have : (nI k2).toInt = ((k2 : Nat) : Int) := nI_toInt (by omega); have := i_nle c3; have : (24 : Int32).toInt = 24 := rfl; have := i_lt q; omega)) (fun _ => ?_)
        refine r_iload rfl rfl ?_
        refine r_ic (x := 24) rfl rfl ?_
        refine r_icmp_ge (tg := 14) rfl rfl (fun q => False.elim (by have := i_nlt c1; have := i_rg c; have : (0 : Int32).toInt = 0 := rfl; have := i_eq ek2; have : (nI k2).toInt = ((k2 : Nat) : Int) := nI_toInt (by omega); have := i_nle c3; have : (24 : Int32).toInt = 24 := rfl; have := i_le q; omega)) (fun _ => ?_)
        refine r_ic (x := 1) rfl rfl ?_
        refine r_goto (tg := 15) rfl rfl ?_
        refine r_zret rfl (.inr rfl) ?_
        show WR _ cd_174 4 [some (.ref (ad 30)), some (.int c), some (.int i), some (.int j), none] [.int 1] (sI (sI h (ad 0) 6 0) (ad 0) 6 (-11)) _
        refine r_if_ne (tg := 15) rfl rfl (fun _ => ?_) (fun q => absurd q (by decide))
        refine r_aload rfl rfl ?_
        refine r_iload rfl rfl ?_
        refine WR_tI (y := nI k2) ek2 ?_
        refine r_iload rfl rfl ?_
        refine r_iload rfl rfl ?_
        refine r_cv (y := 173) (ra := [.int j, .int i, .int (nI k2)]) (rest := []) rfl ⟨⟨rfl, rfl⟩, rfl, by decide⟩ (fx_t30 fx) rfl rfl (Nat.le_of_ble_eq_true rfl) ?_
        refine in_173 (Nat.le_of_ble_eq_true rfl) ?_
        show WR _ cd_173 0 [some (.ref (ad 30)), some (.int (nI k2)), some (.int i), some (.int j), none, none] [] (sI (sI h (ad 0) 6 0) (ad 0) 6 (-11)) _
        refine r_aload rfl rfl ?_
        refine r_aload rfl rfl ?_
        refine r_getA (b := ad 31) rfl ⟨rfl, rfl, rfl⟩ (fx_t30 fx) (fx_r30_0 fx) ?_
        refine r_iload rfl rfl ?_
        refine r_iaload rfl (.inl (fx_t31 fx)) (vp_ct (fx_n31 fx) (vp_in_nI (by have := i_nlt c1; have := i_rg c; have : (0 : Int32).toInt = 0 := rfl; have := i_eq ek2; have : (nI k2).toInt = ((k2 : Nat) : Int) := nI_toInt (by omega); have := i_nle c3; have : (24 : Int32).toInt = 24 := rfl; omega) (by omega))) ?_
        refine WR_tI (congrArg (hI (sI (sI h (ad 0) 6 0) (ad 0) 6 (-11)) (ad 31)) ((nI_clamp (by have := i_nlt c1; have := i_rg c; have : (0 : Int32).toInt = 0 := rfl; have := i_eq ek2; have : (nI k2).toInt = ((k2 : Nat) : Int) := nI_toInt (by omega); have := i_nle c3; have : (24 : Int32).toInt = 24 := rfl; omega)) : _ = k2)) ?_
        refine WR_tI (y := (-1)) (Eq.trans (I_ne (fx_ne fx (by decide))) (Eq.trans (I_ne (fx_ne fx (by decide))) v4)) ?_
        refine r_ic (x := 8) rfl rfl ?_
        refine r_iload rfl rfl ?_
        refine r_cv (y := 168) (ra := [.int i, .int 8, .int (-1)]) (rest := []) rfl ⟨⟨rfl, rfl⟩, rfl, by decide⟩ (fx_t30 fx) rfl rfl (Nat.le_of_ble_eq_true rfl) ?_
        refine in_168 (Nat.le_of_ble_eq_true rfl) ?_
        show WR _ cd_168 0 [some (.ref (ad 30)), some (.int (-1)), some (.int 8), some (.int i)] [] (sI (sI h (ad 0) 6 0) (ad 0) 6 (-11)) _
        refine r_iload rfl rfl ?_
        refine r_ic (x := (-1)) rfl rfl ?_
        refine r_icmp_eq (tg := 18) rfl rfl (fun _ => ?_) (fun q => absurd q (by decide))
        refine r_iload rfl rfl ?_
        refine r_ic (x := (-1)) rfl rfl ?_
        refine r_icmp_ne (tg := 27) rfl rfl (fun q => absurd q (by decide)) (fun _ => ?_)
        refine r_ic (x := 1) rfl rfl ?_
        refine r_goto (tg := 50) rfl rfl ?_
        refine r_iret rfl ?_
        show WR _ cd_173 13 [some (.ref (ad 30)), some (.int (nI k2)), some (.int i), some (.int j), none, none] [.int 1] (sI (sI h (ad 0) 6 0) (ad 0) 6 (-11)) _
        refine r_istore (lv' := [some (.ref (ad 30)), some (.int (nI k2)), some (.int i), some (.int j), some (.int 1), none]) rfl (Nat.le_of_ble_eq_true rfl) rfl ?_
        refine r_iload rfl rfl ?_
        refine r_if_le (tg := 24) rfl rfl (fun q => absurd q (by decide)) (fun _ => ?_)
        refine r_iload rfl rfl ?_
        refine r_ineg rfl ?_
        refine WR_tI (y := (-1)) rfl ?_
        refine r_iret rfl ?_
        show WR _ cd_174 22 [some (.ref (ad 30)), some (.int c), some (.int i), some (.int j), none] [.int (-1)] (sI (sI h (ad 0) 6 0) (ad 0) 6 (-11)) _
        refine r_istore (lv' := [some (.ref (ad 30)), some (.int c), some (.int i), some (.int j), some (.int (-1))]) rfl (Nat.le_of_ble_eq_true rfl) rfl ?_
        refine r_iload rfl rfl ?_
        refine r_if_ge (tg := 40) rfl rfl (fun q => absurd q (by decide)) (fun _ => ?_)
        refine r_aload rfl rfl ?_
        refine r_ic (x := (-10)) rfl rfl ?_
        refine r_iload rfl rfl ?_
        refine r_iadd rfl ?_
        refine WR_tI (y := (-11)) rfl ?_
        refine r_cv (y := 171) (ra := [.int (-11)]) (rest := []) rfl ⟨⟨rfl, rfl⟩, rfl, by decide⟩ (fx_t30 fx) rfl rfl (Nat.le_of_ble_eq_true rfl) ?_
        refine in_171 (Nat.le_of_ble_eq_true rfl) ?_
        show WR _ cd_171 0 [some (.ref (ad 30)), some (.int (-11))] [] (sI (sI h (ad 0) 6 0) (ad 0) 6 (-11)) _
        refine r_aload rfl rfl ?_
        refine r_iload rfl rfl ?_
        refine r_putI rfl ⟨rfl, rfl, rfl⟩ (fx_t30 fx) ?_
        refine r_lc (x := 0) rfl rfl ?_
        refine r_lret rfl ?_
        show WR _ cd_174 38 [some (.ref (ad 30)), some (.int c), some (.int i), some (.int j), some (.int (-1))] [.long 0] (sI (sI (sI h (ad 0) 6 0) (ad 0) 6 (-11)) (ad 30) 11 (-11)) _
        refine r_l2i rfl ?_
        refine WR_tI (y := 0) rfl ?_
        refine r_iret rfl ?_
        exact ⟨rfl, Rel.why r (((Chg.rf.sI (fx_j fx) (.inl (by decide))).sI (fx_j fx) (.inl (by decide))).sI (fx_j fx) (.inl (by decide))) ⟨rfl, by decide⟩ (Eq.trans (Eq.trans (I_ne (fx_ne fx (by decide))) I_eq) (Eq.symm I_eq)), Nat.le_add_right _ _, Nat.le_add_right _ _⟩
      · refine r_aaloadA (b := pa q4) rfl (isQ_of (fx_t1 fx) (by decide)) (vp_ct (fx_n1 fx) (vp_in_nI (by have := i_nlt c1; have := i_rg c; have : (0 : Int32).toInt = 0 := rfl; have := i_eq ek2; have : (nI k2).toInt = ((k2 : Nat) : Int) := nI_toInt (by omega); have := i_nle c3; have : (24 : Int32).toInt = 24 := rfl; omega) (by omega))) (Eq.trans (congrArg (hR (sI h (ad 0) 6 0) (ad 1)) ((nI_clamp (by have := i_nlt c1; have := i_rg c; have : (0 : Int32).toInt = 0 := rfl; have := i_eq ek2; have : (nI k2).toInt = ((k2 : Nat) : Int) := nI_toInt (by omega); have := i_nle c3; have : (24 : Int32).toInt = 24 := rfl; omega)) : _ = k2)) (Eq.trans R_oI w4)) ?_
        refine r_astore (lv' := [some (.ref (ad 0)), some (.int (nI k2)), some (.int 8), some (.ref (pa q4)), none]) rfl (Nat.le_of_ble_eq_true rfl) rfl ?_
        refine r_aload rfl rfl ?_
        refine r_instW rfl (by decide) tg4 (by decide) ?_
        refine r_if_eq (tg := 32) rfl rfl (fun _ => ?_) (fun q => absurd q (by decide))
        refine r_aload rfl rfl ?_
        refine r_aload rfl rfl ?_
        refine r_ifnonnullA (tg := 42) rfl rfl ?_
        refine r_ic (x := (-14)) rfl rfl ?_
        refine r_putI rfl ⟨rfl, rfl, rfl⟩ (fx_t0 fx) ?_
        refine r_null rfl ?_
        refine r_aret0 rfl ?_
        show WR _ cd_42 22 [some (.ref (ad 0)), some (.int c), some (.int i), some (.int j), none, none, none] [.null] (sI (sI h (ad 0) 6 0) (ad 0) 6 (-14)) _
        refine r_astore0 (lv' := [some (.ref (ad 0)), some (.int c), some (.int i), some (.int j), some (.null), none, none]) rfl (Nat.le_of_ble_eq_true rfl) rfl ?_
        refine r_aload0 rfl rfl ?_
        refine r_ifnonnullN (tg := 31) rfl rfl ?_
        refine r_null rfl ?_
        refine r_aret0 rfl ?_
        show WR _ cd_44 12 [some (.ref (ad 0)), some (.int c), some (.int i), some (.int j), none] [.null] (sI (sI h (ad 0) 6 0) (ad 0) 6 (-14)) _
        refine r_astore0 (lv' := [some (.ref (ad 0)), some (.int c), some (.int i), some (.int j), some (.null)]) rfl (Nat.le_of_ble_eq_true rfl) rfl ?_
        refine r_aload0 rfl rfl ?_
        refine r_ifnonnullN (tg := 23) rfl rfl ?_
        refine r_ic (x := 0) rfl rfl ?_
        refine r_goto (tg := 31) rfl rfl ?_
        refine r_iret rfl ?_
        show EV _ 174 [.ref (ad 30), .int c, .int i, .int j] (sI (sI h (ad 0) 6 0) (ad 0) 6 (-14)) _
        refine in_174 (Nat.le_of_ble_eq_true rfl) ?_
        show WR _ cd_174 0 [some (.ref (ad 30)), some (.int c), some (.int i), some (.int j), none] [] (sI (sI h (ad 0) 6 0) (ad 0) 6 (-14)) _
        refine r_iload rfl rfl ?_
        refine WR_tI (y := nI k2) ek2 ?_
        refine r_cs (y := 153) (ra := [.int (nI k2)]) (rest := []) rfl ⟨⟨rfl, rfl⟩, by decide⟩ rfl rfl (Nat.le_of_ble_eq_true rfl) ?_
        refine in_153 (Nat.le_of_ble_eq_true rfl) ?_
        show WR _ cd_153 0 [some (.int (nI k2))] [] (sI (sI h (ad 0) 6 0) (ad 0) 6 (-14)) _
        refine r_iload rfl rfl ?_
        refine r_if_lt (tg := 14) rfl rfl (fun q => False.elim (by have := i_nlt c1; have := i_rg c; have : (0 : Int32).toInt = 0 := rfl; have := i_eq ek2; have : (nI k2).toInt = ((k2 : Nat) : Int) := nI_toInt (by omega); have := i_nle c3; have : (24 : Int32).toInt = 24 := rfl; have := i_lt q; omega)) (fun _ => ?_)
        refine r_iload rfl rfl ?_
        refine r_ic (x := 24) rfl rfl ?_
        refine r_icmp_ge (tg := 14) rfl rfl (fun q => False.elim (by have := i_nlt c1; have := i_rg c; have : (0 : Int32).toInt = 0 := rfl; have := i_eq ek2; have : (nI k2).toInt = ((k2 : Nat) : Int) := nI_toInt (by omega); have := i_nle c3; have : (24 : Int32).toInt = 24 := rfl; have := i_le q; omega)) (fun _ => ?_)
        refine r_ic (x := 1) rfl rfl ?_
        refine r_goto (tg := 15) rfl rfl ?_
        refine r_zret rfl (.inr rfl) ?_
        show WR _ cd_174 4 [some (.ref (ad 30)), some (.int c), some (.int i), some (.int j), none] [.int 1] (sI (sI h (ad 0) 6 0) (ad 0) 6 (-14)) _
        refine r_if_ne (tg := 15) rfl rfl (fun _ => ?_) (fun q => absurd q (by decide))
        refine r_aload rfl rfl ?_
        refine r_iload rfl rfl ?_
        refine WR_tI (y := nI k2) ek2 ?_
        refine r_iload rfl rfl ?_
        refine r_iload rfl rfl ?_
        refine r_cv (y := 173) (ra := [.int j, .int i, .int (nI k2)]) (rest := []) rfl ⟨⟨rfl, rfl⟩, rfl, by decide⟩ (fx_t30 fx) rfl rfl (Nat.le_of_ble_eq_true rfl) ?_
        refine in_173 (Nat.le_of_ble_eq_true rfl) ?_
        show WR _ cd_173 0 [some (.ref (ad 30)), some (.int (nI k2)), some (.int i), some (.int j), none, none] [] (sI (sI h (ad 0) 6 0) (ad 0) 6 (-14)) _
        refine r_aload rfl rfl ?_
        refine r_aload rfl rfl ?_
        refine r_getA (b := ad 31) rfl ⟨rfl, rfl, rfl⟩ (fx_t30 fx) (fx_r30_0 fx) ?_
        refine r_iload rfl rfl ?_
        refine r_iaload rfl (.inl (fx_t31 fx)) (vp_ct (fx_n31 fx) (vp_in_nI (by have := i_nlt c1; have := i_rg c; have : (0 : Int32).toInt = 0 := rfl; have := i_eq ek2; have : (nI k2).toInt = ((k2 : Nat) : Int) := nI_toInt (by omega); have := i_nle c3; have : (24 : Int32).toInt = 24 := rfl; omega) (by omega))) ?_
        refine WR_tI (congrArg (hI (sI (sI h (ad 0) 6 0) (ad 0) 6 (-14)) (ad 31)) ((nI_clamp (by have := i_nlt c1; have := i_rg c; have : (0 : Int32).toInt = 0 := rfl; have := i_eq ek2; have : (nI k2).toInt = ((k2 : Nat) : Int) := nI_toInt (by omega); have := i_nle c3; have : (24 : Int32).toInt = 24 := rfl; omega)) : _ = k2)) ?_
        refine WR_tI (y := nI (q4 + 1000)) (Eq.trans (I_ne (fx_ne fx (by decide))) (Eq.trans (I_ne (fx_ne fx (by decide))) v4)) ?_
        refine r_ic (x := 8) rfl rfl ?_
        refine r_iload rfl rfl ?_
        refine r_cv (y := 168) (ra := [.int i, .int 8, .int (nI (q4 + 1000))]) (rest := []) rfl ⟨⟨rfl, rfl⟩, rfl, by decide⟩ (fx_t30 fx) rfl rfl (Nat.le_of_ble_eq_true rfl) ?_
        refine in_168 (Nat.le_of_ble_eq_true rfl) ?_
        show WR _ cd_168 0 [some (.ref (ad 30)), some (.int (nI (q4 + 1000))), some (.int 8), some (.int i)] [] (sI (sI h (ad 0) 6 0) (ad 0) 6 (-14)) _
        refine r_iload rfl rfl ?_
        refine r_ic (x := (-1)) rfl rfl ?_
        refine r_icmp_eq (tg := 18) rfl rfl (fun q => False.elim (by have : (nI (q4 + 1000)).toInt = ((q4 + 1000 : Nat) : Int) := nI_toInt (by omega); have : (-1 : Int32).toInt = -1 := rfl; have := i_eq q; omega)) (fun _ => ?_)
        refine r_aload rfl rfl ?_
        refine r_iload rfl rfl ?_
        refine r_cv (y := 166) (ra := [.int (nI (q4 + 1000))]) (rest := []) rfl ⟨⟨rfl, rfl⟩, rfl, by decide⟩ (fx_t30 fx) rfl rfl (Nat.le_of_ble_eq_true rfl) ?_
        refine in_166 (Nat.le_of_ble_eq_true rfl) ?_
        show WR _ cd_166 0 [some (.ref (ad 30)), some (.int (nI (q4 + 1000)))] [] (sI (sI h (ad 0) 6 0) (ad 0) 6 (-14)) _
        refine r_iload rfl rfl ?_
        refine r_ic (x := (-1)) rfl rfl ?_
        refine r_icmp_ne (tg := 9) rfl rfl (fun _ => ?_) (fun q => False.elim (by have : (nI (q4 + 1000)).toInt = ((q4 + 1000 : Nat) : Int) := nI_toInt (by omega); have : (-1 : Int32).toInt = -1 := rfl; have := i_eq q; omega))
        refine r_iload rfl rfl ?_
        refine r_ic (x := 1000) rfl rfl ?_
        refine r_icmp_lt (tg := 21) rfl rfl (fun q => False.elim (by have : (nI (q4 + 1000)).toInt = ((q4 + 1000 : Nat) : Int) := nI_toInt (by omega); have : (1000 : Int32).toInt = 1000 := rfl; have := i_lt q; omega)) (fun _ => ?_)
        refine r_ic (x := 10) rfl rfl ?_
        refine r_goto (tg := 27) rfl rfl ?_
        refine r_iret rfl ?_
        show WR _ cd_168 10 [some (.ref (ad 30)), some (.int (nI (q4 + 1000))), some (.int 8), some (.int i)] [.int 10] (sI (sI h (ad 0) 6 0) (ad 0) 6 (-14)) _
        refine r_iload rfl rfl ?_
        refine r_icmp_eq (tg := 18) rfl rfl (fun q => absurd q (by decide)) (fun _ => ?_)
        refine r_ic (x := 4) rfl rfl ?_
        refine r_goto (tg := 50) rfl rfl ?_
        refine r_iret rfl ?_
        show WR _ cd_173 13 [some (.ref (ad 30)), some (.int (nI k2)), some (.int i), some (.int j), none, none] [.int 4] (sI (sI h (ad 0) 6 0) (ad 0) 6 (-14)) _
        refine r_istore (lv' := [some (.ref (ad 30)), some (.int (nI k2)), some (.int i), some (.int j), some (.int 4), none]) rfl (Nat.le_of_ble_eq_true rfl) rfl ?_
        refine r_iload rfl rfl ?_
        refine r_if_le (tg := 24) rfl rfl (fun q => absurd q (by decide)) (fun _ => ?_)
        refine r_iload rfl rfl ?_
        refine r_ineg rfl ?_
        refine WR_tI (y := (-4)) rfl ?_
        refine r_iret rfl ?_
        show WR _ cd_174 22 [some (.ref (ad 30)), some (.int c), some (.int i), some (.int j), none] [.int (-4)] (sI (sI h (ad 0) 6 0) (ad 0) 6 (-14)) _
        refine r_istore (lv' := [some (.ref (ad 30)), some (.int c), some (.int i), some (.int j), some (.int (-4))]) rfl (Nat.le_of_ble_eq_true rfl) rfl ?_
        refine r_iload rfl rfl ?_
        refine r_if_ge (tg := 40) rfl rfl (fun q => absurd q (by decide)) (fun _ => ?_)
        refine r_aload rfl rfl ?_
        refine r_ic (x := (-10)) rfl rfl ?_
        refine r_iload rfl rfl ?_
        refine r_iadd rfl ?_
        refine WR_tI (y := (-14)) rfl ?_
        refine r_cv (y := 171) (ra := [.int (-14)]) (rest := []) rfl ⟨⟨rfl, rfl⟩, rfl, by decide⟩ (fx_t30 fx) rfl rfl (Nat.le_of_ble_eq_true rfl) ?_
        refine in_171 (Nat.le_of_ble_eq_true rfl) ?_
        show WR _ cd_171 0 [some (.ref (ad 30)), some (.int (-14))] [] (sI (sI h (ad 0) 6 0) (ad 0) 6 (-14)) _
        refine r_aload rfl rfl ?_
        refine r_iload rfl rfl ?_
        refine r_putI rfl ⟨rfl, rfl, rfl⟩ (fx_t30 fx) ?_
        refine r_lc (x := 0) rfl rfl ?_
        refine r_lret rfl ?_
        show WR _ cd_174 38 [some (.ref (ad 30)), some (.int c), some (.int i), some (.int j), some (.int (-4))] [.long 0] (sI (sI (sI h (ad 0) 6 0) (ad 0) 6 (-14)) (ad 30) 11 (-14)) _
        refine r_l2i rfl ?_
        refine WR_tI (y := 0) rfl ?_
        refine r_iret rfl ?_
        exact ⟨rfl, Rel.why r (((Chg.rf.sI (fx_j fx) (.inl (by decide))).sI (fx_j fx) (.inl (by decide))).sI (fx_j fx) (.inl (by decide))) ⟨rfl, by decide⟩ (Eq.trans (Eq.trans (I_ne (fx_ne fx (by decide))) I_eq) (Eq.symm I_eq)), Nat.le_add_right _ _, Nat.le_add_right _ _⟩
      · refine r_aaloadA (b := mid t4) rfl (isQ_of (fx_t1 fx) (by decide)) (vp_ct (fx_n1 fx) (vp_in_nI (by have := i_nlt c1; have := i_rg c; have : (0 : Int32).toInt = 0 := rfl; have := i_eq ek2; have : (nI k2).toInt = ((k2 : Nat) : Int) := nI_toInt (by omega); have := i_nle c3; have : (24 : Int32).toInt = 24 := rfl; omega) (by omega))) (Eq.trans (congrArg (hR (sI h (ad 0) 6 0) (ad 1)) ((nI_clamp (by have := i_nlt c1; have := i_rg c; have : (0 : Int32).toInt = 0 := rfl; have := i_eq ek2; have : (nI k2).toInt = ((k2 : Nat) : Int) := nI_toInt (by omega); have := i_nle c3; have : (24 : Int32).toInt = 24 := rfl; omega)) : _ = k2)) (Eq.trans R_oI w4)) ?_
        refine r_astore (lv' := [some (.ref (ad 0)), some (.int (nI k2)), some (.int 8), some (.ref (mid t4)), none]) rfl (Nat.le_of_ble_eq_true rfl) rfl ?_
        refine r_aload rfl rfl ?_
        refine r_instW rfl (by decide) tg4 (by decide) ?_
        refine r_if_eq (tg := 32) rfl rfl (fun _ => ?_) (fun q => absurd q (by decide))
        refine r_aload rfl rfl ?_
        refine r_aload rfl rfl ?_
        refine r_ifnonnullA (tg := 42) rfl rfl ?_
        refine r_ic (x := (-14)) rfl rfl ?_
        refine r_putI rfl ⟨rfl, rfl, rfl⟩ (fx_t0 fx) ?_
        refine r_null rfl ?_
        refine r_aret0 rfl ?_
        show WR _ cd_42 22 [some (.ref (ad 0)), some (.int c), some (.int i), some (.int j), none, none, none] [.null] (sI (sI h (ad 0) 6 0) (ad 0) 6 (-14)) _
        refine r_astore0 (lv' := [some (.ref (ad 0)), some (.int c), some (.int i), some (.int j), some (.null), none, none]) rfl (Nat.le_of_ble_eq_true rfl) rfl ?_
        refine r_aload0 rfl rfl ?_
        refine r_ifnonnullN (tg := 31) rfl rfl ?_
        refine r_null rfl ?_
        refine r_aret0 rfl ?_
        show WR _ cd_44 12 [some (.ref (ad 0)), some (.int c), some (.int i), some (.int j), none] [.null] (sI (sI h (ad 0) 6 0) (ad 0) 6 (-14)) _
        refine r_astore0 (lv' := [some (.ref (ad 0)), some (.int c), some (.int i), some (.int j), some (.null)]) rfl (Nat.le_of_ble_eq_true rfl) rfl ?_
        refine r_aload0 rfl rfl ?_
        refine r_ifnonnullN (tg := 23) rfl rfl ?_
        refine r_ic (x := 0) rfl rfl ?_
        refine r_goto (tg := 31) rfl rfl ?_
        refine r_iret rfl ?_
        show EV _ 174 [.ref (ad 30), .int c, .int i, .int j] (sI (sI h (ad 0) 6 0) (ad 0) 6 (-14)) _
        refine in_174 (Nat.le_of_ble_eq_true rfl) ?_
        show WR _ cd_174 0 [some (.ref (ad 30)), some (.int c), some (.int i), some (.int j), none] [] (sI (sI h (ad 0) 6 0) (ad 0) 6 (-14)) _
        refine r_iload rfl rfl ?_
        refine WR_tI (y := nI k2) ek2 ?_
        refine r_cs (y := 153) (ra := [.int (nI k2)]) (rest := []) rfl ⟨⟨rfl, rfl⟩, by decide⟩ rfl rfl (Nat.le_of_ble_eq_true rfl) ?_
        refine in_153 (Nat.le_of_ble_eq_true rfl) ?_
        show WR _ cd_153 0 [some (.int (nI k2))] [] (sI (sI h (ad 0) 6 0) (ad 0) 6 (-14)) _
        refine r_iload rfl rfl ?_
        refine r_if_lt (tg := 14) rfl rfl (fun q => False.elim (by have := i_nlt c1; have := i_rg c; have : (0 : Int32).toInt = 0 := rfl; have := i_eq ek2; have : (nI k2).toInt = ((k2 : Nat) : Int) := nI_toInt (by omega); have := i_nle c3; have : (24 : Int32).toInt = 24 := rfl; have := i_lt q; omega)) (fun _ => ?_)
        refine r_iload rfl rfl ?_
        refine r_ic (x := 24) rfl rfl ?_
        refine r_icmp_ge (tg := 14) rfl rfl (fun q => False.elim (by have := i_nlt c1; have := i_rg c; have : (0 : Int32).toInt = 0 := rfl; have := i_eq ek2; have : (nI k2).toInt = ((k2 : Nat) : Int) := nI_toInt (by omega); have := i_nle c3; have : (24 : Int32).toInt = 24 := rfl; have := i_le q; omega)) (fun _ => ?_)
        refine r_ic (x := 1) rfl rfl ?_
        refine r_goto (tg := 15) rfl rfl ?_
        refine r_zret rfl (.inr rfl) ?_
        show WR _ cd_174 4 [some (.ref (ad 30)), some (.int c), some (.int i), some (.int j), none] [.int 1] (sI (sI h (ad 0) 6 0) (ad 0) 6 (-14)) _
        refine r_if_ne (tg := 15) rfl rfl (fun _ => ?_) (fun q => absurd q (by decide))
        refine r_aload rfl rfl ?_
        refine r_iload rfl rfl ?_
        refine WR_tI (y := nI k2) ek2 ?_
        refine r_iload rfl rfl ?_
        refine r_iload rfl rfl ?_
        refine r_cv (y := 173) (ra := [.int j, .int i, .int (nI k2)]) (rest := []) rfl ⟨⟨rfl, rfl⟩, rfl, by decide⟩ (fx_t30 fx) rfl rfl (Nat.le_of_ble_eq_true rfl) ?_
        refine in_173 (Nat.le_of_ble_eq_true rfl) ?_
        show WR _ cd_173 0 [some (.ref (ad 30)), some (.int (nI k2)), some (.int i), some (.int j), none, none] [] (sI (sI h (ad 0) 6 0) (ad 0) 6 (-14)) _
        refine r_aload rfl rfl ?_
        refine r_aload rfl rfl ?_
        refine r_getA (b := ad 31) rfl ⟨rfl, rfl, rfl⟩ (fx_t30 fx) (fx_r30_0 fx) ?_
        refine r_iload rfl rfl ?_
        refine r_iaload rfl (.inl (fx_t31 fx)) (vp_ct (fx_n31 fx) (vp_in_nI (by have := i_nlt c1; have := i_rg c; have : (0 : Int32).toInt = 0 := rfl; have := i_eq ek2; have : (nI k2).toInt = ((k2 : Nat) : Int) := nI_toInt (by omega); have := i_nle c3; have : (24 : Int32).toInt = 24 := rfl; omega) (by omega))) ?_
        refine WR_tI (congrArg (hI (sI (sI h (ad 0) 6 0) (ad 0) 6 (-14)) (ad 31)) ((nI_clamp (by have := i_nlt c1; have := i_rg c; have : (0 : Int32).toInt = 0 := rfl; have := i_eq ek2; have : (nI k2).toInt = ((k2 : Nat) : Int) := nI_toInt (by omega); have := i_nle c3; have : (24 : Int32).toInt = 24 := rfl; omega)) : _ = k2)) ?_
        refine WR_tI (y := nI t4) (Eq.trans (I_ne (fx_ne fx (by decide))) (Eq.trans (I_ne (fx_ne fx (by decide))) v4)) ?_
        refine r_ic (x := 8) rfl rfl ?_
        refine r_iload rfl rfl ?_
        refine r_cv (y := 168) (ra := [.int i, .int 8, .int (nI t4)]) (rest := []) rfl ⟨⟨rfl, rfl⟩, rfl, by decide⟩ (fx_t30 fx) rfl rfl (Nat.le_of_ble_eq_true rfl) ?_
        refine in_168 (Nat.le_of_ble_eq_true rfl) ?_
        show WR _ cd_168 0 [some (.ref (ad 30)), some (.int (nI t4)), some (.int 8), some (.int i)] [] (sI (sI h (ad 0) 6 0) (ad 0) 6 (-14)) _
        refine r_iload rfl rfl ?_
        refine r_ic (x := (-1)) rfl rfl ?_
        refine r_icmp_eq (tg := 18) rfl rfl (fun q => False.elim (by have : (nI t4).toInt = ((t4 : Nat) : Int) := nI_toInt (by omega); have : (-1 : Int32).toInt = -1 := rfl; have := i_eq q; omega)) (fun _ => ?_)
        refine r_aload rfl rfl ?_
        refine r_iload rfl rfl ?_
        refine r_cv (y := 166) (ra := [.int (nI t4)]) (rest := []) rfl ⟨⟨rfl, rfl⟩, rfl, by decide⟩ (fx_t30 fx) rfl rfl (Nat.le_of_ble_eq_true rfl) ?_
        refine in_166 (Nat.le_of_ble_eq_true rfl) ?_
        show WR _ cd_166 0 [some (.ref (ad 30)), some (.int (nI t4))] [] (sI (sI h (ad 0) 6 0) (ad 0) 6 (-14)) _
        refine r_iload rfl rfl ?_
        refine r_ic (x := (-1)) rfl rfl ?_
        refine r_icmp_ne (tg := 9) rfl rfl (fun _ => ?_) (fun q => False.elim (by have : (nI t4).toInt = ((t4 : Nat) : Int) := nI_toInt (by omega); have : (-1 : Int32).toInt = -1 := rfl; have := i_eq q; omega))
        refine r_iload rfl rfl ?_
        refine r_ic (x := 1000) rfl rfl ?_
        refine r_icmp_lt (tg := 21) rfl rfl (fun _ => ?_) (fun q => False.elim (by have : (nI t4).toInt = ((t4 : Nat) : Int) := nI_toInt (by omega); have : (1000 : Int32).toInt = 1000 := rfl; have := i_nlt q; omega))
        refine r_aload rfl rfl ?_
        refine r_getA (b := ad 33) rfl ⟨rfl, rfl, rfl⟩ (fx_t30 fx) (fx_r30_2 fx) ?_
        refine r_iload rfl rfl ?_
        refine r_iaload rfl (.inl (fx_t33 fx)) (vp_ct (fx_n33 fx) (vp_in_nI (by omega) (by omega))) ?_
        refine WR_tI (congrArg (hI (sI (sI h (ad 0) 6 0) (ad 0) 6 (-14)) (ad 33)) ((nI_clamp (by omega)) : _ = t4)) ?_
        refine WR_tI (y := nI ln4) (Eq.trans (I_ne (fx_ne fx (by decide))) (Eq.trans (I_ne (fx_ne fx (by decide))) l2_4)) ?_
        refine r_iret rfl ?_
        show WR _ cd_168 10 [some (.ref (ad 30)), some (.int (nI t4)), some (.int 8), some (.int i)] [.int (nI ln4)] (sI (sI h (ad 0) 6 0) (ad 0) 6 (-14)) _
        refine r_iload rfl rfl ?_
        refine r_icmp_eq (tg := 18) rfl rfl (fun q => False.elim (by have : (nI ln4).toInt = ((ln4 : Nat) : Int) := nI_toInt (by omega); have : (8 : Int32).toInt = 8 := rfl; have := i_eq q; omega)) (fun _ => ?_)
        refine r_ic (x := 4) rfl rfl ?_
        refine r_goto (tg := 50) rfl rfl ?_
        refine r_iret rfl ?_
        show WR _ cd_173 13 [some (.ref (ad 30)), some (.int (nI k2)), some (.int i), some (.int j), none, none] [.int 4] (sI (sI h (ad 0) 6 0) (ad 0) 6 (-14)) _
        refine r_istore (lv' := [some (.ref (ad 30)), some (.int (nI k2)), some (.int i), some (.int j), some (.int 4), none]) rfl (Nat.le_of_ble_eq_true rfl) rfl ?_
        refine r_iload rfl rfl ?_
        refine r_if_le (tg := 24) rfl rfl (fun q => absurd q (by decide)) (fun _ => ?_)
        refine r_iload rfl rfl ?_
        refine r_ineg rfl ?_
        refine WR_tI (y := (-4)) rfl ?_
        refine r_iret rfl ?_
        show WR _ cd_174 22 [some (.ref (ad 30)), some (.int c), some (.int i), some (.int j), none] [.int (-4)] (sI (sI h (ad 0) 6 0) (ad 0) 6 (-14)) _
        refine r_istore (lv' := [some (.ref (ad 30)), some (.int c), some (.int i), some (.int j), some (.int (-4))]) rfl (Nat.le_of_ble_eq_true rfl) rfl ?_
        refine r_iload rfl rfl ?_
        refine r_if_ge (tg := 40) rfl rfl (fun q => absurd q (by decide)) (fun _ => ?_)
        refine r_aload rfl rfl ?_
        refine r_ic (x := (-10)) rfl rfl ?_
        refine r_iload rfl rfl ?_
        refine r_iadd rfl ?_
        refine WR_tI (y := (-14)) rfl ?_
        refine r_cv (y := 171) (ra := [.int (-14)]) (rest := []) rfl ⟨⟨rfl, rfl⟩, rfl, by decide⟩ (fx_t30 fx) rfl rfl (Nat.le_of_ble_eq_true rfl) ?_
        refine in_171 (Nat.le_of_ble_eq_true rfl) ?_
        show WR _ cd_171 0 [some (.ref (ad 30)), some (.int (-14))] [] (sI (sI h (ad 0) 6 0) (ad 0) 6 (-14)) _
        refine r_aload rfl rfl ?_
        refine r_iload rfl rfl ?_
        refine r_putI rfl ⟨rfl, rfl, rfl⟩ (fx_t30 fx) ?_
        refine r_lc (x := 0) rfl rfl ?_
        refine r_lret rfl ?_
        show WR _ cd_174 38 [some (.ref (ad 30)), some (.int c), some (.int i), some (.int j), some (.int (-4))] [.long 0] (sI (sI (sI h (ad 0) 6 0) (ad 0) 6 (-14)) (ad 30) 11 (-14)) _
        refine r_l2i rfl ?_
        refine WR_tI (y := 0) rfl ?_
        refine r_iret rfl ?_
        exact ⟨rfl, Rel.why r (((Chg.rf.sI (fx_j fx) (.inl (by decide))).sI (fx_j fx) (.inl (by decide))).sI (fx_j fx) (.inl (by decide))) ⟨rfl, by decide⟩ (Eq.trans (Eq.trans (I_ne (fx_ne fx (by decide))) I_eq) (Eq.symm I_eq)), Nat.le_add_right _ _, Nat.le_add_right _ _⟩
      · refine r_aaloadA (b := mid t4) rfl (isQ_of (fx_t1 fx) (by decide)) (vp_ct (fx_n1 fx) (vp_in_nI (by have := i_nlt c1; have := i_rg c; have : (0 : Int32).toInt = 0 := rfl; have := i_eq ek2; have : (nI k2).toInt = ((k2 : Nat) : Int) := nI_toInt (by omega); have := i_nle c3; have : (24 : Int32).toInt = 24 := rfl; omega) (by omega))) (Eq.trans (congrArg (hR (sI h (ad 0) 6 0) (ad 1)) ((nI_clamp (by have := i_nlt c1; have := i_rg c; have : (0 : Int32).toInt = 0 := rfl; have := i_eq ek2; have : (nI k2).toInt = ((k2 : Nat) : Int) := nI_toInt (by omega); have := i_nle c3; have : (24 : Int32).toInt = 24 := rfl; omega)) : _ = k2)) (Eq.trans R_oI w4)) ?_
        refine r_astore (lv' := [some (.ref (ad 0)), some (.int (nI k2)), some (.int 8), some (.ref (mid t4)), none]) rfl (Nat.le_of_ble_eq_true rfl) rfl ?_
        refine r_aload rfl rfl ?_
        refine r_instY rfl (by decide) tg4 ?_
        refine r_if_eq (tg := 32) rfl rfl (fun q => absurd q (by decide)) (fun _ => ?_)
        refine r_aload rfl rfl ?_
        refine r_cast rfl tg4 ?_
        refine r_astore (lv' := [some (.ref (ad 0)), some (.int (nI k2)), some (.int 8), some (.ref (mid t4)), some (.ref (mid t4))]) rfl (Nat.le_of_ble_eq_true rfl) rfl ?_
        refine r_aload rfl rfl ?_
        refine r_cv (y := 28) (ra := []) (rest := []) rfl ⟨⟨rfl, rfl⟩, rfl, by decide⟩ tg4 rfl rfl (Nat.le_of_ble_eq_true rfl) ?_
        refine in_28 (Nat.le_of_ble_eq_true rfl) ?_
        show WR _ cd_28 0 [some (.ref (mid t4))] [] (sI h (ad 0) 6 0) _
        refine r_aload rfl rfl ?_
        refine r_getI rfl ⟨rfl, rfl, rfl⟩ tg4 ?_
        refine WR_tI (y := (-1)) (Eq.trans (I_ne (dy_ad fx (.inl (by decide)) dz4)) k1_4) ?_
        refine r_ic (x := (-1)) rfl rfl ?_
        refine r_icmp_ne (tg := 13) rfl rfl (fun q => absurd q (by decide)) (fun _ => ?_)
        refine r_ic (x := 8) rfl rfl ?_
        refine r_goto (tg := 15) rfl rfl ?_
        refine r_iret rfl ?_
        show WR _ cd_43 25 [some (.ref (ad 0)), some (.int (nI k2)), some (.int 8), some (.ref (mid t4)), some (.ref (mid t4))] [.int 8] (sI h (ad 0) 6 0) _
        refine r_iload rfl rfl ?_
        refine r_icmp_ne (tg := 32) rfl rfl (fun q => absurd q (by decide)) (fun _ => ?_)
        refine r_aload rfl rfl ?_
        refine r_aret rfl ?_
        show WR _ cd_42 22 [some (.ref (ad 0)), some (.int c), some (.int i), some (.int j), none, none, none] [.ref (mid t4)] (sI h (ad 0) 6 0) _
        refine r_astore (lv' := [some (.ref (ad 0)), some (.int c), some (.int i), some (.int j), some (.ref (mid t4)), none, none]) rfl (Nat.le_of_ble_eq_true rfl) rfl ?_
        refine r_aload rfl rfl ?_
        refine r_ifnonnullA (tg := 31) rfl rfl ?_
        refine r_aload rfl rfl ?_
        refine r_iload rfl rfl ?_
        refine r_ic (x := 1) rfl rfl ?_
        refine r_cv (y := 32) (ra := [.int 1, .int i]) (rest := []) rfl ⟨⟨rfl, rfl⟩, rfl, by decide⟩ tg4 rfl rfl (Nat.le_of_ble_eq_true rfl) ?_
        refine in_32 (Nat.le_of_ble_eq_true rfl) ?_
        show WR _ cd_32 0 [some (.ref (mid t4)), some (.int i), some (.int 1)] [] (sI h (ad 0) 6 0) _
        refine r_iload rfl rfl ?_
        refine r_if_lt (tg := 22) rfl rfl (fun c5 => ?_) (fun c5 => ?_)
        · refine r_ic (x := 0) rfl rfl ?_
          refine r_zret rfl (.inl rfl) ?_
          show WR _ cd_42 38 [some (.ref (ad 0)), some (.int c), some (.int i), some (.int j), some (.ref (mid t4)), none, none] [.int 0] (sI h (ad 0) 6 0) _
          refine r_if_ne (tg := 49) rfl rfl (fun q => absurd q (by decide)) (fun _ => ?_)
          refine r_aload rfl rfl ?_
          refine r_ic (x := (-12)) rfl rfl ?_
          refine r_putI rfl ⟨rfl, rfl, rfl⟩ (fx_t0 fx) ?_
          refine r_null rfl ?_
          refine r_aret0 rfl ?_
          show WR _ cd_44 12 [some (.ref (ad 0)), some (.int c), some (.int i), some (.int j), none] [.null] (sI (sI h (ad 0) 6 0) (ad 0) 6 (-12)) _
          refine r_astore0 (lv' := [some (.ref (ad 0)), some (.int c), some (.int i), some (.int j), some (.null)]) rfl (Nat.le_of_ble_eq_true rfl) rfl ?_
          refine r_aload0 rfl rfl ?_
          refine r_ifnonnullN (tg := 23) rfl rfl ?_
          refine r_ic (x := 0) rfl rfl ?_
          refine r_goto (tg := 31) rfl rfl ?_
          refine r_iret rfl ?_
          show EV _ 174 [.ref (ad 30), .int c, .int i, .int j] (sI (sI h (ad 0) 6 0) (ad 0) 6 (-12)) _
          refine in_174 (Nat.le_of_ble_eq_true rfl) ?_
          show WR _ cd_174 0 [some (.ref (ad 30)), some (.int c), some (.int i), some (.int j), none] [] (sI (sI h (ad 0) 6 0) (ad 0) 6 (-12)) _
          refine r_iload rfl rfl ?_
          refine WR_tI (y := nI k2) ek2 ?_
          refine r_cs (y := 153) (ra := [.int (nI k2)]) (rest := []) rfl ⟨⟨rfl, rfl⟩, by decide⟩ rfl rfl (Nat.le_of_ble_eq_true rfl) ?_
          refine in_153 (Nat.le_of_ble_eq_true rfl) ?_
          show WR _ cd_153 0 [some (.int (nI k2))] [] (sI (sI h (ad 0) 6 0) (ad 0) 6 (-12)) _
          refine r_iload rfl rfl ?_
          refine r_if_lt (tg := 14) rfl rfl (fun q => False.elim (by have := i_nlt c1; have := i_rg c; have : (0 : Int32).toInt = 0 := rfl; have := i_eq ek2; have : (nI k2).toInt = ((k2 : Nat) : Int) := nI_toInt (by omega); have := i_nle c3; have : (24 : Int32).toInt = 24 := rfl; have := i_lt q; omega)) (fun _ => ?_)
          refine r_iload rfl rfl ?_
          refine r_ic (x := 24) rfl rfl ?_
          refine r_icmp_ge (tg := 14) rfl rfl (fun q => False.elim (by have := i_nlt c1; have := i_rg c; have : (0 : Int32).toInt = 0 := rfl; have := i_eq ek2; have : (nI k2).toInt = ((k2 : Nat) : Int) := nI_toInt (by omega); have := i_nle c3; have : (24 : Int32).toInt = 24 := rfl; have := i_le q; omega)) (fun _ => ?_)
          refine r_ic (x := 1) rfl rfl ?_
          refine r_goto (tg := 15) rfl rfl ?_
          refine r_zret rfl (.inr rfl) ?_
          show WR _ cd_174 4 [some (.ref (ad 30)), some (.int c), some (.int i), some (.int j), none] [.int 1] (sI (sI h (ad 0) 6 0) (ad 0) 6 (-12)) _
          refine r_if_ne (tg := 15) rfl rfl (fun _ => ?_) (fun q => absurd q (by decide))
          refine r_aload rfl rfl ?_
          refine r_iload rfl rfl ?_
          refine WR_tI (y := nI k2) ek2 ?_
          refine r_iload rfl rfl ?_
          refine r_iload rfl rfl ?_
          refine r_cv (y := 173) (ra := [.int j, .int i, .int (nI k2)]) (rest := []) rfl ⟨⟨rfl, rfl⟩, rfl, by decide⟩ (fx_t30 fx) rfl rfl (Nat.le_of_ble_eq_true rfl) ?_
          refine in_173 (Nat.le_of_ble_eq_true rfl) ?_
          show WR _ cd_173 0 [some (.ref (ad 30)), some (.int (nI k2)), some (.int i), some (.int j), none, none] [] (sI (sI h (ad 0) 6 0) (ad 0) 6 (-12)) _
          refine r_aload rfl rfl ?_
          refine r_aload rfl rfl ?_
          refine r_getA (b := ad 31) rfl ⟨rfl, rfl, rfl⟩ (fx_t30 fx) (fx_r30_0 fx) ?_
          refine r_iload rfl rfl ?_
          refine r_iaload rfl (.inl (fx_t31 fx)) (vp_ct (fx_n31 fx) (vp_in_nI (by have := i_nlt c1; have := i_rg c; have : (0 : Int32).toInt = 0 := rfl; have := i_eq ek2; have : (nI k2).toInt = ((k2 : Nat) : Int) := nI_toInt (by omega); have := i_nle c3; have : (24 : Int32).toInt = 24 := rfl; omega) (by omega))) ?_
          refine WR_tI (congrArg (hI (sI (sI h (ad 0) 6 0) (ad 0) 6 (-12)) (ad 31)) ((nI_clamp (by have := i_nlt c1; have := i_rg c; have : (0 : Int32).toInt = 0 := rfl; have := i_eq ek2; have : (nI k2).toInt = ((k2 : Nat) : Int) := nI_toInt (by omega); have := i_nle c3; have : (24 : Int32).toInt = 24 := rfl; omega)) : _ = k2)) ?_
          refine WR_tI (y := nI t4) (Eq.trans (I_ne (fx_ne fx (by decide))) (Eq.trans (I_ne (fx_ne fx (by decide))) v4)) ?_
          refine r_ic (x := 8) rfl rfl ?_
          refine r_iload rfl rfl ?_
          refine r_cv (y := 168) (ra := [.int i, .int 8, .int (nI t4)]) (rest := []) rfl ⟨⟨rfl, rfl⟩, rfl, by decide⟩ (fx_t30 fx) rfl rfl (Nat.le_of_ble_eq_true rfl) ?_
          refine in_168 (Nat.le_of_ble_eq_true rfl) ?_
          show WR _ cd_168 0 [some (.ref (ad 30)), some (.int (nI t4)), some (.int 8), some (.int i)] [] (sI (sI h (ad 0) 6 0) (ad 0) 6 (-12)) _
          refine r_iload rfl rfl ?_
          refine r_ic (x := (-1)) rfl rfl ?_
          refine r_icmp_eq (tg := 18) rfl rfl (fun q => False.elim (by have : (nI t4).toInt = ((t4 : Nat) : Int) := nI_toInt (by omega); have : (-1 : Int32).toInt = -1 := rfl; have := i_eq q; omega)) (fun _ => ?_)
          refine r_aload rfl rfl ?_
          refine r_iload rfl rfl ?_
          refine r_cv (y := 166) (ra := [.int (nI t4)]) (rest := []) rfl ⟨⟨rfl, rfl⟩, rfl, by decide⟩ (fx_t30 fx) rfl rfl (Nat.le_of_ble_eq_true rfl) ?_
          refine in_166 (Nat.le_of_ble_eq_true rfl) ?_
          show WR _ cd_166 0 [some (.ref (ad 30)), some (.int (nI t4))] [] (sI (sI h (ad 0) 6 0) (ad 0) 6 (-12)) _
          refine r_iload rfl rfl ?_
          refine r_ic (x := (-1)) rfl rfl ?_
          refine r_icmp_ne (tg := 9) rfl rfl (fun _ => ?_) (fun q => False.elim (by have : (nI t4).toInt = ((t4 : Nat) : Int) := nI_toInt (by omega); have : (-1 : Int32).toInt = -1 := rfl; have := i_eq q; omega))
          refine r_iload rfl rfl ?_
          refine r_ic (x := 1000) rfl rfl ?_
          refine r_icmp_lt (tg := 21) rfl rfl (fun _ => ?_) (fun q => False.elim (by have : (nI t4).toInt = ((t4 : Nat) : Int) := nI_toInt (by omega); have : (1000 : Int32).toInt = 1000 := rfl; have := i_nlt q; omega))
          refine r_aload rfl rfl ?_
          refine r_getA (b := ad 33) rfl ⟨rfl, rfl, rfl⟩ (fx_t30 fx) (fx_r30_2 fx) ?_
          refine r_iload rfl rfl ?_
          refine r_iaload rfl (.inl (fx_t33 fx)) (vp_ct (fx_n33 fx) (vp_in_nI (by omega) (by omega))) ?_
          refine WR_tI (congrArg (hI (sI (sI h (ad 0) 6 0) (ad 0) 6 (-12)) (ad 33)) ((nI_clamp (by omega)) : _ = t4)) ?_
          refine WR_tI (y := 8) (Eq.trans (I_ne (fx_ne fx (by decide))) (Eq.trans (I_ne (fx_ne fx (by decide))) l2_4)) ?_
          refine r_iret rfl ?_
          show WR _ cd_168 10 [some (.ref (ad 30)), some (.int (nI t4)), some (.int 8), some (.int i)] [.int 8] (sI (sI h (ad 0) 6 0) (ad 0) 6 (-12)) _
          refine r_iload rfl rfl ?_
          refine r_icmp_eq (tg := 18) rfl rfl (fun _ => ?_) (fun q => absurd q (by decide))
          refine r_iload rfl rfl ?_
          refine r_ic (x := (-1)) rfl rfl ?_
          refine r_icmp_ne (tg := 27) rfl rfl (fun _ => ?_) (fun q => False.elim (by have : (nI t4).toInt = ((t4 : Nat) : Int) := nI_toInt (by omega); have : (-1 : Int32).toInt = -1 := rfl; have := i_eq q; omega))
          refine r_iload rfl rfl ?_
          refine r_i2l rfl ?_
          refine r_lc (x := 0) rfl rfl ?_
          refine r_aload rfl rfl ?_
          refine r_getA (b := ad 35) rfl ⟨rfl, rfl, rfl⟩ (fx_t30 fx) (fx_r30_4 fx) ?_
          refine r_iload rfl rfl ?_
          refine r_iaload rfl (.inl (fx_t35 fx)) (vp_ct (fx_n35 fx) (vp_in_nI (by omega) (by omega))) ?_
          refine WR_tI (congrArg (hI (sI (sI h (ad 0) 6 0) (ad 0) 6 (-12)) (ad 35)) ((nI_clamp (by omega)) : _ = t4)) ?_
          refine WR_tI (y := nI sz4) (Eq.trans (I_ne (fx_ne fx (by decide))) (Eq.trans (I_ne (fx_ne fx (by decide))) sz_4)) ?_
          refine r_ic (x := 1) rfl rfl ?_
          refine r_isub rfl ?_
          refine r_i2l rfl ?_
          refine r_cs (y := 155) (ra := [.long (((nI sz4) - 1).toInt64), .long 0, .long i.toInt64]) (rest := []) rfl ⟨⟨rfl, rfl⟩, by decide⟩ rfl rfl (Nat.le_of_ble_eq_true rfl) ?_
          refine in_155 (Nat.le_of_ble_eq_true rfl) ?_
          show WR _ cd_155 0 [some (.long i.toInt64), none, some (.long 0), none, some (.long (((nI sz4) - 1).toInt64)), none] [] (sI (sI h (ad 0) 6 0) (ad 0) 6 (-12)) _
          refine r_lload rfl rfl ?_
          refine r_lload rfl rfl ?_
          refine r_lif_lt (tg := 17) rfl rfl rfl (fun _ => ?_) (fun q => False.elim (by have := i_lt c5; have := i_rg i; have : (0 : Int32).toInt = 0 := rfl; have := w_t i; have : (0 : Int64).toInt = 0 := rfl; have := l_nlt q; omega))
          refine r_ic (x := 0) rfl rfl ?_
          refine r_zret rfl (.inl rfl) ?_
          show WR _ cd_168 42 [some (.ref (ad 30)), some (.int (nI t4)), some (.int 8), some (.int i)] [.int 0] (sI (sI h (ad 0) 6 0) (ad 0) 6 (-12)) _
          refine r_if_ne (tg := 49) rfl rfl (fun q => absurd q (by decide)) (fun _ => ?_)
          refine r_ic (x := 2) rfl rfl ?_
          refine r_goto (tg := 50) rfl rfl ?_
          refine r_iret rfl ?_
          show WR _ cd_173 13 [some (.ref (ad 30)), some (.int (nI k2)), some (.int i), some (.int j), none, none] [.int 2] (sI (sI h (ad 0) 6 0) (ad 0) 6 (-12)) _
          refine r_istore (lv' := [some (.ref (ad 30)), some (.int (nI k2)), some (.int i), some (.int j), some (.int 2), none]) rfl (Nat.le_of_ble_eq_true rfl) rfl ?_
          refine r_iload rfl rfl ?_
          refine r_if_le (tg := 24) rfl rfl (fun q => absurd q (by decide)) (fun _ => ?_)
          refine r_iload rfl rfl ?_
          refine r_ineg rfl ?_
          refine WR_tI (y := (-2)) rfl ?_
          refine r_iret rfl ?_
          show WR _ cd_174 22 [some (.ref (ad 30)), some (.int c), some (.int i), some (.int j), none] [.int (-2)] (sI (sI h (ad 0) 6 0) (ad 0) 6 (-12)) _
          refine r_istore (lv' := [some (.ref (ad 30)), some (.int c), some (.int i), some (.int j), some (.int (-2))]) rfl (Nat.le_of_ble_eq_true rfl) rfl ?_
          refine r_iload rfl rfl ?_
          refine r_if_ge (tg := 40) rfl rfl (fun q => absurd q (by decide)) (fun _ => ?_)
          refine r_aload rfl rfl ?_
          refine r_ic (x := (-10)) rfl rfl ?_
          refine r_iload rfl rfl ?_
          refine r_iadd rfl ?_
          refine WR_tI (y := (-12)) rfl ?_
          refine r_cv (y := 171) (ra := [.int (-12)]) (rest := []) rfl ⟨⟨rfl, rfl⟩, rfl, by decide⟩ (fx_t30 fx) rfl rfl (Nat.le_of_ble_eq_true rfl) ?_
          refine in_171 (Nat.le_of_ble_eq_true rfl) ?_
          show WR _ cd_171 0 [some (.ref (ad 30)), some (.int (-12))] [] (sI (sI h (ad 0) 6 0) (ad 0) 6 (-12)) _
          refine r_aload rfl rfl ?_
          refine r_iload rfl rfl ?_
          refine r_putI rfl ⟨rfl, rfl, rfl⟩ (fx_t30 fx) ?_
          refine r_lc (x := 0) rfl rfl ?_
          refine r_lret rfl ?_
          show WR _ cd_174 38 [some (.ref (ad 30)), some (.int c), some (.int i), some (.int j), some (.int (-2))] [.long 0] (sI (sI (sI h (ad 0) 6 0) (ad 0) 6 (-12)) (ad 30) 11 (-12)) _
          refine r_l2i rfl ?_
          refine WR_tI (y := 0) rfl ?_
          refine r_iret rfl ?_
          exact ⟨rfl, Rel.why r (((Chg.rf.sI (fx_j fx) (.inl (by decide))).sI (fx_j fx) (.inl (by decide))).sI (fx_j fx) (.inl (by decide))) ⟨rfl, by decide⟩ (Eq.trans (Eq.trans (I_ne (fx_ne fx (by decide))) I_eq) (Eq.symm I_eq)), Nat.le_add_right _ _, Nat.le_add_right _ _⟩
        · refine r_iload rfl rfl ?_
          refine r_if_lt (tg := 22) rfl rfl (fun q => absurd q (by decide)) (fun _ => ?_)
          refine r_iload rfl rfl ?_
          refine r_aload rfl rfl ?_
          refine r_cw (y := 35) (ra := []) (rest := [.int 1]) rfl ⟨rfl, rfl⟩ (by rw [show hT (sI h (ad 0) 6 0) (mid t4) = 6 from tg4]; rfl) rfl rfl (Nat.le_of_ble_eq_true rfl) ?_
          refine in_35 (Nat.le_of_ble_eq_true rfl) ?_
          show WR _ cd_35 0 [some (.ref (mid t4))] [] (sI h (ad 0) 6 0) _
          refine r_aload rfl rfl ?_
          refine r_getA (b := mid t4 + 1) rfl ⟨rfl, rfl, rfl⟩ tg4 (Eq.trans R_oI r_4) ?_
          refine r_alen rfl (isA_of tg2_4 (by decide)) ?_
          refine WR_tI (y := nI sz4) (congrArg nI n_4) ?_
          refine r_iret rfl ?_
          show WR _ cd_32 13 [some (.ref (mid t4)), some (.int i), some (.int 1)] [.int (nI sz4), .int 1] (sI h (ad 0) 6 0) _
          obtain ⟨k6, hk6, ek6⟩ := ix_of (x := i) (n := 2147483648) (by have := i_nlt c5; have := i_rg i; have : (0 : Int32).toInt = 0 := rfl; omega) (by have := i_nlt c5; have := i_rg i; have : (0 : Int32).toInt = 0 := rfl; omega)
          refine r_iload rfl rfl ?_
          refine WR_tI (y := nI k6) ek6 ?_
          refine r_isub rfl ?_
          refine r_icmp_gt (tg := 22) rfl rfl (fun c7 => ?_) (fun c7 => ?_)
          · refine r_ic (x := 0) rfl rfl ?_
            refine r_zret rfl (.inl rfl) ?_
            show WR _ cd_42 38 [some (.ref (ad 0)), some (.int c), some (.int i), some (.int j), some (.ref (mid t4)), none, none] [.int 0] (sI h (ad 0) 6 0) _
            refine r_if_ne (tg := 49) rfl rfl (fun q => absurd q (by decide)) (fun _ => ?_)
            refine r_aload rfl rfl ?_
            refine r_ic (x := (-12)) rfl rfl ?_
            refine r_putI rfl ⟨rfl, rfl, rfl⟩ (fx_t0 fx) ?_
            refine r_null rfl ?_
            refine r_aret0 rfl ?_
            show WR _ cd_44 12 [some (.ref (ad 0)), some (.int c), some (.int i), some (.int j), none] [.null] (sI (sI h (ad 0) 6 0) (ad 0) 6 (-12)) _
            refine r_astore0 (lv' := [some (.ref (ad 0)), some (.int c), some (.int i), some (.int j), some (.null)]) rfl (Nat.le_of_ble_eq_true rfl) rfl ?_
            refine r_aload0 rfl rfl ?_
            refine r_ifnonnullN (tg := 23) rfl rfl ?_
            refine r_ic (x := 0) rfl rfl ?_
            refine r_goto (tg := 31) rfl rfl ?_
            refine r_iret rfl ?_
            show EV _ 174 [.ref (ad 30), .int c, .int i, .int j] (sI (sI h (ad 0) 6 0) (ad 0) 6 (-12)) _
            refine in_174 (Nat.le_of_ble_eq_true rfl) ?_
            show WR _ cd_174 0 [some (.ref (ad 30)), some (.int c), some (.int i), some (.int j), none] [] (sI (sI h (ad 0) 6 0) (ad 0) 6 (-12)) _
            refine r_iload rfl rfl ?_
            refine WR_tI (y := nI k2) ek2 ?_
            refine r_cs (y := 153) (ra := [.int (nI k2)]) (rest := []) rfl ⟨⟨rfl, rfl⟩, by decide⟩ rfl rfl (Nat.le_of_ble_eq_true rfl) ?_
            refine in_153 (Nat.le_of_ble_eq_true rfl) ?_
            show WR _ cd_153 0 [some (.int (nI k2))] [] (sI (sI h (ad 0) 6 0) (ad 0) 6 (-12)) _
            refine r_iload rfl rfl ?_
            refine r_if_lt (tg := 14) rfl rfl (fun q => False.elim (by have := i_nlt c1; have := i_rg c; have : (0 : Int32).toInt = 0 := rfl; have := i_eq ek2; have : (nI k2).toInt = ((k2 : Nat) : Int) := nI_toInt (by omega); have := i_nle c3; have : (24 : Int32).toInt = 24 := rfl; have := i_lt q; omega)) (fun _ => ?_)
            refine r_iload rfl rfl ?_
            refine r_ic (x := 24) rfl rfl ?_
            refine r_icmp_ge (tg := 14) rfl rfl (fun q => False.elim (by have := i_nlt c1; have := i_rg c; have : (0 : Int32).toInt = 0 := rfl; have := i_eq ek2; have : (nI k2).toInt = ((k2 : Nat) : Int) := nI_toInt (by omega); have := i_nle c3; have : (24 : Int32).toInt = 24 := rfl; have := i_le q; omega)) (fun _ => ?_)
            refine r_ic (x := 1) rfl rfl ?_
            refine r_goto (tg := 15) rfl rfl ?_
            refine r_zret rfl (.inr rfl) ?_
            show WR _ cd_174 4 [some (.ref (ad 30)), some (.int c), some (.int i), some (.int j), none] [.int 1] (sI (sI h (ad 0) 6 0) (ad 0) 6 (-12)) _
            refine r_if_ne (tg := 15) rfl rfl (fun _ => ?_) (fun q => absurd q (by decide))
            refine r_aload rfl rfl ?_
            refine r_iload rfl rfl ?_
            refine WR_tI (y := nI k2) ek2 ?_
            refine r_iload rfl rfl ?_
            refine WR_tI (y := nI k6) ek6 ?_
            refine r_iload rfl rfl ?_
            refine r_cv (y := 173) (ra := [.int j, .int (nI k6), .int (nI k2)]) (rest := []) rfl ⟨⟨rfl, rfl⟩, rfl, by decide⟩ (fx_t30 fx) rfl rfl (Nat.le_of_ble_eq_true rfl) ?_
            refine in_173 (Nat.le_of_ble_eq_true rfl) ?_
            show WR _ cd_173 0 [some (.ref (ad 30)), some (.int (nI k2)), some (.int (nI k6)), some (.int j), none, none] [] (sI (sI h (ad 0) 6 0) (ad 0) 6 (-12)) _
            refine r_aload rfl rfl ?_
            refine r_aload rfl rfl ?_
            refine r_getA (b := ad 31) rfl ⟨rfl, rfl, rfl⟩ (fx_t30 fx) (fx_r30_0 fx) ?_
            refine r_iload rfl rfl ?_
            refine r_iaload rfl (.inl (fx_t31 fx)) (vp_ct (fx_n31 fx) (vp_in_nI (by have := i_nlt c1; have := i_rg c; have : (0 : Int32).toInt = 0 := rfl; have := i_eq ek2; have : (nI k2).toInt = ((k2 : Nat) : Int) := nI_toInt (by omega); have := i_nle c3; have : (24 : Int32).toInt = 24 := rfl; omega) (by omega))) ?_
            refine WR_tI (congrArg (hI (sI (sI h (ad 0) 6 0) (ad 0) 6 (-12)) (ad 31)) ((nI_clamp (by have := i_nlt c1; have := i_rg c; have : (0 : Int32).toInt = 0 := rfl; have := i_eq ek2; have : (nI k2).toInt = ((k2 : Nat) : Int) := nI_toInt (by omega); have := i_nle c3; have : (24 : Int32).toInt = 24 := rfl; omega)) : _ = k2)) ?_
            refine WR_tI (y := nI t4) (Eq.trans (I_ne (fx_ne fx (by decide))) (Eq.trans (I_ne (fx_ne fx (by decide))) v4)) ?_
            refine r_ic (x := 8) rfl rfl ?_
            refine r_iload rfl rfl ?_
            refine r_cv (y := 168) (ra := [.int (nI k6), .int 8, .int (nI t4)]) (rest := []) rfl ⟨⟨rfl, rfl⟩, rfl, by decide⟩ (fx_t30 fx) rfl rfl (Nat.le_of_ble_eq_true rfl) ?_
            refine in_168 (Nat.le_of_ble_eq_true rfl) ?_
            show WR _ cd_168 0 [some (.ref (ad 30)), some (.int (nI t4)), some (.int 8), some (.int (nI k6))] [] (sI (sI h (ad 0) 6 0) (ad 0) 6 (-12)) _
            refine r_iload rfl rfl ?_
            refine r_ic (x := (-1)) rfl rfl ?_
            refine r_icmp_eq (tg := 18) rfl rfl (fun q => False.elim (by have : (nI t4).toInt = ((t4 : Nat) : Int) := nI_toInt (by omega); have : (-1 : Int32).toInt = -1 := rfl; have := i_eq q; omega)) (fun _ => ?_)
            refine r_aload rfl rfl ?_
            refine r_iload rfl rfl ?_
            refine r_cv (y := 166) (ra := [.int (nI t4)]) (rest := []) rfl ⟨⟨rfl, rfl⟩, rfl, by decide⟩ (fx_t30 fx) rfl rfl (Nat.le_of_ble_eq_true rfl) ?_
            refine in_166 (Nat.le_of_ble_eq_true rfl) ?_
            show WR _ cd_166 0 [some (.ref (ad 30)), some (.int (nI t4))] [] (sI (sI h (ad 0) 6 0) (ad 0) 6 (-12)) _
            refine r_iload rfl rfl ?_
            refine r_ic (x := (-1)) rfl rfl ?_
            refine r_icmp_ne (tg := 9) rfl rfl (fun _ => ?_) (fun q => False.elim (by have : (nI t4).toInt = ((t4 : Nat) : Int) := nI_toInt (by omega); have : (-1 : Int32).toInt = -1 := rfl; have := i_eq q; omega))
            refine r_iload rfl rfl ?_
            refine r_ic (x := 1000) rfl rfl ?_
            refine r_icmp_lt (tg := 21) rfl rfl (fun _ => ?_) (fun q => False.elim (by have : (nI t4).toInt = ((t4 : Nat) : Int) := nI_toInt (by omega); have : (1000 : Int32).toInt = 1000 := rfl; have := i_nlt q; omega))
            refine r_aload rfl rfl ?_
            refine r_getA (b := ad 33) rfl ⟨rfl, rfl, rfl⟩ (fx_t30 fx) (fx_r30_2 fx) ?_
            refine r_iload rfl rfl ?_
            refine r_iaload rfl (.inl (fx_t33 fx)) (vp_ct (fx_n33 fx) (vp_in_nI (by omega) (by omega))) ?_
            refine WR_tI (congrArg (hI (sI (sI h (ad 0) 6 0) (ad 0) 6 (-12)) (ad 33)) ((nI_clamp (by omega)) : _ = t4)) ?_
            refine WR_tI (y := 8) (Eq.trans (I_ne (fx_ne fx (by decide))) (Eq.trans (I_ne (fx_ne fx (by decide))) l2_4)) ?_
            refine r_iret rfl ?_
            show WR _ cd_168 10 [some (.ref (ad 30)), some (.int (nI t4)), some (.int 8), some (.int (nI k6))] [.int 8] (sI (sI h (ad 0) 6 0) (ad 0) 6 (-12)) _
            refine r_iload rfl rfl ?_
            refine r_icmp_eq (tg := 18) rfl rfl (fun _ => ?_) (fun q => absurd q (by decide))
            refine r_iload rfl rfl ?_
            refine r_ic (x := (-1)) rfl rfl ?_
            refine r_icmp_ne (tg := 27) rfl rfl (fun _ => ?_) (fun q => False.elim (by have : (nI t4).toInt = ((t4 : Nat) : Int) := nI_toInt (by omega); have : (-1 : Int32).toInt = -1 := rfl; have := i_eq q; omega))
            refine r_iload rfl rfl ?_
            refine r_i2l rfl ?_
            refine WR_tL (y := lN k6) (nI_l (by have := i_nlt c5; have := i_rg i; have : (0 : Int32).toInt = 0 := rfl; have := i_eq ek6; have : (nI k6).toInt = ((k6 : Nat) : Int) := nI_toInt (by omega); have := i_lt c7; have : (1 : Int32).toInt = 1 := rfl; have : (nI sz4).toInt = ((sz4 : Nat) : Int) := nI_toInt (by omega); have := sub_t (x := nI sz4) (y := nI k6) (by have := i_nlt c5; have := i_rg i; have : (0 : Int32).toInt = 0 := rfl; have := i_eq ek6; have : (nI k6).toInt = ((k6 : Nat) : Int) := nI_toInt (by omega); have : (nI sz4).toInt = ((sz4 : Nat) : Int) := nI_toInt (by omega); omega) (by have := i_nlt c5; have := i_rg i; have : (0 : Int32).toInt = 0 := rfl; have := i_eq ek6; have : (nI k6).toInt = ((k6 : Nat) : Int) := nI_toInt (by omega); have : (nI sz4).toInt = ((sz4 : Nat) : Int) := nI_toInt (by omega); omega); omega)) ?_
            refine r_lc (x := 0) rfl rfl ?_
            refine r_aload rfl rfl ?_
            refine r_getA (b := ad 35) rfl ⟨rfl, rfl, rfl⟩ (fx_t30 fx) (fx_r30_4 fx) ?_
            refine r_iload rfl rfl ?_
            refine r_iaload rfl (.inl (fx_t35 fx)) (vp_ct (fx_n35 fx) (vp_in_nI (by omega) (by omega))) ?_
            refine WR_tI (congrArg (hI (sI (sI h (ad 0) 6 0) (ad 0) 6 (-12)) (ad 35)) ((nI_clamp (by omega)) : _ = t4)) ?_
            refine WR_tI (y := nI sz4) (Eq.trans (I_ne (fx_ne fx (by decide))) (Eq.trans (I_ne (fx_ne fx (by decide))) sz_4)) ?_
            refine r_ic (x := 1) rfl rfl ?_
            refine r_isub rfl ?_
            refine r_i2l rfl ?_
            refine r_cs (y := 155) (ra := [.long (((nI sz4) - 1).toInt64), .long 0, .long (lN k6)]) (rest := []) rfl ⟨⟨rfl, rfl⟩, by decide⟩ rfl rfl (Nat.le_of_ble_eq_true rfl) ?_
            refine in_155 (Nat.le_of_ble_eq_true rfl) ?_
            show WR _ cd_155 0 [some (.long (lN k6)), none, some (.long 0), none, some (.long (((nI sz4) - 1).toInt64)), none] [] (sI (sI h (ad 0) 6 0) (ad 0) 6 (-12)) _
            refine r_lload rfl rfl ?_
            refine r_lload rfl rfl ?_
            refine r_lif_lt (tg := 17) rfl rfl rfl (fun q => False.elim (by have := i_nlt c5; have := i_rg i; have : (0 : Int32).toInt = 0 := rfl; have := i_eq ek6; have : (nI k6).toInt = ((k6 : Nat) : Int) := nI_toInt (by omega); have := i_lt c7; have : (1 : Int32).toInt = 1 := rfl; have : (nI sz4).toInt = ((sz4 : Nat) : Int) := nI_toInt (by omega); have := sub_t (x := nI sz4) (y := nI k6) (by have := i_nlt c5; have := i_rg i; have : (0 : Int32).toInt = 0 := rfl; have := i_eq ek6; have : (nI k6).toInt = ((k6 : Nat) : Int) := nI_toInt (by omega); have : (nI sz4).toInt = ((sz4 : Nat) : Int) := nI_toInt (by omega); omega) (by have := i_nlt c5; have := i_rg i; have : (0 : Int32).toInt = 0 := rfl; have := i_eq ek6; have : (nI k6).toInt = ((k6 : Nat) : Int) := nI_toInt (by omega); have : (nI sz4).toInt = ((sz4 : Nat) : Int) := nI_toInt (by omega); omega); have : (lN k6).toInt = ((k6 : Nat) : Int) := lN_toInt (by omega); have : (0 : Int64).toInt = 0 := rfl; have := l_lt q; omega)) (fun _ => ?_)
            refine r_lload rfl rfl ?_
            refine r_lload rfl rfl ?_
            refine r_lif_gt (tg := 17) rfl rfl rfl (fun _ => ?_) (fun q => False.elim (by have := i_nlt c5; have := i_rg i; have : (0 : Int32).toInt = 0 := rfl; have := i_eq ek6; have : (nI k6).toInt = ((k6 : Nat) : Int) := nI_toInt (by omega); have := i_lt c7; have : (1 : Int32).toInt = 1 := rfl; have : (nI sz4).toInt = ((sz4 : Nat) : Int) := nI_toInt (by omega); have := sub_t (x := nI sz4) (y := nI k6) (by have := i_nlt c5; have := i_rg i; have : (0 : Int32).toInt = 0 := rfl; have := i_eq ek6; have : (nI k6).toInt = ((k6 : Nat) : Int) := nI_toInt (by omega); have : (nI sz4).toInt = ((sz4 : Nat) : Int) := nI_toInt (by omega); omega) (by have := i_nlt c5; have := i_rg i; have : (0 : Int32).toInt = 0 := rfl; have := i_eq ek6; have : (nI k6).toInt = ((k6 : Nat) : Int) := nI_toInt (by omega); have : (nI sz4).toInt = ((sz4 : Nat) : Int) := nI_toInt (by omega); omega); have : (lN k6).toInt = ((k6 : Nat) : Int) := lN_toInt (by omega); have := sub_t (x := nI sz4) (y := 1) (by have := i_nlt c5; have := i_rg i; have : (0 : Int32).toInt = 0 := rfl; have := i_eq ek6; have : (nI k6).toInt = ((k6 : Nat) : Int) := nI_toInt (by omega); have := i_lt c7; have : (1 : Int32).toInt = 1 := rfl; have : (nI sz4).toInt = ((sz4 : Nat) : Int) := nI_toInt (by omega); have := sub_t (x := nI sz4) (y := nI k6) (by have := i_nlt c5; have := i_rg i; have : (0 : Int32).toInt = 0 := rfl; have := i_eq ek6; have : (nI k6).toInt = ((k6 : Nat) : Int) := nI_toInt (by omega); have : (nI sz4).toInt = ((sz4 : Nat) : Int) := nI_toInt (by omega); omega) (by have := i_nlt c5; have := i_rg i; have : (0 : Int32).toInt = 0 := rfl; have := i_eq ek6; have : (nI k6).toInt = ((k6 : Nat) : Int) := nI_toInt (by omega); have : (nI sz4).toInt = ((sz4 : Nat) : Int) := nI_toInt (by omega); omega); omega) (by have := i_nlt c5; have := i_rg i; have : (0 : Int32).toInt = 0 := rfl; have := i_eq ek6; have : (nI k6).toInt = ((k6 : Nat) : Int) := nI_toInt (by omega); have := i_lt c7; have : (1 : Int32).toInt = 1 := rfl; have : (nI sz4).toInt = ((sz4 : Nat) : Int) := nI_toInt (by omega); have := sub_t (x := nI sz4) (y := nI k6) (by have := i_nlt c5; have := i_rg i; have : (0 : Int32).toInt = 0 := rfl; have := i_eq ek6; have : (nI k6).toInt = ((k6 : Nat) : Int) := nI_toInt (by omega); have : (nI sz4).toInt = ((sz4 : Nat) : Int) := nI_toInt (by omega); omega) (by have := i_nlt c5; have := i_rg i; have : (0 : Int32).toInt = 0 := rfl; have := i_eq ek6; have : (nI k6).toInt = ((k6 : Nat) : Int) := nI_toInt (by omega); have : (nI sz4).toInt = ((sz4 : Nat) : Int) := nI_toInt (by omega); omega); omega); have := w_t ((nI sz4) - 1); have := l_nlt q; omega))
            refine r_ic (x := 0) rfl rfl ?_
            refine r_zret rfl (.inl rfl) ?_
            show WR _ cd_168 42 [some (.ref (ad 30)), some (.int (nI t4)), some (.int 8), some (.int (nI k6))] [.int 0] (sI (sI h (ad 0) 6 0) (ad 0) 6 (-12)) _
            refine r_if_ne (tg := 49) rfl rfl (fun q => absurd q (by decide)) (fun _ => ?_)
            refine r_ic (x := 2) rfl rfl ?_
            refine r_goto (tg := 50) rfl rfl ?_
            refine r_iret rfl ?_
            show WR _ cd_173 13 [some (.ref (ad 30)), some (.int (nI k2)), some (.int (nI k6)), some (.int j), none, none] [.int 2] (sI (sI h (ad 0) 6 0) (ad 0) 6 (-12)) _
            refine r_istore (lv' := [some (.ref (ad 30)), some (.int (nI k2)), some (.int (nI k6)), some (.int j), some (.int 2), none]) rfl (Nat.le_of_ble_eq_true rfl) rfl ?_
            refine r_iload rfl rfl ?_
            refine r_if_le (tg := 24) rfl rfl (fun q => absurd q (by decide)) (fun _ => ?_)
            refine r_iload rfl rfl ?_
            refine r_ineg rfl ?_
            refine WR_tI (y := (-2)) rfl ?_
            refine r_iret rfl ?_
            show WR _ cd_174 22 [some (.ref (ad 30)), some (.int c), some (.int i), some (.int j), none] [.int (-2)] (sI (sI h (ad 0) 6 0) (ad 0) 6 (-12)) _
            refine r_istore (lv' := [some (.ref (ad 30)), some (.int c), some (.int i), some (.int j), some (.int (-2))]) rfl (Nat.le_of_ble_eq_true rfl) rfl ?_
            refine r_iload rfl rfl ?_
            refine r_if_ge (tg := 40) rfl rfl (fun q => absurd q (by decide)) (fun _ => ?_)
            refine r_aload rfl rfl ?_
            refine r_ic (x := (-10)) rfl rfl ?_
            refine r_iload rfl rfl ?_
            refine r_iadd rfl ?_
            refine WR_tI (y := (-12)) rfl ?_
            refine r_cv (y := 171) (ra := [.int (-12)]) (rest := []) rfl ⟨⟨rfl, rfl⟩, rfl, by decide⟩ (fx_t30 fx) rfl rfl (Nat.le_of_ble_eq_true rfl) ?_
            refine in_171 (Nat.le_of_ble_eq_true rfl) ?_
            show WR _ cd_171 0 [some (.ref (ad 30)), some (.int (-12))] [] (sI (sI h (ad 0) 6 0) (ad 0) 6 (-12)) _
            refine r_aload rfl rfl ?_
            refine r_iload rfl rfl ?_
            refine r_putI rfl ⟨rfl, rfl, rfl⟩ (fx_t30 fx) ?_
            refine r_lc (x := 0) rfl rfl ?_
            refine r_lret rfl ?_
            show WR _ cd_174 38 [some (.ref (ad 30)), some (.int c), some (.int i), some (.int j), some (.int (-2))] [.long 0] (sI (sI (sI h (ad 0) 6 0) (ad 0) 6 (-12)) (ad 30) 11 (-12)) _
            refine r_l2i rfl ?_
            refine WR_tI (y := 0) rfl ?_
            refine r_iret rfl ?_
            exact ⟨rfl, Rel.why r (((Chg.rf.sI (fx_j fx) (.inl (by decide))).sI (fx_j fx) (.inl (by decide))).sI (fx_j fx) (.inl (by decide))) ⟨rfl, by decide⟩ (Eq.trans (Eq.trans (I_ne (fx_ne fx (by decide))) I_eq) (Eq.symm I_eq)), Nat.le_add_right _ _, Nat.le_add_right _ _⟩
          · refine r_ic (x := 1) rfl rfl ?_
            refine r_goto (tg := 23) rfl rfl ?_
            refine r_zret rfl (.inr rfl) ?_
            show WR _ cd_42 38 [some (.ref (ad 0)), some (.int c), some (.int i), some (.int j), some (.ref (mid t4)), none, none] [.int 1] (sI h (ad 0) 6 0) _
            refine r_if_ne (tg := 49) rfl rfl (fun _ => ?_) (fun q => absurd q (by decide))
            refine r_aload rfl rfl ?_
            refine r_getA (b := mid t4 + 1) rfl ⟨rfl, rfl, rfl⟩ tg4 (Eq.trans R_oI r_4) ?_
            refine r_iload rfl rfl ?_
            refine WR_tI (y := nI k6) ek6 ?_
            rcases al4 k6 (by have := i_nlt c5; have := i_rg i; have : (0 : Int32).toInt = 0 := rfl; have := i_eq ek6; have : (nI k6).toInt = ((k6 : Nat) : Int) := nI_toInt (by omega); have := i_nlt c7; have : (1 : Int32).toInt = 1 := rfl; have : (nI sz4).toInt = ((sz4 : Nat) : Int) := nI_toInt (by omega); have := sub_t (x := nI sz4) (y := nI k6) (by have := i_nlt c5; have := i_rg i; have : (0 : Int32).toInt = 0 := rfl; have := i_eq ek6; have : (nI k6).toInt = ((k6 : Nat) : Int) := nI_toInt (by omega); have : (nI sz4).toInt = ((sz4 : Nat) : Int) := nI_toInt (by omega); omega) (by have := i_nlt c5; have := i_rg i; have : (0 : Int32).toInt = 0 := rfl; have := i_eq ek6; have : (nI k6).toInt = ((k6 : Nat) : Int) := nI_toInt (by omega); have : (nI sz4).toInt = ((sz4 : Nat) : Int) := nI_toInt (by omega); omega); omega) with ⟨v8, w8⟩ | ⟨t8, ht8, v8, w8, tg8, dz8, r_8, tg2_8, ⟨hl_8, l1_8, l2_8, kd_8⟩, sz8, hs_8, n_8, sz_8, al8⟩
            · refine r_aaload0 rfl (isQ_of tg2_4 (by decide)) (vp_ct n_4 (vp_in_nI (by have := i_nlt c5; have := i_rg i; have : (0 : Int32).toInt = 0 := rfl; have := i_eq ek6; have : (nI k6).toInt = ((k6 : Nat) : Int) := nI_toInt (by omega); have := i_nlt c7; have : (1 : Int32).toInt = 1 := rfl; have : (nI sz4).toInt = ((sz4 : Nat) : Int) := nI_toInt (by omega); have := sub_t (x := nI sz4) (y := nI k6) (by have := i_nlt c5; have := i_rg i; have : (0 : Int32).toInt = 0 := rfl; have := i_eq ek6; have : (nI k6).toInt = ((k6 : Nat) : Int) := nI_toInt (by omega); have : (nI sz4).toInt = ((sz4 : Nat) : Int) := nI_toInt (by omega); omega) (by have := i_nlt c5; have := i_rg i; have : (0 : Int32).toInt = 0 := rfl; have := i_eq ek6; have : (nI k6).toInt = ((k6 : Nat) : Int) := nI_toInt (by omega); have : (nI sz4).toInt = ((sz4 : Nat) : Int) := nI_toInt (by omega); omega); omega) (by omega))) (Eq.trans (congrArg (hR (sI h (ad 0) 6 0) (mid t4 + 1)) ((nI_clamp (by have := i_nlt c5; have := i_rg i; have : (0 : Int32).toInt = 0 := rfl; have := i_eq ek6; have : (nI k6).toInt = ((k6 : Nat) : Int) := nI_toInt (by omega); have := i_nlt c7; have : (1 : Int32).toInt = 1 := rfl; have : (nI sz4).toInt = ((sz4 : Nat) : Int) := nI_toInt (by omega); have := sub_t (x := nI sz4) (y := nI k6) (by have := i_nlt c5; have := i_rg i; have : (0 : Int32).toInt = 0 := rfl; have := i_eq ek6; have : (nI k6).toInt = ((k6 : Nat) : Int) := nI_toInt (by omega); have : (nI sz4).toInt = ((sz4 : Nat) : Int) := nI_toInt (by omega); omega) (by have := i_nlt c5; have := i_rg i; have : (0 : Int32).toInt = 0 := rfl; have := i_eq ek6; have : (nI k6).toInt = ((k6 : Nat) : Int) := nI_toInt (by omega); have : (nI sz4).toInt = ((sz4 : Nat) : Int) := nI_toInt (by omega); omega); omega)) : _ = k6)) (Eq.trans R_oI w8)) ?_
              refine r_astore0 (lv' := [some (.ref (ad 0)), some (.int c), some (.int i), some (.int j), some (.ref (mid t4)), none, some (.null)]) rfl (Nat.le_of_ble_eq_true rfl) rfl ?_
              refine r_aload0 rfl rfl ?_
              refine r_instN rfl (by decide) ?_
              refine r_if_eq (tg := 107) rfl rfl (fun _ => ?_) (fun q => absurd q (by decide))
              refine r_aload rfl rfl ?_
              refine r_ic (x := (-11)) rfl rfl ?_
              refine r_putI rfl ⟨rfl, rfl, rfl⟩ (fx_t0 fx) ?_
              refine r_null rfl ?_
              refine r_aret0 rfl ?_
              show WR _ cd_44 12 [some (.ref (ad 0)), some (.int c), some (.int i), some (.int j), none] [.null] (sI (sI h (ad 0) 6 0) (ad 0) 6 (-11)) _
              refine r_astore0 (lv' := [some (.ref (ad 0)), some (.int c), some (.int i), some (.int j), some (.null)]) rfl (Nat.le_of_ble_eq_true rfl) rfl ?_
              refine r_aload0 rfl rfl ?_
              refine r_ifnonnullN (tg := 23) rfl rfl ?_
              refine r_ic (x := 0) rfl rfl ?_
              refine r_goto (tg := 31) rfl rfl ?_
              refine r_iret rfl ?_
              show EV _ 174 [.ref (ad 30), .int c, .int i, .int j] (sI (sI h (ad 0) 6 0) (ad 0) 6 (-11)) _
              refine in_174 (Nat.le_of_ble_eq_true rfl) ?_
              show WR _ cd_174 0 [some (.ref (ad 30)), some (.int c), some (.int i), some (.int j), none] [] (sI (sI h (ad 0) 6 0) (ad 0) 6 (-11)) _
              refine r_iload rfl rfl ?_
              refine WR_tI (y := nI k2) ek2 ?_
              refine r_cs (y := 153) (ra := [.int (nI k2)]) (rest := []) rfl ⟨⟨rfl, rfl⟩, by decide⟩ rfl rfl (Nat.le_of_ble_eq_true rfl) ?_
              refine in_153 (Nat.le_of_ble_eq_true rfl) ?_
              show WR _ cd_153 0 [some (.int (nI k2))] [] (sI (sI h (ad 0) 6 0) (ad 0) 6 (-11)) _
              refine r_iload rfl rfl ?_
              refine r_if_lt (tg := 14) rfl rfl (fun q => False.elim (by have := i_nlt c1; have := i_rg c; have : (0 : Int32).toInt = 0 := rfl; have := i_eq ek2; have : (nI k2).toInt = ((k2 : Nat) : Int) := nI_toInt (by omega); have := i_nle c3; have : (24 : Int32).toInt = 24 := rfl; have := i_lt q; omega)) (fun _ => ?_)
              refine r_iload rfl rfl ?_
              refine r_ic (x := 24) rfl rfl ?_
              refine r_icmp_ge (tg := 14) rfl rfl (fun q => False.elim (by have := i_nlt c1; have := i_rg c; have : (0 : Int32).toInt = 0 := rfl; have := i_eq ek2; have : (nI k2).toInt = ((k2 : Nat) : Int) := nI_toInt (by omega); have := i_nle c3; have : (24 : Int32).toInt = 24 := rfl; have := i_le q; omega)) (fun _ => ?_)
              refine r_ic (x := 1) rfl rfl ?_
              refine r_goto (tg := 15) rfl rfl ?_
              refine r_zret rfl (.inr rfl) ?_
              show WR _ cd_174 4 [some (.ref (ad 30)), some (.int c), some (.int i), some (.int j), none] [.int 1] (sI (sI h (ad 0) 6 0) (ad 0) 6 (-11)) _
              refine r_if_ne (tg := 15) rfl rfl (fun _ => ?_) (fun q => absurd q (by decide))
              refine r_aload rfl rfl ?_
              refine r_iload rfl rfl ?_
              refine WR_tI (y := nI k2) ek2 ?_
              refine r_iload rfl rfl ?_
              refine WR_tI (y := nI k6) ek6 ?_
              refine r_iload rfl rfl ?_
              refine r_cv (y := 173) (ra := [.int j, .int (nI k6), .int (nI k2)]) (rest := []) rfl ⟨⟨rfl, rfl⟩, rfl, by decide⟩ (fx_t30 fx) rfl rfl (Nat.le_of_ble_eq_true rfl) ?_
              refine in_173 (Nat.le_of_ble_eq_true rfl) ?_
              show WR _ cd_173 0 [some (.ref (ad 30)), some (.int (nI k2)), some (.int (nI k6)), some (.int j), none, none] [] (sI (sI h (ad 0) 6 0) (ad 0) 6 (-11)) _
              refine r_aload rfl rfl ?_
              refine r_aload rfl rfl ?_
              refine r_getA (b := ad 31) rfl ⟨rfl, rfl, rfl⟩ (fx_t30 fx) (fx_r30_0 fx) ?_
              refine r_iload rfl rfl ?_
              refine r_iaload rfl (.inl (fx_t31 fx)) (vp_ct (fx_n31 fx) (vp_in_nI (by have := i_nlt c1; have := i_rg c; have : (0 : Int32).toInt = 0 := rfl; have := i_eq ek2; have : (nI k2).toInt = ((k2 : Nat) : Int) := nI_toInt (by omega); have := i_nle c3; have : (24 : Int32).toInt = 24 := rfl; omega) (by omega))) ?_
              refine WR_tI (congrArg (hI (sI (sI h (ad 0) 6 0) (ad 0) 6 (-11)) (ad 31)) ((nI_clamp (by have := i_nlt c1; have := i_rg c; have : (0 : Int32).toInt = 0 := rfl; have := i_eq ek2; have : (nI k2).toInt = ((k2 : Nat) : Int) := nI_toInt (by omega); have := i_nle c3; have : (24 : Int32).toInt = 24 := rfl; omega)) : _ = k2)) ?_
              refine WR_tI (y := nI t4) (Eq.trans (I_ne (fx_ne fx (by decide))) (Eq.trans (I_ne (fx_ne fx (by decide))) v4)) ?_
              refine r_ic (x := 8) rfl rfl ?_
              refine r_iload rfl rfl ?_
              refine r_cv (y := 168) (ra := [.int (nI k6), .int 8, .int (nI t4)]) (rest := []) rfl ⟨⟨rfl, rfl⟩, rfl, by decide⟩ (fx_t30 fx) rfl rfl (Nat.le_of_ble_eq_true rfl) ?_
              refine in_168 (Nat.le_of_ble_eq_true rfl) ?_
              show WR _ cd_168 0 [some (.ref (ad 30)), some (.int (nI t4)), some (.int 8), some (.int (nI k6))] [] (sI (sI h (ad 0) 6 0) (ad 0) 6 (-11)) _
              refine r_iload rfl rfl ?_
              refine r_ic (x := (-1)) rfl rfl ?_
              refine r_icmp_eq (tg := 18) rfl rfl (fun q => False.elim (by have : (nI t4).toInt = ((t4 : Nat) : Int) := nI_toInt (by omega); have : (-1 : Int32).toInt = -1 := rfl; have := i_eq q; omega)) (fun _ => ?_)
              refine r_aload rfl rfl ?_
              refine r_iload rfl rfl ?_
              refine r_cv (y := 166) (ra := [.int (nI t4)]) (rest := []) rfl ⟨⟨rfl, rfl⟩, rfl, by decide⟩ (fx_t30 fx) rfl rfl (Nat.le_of_ble_eq_true rfl) ?_
              refine in_166 (Nat.le_of_ble_eq_true rfl) ?_
              show WR _ cd_166 0 [some (.ref (ad 30)), some (.int (nI t4))] [] (sI (sI h (ad 0) 6 0) (ad 0) 6 (-11)) _
              refine r_iload rfl rfl ?_
              refine r_ic (x := (-1)) rfl rfl ?_
              refine r_icmp_ne (tg := 9) rfl rfl (fun _ => ?_) (fun q => False.elim (by have : (nI t4).toInt = ((t4 : Nat) : Int) := nI_toInt (by omega); have : (-1 : Int32).toInt = -1 := rfl; have := i_eq q; omega))
              refine r_iload rfl rfl ?_
              refine r_ic (x := 1000) rfl rfl ?_
              refine r_icmp_lt (tg := 21) rfl rfl (fun _ => ?_) (fun q => False.elim (by have : (nI t4).toInt = ((t4 : Nat) : Int) := nI_toInt (by omega); have : (1000 : Int32).toInt = 1000 := rfl; have := i_nlt q; omega))
              refine r_aload rfl rfl ?_
              refine r_getA (b := ad 33) rfl ⟨rfl, rfl, rfl⟩ (fx_t30 fx) (fx_r30_2 fx) ?_
              refine r_iload rfl rfl ?_
              refine r_iaload rfl (.inl (fx_t33 fx)) (vp_ct (fx_n33 fx) (vp_in_nI (by omega) (by omega))) ?_
              refine WR_tI (congrArg (hI (sI (sI h (ad 0) 6 0) (ad 0) 6 (-11)) (ad 33)) ((nI_clamp (by omega)) : _ = t4)) ?_
              refine WR_tI (y := 8) (Eq.trans (I_ne (fx_ne fx (by decide))) (Eq.trans (I_ne (fx_ne fx (by decide))) l2_4)) ?_
              refine r_iret rfl ?_
              show WR _ cd_168 10 [some (.ref (ad 30)), some (.int (nI t4)), some (.int 8), some (.int (nI k6))] [.int 8] (sI (sI h (ad 0) 6 0) (ad 0) 6 (-11)) _
              refine r_iload rfl rfl ?_
              refine r_icmp_eq (tg := 18) rfl rfl (fun _ => ?_) (fun q => absurd q (by decide))
              refine r_iload rfl rfl ?_
              refine r_ic (x := (-1)) rfl rfl ?_
              refine r_icmp_ne (tg := 27) rfl rfl (fun _ => ?_) (fun q => False.elim (by have : (nI t4).toInt = ((t4 : Nat) : Int) := nI_toInt (by omega); have : (-1 : Int32).toInt = -1 := rfl; have := i_eq q; omega))
              refine r_iload rfl rfl ?_
              refine r_i2l rfl ?_
              refine WR_tL (y := lN k6) (nI_l (by have := i_nlt c5; have := i_rg i; have : (0 : Int32).toInt = 0 := rfl; have := i_eq ek6; have : (nI k6).toInt = ((k6 : Nat) : Int) := nI_toInt (by omega); have := i_nlt c7; have : (1 : Int32).toInt = 1 := rfl; have : (nI sz4).toInt = ((sz4 : Nat) : Int) := nI_toInt (by omega); have := sub_t (x := nI sz4) (y := nI k6) (by have := i_nlt c5; have := i_rg i; have : (0 : Int32).toInt = 0 := rfl; have := i_eq ek6; have : (nI k6).toInt = ((k6 : Nat) : Int) := nI_toInt (by omega); have : (nI sz4).toInt = ((sz4 : Nat) : Int) := nI_toInt (by omega); omega) (by have := i_nlt c5; have := i_rg i; have : (0 : Int32).toInt = 0 := rfl; have := i_eq ek6; have : (nI k6).toInt = ((k6 : Nat) : Int) := nI_toInt (by omega); have : (nI sz4).toInt = ((sz4 : Nat) : Int) := nI_toInt (by omega); omega); omega)) ?_
              refine r_lc (x := 0) rfl rfl ?_
              refine r_aload rfl rfl ?_
              refine r_getA (b := ad 35) rfl ⟨rfl, rfl, rfl⟩ (fx_t30 fx) (fx_r30_4 fx) ?_
              refine r_iload rfl rfl ?_
              refine r_iaload rfl (.inl (fx_t35 fx)) (vp_ct (fx_n35 fx) (vp_in_nI (by omega) (by omega))) ?_
              refine WR_tI (congrArg (hI (sI (sI h (ad 0) 6 0) (ad 0) 6 (-11)) (ad 35)) ((nI_clamp (by omega)) : _ = t4)) ?_
              refine WR_tI (y := nI sz4) (Eq.trans (I_ne (fx_ne fx (by decide))) (Eq.trans (I_ne (fx_ne fx (by decide))) sz_4)) ?_
              refine r_ic (x := 1) rfl rfl ?_
              refine r_isub rfl ?_
              refine WR_tI (y := nI (sz4 - 1)) (Eq.trans (pk_sub (a := sz4) (b := 1) (by have := i_nlt c5; have := i_rg i; have : (0 : Int32).toInt = 0 := rfl; have := i_eq ek6; have : (nI k6).toInt = ((k6 : Nat) : Int) := nI_toInt (by omega); have := i_nlt c7; have : (1 : Int32).toInt = 1 := rfl; have : (nI sz4).toInt = ((sz4 : Nat) : Int) := nI_toInt (by omega); have := sub_t (x := nI sz4) (y := nI k6) (by have := i_nlt c5; have := i_rg i; have : (0 : Int32).toInt = 0 := rfl; have := i_eq ek6; have : (nI k6).toInt = ((k6 : Nat) : Int) := nI_toInt (by omega); have : (nI sz4).toInt = ((sz4 : Nat) : Int) := nI_toInt (by omega); omega) (by have := i_nlt c5; have := i_rg i; have : (0 : Int32).toInt = 0 := rfl; have := i_eq ek6; have : (nI k6).toInt = ((k6 : Nat) : Int) := nI_toInt (by omega); have : (nI sz4).toInt = ((sz4 : Nat) : Int) := nI_toInt (by omega); omega); omega)) (congrArg nI (by have := i_nlt c5; have := i_rg i; have : (0 : Int32).toInt = 0 := rfl; have := i_eq ek6; have : (nI k6).toInt = ((k6 : Nat) : Int) := nI_toInt (by omega); have := i_nlt c7; have : (1 : Int32).toInt = 1 := rfl; have : (nI sz4).toInt = ((sz4 : Nat) : Int) := nI_toInt (by omega); have := sub_t (x := nI sz4) (y := nI k6) (by have := i_nlt c5; have := i_rg i; have : (0 : Int32).toInt = 0 := rfl; have := i_eq ek6; have : (nI k6).toInt = ((k6 : Nat) : Int) := nI_toInt (by omega); have : (nI sz4).toInt = ((sz4 : Nat) : Int) := nI_toInt (by omega); omega) (by have := i_nlt c5; have := i_rg i; have : (0 : Int32).toInt = 0 := rfl; have := i_eq ek6; have : (nI k6).toInt = ((k6 : Nat) : Int) := nI_toInt (by omega); have : (nI sz4).toInt = ((sz4 : Nat) : Int) := nI_toInt (by omega); omega); omega))) ?_
              refine r_i2l rfl ?_
              refine WR_tL (y := lN (sz4 - 1)) (nI_l (by have := i_nlt c5; have := i_rg i; have : (0 : Int32).toInt = 0 := rfl; have := i_eq ek6; have : (nI k6).toInt = ((k6 : Nat) : Int) := nI_toInt (by omega); have := i_nlt c7; have : (1 : Int32).toInt = 1 := rfl; have : (nI sz4).toInt = ((sz4 : Nat) : Int) := nI_toInt (by omega); have := sub_t (x := nI sz4) (y := nI k6) (by have := i_nlt c5; have := i_rg i; have : (0 : Int32).toInt = 0 := rfl; have := i_eq ek6; have : (nI k6).toInt = ((k6 : Nat) : Int) := nI_toInt (by omega); have : (nI sz4).toInt = ((sz4 : Nat) : Int) := nI_toInt (by omega); omega) (by have := i_nlt c5; have := i_rg i; have : (0 : Int32).toInt = 0 := rfl; have := i_eq ek6; have : (nI k6).toInt = ((k6 : Nat) : Int) := nI_toInt (by omega); have : (nI sz4).toInt = ((sz4 : Nat) : Int) := nI_toInt (by omega); omega); omega)) ?_
              refine r_cs (y := 155) (ra := [.long (lN (sz4 - 1)), .long 0, .long (lN k6)]) (rest := []) rfl ⟨⟨rfl, rfl⟩, by decide⟩ rfl rfl (Nat.le_of_ble_eq_true rfl) ?_
              refine in_155 (Nat.le_of_ble_eq_true rfl) ?_
              show WR _ cd_155 0 [some (.long (lN k6)), none, some (.long 0), none, some (.long (lN (sz4 - 1))), none] [] (sI (sI h (ad 0) 6 0) (ad 0) 6 (-11)) _
              refine r_lload rfl rfl ?_
              refine r_lload rfl rfl ?_
              refine r_lif_lt (tg := 17) rfl rfl rfl (fun q => False.elim (by have := i_nlt c5; have := i_rg i; have : (0 : Int32).toInt = 0 := rfl; have := i_eq ek6; have : (nI k6).toInt = ((k6 : Nat) : Int) := nI_toInt (by omega); have := i_nlt c7; have : (1 : Int32).toInt = 1 := rfl; have : (nI sz4).toInt = ((sz4 : Nat) : Int) := nI_toInt (by omega); have := sub_t (x := nI sz4) (y := nI k6) (by have := i_nlt c5; have := i_rg i; have : (0 : Int32).toInt = 0 := rfl; have := i_eq ek6; have : (nI k6).toInt = ((k6 : Nat) : Int) := nI_toInt (by omega); have : (nI sz4).toInt = ((sz4 : Nat) : Int) := nI_toInt (by omega); omega) (by have := i_nlt c5; have := i_rg i; have : (0 : Int32).toInt = 0 := rfl; have := i_eq ek6; have : (nI k6).toInt = ((k6 : Nat) : Int) := nI_toInt (by omega); have : (nI sz4).toInt = ((sz4 : Nat) : Int) := nI_toInt (by omega); omega); have : (lN k6).toInt = ((k6 : Nat) : Int) := lN_toInt (by omega); have : (0 : Int64).toInt = 0 := rfl; have := l_lt q; omega)) (fun _ => ?_)
              refine r_lload rfl rfl ?_
              refine r_lload rfl rfl ?_
              refine r_lif_gt (tg := 17) rfl rfl rfl (fun q => False.elim (by have := i_nlt c5; have := i_rg i; have : (0 : Int32).toInt = 0 := rfl; have := i_eq ek6; have : (nI k6).toInt = ((k6 : Nat) : Int) := nI_toInt (by omega); have := i_nlt c7; have : (1 : Int32).toInt = 1 := rfl; have : (nI sz4).toInt = ((sz4 : Nat) : Int) := nI_toInt (by omega); have := sub_t (x := nI sz4) (y := nI k6) (by have := i_nlt c5; have := i_rg i; have : (0 : Int32).toInt = 0 := rfl; have := i_eq ek6; have : (nI k6).toInt = ((k6 : Nat) : Int) := nI_toInt (by omega); have : (nI sz4).toInt = ((sz4 : Nat) : Int) := nI_toInt (by omega); omega) (by have := i_nlt c5; have := i_rg i; have : (0 : Int32).toInt = 0 := rfl; have := i_eq ek6; have : (nI k6).toInt = ((k6 : Nat) : Int) := nI_toInt (by omega); have : (nI sz4).toInt = ((sz4 : Nat) : Int) := nI_toInt (by omega); omega); have : (lN k6).toInt = ((k6 : Nat) : Int) := lN_toInt (by omega); have : (lN (sz4 - 1)).toInt = ((sz4 - 1 : Nat) : Int) := lN_toInt (by omega); have := l_lt q; omega)) (fun _ => ?_)
              refine r_ic (x := 1) rfl rfl ?_
              refine r_goto (tg := 18) rfl rfl ?_
              refine r_zret rfl (.inr rfl) ?_
              show WR _ cd_168 42 [some (.ref (ad 30)), some (.int (nI t4)), some (.int 8), some (.int (nI k6))] [.int 1] (sI (sI h (ad 0) 6 0) (ad 0) 6 (-11)) _
              refine r_if_ne (tg := 49) rfl rfl (fun _ => ?_) (fun q => absurd q (by decide))
              refine r_ic (x := 0) rfl rfl ?_
              refine r_iret rfl ?_
              show WR _ cd_173 13 [some (.ref (ad 30)), some (.int (nI k2)), some (.int (nI k6)), some (.int j), none, none] [.int 0] (sI (sI h (ad 0) 6 0) (ad 0) 6 (-11)) _
              refine r_istore (lv' := [some (.ref (ad 30)), some (.int (nI k2)), some (.int (nI k6)), some (.int j), some (.int 0), none]) rfl (Nat.le_of_ble_eq_true rfl) rfl ?_
              refine r_iload rfl rfl ?_
              refine r_if_le (tg := 24) rfl rfl (fun _ => ?_) (fun q => absurd q (by decide))
              refine r_aload rfl rfl ?_
              refine r_getA (b := ad 36) rfl ⟨rfl, rfl, rfl⟩ (fx_t30 fx) (fx_r30_5 fx) ?_
              refine r_ic (x := 30) rfl rfl ?_
              refine r_aload rfl rfl ?_
              refine r_getA (b := ad 31) rfl ⟨rfl, rfl, rfl⟩ (fx_t30 fx) (fx_r30_0 fx) ?_
              refine r_iload rfl rfl ?_
              refine r_iaload rfl (.inl (fx_t31 fx)) (vp_ct (fx_n31 fx) (vp_in_nI (by have := i_nlt c1; have := i_rg c; have : (0 : Int32).toInt = 0 := rfl; have := i_eq ek2; have : (nI k2).toInt = ((k2 : Nat) : Int) := nI_toInt (by omega); have := i_nle c3; have : (24 : Int32).toInt = 24 := rfl; omega) (by omega))) ?_
              refine WR_tI (congrArg (hI (sI (sI h (ad 0) 6 0) (ad 0) 6 (-11)) (ad 31)) ((nI_clamp (by have := i_nlt c1; have := i_rg c; have : (0 : Int32).toInt = 0 := rfl; have := i_eq ek2; have : (nI k2).toInt = ((k2 : Nat) : Int) := nI_toInt (by omega); have := i_nle c3; have : (24 : Int32).toInt = 24 := rfl; omega)) : _ = k2)) ?_
              refine WR_tI (y := nI t4) (Eq.trans (I_ne (fx_ne fx (by decide))) (Eq.trans (I_ne (fx_ne fx (by decide))) v4)) ?_
              refine r_imul rfl ?_
              refine WR_tI (y := nI (30 * t4)) (Eq.trans (pk_mul 30 t4) (congrArg nI (by omega))) ?_
              refine r_iload rfl rfl ?_
              refine r_iadd rfl ?_
              refine WR_tI (y := nI (30 * t4 + k6)) (Eq.trans (nI_add (30 * t4) k6) (congrArg nI (by have := i_nlt c5; have := i_rg i; have : (0 : Int32).toInt = 0 := rfl; have := i_eq ek6; have : (nI k6).toInt = ((k6 : Nat) : Int) := nI_toInt (by omega); have := i_nlt c7; have : (1 : Int32).toInt = 1 := rfl; have : (nI sz4).toInt = ((sz4 : Nat) : Int) := nI_toInt (by omega); have := sub_t (x := nI sz4) (y := nI k6) (by have := i_nlt c5; have := i_rg i; have : (0 : Int32).toInt = 0 := rfl; have := i_eq ek6; have : (nI k6).toInt = ((k6 : Nat) : Int) := nI_toInt (by omega); have : (nI sz4).toInt = ((sz4 : Nat) : Int) := nI_toInt (by omega); omega) (by have := i_nlt c5; have := i_rg i; have : (0 : Int32).toInt = 0 := rfl; have := i_eq ek6; have : (nI k6).toInt = ((k6 : Nat) : Int) := nI_toInt (by omega); have : (nI sz4).toInt = ((sz4 : Nat) : Int) := nI_toInt (by omega); omega); omega))) ?_
              refine r_laload rfl (fx_t36 fx) (vp_ct (fx_n36 fx) (vp_in_nI (by have := i_nlt c5; have := i_rg i; have : (0 : Int32).toInt = 0 := rfl; have := i_eq ek6; have : (nI k6).toInt = ((k6 : Nat) : Int) := nI_toInt (by omega); have := i_nlt c7; have : (1 : Int32).toInt = 1 := rfl; have : (nI sz4).toInt = ((sz4 : Nat) : Int) := nI_toInt (by omega); have := sub_t (x := nI sz4) (y := nI k6) (by have := i_nlt c5; have := i_rg i; have : (0 : Int32).toInt = 0 := rfl; have := i_eq ek6; have : (nI k6).toInt = ((k6 : Nat) : Int) := nI_toInt (by omega); have : (nI sz4).toInt = ((sz4 : Nat) : Int) := nI_toInt (by omega); omega) (by have := i_nlt c5; have := i_rg i; have : (0 : Int32).toInt = 0 := rfl; have := i_eq ek6; have : (nI k6).toInt = ((k6 : Nat) : Int) := nI_toInt (by omega); have : (nI sz4).toInt = ((sz4 : Nat) : Int) := nI_toInt (by omega); omega); omega) (by omega))) ?_
              refine WR_tL (congrArg (hL (sI (sI h (ad 0) 6 0) (ad 0) 6 (-11)) (ad 36)) ((nI_clamp (by have := i_nlt c5; have := i_rg i; have : (0 : Int32).toInt = 0 := rfl; have := i_eq ek6; have : (nI k6).toInt = ((k6 : Nat) : Int) := nI_toInt (by omega); have := i_nlt c7; have : (1 : Int32).toInt = 1 := rfl; have : (nI sz4).toInt = ((sz4 : Nat) : Int) := nI_toInt (by omega); have := sub_t (x := nI sz4) (y := nI k6) (by have := i_nlt c5; have := i_rg i; have : (0 : Int32).toInt = 0 := rfl; have := i_eq ek6; have : (nI k6).toInt = ((k6 : Nat) : Int) := nI_toInt (by omega); have : (nI sz4).toInt = ((sz4 : Nat) : Int) := nI_toInt (by omega); omega) (by have := i_nlt c5; have := i_rg i; have : (0 : Int32).toInt = 0 := rfl; have := i_eq ek6; have : (nI k6).toInt = ((k6 : Nat) : Int) := nI_toInt (by omega); have : (nI sz4).toInt = ((sz4 : Nat) : Int) := nI_toInt (by omega); omega); omega)) : _ = 30 * t4 + k6)) ?_
              refine WR_tL (y := (-1)) (Eq.trans L_oI (Eq.trans L_oI v8)) ?_
              refine r_l2i rfl ?_
              refine WR_tI (y := (-1)) rfl ?_
              refine r_istore (lv' := [some (.ref (ad 30)), some (.int (nI k2)), some (.int (nI k6)), some (.int j), some (.int 0), some (.int (-1))]) rfl (Nat.le_of_ble_eq_true rfl) rfl ?_
              refine r_iload rfl rfl ?_
              refine r_ic (x := (-1)) rfl rfl ?_
              refine r_icmp_ne (tg := 51) rfl rfl (fun q => absurd q (by decide)) (fun _ => ?_)
              refine r_ic (x := (-1)) rfl rfl ?_
              refine r_iret rfl ?_
              show WR _ cd_174 22 [some (.ref (ad 30)), some (.int c), some (.int i), some (.int j), none] [.int (-1)] (sI (sI h (ad 0) 6 0) (ad 0) 6 (-11)) _
              refine r_istore (lv' := [some (.ref (ad 30)), some (.int c), some (.int i), some (.int j), some (.int (-1))]) rfl (Nat.le_of_ble_eq_true rfl) rfl ?_
              refine r_iload rfl rfl ?_
              refine r_if_ge (tg := 40) rfl rfl (fun q => absurd q (by decide)) (fun _ => ?_)
              refine r_aload rfl rfl ?_
              refine r_ic (x := (-10)) rfl rfl ?_
              refine r_iload rfl rfl ?_
              refine r_iadd rfl ?_
              refine WR_tI (y := (-11)) rfl ?_
              refine r_cv (y := 171) (ra := [.int (-11)]) (rest := []) rfl ⟨⟨rfl, rfl⟩, rfl, by decide⟩ (fx_t30 fx) rfl rfl (Nat.le_of_ble_eq_true rfl) ?_
              refine in_171 (Nat.le_of_ble_eq_true rfl) ?_
              show WR _ cd_171 0 [some (.ref (ad 30)), some (.int (-11))] [] (sI (sI h (ad 0) 6 0) (ad 0) 6 (-11)) _
              refine r_aload rfl rfl ?_
              refine r_iload rfl rfl ?_
              refine r_putI rfl ⟨rfl, rfl, rfl⟩ (fx_t30 fx) ?_
              refine r_lc (x := 0) rfl rfl ?_
              refine r_lret rfl ?_
              show WR _ cd_174 38 [some (.ref (ad 30)), some (.int c), some (.int i), some (.int j), some (.int (-1))] [.long 0] (sI (sI (sI h (ad 0) 6 0) (ad 0) 6 (-11)) (ad 30) 11 (-11)) _
              refine r_l2i rfl ?_
              refine WR_tI (y := 0) rfl ?_
              refine r_iret rfl ?_
              exact ⟨rfl, Rel.why r (((Chg.rf.sI (fx_j fx) (.inl (by decide))).sI (fx_j fx) (.inl (by decide))).sI (fx_j fx) (.inl (by decide))) ⟨rfl, by decide⟩ (Eq.trans (Eq.trans (I_ne (fx_ne fx (by decide))) I_eq) (Eq.symm I_eq)), Nat.le_add_right _ _, Nat.le_add_right _ _⟩
            · refine r_aaloadA (b := mid t8) rfl (isQ_of tg2_4 (by decide)) (vp_ct n_4 (vp_in_nI (by have := i_nlt c5; have := i_rg i; have : (0 : Int32).toInt = 0 := rfl; have := i_eq ek6; have : (nI k6).toInt = ((k6 : Nat) : Int) := nI_toInt (by omega); have := i_nlt c7; have : (1 : Int32).toInt = 1 := rfl; have : (nI sz4).toInt = ((sz4 : Nat) : Int) := nI_toInt (by omega); have := sub_t (x := nI sz4) (y := nI k6) (by have := i_nlt c5; have := i_rg i; have : (0 : Int32).toInt = 0 := rfl; have := i_eq ek6; have : (nI k6).toInt = ((k6 : Nat) : Int) := nI_toInt (by omega); have : (nI sz4).toInt = ((sz4 : Nat) : Int) := nI_toInt (by omega); omega) (by have := i_nlt c5; have := i_rg i; have : (0 : Int32).toInt = 0 := rfl; have := i_eq ek6; have : (nI k6).toInt = ((k6 : Nat) : Int) := nI_toInt (by omega); have : (nI sz4).toInt = ((sz4 : Nat) : Int) := nI_toInt (by omega); omega); omega) (by omega))) (Eq.trans (congrArg (hR (sI h (ad 0) 6 0) (mid t4 + 1)) ((nI_clamp (by have := i_nlt c5; have := i_rg i; have : (0 : Int32).toInt = 0 := rfl; have := i_eq ek6; have : (nI k6).toInt = ((k6 : Nat) : Int) := nI_toInt (by omega); have := i_nlt c7; have : (1 : Int32).toInt = 1 := rfl; have : (nI sz4).toInt = ((sz4 : Nat) : Int) := nI_toInt (by omega); have := sub_t (x := nI sz4) (y := nI k6) (by have := i_nlt c5; have := i_rg i; have : (0 : Int32).toInt = 0 := rfl; have := i_eq ek6; have : (nI k6).toInt = ((k6 : Nat) : Int) := nI_toInt (by omega); have : (nI sz4).toInt = ((sz4 : Nat) : Int) := nI_toInt (by omega); omega) (by have := i_nlt c5; have := i_rg i; have : (0 : Int32).toInt = 0 := rfl; have := i_eq ek6; have : (nI k6).toInt = ((k6 : Nat) : Int) := nI_toInt (by omega); have : (nI sz4).toInt = ((sz4 : Nat) : Int) := nI_toInt (by omega); omega); omega)) : _ = k6)) (Eq.trans R_oI w8)) ?_
              refine r_astore (lv' := [some (.ref (ad 0)), some (.int c), some (.int i), some (.int j), some (.ref (mid t4)), none, some (.ref (mid t8))]) rfl (Nat.le_of_ble_eq_true rfl) rfl ?_
              refine r_aload rfl rfl ?_
              refine r_instY rfl (by decide) tg8 ?_
              refine r_if_eq (tg := 107) rfl rfl (fun q => absurd q (by decide)) (fun _ => ?_)
              refine r_aload rfl rfl ?_
              refine r_cast rfl tg8 ?_
              refine r_astore (lv' := [some (.ref (ad 0)), some (.int c), some (.int i), some (.int j), some (.ref (mid t4)), some (.ref (mid t8)), some (.ref (mid t8))]) rfl (Nat.le_of_ble_eq_true rfl) rfl ?_
              refine r_aload rfl rfl ?_
              refine r_aload rfl rfl ?_
              refine r_iload rfl rfl ?_
              refine r_ic (x := 1) rfl rfl ?_
              refine r_cv (y := 32) (ra := [.int 1, .int j]) (rest := [.ref (ad 0)]) rfl ⟨⟨rfl, rfl⟩, rfl, by decide⟩ tg8 rfl rfl (Nat.le_of_ble_eq_true rfl) ?_
              refine in_32 (Nat.le_of_ble_eq_true rfl) ?_
              show WR _ cd_32 0 [some (.ref (mid t8)), some (.int j), some (.int 1)] [] (sI h (ad 0) 6 0) _
              refine r_iload rfl rfl ?_
              refine r_if_lt (tg := 22) rfl rfl (fun c9 => ?_) (fun c9 => ?_)
              · refine r_ic (x := 0) rfl rfl ?_
                refine r_zret rfl (.inl rfl) ?_
                show WR _ cd_42 81 [some (.ref (ad 0)), some (.int c), some (.int i), some (.int j), some (.ref (mid t4)), some (.ref (mid t8)), some (.ref (mid t8))] [.int 0, .ref (ad 0)] (sI h (ad 0) 6 0) _
                refine r_if_eq (tg := 88) rfl rfl (fun _ => ?_) (fun q => absurd q (by decide))
                refine r_ic (x := (-12)) rfl rfl ?_
                refine r_putI rfl ⟨rfl, rfl, rfl⟩ (fx_t0 fx) ?_
                refine r_aload rfl rfl ?_
                refine r_getI rfl ⟨rfl, rfl, rfl⟩ (fx_t0 fx) ?_
                refine WR_tI (y := (-12)) I_eq ?_
                refine r_if_ne (tg := 105) rfl rfl (fun _ => ?_) (fun q => absurd q (by decide))
                refine r_null rfl ?_
                refine r_aret0 rfl ?_
                show WR _ cd_44 12 [some (.ref (ad 0)), some (.int c), some (.int i), some (.int j), none] [.null] (sI (sI h (ad 0) 6 0) (ad 0) 6 (-12)) _
                refine r_astore0 (lv' := [some (.ref (ad 0)), some (.int c), some (.int i), some (.int j), some (.null)]) rfl (Nat.le_of_ble_eq_true rfl) rfl ?_
                refine r_aload0 rfl rfl ?_
                refine r_ifnonnullN (tg := 23) rfl rfl ?_
                refine r_ic (x := 0) rfl rfl ?_
                refine r_goto (tg := 31) rfl rfl ?_
                refine r_iret rfl ?_
                show EV _ 174 [.ref (ad 30), .int c, .int i, .int j] (sI (sI h (ad 0) 6 0) (ad 0) 6 (-12)) _
                refine in_174 (Nat.le_of_ble_eq_true rfl) ?_
                show WR _ cd_174 0 [some (.ref (ad 30)), some (.int c), some (.int i), some (.int j), none] [] (sI (sI h (ad 0) 6 0) (ad 0) 6 (-12)) _
                refine r_iload rfl rfl ?_
                refine WR_tI (y := nI k2) ek2 ?_
                refine r_cs (y := 153) (ra := [.int (nI k2)]) (rest := []) rfl ⟨⟨rfl, rfl⟩, by decide⟩ rfl rfl (Nat.le_of_ble_eq_true rfl) ?_
                refine in_153 (Nat.le_of_ble_eq_true rfl) ?_
                show WR _ cd_153 0 [some (.int (nI k2))] [] (sI (sI h (ad 0) 6 0) (ad 0) 6 (-12)) _
                refine r_iload rfl rfl ?_
                refine r_if_lt (tg := 14) rfl rfl (fun q => False.elim (by have := i_nlt c1; have := i_rg c; have : (0 : Int32).toInt = 0 := rfl; have := i_eq ek2; have : (nI k2).toInt = ((k2 : Nat) : Int) := nI_toInt (by omega); have := i_nle c3; have : (24 : Int32).toInt = 24 := rfl; have := i_lt q; omega)) (fun _ => ?_)
                refine r_iload rfl rfl ?_
                refine r_ic (x := 24) rfl rfl ?_
                refine r_icmp_ge (tg := 14) rfl rfl (fun q => False.elim (by have := i_nlt c1; have := i_rg c; have : (0 : Int32).toInt = 0 := rfl; have := i_eq ek2; have : (nI k2).toInt = ((k2 : Nat) : Int) := nI_toInt (by omega); have := i_nle c3; have : (24 : Int32).toInt = 24 := rfl; have := i_le q; omega)) (fun _ => ?_)
                refine r_ic (x := 1) rfl rfl ?_
                refine r_goto (tg := 15) rfl rfl ?_
                refine r_zret rfl (.inr rfl) ?_
                show WR _ cd_174 4 [some (.ref (ad 30)), some (.int c), some (.int i), some (.int j), none] [.int 1] (sI (sI h (ad 0) 6 0) (ad 0) 6 (-12)) _
                refine r_if_ne (tg := 15) rfl rfl (fun _ => ?_) (fun q => absurd q (by decide))
                refine r_aload rfl rfl ?_
                refine r_iload rfl rfl ?_
                refine WR_tI (y := nI k2) ek2 ?_
                refine r_iload rfl rfl ?_
                refine WR_tI (y := nI k6) ek6 ?_
                refine r_iload rfl rfl ?_
                refine r_cv (y := 173) (ra := [.int j, .int (nI k6), .int (nI k2)]) (rest := []) rfl ⟨⟨rfl, rfl⟩, rfl, by decide⟩ (fx_t30 fx) rfl rfl (Nat.le_of_ble_eq_true rfl) ?_
                refine in_173 (Nat.le_of_ble_eq_true rfl) ?_
                show WR _ cd_173 0 [some (.ref (ad 30)), some (.int (nI k2)), some (.int (nI k6)), some (.int j), none, none] [] (sI (sI h (ad 0) 6 0) (ad 0) 6 (-12)) _
                refine r_aload rfl rfl ?_
                refine r_aload rfl rfl ?_
                refine r_getA (b := ad 31) rfl ⟨rfl, rfl, rfl⟩ (fx_t30 fx) (fx_r30_0 fx) ?_
                refine r_iload rfl rfl ?_
                refine r_iaload rfl (.inl (fx_t31 fx)) (vp_ct (fx_n31 fx) (vp_in_nI (by have := i_nlt c1; have := i_rg c; have : (0 : Int32).toInt = 0 := rfl; have := i_eq ek2; have : (nI k2).toInt = ((k2 : Nat) : Int) := nI_toInt (by omega); have := i_nle c3; have : (24 : Int32).toInt = 24 := rfl; omega) (by omega))) ?_
                refine WR_tI (congrArg (hI (sI (sI h (ad 0) 6 0) (ad 0) 6 (-12)) (ad 31)) ((nI_clamp (by have := i_nlt c1; have := i_rg c; have : (0 : Int32).toInt = 0 := rfl; have := i_eq ek2; have : (nI k2).toInt = ((k2 : Nat) : Int) := nI_toInt (by omega); have := i_nle c3; have : (24 : Int32).toInt = 24 := rfl; omega)) : _ = k2)) ?_
                refine WR_tI (y := nI t4) (Eq.trans (I_ne (fx_ne fx (by decide))) (Eq.trans (I_ne (fx_ne fx (by decide))) v4)) ?_
                refine r_ic (x := 8) rfl rfl ?_
                refine r_iload rfl rfl ?_
                refine r_cv (y := 168) (ra := [.int (nI k6), .int 8, .int (nI t4)]) (rest := []) rfl ⟨⟨rfl, rfl⟩, rfl, by decide⟩ (fx_t30 fx) rfl rfl (Nat.le_of_ble_eq_true rfl) ?_
                refine in_168 (Nat.le_of_ble_eq_true rfl) ?_
                show WR _ cd_168 0 [some (.ref (ad 30)), some (.int (nI t4)), some (.int 8), some (.int (nI k6))] [] (sI (sI h (ad 0) 6 0) (ad 0) 6 (-12)) _
                refine r_iload rfl rfl ?_
                refine r_ic (x := (-1)) rfl rfl ?_
                refine r_icmp_eq (tg := 18) rfl rfl (fun q => False.elim (by have : (nI t4).toInt = ((t4 : Nat) : Int) := nI_toInt (by omega); have : (-1 : Int32).toInt = -1 := rfl; have := i_eq q; omega)) (fun _ => ?_)
                refine r_aload rfl rfl ?_
                refine r_iload rfl rfl ?_
                refine r_cv (y := 166) (ra := [.int (nI t4)]) (rest := []) rfl ⟨⟨rfl, rfl⟩, rfl, by decide⟩ (fx_t30 fx) rfl rfl (Nat.le_of_ble_eq_true rfl) ?_
                refine in_166 (Nat.le_of_ble_eq_true rfl) ?_
                show WR _ cd_166 0 [some (.ref (ad 30)), some (.int (nI t4))] [] (sI (sI h (ad 0) 6 0) (ad 0) 6 (-12)) _
                refine r_iload rfl rfl ?_
                refine r_ic (x := (-1)) rfl rfl ?_
                refine r_icmp_ne (tg := 9) rfl rfl (fun _ => ?_) (fun q => False.elim (by have : (nI t4).toInt = ((t4 : Nat) : Int) := nI_toInt (by omega); have : (-1 : Int32).toInt = -1 := rfl; have := i_eq q; omega))
                refine r_iload rfl rfl ?_
                refine r_ic (x := 1000) rfl rfl ?_
                refine r_icmp_lt (tg := 21) rfl rfl (fun _ => ?_) (fun q => False.elim (by have : (nI t4).toInt = ((t4 : Nat) : Int) := nI_toInt (by omega); have : (1000 : Int32).toInt = 1000 := rfl; have := i_nlt q; omega))
                refine r_aload rfl rfl ?_
                refine r_getA (b := ad 33) rfl ⟨rfl, rfl, rfl⟩ (fx_t30 fx) (fx_r30_2 fx) ?_
                refine r_iload rfl rfl ?_
                refine r_iaload rfl (.inl (fx_t33 fx)) (vp_ct (fx_n33 fx) (vp_in_nI (by omega) (by omega))) ?_
                refine WR_tI (congrArg (hI (sI (sI h (ad 0) 6 0) (ad 0) 6 (-12)) (ad 33)) ((nI_clamp (by omega)) : _ = t4)) ?_
                refine WR_tI (y := 8) (Eq.trans (I_ne (fx_ne fx (by decide))) (Eq.trans (I_ne (fx_ne fx (by decide))) l2_4)) ?_
                refine r_iret rfl ?_
                show WR _ cd_168 10 [some (.ref (ad 30)), some (.int (nI t4)), some (.int 8), some (.int (nI k6))] [.int 8] (sI (sI h (ad 0) 6 0) (ad 0) 6 (-12)) _
                refine r_iload rfl rfl ?_
                refine r_icmp_eq (tg := 18) rfl rfl (fun _ => ?_) (fun q => absurd q (by decide))
                refine r_iload rfl rfl ?_
                refine r_ic (x := (-1)) rfl rfl ?_
                refine r_icmp_ne (tg := 27) rfl rfl (fun _ => ?_) (fun q => False.elim (by have : (nI t4).toInt = ((t4 : Nat) : Int) := nI_toInt (by omega); have : (-1 : Int32).toInt = -1 := rfl; have := i_eq q; omega))
                refine r_iload rfl rfl ?_
                refine r_i2l rfl ?_
                refine WR_tL (y := lN k6) (nI_l (by have := i_nlt c5; have := i_rg i; have : (0 : Int32).toInt = 0 := rfl; have := i_eq ek6; have : (nI k6).toInt = ((k6 : Nat) : Int) := nI_toInt (by omega); have := i_nlt c7; have : (1 : Int32).toInt = 1 := rfl; have : (nI sz4).toInt = ((sz4 : Nat) : Int) := nI_toInt (by omega); have := sub_t (x := nI sz4) (y := nI k6) (by have := i_nlt c5; have := i_rg i; have : (0 : Int32).toInt = 0 := rfl; have := i_eq ek6; have : (nI k6).toInt = ((k6 : Nat) : Int) := nI_toInt (by omega); have : (nI sz4).toInt = ((sz4 : Nat) : Int) := nI_toInt (by omega); omega) (by have := i_nlt c5; have := i_rg i; have : (0 : Int32).toInt = 0 := rfl; have := i_eq ek6; have : (nI k6).toInt = ((k6 : Nat) : Int) := nI_toInt (by omega); have : (nI sz4).toInt = ((sz4 : Nat) : Int) := nI_toInt (by omega); omega); omega)) ?_
                refine r_lc (x := 0) rfl rfl ?_
                refine r_aload rfl rfl ?_
                refine r_getA (b := ad 35) rfl ⟨rfl, rfl, rfl⟩ (fx_t30 fx) (fx_r30_4 fx) ?_
                refine r_iload rfl rfl ?_
                refine r_iaload rfl (.inl (fx_t35 fx)) (vp_ct (fx_n35 fx) (vp_in_nI (by omega) (by omega))) ?_
                refine WR_tI (congrArg (hI (sI (sI h (ad 0) 6 0) (ad 0) 6 (-12)) (ad 35)) ((nI_clamp (by omega)) : _ = t4)) ?_
                refine WR_tI (y := nI sz4) (Eq.trans (I_ne (fx_ne fx (by decide))) (Eq.trans (I_ne (fx_ne fx (by decide))) sz_4)) ?_
                refine r_ic (x := 1) rfl rfl ?_
                refine r_isub rfl ?_
                refine WR_tI (y := nI (sz4 - 1)) (Eq.trans (pk_sub (a := sz4) (b := 1) (by have := i_nlt c5; have := i_rg i; have : (0 : Int32).toInt = 0 := rfl; have := i_eq ek6; have : (nI k6).toInt = ((k6 : Nat) : Int) := nI_toInt (by omega); have := i_nlt c7; have : (1 : Int32).toInt = 1 := rfl; have : (nI sz4).toInt = ((sz4 : Nat) : Int) := nI_toInt (by omega); have := sub_t (x := nI sz4) (y := nI k6) (by have := i_nlt c5; have := i_rg i; have : (0 : Int32).toInt = 0 := rfl; have := i_eq ek6; have : (nI k6).toInt = ((k6 : Nat) : Int) := nI_toInt (by omega); have : (nI sz4).toInt = ((sz4 : Nat) : Int) := nI_toInt (by omega); omega) (by have := i_nlt c5; have := i_rg i; have : (0 : Int32).toInt = 0 := rfl; have := i_eq ek6; have : (nI k6).toInt = ((k6 : Nat) : Int) := nI_toInt (by omega); have : (nI sz4).toInt = ((sz4 : Nat) : Int) := nI_toInt (by omega); omega); omega)) (congrArg nI (by have := i_nlt c5; have := i_rg i; have : (0 : Int32).toInt = 0 := rfl; have := i_eq ek6; have : (nI k6).toInt = ((k6 : Nat) : Int) := nI_toInt (by omega); have := i_nlt c7; have : (1 : Int32).toInt = 1 := rfl; have : (nI sz4).toInt = ((sz4 : Nat) : Int) := nI_toInt (by omega); have := sub_t (x := nI sz4) (y := nI k6) (by have := i_nlt c5; have := i_rg i; have : (0 : Int32).toInt = 0 := rfl; have := i_eq ek6; have : (nI k6).toInt = ((k6 : Nat) : Int) := nI_toInt (by omega); have : (nI sz4).toInt = ((sz4 : Nat) : Int) := nI_toInt (by omega); omega) (by have := i_nlt c5; have := i_rg i; have : (0 : Int32).toInt = 0 := rfl; have := i_eq ek6; have : (nI k6).toInt = ((k6 : Nat) : Int) := nI_toInt (by omega); have : (nI sz4).toInt = ((sz4 : Nat) : Int) := nI_toInt (by omega); omega); omega))) ?_
                refine r_i2l rfl ?_
                refine WR_tL (y := lN (sz4 - 1)) (nI_l (by have := i_nlt c5; have := i_rg i; have : (0 : Int32).toInt = 0 := rfl; have := i_eq ek6; have : (nI k6).toInt = ((k6 : Nat) : Int) := nI_toInt (by omega); have := i_nlt c7; have : (1 : Int32).toInt = 1 := rfl; have : (nI sz4).toInt = ((sz4 : Nat) : Int) := nI_toInt (by omega); have := sub_t (x := nI sz4) (y := nI k6) (by have := i_nlt c5; have := i_rg i; have : (0 : Int32).toInt = 0 := rfl; have := i_eq ek6; have : (nI k6).toInt = ((k6 : Nat) : Int) := nI_toInt (by omega); have : (nI sz4).toInt = ((sz4 : Nat) : Int) := nI_toInt (by omega); omega) (by have := i_nlt c5; have := i_rg i; have : (0 : Int32).toInt = 0 := rfl; have := i_eq ek6; have : (nI k6).toInt = ((k6 : Nat) : Int) := nI_toInt (by omega); have : (nI sz4).toInt = ((sz4 : Nat) : Int) := nI_toInt (by omega); omega); omega)) ?_
                refine r_cs (y := 155) (ra := [.long (lN (sz4 - 1)), .long 0, .long (lN k6)]) (rest := []) rfl ⟨⟨rfl, rfl⟩, by decide⟩ rfl rfl (Nat.le_of_ble_eq_true rfl) ?_
                refine in_155 (Nat.le_of_ble_eq_true rfl) ?_
                show WR _ cd_155 0 [some (.long (lN k6)), none, some (.long 0), none, some (.long (lN (sz4 - 1))), none] [] (sI (sI h (ad 0) 6 0) (ad 0) 6 (-12)) _
                refine r_lload rfl rfl ?_
                refine r_lload rfl rfl ?_
                refine r_lif_lt (tg := 17) rfl rfl rfl (fun q => False.elim (by have := i_nlt c5; have := i_rg i; have : (0 : Int32).toInt = 0 := rfl; have := i_eq ek6; have : (nI k6).toInt = ((k6 : Nat) : Int) := nI_toInt (by omega); have := i_nlt c7; have : (1 : Int32).toInt = 1 := rfl; have : (nI sz4).toInt = ((sz4 : Nat) : Int) := nI_toInt (by omega); have := sub_t (x := nI sz4) (y := nI k6) (by have := i_nlt c5; have := i_rg i; have : (0 : Int32).toInt = 0 := rfl; have := i_eq ek6; have : (nI k6).toInt = ((k6 : Nat) : Int) := nI_toInt (by omega); have : (nI sz4).toInt = ((sz4 : Nat) : Int) := nI_toInt (by omega); omega) (by have := i_nlt c5; have := i_rg i; have : (0 : Int32).toInt = 0 := rfl; have := i_eq ek6; have : (nI k6).toInt = ((k6 : Nat) : Int) := nI_toInt (by omega); have : (nI sz4).toInt = ((sz4 : Nat) : Int) := nI_toInt (by omega); omega); have : (lN k6).toInt = ((k6 : Nat) : Int) := lN_toInt (by omega); have : (0 : Int64).toInt = 0 := rfl; have := l_lt q; omega)) (fun _ => ?_)
                refine r_lload rfl rfl ?_
                refine r_lload rfl rfl ?_
                refine r_lif_gt (tg := 17) rfl rfl rfl (fun q => False.elim (by have := i_nlt c5; have := i_rg i; have : (0 : Int32).toInt = 0 := rfl; have := i_eq ek6; have : (nI k6).toInt = ((k6 : Nat) : Int) := nI_toInt (by omega); have := i_nlt c7; have : (1 : Int32).toInt = 1 := rfl; have : (nI sz4).toInt = ((sz4 : Nat) : Int) := nI_toInt (by omega); have := sub_t (x := nI sz4) (y := nI k6) (by have := i_nlt c5; have := i_rg i; have : (0 : Int32).toInt = 0 := rfl; have := i_eq ek6; have : (nI k6).toInt = ((k6 : Nat) : Int) := nI_toInt (by omega); have : (nI sz4).toInt = ((sz4 : Nat) : Int) := nI_toInt (by omega); omega) (by have := i_nlt c5; have := i_rg i; have : (0 : Int32).toInt = 0 := rfl; have := i_eq ek6; have : (nI k6).toInt = ((k6 : Nat) : Int) := nI_toInt (by omega); have : (nI sz4).toInt = ((sz4 : Nat) : Int) := nI_toInt (by omega); omega); have : (lN k6).toInt = ((k6 : Nat) : Int) := lN_toInt (by omega); have : (lN (sz4 - 1)).toInt = ((sz4 - 1 : Nat) : Int) := lN_toInt (by omega); have := l_lt q; omega)) (fun _ => ?_)
                refine r_ic (x := 1) rfl rfl ?_
                refine r_goto (tg := 18) rfl rfl ?_
                refine r_zret rfl (.inr rfl) ?_
                show WR _ cd_168 42 [some (.ref (ad 30)), some (.int (nI t4)), some (.int 8), some (.int (nI k6))] [.int 1] (sI (sI h (ad 0) 6 0) (ad 0) 6 (-12)) _
                refine r_if_ne (tg := 49) rfl rfl (fun _ => ?_) (fun q => absurd q (by decide))
                refine r_ic (x := 0) rfl rfl ?_
                refine r_iret rfl ?_
                show WR _ cd_173 13 [some (.ref (ad 30)), some (.int (nI k2)), some (.int (nI k6)), some (.int j), none, none] [.int 0] (sI (sI h (ad 0) 6 0) (ad 0) 6 (-12)) _
                refine r_istore (lv' := [some (.ref (ad 30)), some (.int (nI k2)), some (.int (nI k6)), some (.int j), some (.int 0), none]) rfl (Nat.le_of_ble_eq_true rfl) rfl ?_
                refine r_iload rfl rfl ?_
                refine r_if_le (tg := 24) rfl rfl (fun _ => ?_) (fun q => absurd q (by decide))
                refine r_aload rfl rfl ?_
                refine r_getA (b := ad 36) rfl ⟨rfl, rfl, rfl⟩ (fx_t30 fx) (fx_r30_5 fx) ?_
                refine r_ic (x := 30) rfl rfl ?_
                refine r_aload rfl rfl ?_
                refine r_getA (b := ad 31) rfl ⟨rfl, rfl, rfl⟩ (fx_t30 fx) (fx_r30_0 fx) ?_
                refine r_iload rfl rfl ?_
                refine r_iaload rfl (.inl (fx_t31 fx)) (vp_ct (fx_n31 fx) (vp_in_nI (by have := i_nlt c1; have := i_rg c; have : (0 : Int32).toInt = 0 := rfl; have := i_eq ek2; have : (nI k2).toInt = ((k2 : Nat) : Int) := nI_toInt (by omega); have := i_nle c3; have : (24 : Int32).toInt = 24 := rfl; omega) (by omega))) ?_
                refine WR_tI (congrArg (hI (sI (sI h (ad 0) 6 0) (ad 0) 6 (-12)) (ad 31)) ((nI_clamp (by have := i_nlt c1; have := i_rg c; have : (0 : Int32).toInt = 0 := rfl; have := i_eq ek2; have : (nI k2).toInt = ((k2 : Nat) : Int) := nI_toInt (by omega); have := i_nle c3; have : (24 : Int32).toInt = 24 := rfl; omega)) : _ = k2)) ?_
                refine WR_tI (y := nI t4) (Eq.trans (I_ne (fx_ne fx (by decide))) (Eq.trans (I_ne (fx_ne fx (by decide))) v4)) ?_
                refine r_imul rfl ?_
                refine WR_tI (y := nI (30 * t4)) (Eq.trans (pk_mul 30 t4) (congrArg nI (by omega))) ?_
                refine r_iload rfl rfl ?_
                refine r_iadd rfl ?_
                refine WR_tI (y := nI (30 * t4 + k6)) (Eq.trans (nI_add (30 * t4) k6) (congrArg nI (by have := i_nlt c5; have := i_rg i; have : (0 : Int32).toInt = 0 := rfl; have := i_eq ek6; have : (nI k6).toInt = ((k6 : Nat) : Int) := nI_toInt (by omega); have := i_nlt c7; have : (1 : Int32).toInt = 1 := rfl; have : (nI sz4).toInt = ((sz4 : Nat) : Int) := nI_toInt (by omega); have := sub_t (x := nI sz4) (y := nI k6) (by have := i_nlt c5; have := i_rg i; have : (0 : Int32).toInt = 0 := rfl; have := i_eq ek6; have : (nI k6).toInt = ((k6 : Nat) : Int) := nI_toInt (by omega); have : (nI sz4).toInt = ((sz4 : Nat) : Int) := nI_toInt (by omega); omega) (by have := i_nlt c5; have := i_rg i; have : (0 : Int32).toInt = 0 := rfl; have := i_eq ek6; have : (nI k6).toInt = ((k6 : Nat) : Int) := nI_toInt (by omega); have : (nI sz4).toInt = ((sz4 : Nat) : Int) := nI_toInt (by omega); omega); omega))) ?_
                refine r_laload rfl (fx_t36 fx) (vp_ct (fx_n36 fx) (vp_in_nI (by have := i_nlt c5; have := i_rg i; have : (0 : Int32).toInt = 0 := rfl; have := i_eq ek6; have : (nI k6).toInt = ((k6 : Nat) : Int) := nI_toInt (by omega); have := i_nlt c7; have : (1 : Int32).toInt = 1 := rfl; have : (nI sz4).toInt = ((sz4 : Nat) : Int) := nI_toInt (by omega); have := sub_t (x := nI sz4) (y := nI k6) (by have := i_nlt c5; have := i_rg i; have : (0 : Int32).toInt = 0 := rfl; have := i_eq ek6; have : (nI k6).toInt = ((k6 : Nat) : Int) := nI_toInt (by omega); have : (nI sz4).toInt = ((sz4 : Nat) : Int) := nI_toInt (by omega); omega) (by have := i_nlt c5; have := i_rg i; have : (0 : Int32).toInt = 0 := rfl; have := i_eq ek6; have : (nI k6).toInt = ((k6 : Nat) : Int) := nI_toInt (by omega); have : (nI sz4).toInt = ((sz4 : Nat) : Int) := nI_toInt (by omega); omega); omega) (by omega))) ?_
                refine WR_tL (congrArg (hL (sI (sI h (ad 0) 6 0) (ad 0) 6 (-12)) (ad 36)) ((nI_clamp (by have := i_nlt c5; have := i_rg i; have : (0 : Int32).toInt = 0 := rfl; have := i_eq ek6; have : (nI k6).toInt = ((k6 : Nat) : Int) := nI_toInt (by omega); have := i_nlt c7; have : (1 : Int32).toInt = 1 := rfl; have : (nI sz4).toInt = ((sz4 : Nat) : Int) := nI_toInt (by omega); have := sub_t (x := nI sz4) (y := nI k6) (by have := i_nlt c5; have := i_rg i; have : (0 : Int32).toInt = 0 := rfl; have := i_eq ek6; have : (nI k6).toInt = ((k6 : Nat) : Int) := nI_toInt (by omega); have : (nI sz4).toInt = ((sz4 : Nat) : Int) := nI_toInt (by omega); omega) (by have := i_nlt c5; have := i_rg i; have : (0 : Int32).toInt = 0 := rfl; have := i_eq ek6; have : (nI k6).toInt = ((k6 : Nat) : Int) := nI_toInt (by omega); have : (nI sz4).toInt = ((sz4 : Nat) : Int) := nI_toInt (by omega); omega); omega)) : _ = 30 * t4 + k6)) ?_
                refine WR_tL (y := lN t8) (Eq.trans L_oI (Eq.trans L_oI v8)) ?_
                refine r_l2i rfl ?_
                refine WR_tI (y := nI t8) (lN_i _) ?_
                refine r_istore (lv' := [some (.ref (ad 30)), some (.int (nI k2)), some (.int (nI k6)), some (.int j), some (.int 0), some (.int (nI t8))]) rfl (Nat.le_of_ble_eq_true rfl) rfl ?_
                refine r_iload rfl rfl ?_
                refine r_ic (x := (-1)) rfl rfl ?_
                refine r_icmp_ne (tg := 51) rfl rfl (fun _ => ?_) (fun q => False.elim (by have : (nI t8).toInt = ((t8 : Nat) : Int) := nI_toInt (by omega); have : (-1 : Int32).toInt = -1 := rfl; have := i_eq q; omega))
                refine r_iload rfl rfl ?_
                refine r_i2l rfl ?_
                refine r_lc (x := 0) rfl rfl ?_
                refine r_aload rfl rfl ?_
                refine r_getA (b := ad 35) rfl ⟨rfl, rfl, rfl⟩ (fx_t30 fx) (fx_r30_4 fx) ?_
                refine r_iload rfl rfl ?_
                refine r_iaload rfl (.inl (fx_t35 fx)) (vp_ct (fx_n35 fx) (vp_in_nI (by omega) (by omega))) ?_
                refine WR_tI (congrArg (hI (sI (sI h (ad 0) 6 0) (ad 0) 6 (-12)) (ad 35)) ((nI_clamp (by omega)) : _ = t8)) ?_
                refine WR_tI (y := nI sz8) (Eq.trans (I_ne (fx_ne fx (by decide))) (Eq.trans (I_ne (fx_ne fx (by decide))) sz_8)) ?_
                refine r_ic (x := 1) rfl rfl ?_
                refine r_isub rfl ?_
                refine r_i2l rfl ?_
                refine r_cs (y := 155) (ra := [.long (((nI sz8) - 1).toInt64), .long 0, .long j.toInt64]) (rest := []) rfl ⟨⟨rfl, rfl⟩, by decide⟩ rfl rfl (Nat.le_of_ble_eq_true rfl) ?_
                refine in_155 (Nat.le_of_ble_eq_true rfl) ?_
                show WR _ cd_155 0 [some (.long j.toInt64), none, some (.long 0), none, some (.long (((nI sz8) - 1).toInt64)), none] [] (sI (sI h (ad 0) 6 0) (ad 0) 6 (-12)) _
                refine r_lload rfl rfl ?_
                refine r_lload rfl rfl ?_
                refine r_lif_lt (tg := 17) rfl rfl rfl (fun _ => ?_) (fun q => False.elim (by have := i_lt c9; have := i_rg j; have : (0 : Int32).toInt = 0 := rfl; have := w_t j; have : (0 : Int64).toInt = 0 := rfl; have := l_nlt q; omega))
                refine r_ic (x := 0) rfl rfl ?_
                refine r_zret rfl (.inl rfl) ?_
                show WR _ cd_173 67 [some (.ref (ad 30)), some (.int (nI k2)), some (.int (nI k6)), some (.int j), some (.int 0), some (.int (nI t8))] [.int 0] (sI (sI h (ad 0) 6 0) (ad 0) 6 (-12)) _
                refine r_if_eq (tg := 80) rfl rfl (fun _ => ?_) (fun q => absurd q (by decide))
                refine r_ic (x := (-2)) rfl rfl ?_
                refine r_iret rfl ?_
                show WR _ cd_174 22 [some (.ref (ad 30)), some (.int c), some (.int i), some (.int j), none] [.int (-2)] (sI (sI h (ad 0) 6 0) (ad 0) 6 (-12)) _
                refine r_istore (lv' := [some (.ref (ad 30)), some (.int c), some (.int i), some (.int j), some (.int (-2))]) rfl (Nat.le_of_ble_eq_true rfl) rfl ?_
                refine r_iload rfl rfl ?_
                refine r_if_ge (tg := 40) rfl rfl (fun q => absurd q (by decide)) (fun _ => ?_)
                refine r_aload rfl rfl ?_
                refine r_ic (x := (-10)) rfl rfl ?_
                refine r_iload rfl rfl ?_
                refine r_iadd rfl ?_
                refine WR_tI (y := (-12)) rfl ?_
                refine r_cv (y := 171) (ra := [.int (-12)]) (rest := []) rfl ⟨⟨rfl, rfl⟩, rfl, by decide⟩ (fx_t30 fx) rfl rfl (Nat.le_of_ble_eq_true rfl) ?_
                refine in_171 (Nat.le_of_ble_eq_true rfl) ?_
                show WR _ cd_171 0 [some (.ref (ad 30)), some (.int (-12))] [] (sI (sI h (ad 0) 6 0) (ad 0) 6 (-12)) _
                refine r_aload rfl rfl ?_
                refine r_iload rfl rfl ?_
                refine r_putI rfl ⟨rfl, rfl, rfl⟩ (fx_t30 fx) ?_
                refine r_lc (x := 0) rfl rfl ?_
                refine r_lret rfl ?_
                show WR _ cd_174 38 [some (.ref (ad 30)), some (.int c), some (.int i), some (.int j), some (.int (-2))] [.long 0] (sI (sI (sI h (ad 0) 6 0) (ad 0) 6 (-12)) (ad 30) 11 (-12)) _
                refine r_l2i rfl ?_
                refine WR_tI (y := 0) rfl ?_
                refine r_iret rfl ?_
                exact ⟨rfl, Rel.why r (((Chg.rf.sI (fx_j fx) (.inl (by decide))).sI (fx_j fx) (.inl (by decide))).sI (fx_j fx) (.inl (by decide))) ⟨rfl, by decide⟩ (Eq.trans (Eq.trans (I_ne (fx_ne fx (by decide))) I_eq) (Eq.symm I_eq)), Nat.le_add_right _ _, Nat.le_add_right _ _⟩
              · refine r_iload rfl rfl ?_
                refine r_if_lt (tg := 22) rfl rfl (fun q => absurd q (by decide)) (fun _ => ?_)
                refine r_iload rfl rfl ?_
                refine r_aload rfl rfl ?_
                refine r_cw (y := 34) (ra := []) (rest := [.int 1]) rfl ⟨rfl, rfl⟩ (by rw [show hT (sI h (ad 0) 6 0) (mid t8) = 5 from tg8]; rfl) rfl rfl (Nat.le_of_ble_eq_true rfl) ?_
                refine in_34 (Nat.le_of_ble_eq_true rfl) ?_
                show WR _ cd_34 0 [some (.ref (mid t8))] [] (sI h (ad 0) 6 0) _
                refine r_aload rfl rfl ?_
                refine r_getA (b := mid t8 + 1) rfl ⟨rfl, rfl, rfl⟩ tg8 (Eq.trans R_oI r_8) ?_
                refine r_alen rfl (isA_of tg2_8 (by decide)) ?_
                refine WR_tI (y := nI sz8) (congrArg nI n_8) ?_
                refine r_iret rfl ?_
                show WR _ cd_32 13 [some (.ref (mid t8)), some (.int j), some (.int 1)] [.int (nI sz8), .int 1] (sI h (ad 0) 6 0) _
                obtain ⟨k10, hk10, ek10⟩ := ix_of (x := j) (n := 2147483648) (by have := i_nlt c9; have := i_rg j; have : (0 : Int32).toInt = 0 := rfl; omega) (by have := i_nlt c9; have := i_rg j; have : (0 : Int32).toInt = 0 := rfl; omega)
                refine r_iload rfl rfl ?_
                refine WR_tI (y := nI k10) ek10 ?_
                refine r_isub rfl ?_
                refine r_icmp_gt (tg := 22) rfl rfl (fun c11 => ?_) (fun c11 => ?_)
                · refine r_ic (x := 0) rfl rfl ?_
                  refine r_zret rfl (.inl rfl) ?_
                  show WR _ cd_42 81 [some (.ref (ad 0)), some (.int c), some (.int i), some (.int j), some (.ref (mid t4)), some (.ref (mid t8)), some (.ref (mid t8))] [.int 0, .ref (ad 0)] (sI h (ad 0) 6 0) _
                  refine r_if_eq (tg := 88) rfl rfl (fun _ => ?_) (fun q => absurd q (by decide))
                  refine r_ic (x := (-12)) rfl rfl ?_
                  refine r_putI rfl ⟨rfl, rfl, rfl⟩ (fx_t0 fx) ?_
                  refine r_aload rfl rfl ?_
                  refine r_getI rfl ⟨rfl, rfl, rfl⟩ (fx_t0 fx) ?_
                  refine WR_tI (y := (-12)) I_eq ?_
                  refine r_if_ne (tg := 105) rfl rfl (fun _ => ?_) (fun q => absurd q (by decide))
                  refine r_null rfl ?_
                  refine r_aret0 rfl ?_
                  show WR _ cd_44 12 [some (.ref (ad 0)), some (.int c), some (.int i), some (.int j), none] [.null] (sI (sI h (ad 0) 6 0) (ad 0) 6 (-12)) _
                  refine r_astore0 (lv' := [some (.ref (ad 0)), some (.int c), some (.int i), some (.int j), some (.null)]) rfl (Nat.le_of_ble_eq_true rfl) rfl ?_
                  refine r_aload0 rfl rfl ?_
                  refine r_ifnonnullN (tg := 23) rfl rfl ?_
                  refine r_ic (x := 0) rfl rfl ?_
                  refine r_goto (tg := 31) rfl rfl ?_
                  refine r_iret rfl ?_
                  show EV _ 174 [.ref (ad 30), .int c, .int i, .int j] (sI (sI h (ad 0) 6 0) (ad 0) 6 (-12)) _
                  refine in_174 (Nat.le_of_ble_eq_true rfl) ?_
                  show WR _ cd_174 0 [some (.ref (ad 30)), some (.int c), some (.int i), some (.int j), none] [] (sI (sI h (ad 0) 6 0) (ad 0) 6 (-12)) _
                  refine r_iload rfl rfl ?_
                  refine WR_tI (y := nI k2) ek2 ?_
                  refine r_cs (y := 153) (ra := [.int (nI k2)]) (rest := []) rfl ⟨⟨rfl, rfl⟩, by decide⟩ rfl rfl (Nat.le_of_ble_eq_true rfl) ?_
                  refine in_153 (Nat.le_of_ble_eq_true rfl) ?_
                  show WR _ cd_153 0 [some (.int (nI k2))] [] (sI (sI h (ad 0) 6 0) (ad 0) 6 (-12)) _
                  refine r_iload rfl rfl ?_
                  refine r_if_lt (tg := 14) rfl rfl (fun q => False.elim (by have := i_nlt c1; have := i_rg c; have : (0 : Int32).toInt = 0 := rfl; have := i_eq ek2; have : (nI k2).toInt = ((k2 : Nat) : Int) := nI_toInt (by omega); have := i_nle c3; have : (24 : Int32).toInt = 24 := rfl; have := i_lt q; omega)) (fun _ => ?_)
                  refine r_iload rfl rfl ?_
                  refine r_ic (x := 24) rfl rfl ?_
                  refine r_icmp_ge (tg := 14) rfl rfl (fun q => False.elim (by have := i_nlt c1; have := i_rg c; have : (0 : Int32).toInt = 0 := rfl; have := i_eq ek2; have : (nI k2).toInt = ((k2 : Nat) : Int) := nI_toInt (by omega); have := i_nle c3; have : (24 : Int32).toInt = 24 := rfl; have := i_le q; omega)) (fun _ => ?_)
                  refine r_ic (x := 1) rfl rfl ?_
                  refine r_goto (tg := 15) rfl rfl ?_
                  refine r_zret rfl (.inr rfl) ?_
                  show WR _ cd_174 4 [some (.ref (ad 30)), some (.int c), some (.int i), some (.int j), none] [.int 1] (sI (sI h (ad 0) 6 0) (ad 0) 6 (-12)) _
                  refine r_if_ne (tg := 15) rfl rfl (fun _ => ?_) (fun q => absurd q (by decide))
                  refine r_aload rfl rfl ?_
                  refine r_iload rfl rfl ?_
                  refine WR_tI (y := nI k2) ek2 ?_
                  refine r_iload rfl rfl ?_
                  refine WR_tI (y := nI k6) ek6 ?_
                  refine r_iload rfl rfl ?_
                  refine WR_tI (y := nI k10) ek10 ?_
                  refine r_cv (y := 173) (ra := [.int (nI k10), .int (nI k6), .int (nI k2)]) (rest := []) rfl ⟨⟨rfl, rfl⟩, rfl, by decide⟩ (fx_t30 fx) rfl rfl (Nat.le_of_ble_eq_true rfl) ?_
                  refine in_173 (Nat.le_of_ble_eq_true rfl) ?_
                  show WR _ cd_173 0 [some (.ref (ad 30)), some (.int (nI k2)), some (.int (nI k6)), some (.int (nI k10)), none, none] [] (sI (sI h (ad 0) 6 0) (ad 0) 6 (-12)) _
                  refine r_aload rfl rfl ?_
                  refine r_aload rfl rfl ?_
                  refine r_getA (b := ad 31) rfl ⟨rfl, rfl, rfl⟩ (fx_t30 fx) (fx_r30_0 fx) ?_
                  refine r_iload rfl rfl ?_
                  refine r_iaload rfl (.inl (fx_t31 fx)) (vp_ct (fx_n31 fx) (vp_in_nI (by have := i_nlt c1; have := i_rg c; have : (0 : Int32).toInt = 0 := rfl; have := i_eq ek2; have : (nI k2).toInt = ((k2 : Nat) : Int) := nI_toInt (by omega); have := i_nle c3; have : (24 : Int32).toInt = 24 := rfl; omega) (by omega))) ?_
                  refine WR_tI (congrArg (hI (sI (sI h (ad 0) 6 0) (ad 0) 6 (-12)) (ad 31)) ((nI_clamp (by have := i_nlt c1; have := i_rg c; have : (0 : Int32).toInt = 0 := rfl; have := i_eq ek2; have : (nI k2).toInt = ((k2 : Nat) : Int) := nI_toInt (by omega); have := i_nle c3; have : (24 : Int32).toInt = 24 := rfl; omega)) : _ = k2)) ?_
                  refine WR_tI (y := nI t4) (Eq.trans (I_ne (fx_ne fx (by decide))) (Eq.trans (I_ne (fx_ne fx (by decide))) v4)) ?_
                  refine r_ic (x := 8) rfl rfl ?_
                  refine r_iload rfl rfl ?_
                  refine r_cv (y := 168) (ra := [.int (nI k6), .int 8, .int (nI t4)]) (rest := []) rfl ⟨⟨rfl, rfl⟩, rfl, by decide⟩ (fx_t30 fx) rfl rfl (Nat.le_of_ble_eq_true rfl) ?_
                  refine in_168 (Nat.le_of_ble_eq_true rfl) ?_
                  show WR _ cd_168 0 [some (.ref (ad 30)), some (.int (nI t4)), some (.int 8), some (.int (nI k6))] [] (sI (sI h (ad 0) 6 0) (ad 0) 6 (-12)) _
                  refine r_iload rfl rfl ?_
                  refine r_ic (x := (-1)) rfl rfl ?_
                  refine r_icmp_eq (tg := 18) rfl rfl (fun q => False.elim (by have : (nI t4).toInt = ((t4 : Nat) : Int) := nI_toInt (by omega); have : (-1 : Int32).toInt = -1 := rfl; have := i_eq q; omega)) (fun _ => ?_)
                  refine r_aload rfl rfl ?_
                  refine r_iload rfl rfl ?_
                  refine r_cv (y := 166) (ra := [.int (nI t4)]) (rest := []) rfl ⟨⟨rfl, rfl⟩, rfl, by decide⟩ (fx_t30 fx) rfl rfl (Nat.le_of_ble_eq_true rfl) ?_
                  refine in_166 (Nat.le_of_ble_eq_true rfl) ?_
                  show WR _ cd_166 0 [some (.ref (ad 30)), some (.int (nI t4))] [] (sI (sI h (ad 0) 6 0) (ad 0) 6 (-12)) _
                  refine r_iload rfl rfl ?_
                  refine r_ic (x := (-1)) rfl rfl ?_
                  refine r_icmp_ne (tg := 9) rfl rfl (fun _ => ?_) (fun q => False.elim (by have : (nI t4).toInt = ((t4 : Nat) : Int) := nI_toInt (by omega); have : (-1 : Int32).toInt = -1 := rfl; have := i_eq q; omega))
                  refine r_iload rfl rfl ?_
                  refine r_ic (x := 1000) rfl rfl ?_
                  refine r_icmp_lt (tg := 21) rfl rfl (fun _ => ?_) (fun q => False.elim (by have : (nI t4).toInt = ((t4 : Nat) : Int) := nI_toInt (by omega); have : (1000 : Int32).toInt = 1000 := rfl; have := i_nlt q; omega))
                  refine r_aload rfl rfl ?_
                  refine r_getA (b := ad 33) rfl ⟨rfl, rfl, rfl⟩ (fx_t30 fx) (fx_r30_2 fx) ?_
                  refine r_iload rfl rfl ?_
                  refine r_iaload rfl (.inl (fx_t33 fx)) (vp_ct (fx_n33 fx) (vp_in_nI (by omega) (by omega))) ?_
                  refine WR_tI (congrArg (hI (sI (sI h (ad 0) 6 0) (ad 0) 6 (-12)) (ad 33)) ((nI_clamp (by omega)) : _ = t4)) ?_
                  refine WR_tI (y := 8) (Eq.trans (I_ne (fx_ne fx (by decide))) (Eq.trans (I_ne (fx_ne fx (by decide))) l2_4)) ?_
                  refine r_iret rfl ?_
                  show WR _ cd_168 10 [some (.ref (ad 30)), some (.int (nI t4)), some (.int 8), some (.int (nI k6))] [.int 8] (sI (sI h (ad 0) 6 0) (ad 0) 6 (-12)) _
                  refine r_iload rfl rfl ?_
                  refine r_icmp_eq (tg := 18) rfl rfl (fun _ => ?_) (fun q => absurd q (by decide))
                  refine r_iload rfl rfl ?_
                  refine r_ic (x := (-1)) rfl rfl ?_
                  refine r_icmp_ne (tg := 27) rfl rfl (fun _ => ?_) (fun q => False.elim (by have : (nI t4).toInt = ((t4 : Nat) : Int) := nI_toInt (by omega); have : (-1 : Int32).toInt = -1 := rfl; have := i_eq q; omega))
                  refine r_iload rfl rfl ?_
                  refine r_i2l rfl ?_
                  refine WR_tL (y := lN k6) (nI_l (by have := i_nlt c5; have := i_rg i; have : (0 : Int32).toInt = 0 := rfl; have := i_eq ek6; have : (nI k6).toInt = ((k6 : Nat) : Int) := nI_toInt (by omega); have := i_nlt c7; have : (1 : Int32).toInt = 1 := rfl; have : (nI sz4).toInt = ((sz4 : Nat) : Int) := nI_toInt (by omega); have := sub_t (x := nI sz4) (y := nI k6) (by have := i_nlt c5; have := i_rg i; have : (0 : Int32).toInt = 0 := rfl; have := i_eq ek6; have : (nI k6).toInt = ((k6 : Nat) : Int) := nI_toInt (by omega); have : (nI sz4).toInt = ((sz4 : Nat) : Int) := nI_toInt (by omega); omega) (by have := i_nlt c5; have := i_rg i; have : (0 : Int32).toInt = 0 := rfl; have := i_eq ek6; have : (nI k6).toInt = ((k6 : Nat) : Int) := nI_toInt (by omega); have : (nI sz4).toInt = ((sz4 : Nat) : Int) := nI_toInt (by omega); omega); omega)) ?_
                  refine r_lc (x := 0) rfl rfl ?_
                  refine r_aload rfl rfl ?_
                  refine r_getA (b := ad 35) rfl ⟨rfl, rfl, rfl⟩ (fx_t30 fx) (fx_r30_4 fx) ?_
                  refine r_iload rfl rfl ?_
                  refine r_iaload rfl (.inl (fx_t35 fx)) (vp_ct (fx_n35 fx) (vp_in_nI (by omega) (by omega))) ?_
                  refine WR_tI (congrArg (hI (sI (sI h (ad 0) 6 0) (ad 0) 6 (-12)) (ad 35)) ((nI_clamp (by omega)) : _ = t4)) ?_
                  refine WR_tI (y := nI sz4) (Eq.trans (I_ne (fx_ne fx (by decide))) (Eq.trans (I_ne (fx_ne fx (by decide))) sz_4)) ?_
                  refine r_ic (x := 1) rfl rfl ?_
                  refine r_isub rfl ?_
                  refine WR_tI (y := nI (sz4 - 1)) (Eq.trans (pk_sub (a := sz4) (b := 1) (by have := i_nlt c5; have := i_rg i; have : (0 : Int32).toInt = 0 := rfl; have := i_eq ek6; have : (nI k6).toInt = ((k6 : Nat) : Int) := nI_toInt (by omega); have := i_nlt c7; have : (1 : Int32).toInt = 1 := rfl; have : (nI sz4).toInt = ((sz4 : Nat) : Int) := nI_toInt (by omega); have := sub_t (x := nI sz4) (y := nI k6) (by have := i_nlt c5; have := i_rg i; have : (0 : Int32).toInt = 0 := rfl; have := i_eq ek6; have : (nI k6).toInt = ((k6 : Nat) : Int) := nI_toInt (by omega); have : (nI sz4).toInt = ((sz4 : Nat) : Int) := nI_toInt (by omega); omega) (by have := i_nlt c5; have := i_rg i; have : (0 : Int32).toInt = 0 := rfl; have := i_eq ek6; have : (nI k6).toInt = ((k6 : Nat) : Int) := nI_toInt (by omega); have : (nI sz4).toInt = ((sz4 : Nat) : Int) := nI_toInt (by omega); omega); omega)) (congrArg nI (by have := i_nlt c5; have := i_rg i; have : (0 : Int32).toInt = 0 := rfl; have := i_eq ek6; have : (nI k6).toInt = ((k6 : Nat) : Int) := nI_toInt (by omega); have := i_nlt c7; have : (1 : Int32).toInt = 1 := rfl; have : (nI sz4).toInt = ((sz4 : Nat) : Int) := nI_toInt (by omega); have := sub_t (x := nI sz4) (y := nI k6) (by have := i_nlt c5; have := i_rg i; have : (0 : Int32).toInt = 0 := rfl; have := i_eq ek6; have : (nI k6).toInt = ((k6 : Nat) : Int) := nI_toInt (by omega); have : (nI sz4).toInt = ((sz4 : Nat) : Int) := nI_toInt (by omega); omega) (by have := i_nlt c5; have := i_rg i; have : (0 : Int32).toInt = 0 := rfl; have := i_eq ek6; have : (nI k6).toInt = ((k6 : Nat) : Int) := nI_toInt (by omega); have : (nI sz4).toInt = ((sz4 : Nat) : Int) := nI_toInt (by omega); omega); omega))) ?_
                  refine r_i2l rfl ?_
                  refine WR_tL (y := lN (sz4 - 1)) (nI_l (by have := i_nlt c5; have := i_rg i; have : (0 : Int32).toInt = 0 := rfl; have := i_eq ek6; have : (nI k6).toInt = ((k6 : Nat) : Int) := nI_toInt (by omega); have := i_nlt c7; have : (1 : Int32).toInt = 1 := rfl; have : (nI sz4).toInt = ((sz4 : Nat) : Int) := nI_toInt (by omega); have := sub_t (x := nI sz4) (y := nI k6) (by have := i_nlt c5; have := i_rg i; have : (0 : Int32).toInt = 0 := rfl; have := i_eq ek6; have : (nI k6).toInt = ((k6 : Nat) : Int) := nI_toInt (by omega); have : (nI sz4).toInt = ((sz4 : Nat) : Int) := nI_toInt (by omega); omega) (by have := i_nlt c5; have := i_rg i; have : (0 : Int32).toInt = 0 := rfl; have := i_eq ek6; have : (nI k6).toInt = ((k6 : Nat) : Int) := nI_toInt (by omega); have : (nI sz4).toInt = ((sz4 : Nat) : Int) := nI_toInt (by omega); omega); omega)) ?_
                  refine r_cs (y := 155) (ra := [.long (lN (sz4 - 1)), .long 0, .long (lN k6)]) (rest := []) rfl ⟨⟨rfl, rfl⟩, by decide⟩ rfl rfl (Nat.le_of_ble_eq_true rfl) ?_
                  refine in_155 (Nat.le_of_ble_eq_true rfl) ?_
                  show WR _ cd_155 0 [some (.long (lN k6)), none, some (.long 0), none, some (.long (lN (sz4 - 1))), none] [] (sI (sI h (ad 0) 6 0) (ad 0) 6 (-12)) _
                  refine r_lload rfl rfl ?_
                  refine r_lload rfl rfl ?_
                  refine r_lif_lt (tg := 17) rfl rfl rfl (fun q => False.elim (by have := i_nlt c5; have := i_rg i; have : (0 : Int32).toInt = 0 := rfl; have := i_eq ek6; have : (nI k6).toInt = ((k6 : Nat) : Int) := nI_toInt (by omega); have := i_nlt c7; have : (1 : Int32).toInt = 1 := rfl; have : (nI sz4).toInt = ((sz4 : Nat) : Int) := nI_toInt (by omega); have := sub_t (x := nI sz4) (y := nI k6) (by have := i_nlt c5; have := i_rg i; have : (0 : Int32).toInt = 0 := rfl; have := i_eq ek6; have : (nI k6).toInt = ((k6 : Nat) : Int) := nI_toInt (by omega); have : (nI sz4).toInt = ((sz4 : Nat) : Int) := nI_toInt (by omega); omega) (by have := i_nlt c5; have := i_rg i; have : (0 : Int32).toInt = 0 := rfl; have := i_eq ek6; have : (nI k6).toInt = ((k6 : Nat) : Int) := nI_toInt (by omega); have : (nI sz4).toInt = ((sz4 : Nat) : Int) := nI_toInt (by omega); omega); have : (lN k6).toInt = ((k6 : Nat) : Int) := lN_toInt (by omega); have : (0 : Int64).toInt = 0 := rfl; have := l_lt q; omega)) (fun _ => ?_)
                  refine r_lload rfl rfl ?_
                  refine r_lload rfl rfl ?_
                  refine r_lif_gt (tg := 17) rfl rfl rfl (fun q => False.elim (by have := i_nlt c5; have := i_rg i; have : (0 : Int32).toInt = 0 := rfl; have := i_eq ek6; have : (nI k6).toInt = ((k6 : Nat) : Int) := nI_toInt (by omega); have := i_nlt c7; have : (1 : Int32).toInt = 1 := rfl; have : (nI sz4).toInt = ((sz4 : Nat) : Int) := nI_toInt (by omega); have := sub_t (x := nI sz4) (y := nI k6) (by have := i_nlt c5; have := i_rg i; have : (0 : Int32).toInt = 0 := rfl; have := i_eq ek6; have : (nI k6).toInt = ((k6 : Nat) : Int) := nI_toInt (by omega); have : (nI sz4).toInt = ((sz4 : Nat) : Int) := nI_toInt (by omega); omega) (by have := i_nlt c5; have := i_rg i; have : (0 : Int32).toInt = 0 := rfl; have := i_eq ek6; have : (nI k6).toInt = ((k6 : Nat) : Int) := nI_toInt (by omega); have : (nI sz4).toInt = ((sz4 : Nat) : Int) := nI_toInt (by omega); omega); have : (lN k6).toInt = ((k6 : Nat) : Int) := lN_toInt (by omega); have : (lN (sz4 - 1)).toInt = ((sz4 - 1 : Nat) : Int) := lN_toInt (by omega); have := l_lt q; omega)) (fun _ => ?_)
                  refine r_ic (x := 1) rfl rfl ?_
                  refine r_goto (tg := 18) rfl rfl ?_
                  refine r_zret rfl (.inr rfl) ?_
                  show WR _ cd_168 42 [some (.ref (ad 30)), some (.int (nI t4)), some (.int 8), some (.int (nI k6))] [.int 1] (sI (sI h (ad 0) 6 0) (ad 0) 6 (-12)) _
                  refine r_if_ne (tg := 49) rfl rfl (fun _ => ?_) (fun q => absurd q (by decide))
                  refine r_ic (x := 0) rfl rfl ?_
                  refine r_iret rfl ?_
                  show WR _ cd_173 13 [some (.ref (ad 30)), some (.int (nI k2)), some (.int (nI k6)), some (.int (nI k10)), none, none] [.int 0] (sI (sI h (ad 0) 6 0) (ad 0) 6 (-12)) _
                  refine r_istore (lv' := [some (.ref (ad 30)), some (.int (nI k2)), some (.int (nI k6)), some (.int (nI k10)), some (.int 0), none]) rfl (Nat.le_of_ble_eq_true rfl) rfl ?_
                  refine r_iload rfl rfl ?_
                  refine r_if_le (tg := 24) rfl rfl (fun _ => ?_) (fun q => absurd q (by decide))
                  refine r_aload rfl rfl ?_
                  refine r_getA (b := ad 36) rfl ⟨rfl, rfl, rfl⟩ (fx_t30 fx) (fx_r30_5 fx) ?_
                  refine r_ic (x := 30) rfl rfl ?_
                  refine r_aload rfl rfl ?_
                  refine r_getA (b := ad 31) rfl ⟨rfl, rfl, rfl⟩ (fx_t30 fx) (fx_r30_0 fx) ?_
                  refine r_iload rfl rfl ?_
                  refine r_iaload rfl (.inl (fx_t31 fx)) (vp_ct (fx_n31 fx) (vp_in_nI (by have := i_nlt c1; have := i_rg c; have : (0 : Int32).toInt = 0 := rfl; have := i_eq ek2; have : (nI k2).toInt = ((k2 : Nat) : Int) := nI_toInt (by omega); have := i_nle c3; have : (24 : Int32).toInt = 24 := rfl; omega) (by omega))) ?_
                  refine WR_tI (congrArg (hI (sI (sI h (ad 0) 6 0) (ad 0) 6 (-12)) (ad 31)) ((nI_clamp (by have := i_nlt c1; have := i_rg c; have : (0 : Int32).toInt = 0 := rfl; have := i_eq ek2; have : (nI k2).toInt = ((k2 : Nat) : Int) := nI_toInt (by omega); have := i_nle c3; have : (24 : Int32).toInt = 24 := rfl; omega)) : _ = k2)) ?_
                  refine WR_tI (y := nI t4) (Eq.trans (I_ne (fx_ne fx (by decide))) (Eq.trans (I_ne (fx_ne fx (by decide))) v4)) ?_
                  refine r_imul rfl ?_
                  refine WR_tI (y := nI (30 * t4)) (Eq.trans (pk_mul 30 t4) (congrArg nI (by omega))) ?_
                  refine r_iload rfl rfl ?_
                  refine r_iadd rfl ?_
                  refine WR_tI (y := nI (30 * t4 + k6)) (Eq.trans (nI_add (30 * t4) k6) (congrArg nI (by have := i_nlt c5; have := i_rg i; have : (0 : Int32).toInt = 0 := rfl; have := i_eq ek6; have : (nI k6).toInt = ((k6 : Nat) : Int) := nI_toInt (by omega); have := i_nlt c7; have : (1 : Int32).toInt = 1 := rfl; have : (nI sz4).toInt = ((sz4 : Nat) : Int) := nI_toInt (by omega); have := sub_t (x := nI sz4) (y := nI k6) (by have := i_nlt c5; have := i_rg i; have : (0 : Int32).toInt = 0 := rfl; have := i_eq ek6; have : (nI k6).toInt = ((k6 : Nat) : Int) := nI_toInt (by omega); have : (nI sz4).toInt = ((sz4 : Nat) : Int) := nI_toInt (by omega); omega) (by have := i_nlt c5; have := i_rg i; have : (0 : Int32).toInt = 0 := rfl; have := i_eq ek6; have : (nI k6).toInt = ((k6 : Nat) : Int) := nI_toInt (by omega); have : (nI sz4).toInt = ((sz4 : Nat) : Int) := nI_toInt (by omega); omega); omega))) ?_
                  refine r_laload rfl (fx_t36 fx) (vp_ct (fx_n36 fx) (vp_in_nI (by have := i_nlt c5; have := i_rg i; have : (0 : Int32).toInt = 0 := rfl; have := i_eq ek6; have : (nI k6).toInt = ((k6 : Nat) : Int) := nI_toInt (by omega); have := i_nlt c7; have : (1 : Int32).toInt = 1 := rfl; have : (nI sz4).toInt = ((sz4 : Nat) : Int) := nI_toInt (by omega); have := sub_t (x := nI sz4) (y := nI k6) (by have := i_nlt c5; have := i_rg i; have : (0 : Int32).toInt = 0 := rfl; have := i_eq ek6; have : (nI k6).toInt = ((k6 : Nat) : Int) := nI_toInt (by omega); have : (nI sz4).toInt = ((sz4 : Nat) : Int) := nI_toInt (by omega); omega) (by have := i_nlt c5; have := i_rg i; have : (0 : Int32).toInt = 0 := rfl; have := i_eq ek6; have : (nI k6).toInt = ((k6 : Nat) : Int) := nI_toInt (by omega); have : (nI sz4).toInt = ((sz4 : Nat) : Int) := nI_toInt (by omega); omega); omega) (by omega))) ?_
                  refine WR_tL (congrArg (hL (sI (sI h (ad 0) 6 0) (ad 0) 6 (-12)) (ad 36)) ((nI_clamp (by have := i_nlt c5; have := i_rg i; have : (0 : Int32).toInt = 0 := rfl; have := i_eq ek6; have : (nI k6).toInt = ((k6 : Nat) : Int) := nI_toInt (by omega); have := i_nlt c7; have : (1 : Int32).toInt = 1 := rfl; have : (nI sz4).toInt = ((sz4 : Nat) : Int) := nI_toInt (by omega); have := sub_t (x := nI sz4) (y := nI k6) (by have := i_nlt c5; have := i_rg i; have : (0 : Int32).toInt = 0 := rfl; have := i_eq ek6; have : (nI k6).toInt = ((k6 : Nat) : Int) := nI_toInt (by omega); have : (nI sz4).toInt = ((sz4 : Nat) : Int) := nI_toInt (by omega); omega) (by have := i_nlt c5; have := i_rg i; have : (0 : Int32).toInt = 0 := rfl; have := i_eq ek6; have : (nI k6).toInt = ((k6 : Nat) : Int) := nI_toInt (by omega); have : (nI sz4).toInt = ((sz4 : Nat) : Int) := nI_toInt (by omega); omega); omega)) : _ = 30 * t4 + k6)) ?_
                  refine WR_tL (y := lN t8) (Eq.trans L_oI (Eq.trans L_oI v8)) ?_
                  refine r_l2i rfl ?_
                  refine WR_tI (y := nI t8) (lN_i _) ?_
                  refine r_istore (lv' := [some (.ref (ad 30)), some (.int (nI k2)), some (.int (nI k6)), some (.int (nI k10)), some (.int 0), some (.int (nI t8))]) rfl (Nat.le_of_ble_eq_true rfl) rfl ?_
                  refine r_iload rfl rfl ?_
                  refine r_ic (x := (-1)) rfl rfl ?_
                  refine r_icmp_ne (tg := 51) rfl rfl (fun _ => ?_) (fun q => False.elim (by have : (nI t8).toInt = ((t8 : Nat) : Int) := nI_toInt (by omega); have : (-1 : Int32).toInt = -1 := rfl; have := i_eq q; omega))
                  refine r_iload rfl rfl ?_
                  refine r_i2l rfl ?_
                  refine WR_tL (y := lN k10) (nI_l (by have := i_nlt c9; have := i_rg j; have : (0 : Int32).toInt = 0 := rfl; have := i_eq ek10; have : (nI k10).toInt = ((k10 : Nat) : Int) := nI_toInt (by omega); have := i_lt c11; have : (1 : Int32).toInt = 1 := rfl; have : (nI sz8).toInt = ((sz8 : Nat) : Int) := nI_toInt (by omega); have := sub_t (x := nI sz8) (y := nI k10) (by have := i_nlt c9; have := i_rg j; have : (0 : Int32).toInt = 0 := rfl; have := i_eq ek10; have : (nI k10).toInt = ((k10 : Nat) : Int) := nI_toInt (by omega); have : (nI sz8).toInt = ((sz8 : Nat) : Int) := nI_toInt (by omega); omega) (by have := i_nlt c9; have := i_rg j; have : (0 : Int32).toInt = 0 := rfl; have := i_eq ek10; have : (nI k10).toInt = ((k10 : Nat) : Int) := nI_toInt (by omega); have : (nI sz8).toInt = ((sz8 : Nat) : Int) := nI_toInt (by omega); omega); omega)) ?_
                  refine r_lc (x := 0) rfl rfl ?_
                  refine r_aload rfl rfl ?_
                  refine r_getA (b := ad 35) rfl ⟨rfl, rfl, rfl⟩ (fx_t30 fx) (fx_r30_4 fx) ?_
                  refine r_iload rfl rfl ?_
                  refine r_iaload rfl (.inl (fx_t35 fx)) (vp_ct (fx_n35 fx) (vp_in_nI (by omega) (by omega))) ?_
                  refine WR_tI (congrArg (hI (sI (sI h (ad 0) 6 0) (ad 0) 6 (-12)) (ad 35)) ((nI_clamp (by omega)) : _ = t8)) ?_
                  refine WR_tI (y := nI sz8) (Eq.trans (I_ne (fx_ne fx (by decide))) (Eq.trans (I_ne (fx_ne fx (by decide))) sz_8)) ?_
                  refine r_ic (x := 1) rfl rfl ?_
                  refine r_isub rfl ?_
                  refine r_i2l rfl ?_
                  refine r_cs (y := 155) (ra := [.long (((nI sz8) - 1).toInt64), .long 0, .long (lN k10)]) (rest := []) rfl ⟨⟨rfl, rfl⟩, by decide⟩ rfl rfl (Nat.le_of_ble_eq_true rfl) ?_
                  refine in_155 (Nat.le_of_ble_eq_true rfl) ?_
                  show WR _ cd_155 0 [some (.long (lN k10)), none, some (.long 0), none, some (.long (((nI sz8) - 1).toInt64)), none] [] (sI (sI h (ad 0) 6 0) (ad 0) 6 (-12)) _
                  refine r_lload rfl rfl ?_
                  refine r_lload rfl rfl ?_
                  refine r_lif_lt (tg := 17) rfl rfl rfl (fun q => False.elim (by have := i_nlt c9; have := i_rg j; have : (0 : Int32).toInt = 0 := rfl; have := i_eq ek10; have : (nI k10).toInt = ((k10 : Nat) : Int) := nI_toInt (by omega); have := i_lt c11; have : (1 : Int32).toInt = 1 := rfl; have : (nI sz8).toInt = ((sz8 : Nat) : Int) := nI_toInt (by omega); have := sub_t (x := nI sz8) (y := nI k10) (by have := i_nlt c9; have := i_rg j; have : (0 : Int32).toInt = 0 := rfl; have := i_eq ek10; have : (nI k10).toInt = ((k10 : Nat) : Int) := nI_toInt (by omega); have : (nI sz8).toInt = ((sz8 : Nat) : Int) := nI_toInt (by omega); omega) (by have := i_nlt c9; have := i_rg j; have : (0 : Int32).toInt = 0 := rfl; have := i_eq ek10; have : (nI k10).toInt = ((k10 : Nat) : Int) := nI_toInt (by omega); have : (nI sz8).toInt = ((sz8 : Nat) : Int) := nI_toInt (by omega); omega); have : (lN k10).toInt = ((k10 : Nat) : Int) := lN_toInt (by omega); have : (0 : Int64).toInt = 0 := rfl; have := l_lt q; omega)) (fun _ => ?_)
                  refine r_lload rfl rfl ?_
                  refine r_lload rfl rfl ?_
                  refine r_lif_gt (tg := 17) rfl rfl rfl (fun _ => ?_) (fun q => False.elim (by have := i_nlt c9; have := i_rg j; have : (0 : Int32).toInt = 0 := rfl; have := i_eq ek10; have : (nI k10).toInt = ((k10 : Nat) : Int) := nI_toInt (by omega); have := i_lt c11; have : (1 : Int32).toInt = 1 := rfl; have : (nI sz8).toInt = ((sz8 : Nat) : Int) := nI_toInt (by omega); have := sub_t (x := nI sz8) (y := nI k10) (by have := i_nlt c9; have := i_rg j; have : (0 : Int32).toInt = 0 := rfl; have := i_eq ek10; have : (nI k10).toInt = ((k10 : Nat) : Int) := nI_toInt (by omega); have : (nI sz8).toInt = ((sz8 : Nat) : Int) := nI_toInt (by omega); omega) (by have := i_nlt c9; have := i_rg j; have : (0 : Int32).toInt = 0 := rfl; have := i_eq ek10; have : (nI k10).toInt = ((k10 : Nat) : Int) := nI_toInt (by omega); have : (nI sz8).toInt = ((sz8 : Nat) : Int) := nI_toInt (by omega); omega); have : (lN k10).toInt = ((k10 : Nat) : Int) := lN_toInt (by omega); have := sub_t (x := nI sz8) (y := 1) (by have := i_nlt c9; have := i_rg j; have : (0 : Int32).toInt = 0 := rfl; have := i_eq ek10; have : (nI k10).toInt = ((k10 : Nat) : Int) := nI_toInt (by omega); have := i_lt c11; have : (1 : Int32).toInt = 1 := rfl; have : (nI sz8).toInt = ((sz8 : Nat) : Int) := nI_toInt (by omega); have := sub_t (x := nI sz8) (y := nI k10) (by have := i_nlt c9; have := i_rg j; have : (0 : Int32).toInt = 0 := rfl; have := i_eq ek10; have : (nI k10).toInt = ((k10 : Nat) : Int) := nI_toInt (by omega); have : (nI sz8).toInt = ((sz8 : Nat) : Int) := nI_toInt (by omega); omega) (by have := i_nlt c9; have := i_rg j; have : (0 : Int32).toInt = 0 := rfl; have := i_eq ek10; have : (nI k10).toInt = ((k10 : Nat) : Int) := nI_toInt (by omega); have : (nI sz8).toInt = ((sz8 : Nat) : Int) := nI_toInt (by omega); omega); omega) (by have := i_nlt c9; have := i_rg j; have : (0 : Int32).toInt = 0 := rfl; have := i_eq ek10; have : (nI k10).toInt = ((k10 : Nat) : Int) := nI_toInt (by omega); have := i_lt c11; have : (1 : Int32).toInt = 1 := rfl; have : (nI sz8).toInt = ((sz8 : Nat) : Int) := nI_toInt (by omega); have := sub_t (x := nI sz8) (y := nI k10) (by have := i_nlt c9; have := i_rg j; have : (0 : Int32).toInt = 0 := rfl; have := i_eq ek10; have : (nI k10).toInt = ((k10 : Nat) : Int) := nI_toInt (by omega); have : (nI sz8).toInt = ((sz8 : Nat) : Int) := nI_toInt (by omega); omega) (by have := i_nlt c9; have := i_rg j; have : (0 : Int32).toInt = 0 := rfl; have := i_eq ek10; have : (nI k10).toInt = ((k10 : Nat) : Int) := nI_toInt (by omega); have : (nI sz8).toInt = ((sz8 : Nat) : Int) := nI_toInt (by omega); omega); omega); have := w_t ((nI sz8) - 1); have := l_nlt q; omega))
                  refine r_ic (x := 0) rfl rfl ?_
                  refine r_zret rfl (.inl rfl) ?_
                  show WR _ cd_173 67 [some (.ref (ad 30)), some (.int (nI k2)), some (.int (nI k6)), some (.int (nI k10)), some (.int 0), some (.int (nI t8))] [.int 0] (sI (sI h (ad 0) 6 0) (ad 0) 6 (-12)) _
                  refine r_if_eq (tg := 80) rfl rfl (fun _ => ?_) (fun q => absurd q (by decide))
                  refine r_ic (x := (-2)) rfl rfl ?_
                  refine r_iret rfl ?_
                  show WR _ cd_174 22 [some (.ref (ad 30)), some (.int c), some (.int i), some (.int j), none] [.int (-2)] (sI (sI h (ad 0) 6 0) (ad 0) 6 (-12)) _
                  refine r_istore (lv' := [some (.ref (ad 30)), some (.int c), some (.int i), some (.int j), some (.int (-2))]) rfl (Nat.le_of_ble_eq_true rfl) rfl ?_
                  refine r_iload rfl rfl ?_
                  refine r_if_ge (tg := 40) rfl rfl (fun q => absurd q (by decide)) (fun _ => ?_)
                  refine r_aload rfl rfl ?_
                  refine r_ic (x := (-10)) rfl rfl ?_
                  refine r_iload rfl rfl ?_
                  refine r_iadd rfl ?_
                  refine WR_tI (y := (-12)) rfl ?_
                  refine r_cv (y := 171) (ra := [.int (-12)]) (rest := []) rfl ⟨⟨rfl, rfl⟩, rfl, by decide⟩ (fx_t30 fx) rfl rfl (Nat.le_of_ble_eq_true rfl) ?_
                  refine in_171 (Nat.le_of_ble_eq_true rfl) ?_
                  show WR _ cd_171 0 [some (.ref (ad 30)), some (.int (-12))] [] (sI (sI h (ad 0) 6 0) (ad 0) 6 (-12)) _
                  refine r_aload rfl rfl ?_
                  refine r_iload rfl rfl ?_
                  refine r_putI rfl ⟨rfl, rfl, rfl⟩ (fx_t30 fx) ?_
                  refine r_lc (x := 0) rfl rfl ?_
                  refine r_lret rfl ?_
                  show WR _ cd_174 38 [some (.ref (ad 30)), some (.int c), some (.int i), some (.int j), some (.int (-2))] [.long 0] (sI (sI (sI h (ad 0) 6 0) (ad 0) 6 (-12)) (ad 30) 11 (-12)) _
                  refine r_l2i rfl ?_
                  refine WR_tI (y := 0) rfl ?_
                  refine r_iret rfl ?_
                  exact ⟨rfl, Rel.why r (((Chg.rf.sI (fx_j fx) (.inl (by decide))).sI (fx_j fx) (.inl (by decide))).sI (fx_j fx) (.inl (by decide))) ⟨rfl, by decide⟩ (Eq.trans (Eq.trans (I_ne (fx_ne fx (by decide))) I_eq) (Eq.symm I_eq)), Nat.le_add_right _ _, Nat.le_add_right _ _⟩
                · refine r_ic (x := 1) rfl rfl ?_
                  refine r_goto (tg := 23) rfl rfl ?_
                  refine r_zret rfl (.inr rfl) ?_
                  show WR _ cd_42 81 [some (.ref (ad 0)), some (.int c), some (.int i), some (.int j), some (.ref (mid t4)), some (.ref (mid t8)), some (.ref (mid t8))] [.int 1, .ref (ad 0)] (sI h (ad 0) 6 0) _
                  refine r_if_eq (tg := 88) rfl rfl (fun q => absurd q (by decide)) (fun _ => ?_)
                  refine r_ic (x := 0) rfl rfl ?_
                  refine r_goto (tg := 90) rfl rfl ?_
                  refine r_putI rfl ⟨rfl, rfl, rfl⟩ (fx_t0 fx) ?_
                  refine r_aload rfl rfl ?_
                  refine r_getI rfl ⟨rfl, rfl, rfl⟩ (fx_t0 fx) ?_
                  refine WR_tI (y := 0) I_eq ?_
                  refine r_if_ne (tg := 105) rfl rfl (fun q => absurd q (by decide)) (fun _ => ?_)
                  refine r_aload rfl rfl ?_
                  refine r_goto (tg := 106) rfl rfl ?_
                  refine r_aret rfl ?_
                  show WR _ cd_44 12 [some (.ref (ad 0)), some (.int c), some (.int i), some (.int j), none] [.ref (mid t8)] (sI (sI h (ad 0) 6 0) (ad 0) 6 0) _
                  refine r_astore (lv' := [some (.ref (ad 0)), some (.int c), some (.int i), some (.int j), some (.ref (mid t8))]) rfl (Nat.le_of_ble_eq_true rfl) rfl ?_
                  refine r_aload rfl rfl ?_
                  refine r_ifnonnullA (tg := 23) rfl rfl ?_
                  refine r_aload rfl rfl ?_
                  refine r_getA (b := mid t8 + 1) rfl ⟨rfl, rfl, rfl⟩ tg8 (Eq.trans R_oI (Eq.trans R_oI r_8)) ?_
                  refine r_iload rfl rfl ?_
                  refine WR_tI (y := nI k10) ek10 ?_
                  refine r_laload rfl tg2_8 (vp_ct n_8 (vp_in_nI (by have := i_nlt c9; have := i_rg j; have : (0 : Int32).toInt = 0 := rfl; have := i_eq ek10; have : (nI k10).toInt = ((k10 : Nat) : Int) := nI_toInt (by omega); have := i_nlt c11; have : (1 : Int32).toInt = 1 := rfl; have : (nI sz8).toInt = ((sz8 : Nat) : Int) := nI_toInt (by omega); have := sub_t (x := nI sz8) (y := nI k10) (by have := i_nlt c9; have := i_rg j; have : (0 : Int32).toInt = 0 := rfl; have := i_eq ek10; have : (nI k10).toInt = ((k10 : Nat) : Int) := nI_toInt (by omega); have : (nI sz8).toInt = ((sz8 : Nat) : Int) := nI_toInt (by omega); omega) (by have := i_nlt c9; have := i_rg j; have : (0 : Int32).toInt = 0 := rfl; have := i_eq ek10; have : (nI k10).toInt = ((k10 : Nat) : Int) := nI_toInt (by omega); have : (nI sz8).toInt = ((sz8 : Nat) : Int) := nI_toInt (by omega); omega); omega) (by omega))) ?_
                  refine WR_tL (congrArg (hL (sI (sI h (ad 0) 6 0) (ad 0) 6 0) (mid t8 + 1)) ((nI_clamp (by have := i_nlt c9; have := i_rg j; have : (0 : Int32).toInt = 0 := rfl; have := i_eq ek10; have : (nI k10).toInt = ((k10 : Nat) : Int) := nI_toInt (by omega); have := i_nlt c11; have : (1 : Int32).toInt = 1 := rfl; have : (nI sz8).toInt = ((sz8 : Nat) : Int) := nI_toInt (by omega); have := sub_t (x := nI sz8) (y := nI k10) (by have := i_nlt c9; have := i_rg j; have : (0 : Int32).toInt = 0 := rfl; have := i_eq ek10; have : (nI k10).toInt = ((k10 : Nat) : Int) := nI_toInt (by omega); have : (nI sz8).toInt = ((sz8 : Nat) : Int) := nI_toInt (by omega); omega) (by have := i_nlt c9; have := i_rg j; have : (0 : Int32).toInt = 0 := rfl; have := i_eq ek10; have : (nI k10).toInt = ((k10 : Nat) : Int) := nI_toInt (by omega); have : (nI sz8).toInt = ((sz8 : Nat) : Int) := nI_toInt (by omega); omega); omega)) : _ = k10)) ?_
                  refine WR_tL (y := hL h (mid t8 + 1) k10) (Eq.trans L_oI L_oI) ?_
                  refine r_l2i rfl ?_
                  refine r_iret rfl ?_
                  show EV _ 174 [.ref (ad 30), .int c, .int i, .int j] (sI (sI h (ad 0) 6 0) (ad 0) 6 0) _
                  refine in_174 (Nat.le_of_ble_eq_true rfl) ?_
                  show WR _ cd_174 0 [some (.ref (ad 30)), some (.int c), some (.int i), some (.int j), none] [] (sI (sI h (ad 0) 6 0) (ad 0) 6 0) _
                  refine r_iload rfl rfl ?_
                  refine WR_tI (y := nI k2) ek2 ?_
                  refine r_cs (y := 153) (ra := [.int (nI k2)]) (rest := []) rfl ⟨⟨rfl, rfl⟩, by decide⟩ rfl rfl (Nat.le_of_ble_eq_true rfl) ?_
                  refine in_153 (Nat.le_of_ble_eq_true rfl) ?_
                  show WR _ cd_153 0 [some (.int (nI k2))] [] (sI (sI h (ad 0) 6 0) (ad 0) 6 0) _
                  refine r_iload rfl rfl ?_
                  refine r_if_lt (tg := 14) rfl rfl (fun q => False.elim (by have := i_nlt c1; have := i_rg c; have : (0 : Int32).toInt = 0 := rfl; have := i_eq ek2; have : (nI k2).toInt = ((k2 : Nat) : Int) := nI_toInt (by omega); have := i_nle c3; have : (24 : Int32).toInt = 24 := rfl; have := i_lt q; omega)) (fun _ => ?_)
                  refine r_iload rfl rfl ?_
                  refine r_ic (x := 24) rfl rfl ?_
                  refine r_icmp_ge (tg := 14) rfl rfl (fun q => False.elim (by have := i_nlt c1; have := i_rg c; have : (0 : Int32).toInt = 0 := rfl; have := i_eq ek2; have : (nI k2).toInt = ((k2 : Nat) : Int) := nI_toInt (by omega); have := i_nle c3; have : (24 : Int32).toInt = 24 := rfl; have := i_le q; omega)) (fun _ => ?_)
                  refine r_ic (x := 1) rfl rfl ?_
                  refine r_goto (tg := 15) rfl rfl ?_
                  refine r_zret rfl (.inr rfl) ?_
                  show WR _ cd_174 4 [some (.ref (ad 30)), some (.int c), some (.int i), some (.int j), none] [.int 1] (sI (sI h (ad 0) 6 0) (ad 0) 6 0) _
                  refine r_if_ne (tg := 15) rfl rfl (fun _ => ?_) (fun q => absurd q (by decide))
                  refine r_aload rfl rfl ?_
                  refine r_iload rfl rfl ?_
                  refine WR_tI (y := nI k2) ek2 ?_
                  refine r_iload rfl rfl ?_
                  refine WR_tI (y := nI k6) ek6 ?_
                  refine r_iload rfl rfl ?_
                  refine WR_tI (y := nI k10) ek10 ?_
                  refine r_cv (y := 173) (ra := [.int (nI k10), .int (nI k6), .int (nI k2)]) (rest := []) rfl ⟨⟨rfl, rfl⟩, rfl, by decide⟩ (fx_t30 fx) rfl rfl (Nat.le_of_ble_eq_true rfl) ?_
                  refine in_173 (Nat.le_of_ble_eq_true rfl) ?_
                  show WR _ cd_173 0 [some (.ref (ad 30)), some (.int (nI k2)), some (.int (nI k6)), some (.int (nI k10)), none, none] [] (sI (sI h (ad 0) 6 0) (ad 0) 6 0) _
                  refine r_aload rfl rfl ?_
                  refine r_aload rfl rfl ?_
                  refine r_getA (b := ad 31) rfl ⟨rfl, rfl, rfl⟩ (fx_t30 fx) (fx_r30_0 fx) ?_
                  refine r_iload rfl rfl ?_
                  refine r_iaload rfl (.inl (fx_t31 fx)) (vp_ct (fx_n31 fx) (vp_in_nI (by have := i_nlt c1; have := i_rg c; have : (0 : Int32).toInt = 0 := rfl; have := i_eq ek2; have : (nI k2).toInt = ((k2 : Nat) : Int) := nI_toInt (by omega); have := i_nle c3; have : (24 : Int32).toInt = 24 := rfl; omega) (by omega))) ?_
                  refine WR_tI (congrArg (hI (sI (sI h (ad 0) 6 0) (ad 0) 6 0) (ad 31)) ((nI_clamp (by have := i_nlt c1; have := i_rg c; have : (0 : Int32).toInt = 0 := rfl; have := i_eq ek2; have : (nI k2).toInt = ((k2 : Nat) : Int) := nI_toInt (by omega); have := i_nle c3; have : (24 : Int32).toInt = 24 := rfl; omega)) : _ = k2)) ?_
                  refine WR_tI (y := nI t4) (Eq.trans (I_ne (fx_ne fx (by decide))) (Eq.trans (I_ne (fx_ne fx (by decide))) v4)) ?_
                  refine r_ic (x := 8) rfl rfl ?_
                  refine r_iload rfl rfl ?_
                  refine r_cv (y := 168) (ra := [.int (nI k6), .int 8, .int (nI t4)]) (rest := []) rfl ⟨⟨rfl, rfl⟩, rfl, by decide⟩ (fx_t30 fx) rfl rfl (Nat.le_of_ble_eq_true rfl) ?_
                  refine in_168 (Nat.le_of_ble_eq_true rfl) ?_
                  show WR _ cd_168 0 [some (.ref (ad 30)), some (.int (nI t4)), some (.int 8), some (.int (nI k6))] [] (sI (sI h (ad 0) 6 0) (ad 0) 6 0) _
                  refine r_iload rfl rfl ?_
                  refine r_ic (x := (-1)) rfl rfl ?_
                  refine r_icmp_eq (tg := 18) rfl rfl (fun q => False.elim (by have : (nI t4).toInt = ((t4 : Nat) : Int) := nI_toInt (by omega); have : (-1 : Int32).toInt = -1 := rfl; have := i_eq q; omega)) (fun _ => ?_)
                  refine r_aload rfl rfl ?_
                  refine r_iload rfl rfl ?_
                  refine r_cv (y := 166) (ra := [.int (nI t4)]) (rest := []) rfl ⟨⟨rfl, rfl⟩, rfl, by decide⟩ (fx_t30 fx) rfl rfl (Nat.le_of_ble_eq_true rfl) ?_
                  refine in_166 (Nat.le_of_ble_eq_true rfl) ?_
                  show WR _ cd_166 0 [some (.ref (ad 30)), some (.int (nI t4))] [] (sI (sI h (ad 0) 6 0) (ad 0) 6 0) _
                  refine r_iload rfl rfl ?_
                  refine r_ic (x := (-1)) rfl rfl ?_
                  refine r_icmp_ne (tg := 9) rfl rfl (fun _ => ?_) (fun q => False.elim (by have : (nI t4).toInt = ((t4 : Nat) : Int) := nI_toInt (by omega); have : (-1 : Int32).toInt = -1 := rfl; have := i_eq q; omega))
                  refine r_iload rfl rfl ?_
                  refine r_ic (x := 1000) rfl rfl ?_
                  refine r_icmp_lt (tg := 21) rfl rfl (fun _ => ?_) (fun q => False.elim (by have : (nI t4).toInt = ((t4 : Nat) : Int) := nI_toInt (by omega); have : (1000 : Int32).toInt = 1000 := rfl; have := i_nlt q; omega))
                  refine r_aload rfl rfl ?_
                  refine r_getA (b := ad 33) rfl ⟨rfl, rfl, rfl⟩ (fx_t30 fx) (fx_r30_2 fx) ?_
                  refine r_iload rfl rfl ?_
                  refine r_iaload rfl (.inl (fx_t33 fx)) (vp_ct (fx_n33 fx) (vp_in_nI (by omega) (by omega))) ?_
                  refine WR_tI (congrArg (hI (sI (sI h (ad 0) 6 0) (ad 0) 6 0) (ad 33)) ((nI_clamp (by omega)) : _ = t4)) ?_
                  refine WR_tI (y := 8) (Eq.trans (I_ne (fx_ne fx (by decide))) (Eq.trans (I_ne (fx_ne fx (by decide))) l2_4)) ?_
                  refine r_iret rfl ?_
                  show WR _ cd_168 10 [some (.ref (ad 30)), some (.int (nI t4)), some (.int 8), some (.int (nI k6))] [.int 8] (sI (sI h (ad 0) 6 0) (ad 0) 6 0) _
                  refine r_iload rfl rfl ?_
                  refine r_icmp_eq (tg := 18) rfl rfl (fun _ => ?_) (fun q => absurd q (by decide))
                  refine r_iload rfl rfl ?_
                  refine r_ic (x := (-1)) rfl rfl ?_
                  refine r_icmp_ne (tg := 27) rfl rfl (fun _ => ?_) (fun q => False.elim (by have : (nI t4).toInt = ((t4 : Nat) : Int) := nI_toInt (by omega); have : (-1 : Int32).toInt = -1 := rfl; have := i_eq q; omega))
                  refine r_iload rfl rfl ?_
                  refine r_i2l rfl ?_
                  refine WR_tL (y := lN k6) (nI_l (by have := i_nlt c5; have := i_rg i; have : (0 : Int32).toInt = 0 := rfl; have := i_eq ek6; have : (nI k6).toInt = ((k6 : Nat) : Int) := nI_toInt (by omega); have := i_nlt c7; have : (1 : Int32).toInt = 1 := rfl; have : (nI sz4).toInt = ((sz4 : Nat) : Int) := nI_toInt (by omega); have := sub_t (x := nI sz4) (y := nI k6) (by have := i_nlt c5; have := i_rg i; have : (0 : Int32).toInt = 0 := rfl; have := i_eq ek6; have : (nI k6).toInt = ((k6 : Nat) : Int) := nI_toInt (by omega); have : (nI sz4).toInt = ((sz4 : Nat) : Int) := nI_toInt (by omega); omega) (by have := i_nlt c5; have := i_rg i; have : (0 : Int32).toInt = 0 := rfl; have := i_eq ek6; have : (nI k6).toInt = ((k6 : Nat) : Int) := nI_toInt (by omega); have : (nI sz4).toInt = ((sz4 : Nat) : Int) := nI_toInt (by omega); omega); omega)) ?_
                  refine r_lc (x := 0) rfl rfl ?_
                  refine r_aload rfl rfl ?_
                  refine r_getA (b := ad 35) rfl ⟨rfl, rfl, rfl⟩ (fx_t30 fx) (fx_r30_4 fx) ?_
                  refine r_iload rfl rfl ?_
                  refine r_iaload rfl (.inl (fx_t35 fx)) (vp_ct (fx_n35 fx) (vp_in_nI (by omega) (by omega))) ?_
                  refine WR_tI (congrArg (hI (sI (sI h (ad 0) 6 0) (ad 0) 6 0) (ad 35)) ((nI_clamp (by omega)) : _ = t4)) ?_
                  refine WR_tI (y := nI sz4) (Eq.trans (I_ne (fx_ne fx (by decide))) (Eq.trans (I_ne (fx_ne fx (by decide))) sz_4)) ?_
                  refine r_ic (x := 1) rfl rfl ?_
                  refine r_isub rfl ?_
                  refine WR_tI (y := nI (sz4 - 1)) (Eq.trans (pk_sub (a := sz4) (b := 1) (by have := i_nlt c5; have := i_rg i; have : (0 : Int32).toInt = 0 := rfl; have := i_eq ek6; have : (nI k6).toInt = ((k6 : Nat) : Int) := nI_toInt (by omega); have := i_nlt c7; have : (1 : Int32).toInt = 1 := rfl; have : (nI sz4).toInt = ((sz4 : Nat) : Int) := nI_toInt (by omega); have := sub_t (x := nI sz4) (y := nI k6) (by have := i_nlt c5; have := i_rg i; have : (0 : Int32).toInt = 0 := rfl; have := i_eq ek6; have : (nI k6).toInt = ((k6 : Nat) : Int) := nI_toInt (by omega); have : (nI sz4).toInt = ((sz4 : Nat) : Int) := nI_toInt (by omega); omega) (by have := i_nlt c5; have := i_rg i; have : (0 : Int32).toInt = 0 := rfl; have := i_eq ek6; have : (nI k6).toInt = ((k6 : Nat) : Int) := nI_toInt (by omega); have : (nI sz4).toInt = ((sz4 : Nat) : Int) := nI_toInt (by omega); omega); omega)) (congrArg nI (by have := i_nlt c5; have := i_rg i; have : (0 : Int32).toInt = 0 := rfl; have := i_eq ek6; have : (nI k6).toInt = ((k6 : Nat) : Int) := nI_toInt (by omega); have := i_nlt c7; have : (1 : Int32).toInt = 1 := rfl; have : (nI sz4).toInt = ((sz4 : Nat) : Int) := nI_toInt (by omega); have := sub_t (x := nI sz4) (y := nI k6) (by have := i_nlt c5; have := i_rg i; have : (0 : Int32).toInt = 0 := rfl; have := i_eq ek6; have : (nI k6).toInt = ((k6 : Nat) : Int) := nI_toInt (by omega); have : (nI sz4).toInt = ((sz4 : Nat) : Int) := nI_toInt (by omega); omega) (by have := i_nlt c5; have := i_rg i; have : (0 : Int32).toInt = 0 := rfl; have := i_eq ek6; have : (nI k6).toInt = ((k6 : Nat) : Int) := nI_toInt (by omega); have : (nI sz4).toInt = ((sz4 : Nat) : Int) := nI_toInt (by omega); omega); omega))) ?_
                  refine r_i2l rfl ?_
                  refine WR_tL (y := lN (sz4 - 1)) (nI_l (by have := i_nlt c5; have := i_rg i; have : (0 : Int32).toInt = 0 := rfl; have := i_eq ek6; have : (nI k6).toInt = ((k6 : Nat) : Int) := nI_toInt (by omega); have := i_nlt c7; have : (1 : Int32).toInt = 1 := rfl; have : (nI sz4).toInt = ((sz4 : Nat) : Int) := nI_toInt (by omega); have := sub_t (x := nI sz4) (y := nI k6) (by have := i_nlt c5; have := i_rg i; have : (0 : Int32).toInt = 0 := rfl; have := i_eq ek6; have : (nI k6).toInt = ((k6 : Nat) : Int) := nI_toInt (by omega); have : (nI sz4).toInt = ((sz4 : Nat) : Int) := nI_toInt (by omega); omega) (by have := i_nlt c5; have := i_rg i; have : (0 : Int32).toInt = 0 := rfl; have := i_eq ek6; have : (nI k6).toInt = ((k6 : Nat) : Int) := nI_toInt (by omega); have : (nI sz4).toInt = ((sz4 : Nat) : Int) := nI_toInt (by omega); omega); omega)) ?_
                  refine r_cs (y := 155) (ra := [.long (lN (sz4 - 1)), .long 0, .long (lN k6)]) (rest := []) rfl ⟨⟨rfl, rfl⟩, by decide⟩ rfl rfl (Nat.le_of_ble_eq_true rfl) ?_
                  refine in_155 (Nat.le_of_ble_eq_true rfl) ?_
                  show WR _ cd_155 0 [some (.long (lN k6)), none, some (.long 0), none, some (.long (lN (sz4 - 1))), none] [] (sI (sI h (ad 0) 6 0) (ad 0) 6 0) _
                  refine r_lload rfl rfl ?_
                  refine r_lload rfl rfl ?_
                  refine r_lif_lt (tg := 17) rfl rfl rfl (fun q => False.elim (by have := i_nlt c5; have := i_rg i; have : (0 : Int32).toInt = 0 := rfl; have := i_eq ek6; have : (nI k6).toInt = ((k6 : Nat) : Int) := nI_toInt (by omega); have := i_nlt c7; have : (1 : Int32).toInt = 1 := rfl; have : (nI sz4).toInt = ((sz4 : Nat) : Int) := nI_toInt (by omega); have := sub_t (x := nI sz4) (y := nI k6) (by have := i_nlt c5; have := i_rg i; have : (0 : Int32).toInt = 0 := rfl; have := i_eq ek6; have : (nI k6).toInt = ((k6 : Nat) : Int) := nI_toInt (by omega); have : (nI sz4).toInt = ((sz4 : Nat) : Int) := nI_toInt (by omega); omega) (by have := i_nlt c5; have := i_rg i; have : (0 : Int32).toInt = 0 := rfl; have := i_eq ek6; have : (nI k6).toInt = ((k6 : Nat) : Int) := nI_toInt (by omega); have : (nI sz4).toInt = ((sz4 : Nat) : Int) := nI_toInt (by omega); omega); have : (lN k6).toInt = ((k6 : Nat) : Int) := lN_toInt (by omega); have : (0 : Int64).toInt = 0 := rfl; have := l_lt q; omega)) (fun _ => ?_)
                  refine r_lload rfl rfl ?_
                  refine r_lload rfl rfl ?_
                  refine r_lif_gt (tg := 17) rfl rfl rfl (fun q => False.elim (by have := i_nlt c5; have := i_rg i; have : (0 : Int32).toInt = 0 := rfl; have := i_eq ek6; have : (nI k6).toInt = ((k6 : Nat) : Int) := nI_toInt (by omega); have := i_nlt c7; have : (1 : Int32).toInt = 1 := rfl; have : (nI sz4).toInt = ((sz4 : Nat) : Int) := nI_toInt (by omega); have := sub_t (x := nI sz4) (y := nI k6) (by have := i_nlt c5; have := i_rg i; have : (0 : Int32).toInt = 0 := rfl; have := i_eq ek6; have : (nI k6).toInt = ((k6 : Nat) : Int) := nI_toInt (by omega); have : (nI sz4).toInt = ((sz4 : Nat) : Int) := nI_toInt (by omega); omega) (by have := i_nlt c5; have := i_rg i; have : (0 : Int32).toInt = 0 := rfl; have := i_eq ek6; have : (nI k6).toInt = ((k6 : Nat) : Int) := nI_toInt (by omega); have : (nI sz4).toInt = ((sz4 : Nat) : Int) := nI_toInt (by omega); omega); have : (lN k6).toInt = ((k6 : Nat) : Int) := lN_toInt (by omega); have : (lN (sz4 - 1)).toInt = ((sz4 - 1 : Nat) : Int) := lN_toInt (by omega); have := l_lt q; omega)) (fun _ => ?_)
                  refine r_ic (x := 1) rfl rfl ?_
                  refine r_goto (tg := 18) rfl rfl ?_
                  refine r_zret rfl (.inr rfl) ?_
                  show WR _ cd_168 42 [some (.ref (ad 30)), some (.int (nI t4)), some (.int 8), some (.int (nI k6))] [.int 1] (sI (sI h (ad 0) 6 0) (ad 0) 6 0) _
                  refine r_if_ne (tg := 49) rfl rfl (fun _ => ?_) (fun q => absurd q (by decide))
                  refine r_ic (x := 0) rfl rfl ?_
                  refine r_iret rfl ?_
                  show WR _ cd_173 13 [some (.ref (ad 30)), some (.int (nI k2)), some (.int (nI k6)), some (.int (nI k10)), none, none] [.int 0] (sI (sI h (ad 0) 6 0) (ad 0) 6 0) _
                  refine r_istore (lv' := [some (.ref (ad 30)), some (.int (nI k2)), some (.int (nI k6)), some (.int (nI k10)), some (.int 0), none]) rfl (Nat.le_of_ble_eq_true rfl) rfl ?_
                  refine r_iload rfl rfl ?_
                  refine r_if_le (tg := 24) rfl rfl (fun _ => ?_) (fun q => absurd q (by decide))
                  refine r_aload rfl rfl ?_
                  refine r_getA (b := ad 36) rfl ⟨rfl, rfl, rfl⟩ (fx_t30 fx) (fx_r30_5 fx) ?_
                  refine r_ic (x := 30) rfl rfl ?_
                  refine r_aload rfl rfl ?_
                  refine r_getA (b := ad 31) rfl ⟨rfl, rfl, rfl⟩ (fx_t30 fx) (fx_r30_0 fx) ?_
                  refine r_iload rfl rfl ?_
                  refine r_iaload rfl (.inl (fx_t31 fx)) (vp_ct (fx_n31 fx) (vp_in_nI (by have := i_nlt c1; have := i_rg c; have : (0 : Int32).toInt = 0 := rfl; have := i_eq ek2; have : (nI k2).toInt = ((k2 : Nat) : Int) := nI_toInt (by omega); have := i_nle c3; have : (24 : Int32).toInt = 24 := rfl; omega) (by omega))) ?_
                  refine WR_tI (congrArg (hI (sI (sI h (ad 0) 6 0) (ad 0) 6 0) (ad 31)) ((nI_clamp (by have := i_nlt c1; have := i_rg c; have : (0 : Int32).toInt = 0 := rfl; have := i_eq ek2; have : (nI k2).toInt = ((k2 : Nat) : Int) := nI_toInt (by omega); have := i_nle c3; have : (24 : Int32).toInt = 24 := rfl; omega)) : _ = k2)) ?_
                  refine WR_tI (y := nI t4) (Eq.trans (I_ne (fx_ne fx (by decide))) (Eq.trans (I_ne (fx_ne fx (by decide))) v4)) ?_
                  refine r_imul rfl ?_
                  refine WR_tI (y := nI (30 * t4)) (Eq.trans (pk_mul 30 t4) (congrArg nI (by omega))) ?_
                  refine r_iload rfl rfl ?_
                  refine r_iadd rfl ?_
                  refine WR_tI (y := nI (30 * t4 + k6)) (Eq.trans (nI_add (30 * t4) k6) (congrArg nI (by have := i_nlt c5; have := i_rg i; have : (0 : Int32).toInt = 0 := rfl; have := i_eq ek6; have : (nI k6).toInt = ((k6 : Nat) : Int) := nI_toInt (by omega); have := i_nlt c7; have : (1 : Int32).toInt = 1 := rfl; have : (nI sz4).toInt = ((sz4 : Nat) : Int) := nI_toInt (by omega); have := sub_t (x := nI sz4) (y := nI k6) (by have := i_nlt c5; have := i_rg i; have : (0 : Int32).toInt = 0 := rfl; have := i_eq ek6; have : (nI k6).toInt = ((k6 : Nat) : Int) := nI_toInt (by omega); have : (nI sz4).toInt = ((sz4 : Nat) : Int) := nI_toInt (by omega); omega) (by have := i_nlt c5; have := i_rg i; have : (0 : Int32).toInt = 0 := rfl; have := i_eq ek6; have : (nI k6).toInt = ((k6 : Nat) : Int) := nI_toInt (by omega); have : (nI sz4).toInt = ((sz4 : Nat) : Int) := nI_toInt (by omega); omega); omega))) ?_
                  refine r_laload rfl (fx_t36 fx) (vp_ct (fx_n36 fx) (vp_in_nI (by have := i_nlt c5; have := i_rg i; have : (0 : Int32).toInt = 0 := rfl; have := i_eq ek6; have : (nI k6).toInt = ((k6 : Nat) : Int) := nI_toInt (by omega); have := i_nlt c7; have : (1 : Int32).toInt = 1 := rfl; have : (nI sz4).toInt = ((sz4 : Nat) : Int) := nI_toInt (by omega); have := sub_t (x := nI sz4) (y := nI k6) (by have := i_nlt c5; have := i_rg i; have : (0 : Int32).toInt = 0 := rfl; have := i_eq ek6; have : (nI k6).toInt = ((k6 : Nat) : Int) := nI_toInt (by omega); have : (nI sz4).toInt = ((sz4 : Nat) : Int) := nI_toInt (by omega); omega) (by have := i_nlt c5; have := i_rg i; have : (0 : Int32).toInt = 0 := rfl; have := i_eq ek6; have : (nI k6).toInt = ((k6 : Nat) : Int) := nI_toInt (by omega); have : (nI sz4).toInt = ((sz4 : Nat) : Int) := nI_toInt (by omega); omega); omega) (by omega))) ?_
                  refine WR_tL (congrArg (hL (sI (sI h (ad 0) 6 0) (ad 0) 6 0) (ad 36)) ((nI_clamp (by have := i_nlt c5; have := i_rg i; have : (0 : Int32).toInt = 0 := rfl; have := i_eq ek6; have : (nI k6).toInt = ((k6 : Nat) : Int) := nI_toInt (by omega); have := i_nlt c7; have : (1 : Int32).toInt = 1 := rfl; have : (nI sz4).toInt = ((sz4 : Nat) : Int) := nI_toInt (by omega); have := sub_t (x := nI sz4) (y := nI k6) (by have := i_nlt c5; have := i_rg i; have : (0 : Int32).toInt = 0 := rfl; have := i_eq ek6; have : (nI k6).toInt = ((k6 : Nat) : Int) := nI_toInt (by omega); have : (nI sz4).toInt = ((sz4 : Nat) : Int) := nI_toInt (by omega); omega) (by have := i_nlt c5; have := i_rg i; have : (0 : Int32).toInt = 0 := rfl; have := i_eq ek6; have : (nI k6).toInt = ((k6 : Nat) : Int) := nI_toInt (by omega); have : (nI sz4).toInt = ((sz4 : Nat) : Int) := nI_toInt (by omega); omega); omega)) : _ = 30 * t4 + k6)) ?_
                  refine WR_tL (y := lN t8) (Eq.trans L_oI (Eq.trans L_oI v8)) ?_
                  refine r_l2i rfl ?_
                  refine WR_tI (y := nI t8) (lN_i _) ?_
                  refine r_istore (lv' := [some (.ref (ad 30)), some (.int (nI k2)), some (.int (nI k6)), some (.int (nI k10)), some (.int 0), some (.int (nI t8))]) rfl (Nat.le_of_ble_eq_true rfl) rfl ?_
                  refine r_iload rfl rfl ?_
                  refine r_ic (x := (-1)) rfl rfl ?_
                  refine r_icmp_ne (tg := 51) rfl rfl (fun _ => ?_) (fun q => False.elim (by have : (nI t8).toInt = ((t8 : Nat) : Int) := nI_toInt (by omega); have : (-1 : Int32).toInt = -1 := rfl; have := i_eq q; omega))
                  refine r_iload rfl rfl ?_
                  refine r_i2l rfl ?_
                  refine WR_tL (y := lN k10) (nI_l (by have := i_nlt c9; have := i_rg j; have : (0 : Int32).toInt = 0 := rfl; have := i_eq ek10; have : (nI k10).toInt = ((k10 : Nat) : Int) := nI_toInt (by omega); have := i_nlt c11; have : (1 : Int32).toInt = 1 := rfl; have : (nI sz8).toInt = ((sz8 : Nat) : Int) := nI_toInt (by omega); have := sub_t (x := nI sz8) (y := nI k10) (by have := i_nlt c9; have := i_rg j; have : (0 : Int32).toInt = 0 := rfl; have := i_eq ek10; have : (nI k10).toInt = ((k10 : Nat) : Int) := nI_toInt (by omega); have : (nI sz8).toInt = ((sz8 : Nat) : Int) := nI_toInt (by omega); omega) (by have := i_nlt c9; have := i_rg j; have : (0 : Int32).toInt = 0 := rfl; have := i_eq ek10; have : (nI k10).toInt = ((k10 : Nat) : Int) := nI_toInt (by omega); have : (nI sz8).toInt = ((sz8 : Nat) : Int) := nI_toInt (by omega); omega); omega)) ?_
                  refine r_lc (x := 0) rfl rfl ?_
                  refine r_aload rfl rfl ?_
                  refine r_getA (b := ad 35) rfl ⟨rfl, rfl, rfl⟩ (fx_t30 fx) (fx_r30_4 fx) ?_
                  refine r_iload rfl rfl ?_
                  refine r_iaload rfl (.inl (fx_t35 fx)) (vp_ct (fx_n35 fx) (vp_in_nI (by omega) (by omega))) ?_
                  refine WR_tI (congrArg (hI (sI (sI h (ad 0) 6 0) (ad 0) 6 0) (ad 35)) ((nI_clamp (by omega)) : _ = t8)) ?_
                  refine WR_tI (y := nI sz8) (Eq.trans (I_ne (fx_ne fx (by decide))) (Eq.trans (I_ne (fx_ne fx (by decide))) sz_8)) ?_
                  refine r_ic (x := 1) rfl rfl ?_
                  refine r_isub rfl ?_
                  refine WR_tI (y := nI (sz8 - 1)) (Eq.trans (pk_sub (a := sz8) (b := 1) (by have := i_nlt c9; have := i_rg j; have : (0 : Int32).toInt = 0 := rfl; have := i_eq ek10; have : (nI k10).toInt = ((k10 : Nat) : Int) := nI_toInt (by omega); have := i_nlt c11; have : (1 : Int32).toInt = 1 := rfl; have : (nI sz8).toInt = ((sz8 : Nat) : Int) := nI_toInt (by omega); have := sub_t (x := nI sz8) (y := nI k10) (by have := i_nlt c9; have := i_rg j; have : (0 : Int32).toInt = 0 := rfl; have := i_eq ek10; have : (nI k10).toInt = ((k10 : Nat) : Int) := nI_toInt (by omega); have : (nI sz8).toInt = ((sz8 : Nat) : Int) := nI_toInt (by omega); omega) (by have := i_nlt c9; have := i_rg j; have : (0 : Int32).toInt = 0 := rfl; have := i_eq ek10; have : (nI k10).toInt = ((k10 : Nat) : Int) := nI_toInt (by omega); have : (nI sz8).toInt = ((sz8 : Nat) : Int) := nI_toInt (by omega); omega); omega)) (congrArg nI (by have := i_nlt c9; have := i_rg j; have : (0 : Int32).toInt = 0 := rfl; have := i_eq ek10; have : (nI k10).toInt = ((k10 : Nat) : Int) := nI_toInt (by omega); have := i_nlt c11; have : (1 : Int32).toInt = 1 := rfl; have : (nI sz8).toInt = ((sz8 : Nat) : Int) := nI_toInt (by omega); have := sub_t (x := nI sz8) (y := nI k10) (by have := i_nlt c9; have := i_rg j; have : (0 : Int32).toInt = 0 := rfl; have := i_eq ek10; have : (nI k10).toInt = ((k10 : Nat) : Int) := nI_toInt (by omega); have : (nI sz8).toInt = ((sz8 : Nat) : Int) := nI_toInt (by omega); omega) (by have := i_nlt c9; have := i_rg j; have : (0 : Int32).toInt = 0 := rfl; have := i_eq ek10; have : (nI k10).toInt = ((k10 : Nat) : Int) := nI_toInt (by omega); have : (nI sz8).toInt = ((sz8 : Nat) : Int) := nI_toInt (by omega); omega); omega))) ?_
                  refine r_i2l rfl ?_
                  refine WR_tL (y := lN (sz8 - 1)) (nI_l (by have := i_nlt c9; have := i_rg j; have : (0 : Int32).toInt = 0 := rfl; have := i_eq ek10; have : (nI k10).toInt = ((k10 : Nat) : Int) := nI_toInt (by omega); have := i_nlt c11; have : (1 : Int32).toInt = 1 := rfl; have : (nI sz8).toInt = ((sz8 : Nat) : Int) := nI_toInt (by omega); have := sub_t (x := nI sz8) (y := nI k10) (by have := i_nlt c9; have := i_rg j; have : (0 : Int32).toInt = 0 := rfl; have := i_eq ek10; have : (nI k10).toInt = ((k10 : Nat) : Int) := nI_toInt (by omega); have : (nI sz8).toInt = ((sz8 : Nat) : Int) := nI_toInt (by omega); omega) (by have := i_nlt c9; have := i_rg j; have : (0 : Int32).toInt = 0 := rfl; have := i_eq ek10; have : (nI k10).toInt = ((k10 : Nat) : Int) := nI_toInt (by omega); have : (nI sz8).toInt = ((sz8 : Nat) : Int) := nI_toInt (by omega); omega); omega)) ?_
                  refine r_cs (y := 155) (ra := [.long (lN (sz8 - 1)), .long 0, .long (lN k10)]) (rest := []) rfl ⟨⟨rfl, rfl⟩, by decide⟩ rfl rfl (Nat.le_of_ble_eq_true rfl) ?_
                  refine in_155 (Nat.le_of_ble_eq_true rfl) ?_
                  show WR _ cd_155 0 [some (.long (lN k10)), none, some (.long 0), none, some (.long (lN (sz8 - 1))), none] [] (sI (sI h (ad 0) 6 0) (ad 0) 6 0) _
                  refine r_lload rfl rfl ?_
                  refine r_lload rfl rfl ?_
                  refine r_lif_lt (tg := 17) rfl rfl rfl (fun q => False.elim (by have := i_nlt c9; have := i_rg j; have : (0 : Int32).toInt = 0 := rfl; have := i_eq ek10; have : (nI k10).toInt = ((k10 : Nat) : Int) := nI_toInt (by omega); have := i_nlt c11; have : (1 : Int32).toInt = 1 := rfl; have : (nI sz8).toInt = ((sz8 : Nat) : Int) := nI_toInt (by omega); have := sub_t (x := nI sz8) (y := nI k10) (by have := i_nlt c9; have := i_rg j; have : (0 : Int32).toInt = 0 := rfl; have := i_eq ek10; have : (nI k10).toInt = ((k10 : Nat) : Int) := nI_toInt (by omega); have : (nI sz8).toInt = ((sz8 : Nat) : Int) := nI_toInt (by omega); omega) (by have := i_nlt c9; have := i_rg j; have : (0 : Int32).toInt = 0 := rfl; have := i_eq ek10; have : (nI k10).toInt = ((k10 : Nat) : Int) := nI_toInt (by omega); have : (nI sz8).toInt = ((sz8 : Nat) : Int) := nI_toInt (by omega); omega); have : (lN k10).toInt = ((k10 : Nat) : Int) := lN_toInt (by omega); have : (0 : Int64).toInt = 0 := rfl; have := l_lt q; omega)) (fun _ => ?_)
                  refine r_lload rfl rfl ?_
                  refine r_lload rfl rfl ?_
                  refine r_lif_gt (tg := 17) rfl rfl rfl (fun q => False.elim (by have := i_nlt c9; have := i_rg j; have : (0 : Int32).toInt = 0 := rfl; have := i_eq ek10; have : (nI k10).toInt = ((k10 : Nat) : Int) := nI_toInt (by omega); have := i_nlt c11; have : (1 : Int32).toInt = 1 := rfl; have : (nI sz8).toInt = ((sz8 : Nat) : Int) := nI_toInt (by omega); have := sub_t (x := nI sz8) (y := nI k10) (by have := i_nlt c9; have := i_rg j; have : (0 : Int32).toInt = 0 := rfl; have := i_eq ek10; have : (nI k10).toInt = ((k10 : Nat) : Int) := nI_toInt (by omega); have : (nI sz8).toInt = ((sz8 : Nat) : Int) := nI_toInt (by omega); omega) (by have := i_nlt c9; have := i_rg j; have : (0 : Int32).toInt = 0 := rfl; have := i_eq ek10; have : (nI k10).toInt = ((k10 : Nat) : Int) := nI_toInt (by omega); have : (nI sz8).toInt = ((sz8 : Nat) : Int) := nI_toInt (by omega); omega); have : (lN k10).toInt = ((k10 : Nat) : Int) := lN_toInt (by omega); have : (lN (sz8 - 1)).toInt = ((sz8 - 1 : Nat) : Int) := lN_toInt (by omega); have := l_lt q; omega)) (fun _ => ?_)
                  refine r_ic (x := 1) rfl rfl ?_
                  refine r_goto (tg := 18) rfl rfl ?_
                  refine r_zret rfl (.inr rfl) ?_
                  show WR _ cd_173 67 [some (.ref (ad 30)), some (.int (nI k2)), some (.int (nI k6)), some (.int (nI k10)), some (.int 0), some (.int (nI t8))] [.int 1] (sI (sI h (ad 0) 6 0) (ad 0) 6 0) _
                  refine r_if_eq (tg := 80) rfl rfl (fun q => absurd q (by decide)) (fun _ => ?_)
                  refine r_ic (x := 30) rfl rfl ?_
                  refine r_iload rfl rfl ?_
                  refine r_imul rfl ?_
                  refine WR_tI (y := nI (30 * t8)) (Eq.trans (pk_mul 30 t8) (congrArg nI (by omega))) ?_
                  refine r_iload rfl rfl ?_
                  refine r_iadd rfl ?_
                  refine WR_tI (y := nI (30 * t8 + k10)) (Eq.trans (nI_add (30 * t8) k10) (congrArg nI (by have := i_nlt c9; have := i_rg j; have : (0 : Int32).toInt = 0 := rfl; have := i_eq ek10; have : (nI k10).toInt = ((k10 : Nat) : Int) := nI_toInt (by omega); have := i_nlt c11; have : (1 : Int32).toInt = 1 := rfl; have : (nI sz8).toInt = ((sz8 : Nat) : Int) := nI_toInt (by omega); have := sub_t (x := nI sz8) (y := nI k10) (by have := i_nlt c9; have := i_rg j; have : (0 : Int32).toInt = 0 := rfl; have := i_eq ek10; have : (nI k10).toInt = ((k10 : Nat) : Int) := nI_toInt (by omega); have : (nI sz8).toInt = ((sz8 : Nat) : Int) := nI_toInt (by omega); omega) (by have := i_nlt c9; have := i_rg j; have : (0 : Int32).toInt = 0 := rfl; have := i_eq ek10; have : (nI k10).toInt = ((k10 : Nat) : Int) := nI_toInt (by omega); have : (nI sz8).toInt = ((sz8 : Nat) : Int) := nI_toInt (by omega); omega); omega))) ?_
                  refine r_goto (tg := 82) rfl rfl ?_
                  refine r_iret rfl ?_
                  show WR _ cd_174 22 [some (.ref (ad 30)), some (.int c), some (.int i), some (.int j), none] [.int (nI (30 * t8 + k10))] (sI (sI h (ad 0) 6 0) (ad 0) 6 0) _
                  refine r_istore (lv' := [some (.ref (ad 30)), some (.int c), some (.int i), some (.int j), some (.int (nI (30 * t8 + k10)))]) rfl (Nat.le_of_ble_eq_true rfl) rfl ?_
                  refine r_iload rfl rfl ?_
                  refine r_if_ge (tg := 40) rfl rfl (fun _ => ?_) (fun q => False.elim (by have := i_nlt c9; have := i_rg j; have : (0 : Int32).toInt = 0 := rfl; have := i_eq ek10; have : (nI k10).toInt = ((k10 : Nat) : Int) := nI_toInt (by omega); have := i_nlt c11; have : (1 : Int32).toInt = 1 := rfl; have : (nI sz8).toInt = ((sz8 : Nat) : Int) := nI_toInt (by omega); have := sub_t (x := nI sz8) (y := nI k10) (by have := i_nlt c9; have := i_rg j; have : (0 : Int32).toInt = 0 := rfl; have := i_eq ek10; have : (nI k10).toInt = ((k10 : Nat) : Int) := nI_toInt (by omega); have : (nI sz8).toInt = ((sz8 : Nat) : Int) := nI_toInt (by omega); omega) (by have := i_nlt c9; have := i_rg j; have : (0 : Int32).toInt = 0 := rfl; have := i_eq ek10; have : (nI k10).toInt = ((k10 : Nat) : Int) := nI_toInt (by omega); have : (nI sz8).toInt = ((sz8 : Nat) : Int) := nI_toInt (by omega); omega); have : (nI (30 * t8 + k10)).toInt = ((30 * t8 + k10 : Nat) : Int) := nI_toInt (by omega); have := i_nle q; omega))
                  refine r_aload rfl rfl ?_
                  refine r_ic (x := 0) rfl rfl ?_
                  refine r_putI rfl ⟨rfl, rfl, rfl⟩ (fx_t30 fx) ?_
                  refine r_aload rfl rfl ?_
                  refine r_getA (b := ad 36) rfl ⟨rfl, rfl, rfl⟩ (fx_t30 fx) (fx_r30_5 fx) ?_
                  refine r_iload rfl rfl ?_
                  refine r_laload rfl (fx_t36 fx) (vp_ct (fx_n36 fx) (vp_in_nI (by have := i_nlt c9; have := i_rg j; have : (0 : Int32).toInt = 0 := rfl; have := i_eq ek10; have : (nI k10).toInt = ((k10 : Nat) : Int) := nI_toInt (by omega); have := i_nlt c11; have : (1 : Int32).toInt = 1 := rfl; have : (nI sz8).toInt = ((sz8 : Nat) : Int) := nI_toInt (by omega); have := sub_t (x := nI sz8) (y := nI k10) (by have := i_nlt c9; have := i_rg j; have : (0 : Int32).toInt = 0 := rfl; have := i_eq ek10; have : (nI k10).toInt = ((k10 : Nat) : Int) := nI_toInt (by omega); have : (nI sz8).toInt = ((sz8 : Nat) : Int) := nI_toInt (by omega); omega) (by have := i_nlt c9; have := i_rg j; have : (0 : Int32).toInt = 0 := rfl; have := i_eq ek10; have : (nI k10).toInt = ((k10 : Nat) : Int) := nI_toInt (by omega); have : (nI sz8).toInt = ((sz8 : Nat) : Int) := nI_toInt (by omega); omega); omega) (by omega))) ?_
                  refine WR_tL (congrArg (hL (sI (sI (sI h (ad 0) 6 0) (ad 0) 6 0) (ad 30) 11 0) (ad 36)) ((nI_clamp (by have := i_nlt c9; have := i_rg j; have : (0 : Int32).toInt = 0 := rfl; have := i_eq ek10; have : (nI k10).toInt = ((k10 : Nat) : Int) := nI_toInt (by omega); have := i_nlt c11; have : (1 : Int32).toInt = 1 := rfl; have : (nI sz8).toInt = ((sz8 : Nat) : Int) := nI_toInt (by omega); have := sub_t (x := nI sz8) (y := nI k10) (by have := i_nlt c9; have := i_rg j; have : (0 : Int32).toInt = 0 := rfl; have := i_eq ek10; have : (nI k10).toInt = ((k10 : Nat) : Int) := nI_toInt (by omega); have : (nI sz8).toInt = ((sz8 : Nat) : Int) := nI_toInt (by omega); omega) (by have := i_nlt c9; have := i_rg j; have : (0 : Int32).toInt = 0 := rfl; have := i_eq ek10; have : (nI k10).toInt = ((k10 : Nat) : Int) := nI_toInt (by omega); have : (nI sz8).toInt = ((sz8 : Nat) : Int) := nI_toInt (by omega); omega); omega)) : _ = 30 * t8 + k10)) ?_
                  refine WR_tL (y := hL h (mid t8 + 1) k10) (Eq.trans L_oI (Eq.trans L_oI (Eq.trans L_oI (al8 k10 (by have := i_nlt c9; have := i_rg j; have : (0 : Int32).toInt = 0 := rfl; have := i_eq ek10; have : (nI k10).toInt = ((k10 : Nat) : Int) := nI_toInt (by omega); have := i_nlt c11; have : (1 : Int32).toInt = 1 := rfl; have : (nI sz8).toInt = ((sz8 : Nat) : Int) := nI_toInt (by omega); have := sub_t (x := nI sz8) (y := nI k10) (by have := i_nlt c9; have := i_rg j; have : (0 : Int32).toInt = 0 := rfl; have := i_eq ek10; have : (nI k10).toInt = ((k10 : Nat) : Int) := nI_toInt (by omega); have : (nI sz8).toInt = ((sz8 : Nat) : Int) := nI_toInt (by omega); omega) (by have := i_nlt c9; have := i_rg j; have : (0 : Int32).toInt = 0 := rfl; have := i_eq ek10; have : (nI k10).toInt = ((k10 : Nat) : Int) := nI_toInt (by omega); have : (nI sz8).toInt = ((sz8 : Nat) : Int) := nI_toInt (by omega); omega); omega)).1.symm))) ?_
                  refine r_l2i rfl ?_
                  refine r_iret rfl ?_
                  exact ⟨rfl, Rel.why r (((Chg.rf.sI (fx_j fx) (.inl (by decide))).sI (fx_j fx) (.inl (by decide))).sI (fx_j fx) (.inl (by decide))) ⟨rfl, by decide⟩ (Eq.trans (Eq.trans (I_ne (fx_ne fx (by decide))) I_eq) (Eq.symm I_eq)), Nat.le_add_right _ _, Nat.le_add_right _ _⟩
      · refine r_aaloadA (b := mid t4) rfl (isQ_of (fx_t1 fx) (by decide)) (vp_ct (fx_n1 fx) (vp_in_nI (by have := i_nlt c1; have := i_rg c; have : (0 : Int32).toInt = 0 := rfl; have := i_eq ek2; have : (nI k2).toInt = ((k2 : Nat) : Int) := nI_toInt (by omega); have := i_nle c3; have : (24 : Int32).toInt = 24 := rfl; omega) (by omega))) (Eq.trans (congrArg (hR (sI h (ad 0) 6 0) (ad 1)) ((nI_clamp (by have := i_nlt c1; have := i_rg c; have : (0 : Int32).toInt = 0 := rfl; have := i_eq ek2; have : (nI k2).toInt = ((k2 : Nat) : Int) := nI_toInt (by omega); have := i_nle c3; have : (24 : Int32).toInt = 24 := rfl; omega)) : _ = k2)) (Eq.trans R_oI w4)) ?_
        refine r_astore (lv' := [some (.ref (ad 0)), some (.int (nI k2)), some (.int 8), some (.ref (mid t4)), none]) rfl (Nat.le_of_ble_eq_true rfl) rfl ?_
        refine r_aload rfl rfl ?_
        refine r_instY rfl (by decide) tg4 ?_
        refine r_if_eq (tg := 32) rfl rfl (fun q => absurd q (by decide)) (fun _ => ?_)
        refine r_aload rfl rfl ?_
        refine r_cast rfl tg4 ?_
        refine r_astore (lv' := [some (.ref (ad 0)), some (.int (nI k2)), some (.int 8), some (.ref (mid t4)), some (.ref (mid t4))]) rfl (Nat.le_of_ble_eq_true rfl) rfl ?_
        refine r_aload rfl rfl ?_
        refine r_cv (y := 28) (ra := []) (rest := []) rfl ⟨⟨rfl, rfl⟩, rfl, by decide⟩ tg4 rfl rfl (Nat.le_of_ble_eq_true rfl) ?_
        refine in_28 (Nat.le_of_ble_eq_true rfl) ?_
        show WR _ cd_28 0 [some (.ref (mid t4))] [] (sI h (ad 0) 6 0) _
        refine r_aload rfl rfl ?_
        refine r_getI rfl ⟨rfl, rfl, rfl⟩ tg4 ?_
        refine WR_tI (y := nI kd4) (Eq.trans (I_ne (dy_ad fx (.inl (by decide)) dz4)) k1_4) ?_
        refine r_ic (x := (-1)) rfl rfl ?_
        refine r_icmp_ne (tg := 13) rfl rfl (fun _ => ?_) (fun q => False.elim (by have : (nI kd4).toInt = ((kd4 : Nat) : Int) := nI_toInt (by omega); have : (-1 : Int32).toInt = -1 := rfl; have := i_eq q; omega))
        refine r_ic (x := 9) rfl rfl ?_
        refine r_iret rfl ?_
        show WR _ cd_43 25 [some (.ref (ad 0)), some (.int (nI k2)), some (.int 8), some (.ref (mid t4)), some (.ref (mid t4))] [.int 9] (sI h (ad 0) 6 0) _
        refine r_iload rfl rfl ?_
        refine r_icmp_ne (tg := 32) rfl rfl (fun _ => ?_) (fun q => absurd q (by decide))
        refine r_aload rfl rfl ?_
        refine r_aload rfl rfl ?_
        refine r_ifnonnullA (tg := 42) rfl rfl ?_
        refine r_ic (x := (-14)) rfl rfl ?_
        refine r_putI rfl ⟨rfl, rfl, rfl⟩ (fx_t0 fx) ?_
        refine r_null rfl ?_
        refine r_aret0 rfl ?_
        show WR _ cd_42 22 [some (.ref (ad 0)), some (.int c), some (.int i), some (.int j), none, none, none] [.null] (sI (sI h (ad 0) 6 0) (ad 0) 6 (-14)) _
        refine r_astore0 (lv' := [some (.ref (ad 0)), some (.int c), some (.int i), some (.int j), some (.null), none, none]) rfl (Nat.le_of_ble_eq_true rfl) rfl ?_
        refine r_aload0 rfl rfl ?_
        refine r_ifnonnullN (tg := 31) rfl rfl ?_
        refine r_null rfl ?_
        refine r_aret0 rfl ?_
        show WR _ cd_44 12 [some (.ref (ad 0)), some (.int c), some (.int i), some (.int j), none] [.null] (sI (sI h (ad 0) 6 0) (ad 0) 6 (-14)) _
        refine r_astore0 (lv' := [some (.ref (ad 0)), some (.int c), some (.int i), some (.int j), some (.null)]) rfl (Nat.le_of_ble_eq_true rfl) rfl ?_
        refine r_aload0 rfl rfl ?_
        refine r_ifnonnullN (tg := 23) rfl rfl ?_
        refine r_ic (x := 0) rfl rfl ?_
        refine r_goto (tg := 31) rfl rfl ?_
        refine r_iret rfl ?_
        show EV _ 174 [.ref (ad 30), .int c, .int i, .int j] (sI (sI h (ad 0) 6 0) (ad 0) 6 (-14)) _
        refine in_174 (Nat.le_of_ble_eq_true rfl) ?_
        show WR _ cd_174 0 [some (.ref (ad 30)), some (.int c), some (.int i), some (.int j), none] [] (sI (sI h (ad 0) 6 0) (ad 0) 6 (-14)) _
        refine r_iload rfl rfl ?_
        refine WR_tI (y := nI k2) ek2 ?_
        refine r_cs (y := 153) (ra := [.int (nI k2)]) (rest := []) rfl ⟨⟨rfl, rfl⟩, by decide⟩ rfl rfl (Nat.le_of_ble_eq_true rfl) ?_
        refine in_153 (Nat.le_of_ble_eq_true rfl) ?_
        show WR _ cd_153 0 [some (.int (nI k2))] [] (sI (sI h (ad 0) 6 0) (ad 0) 6 (-14)) _
        refine r_iload rfl rfl ?_
        refine r_if_lt (tg := 14) rfl rfl (fun q => False.elim (by have := i_nlt c1; have := i_rg c; have : (0 : Int32).toInt = 0 := rfl; have := i_eq ek2; have : (nI k2).toInt = ((k2 : Nat) : Int) := nI_toInt (by omega); have := i_nle c3; have : (24 : Int32).toInt = 24 := rfl; have := i_lt q; omega)) (fun _ => ?_)
        refine r_iload rfl rfl ?_
        refine r_ic (x := 24) rfl rfl ?_
        refine r_icmp_ge (tg := 14) rfl rfl (fun q => False.elim (by have := i_nlt c1; have := i_rg c; have : (0 : Int32).toInt = 0 := rfl; have := i_eq ek2; have : (nI k2).toInt = ((k2 : Nat) : Int) := nI_toInt (by omega); have := i_nle c3; have : (24 : Int32).toInt = 24 := rfl; have := i_le q; omega)) (fun _ => ?_)
        refine r_ic (x := 1) rfl rfl ?_
        refine r_goto (tg := 15) rfl rfl ?_
        refine r_zret rfl (.inr rfl) ?_
        show WR _ cd_174 4 [some (.ref (ad 30)), some (.int c), some (.int i), some (.int j), none] [.int 1] (sI (sI h (ad 0) 6 0) (ad 0) 6 (-14)) _
        refine r_if_ne (tg := 15) rfl rfl (fun _ => ?_) (fun q => absurd q (by decide))
        refine r_aload rfl rfl ?_
        refine r_iload rfl rfl ?_
        refine WR_tI (y := nI k2) ek2 ?_
        refine r_iload rfl rfl ?_
        refine r_iload rfl rfl ?_
        refine r_cv (y := 173) (ra := [.int j, .int i, .int (nI k2)]) (rest := []) rfl ⟨⟨rfl, rfl⟩, rfl, by decide⟩ (fx_t30 fx) rfl rfl (Nat.le_of_ble_eq_true rfl) ?_
        refine in_173 (Nat.le_of_ble_eq_true rfl) ?_
        show WR _ cd_173 0 [some (.ref (ad 30)), some (.int (nI k2)), some (.int i), some (.int j), none, none] [] (sI (sI h (ad 0) 6 0) (ad 0) 6 (-14)) _
        refine r_aload rfl rfl ?_
        refine r_aload rfl rfl ?_
        refine r_getA (b := ad 31) rfl ⟨rfl, rfl, rfl⟩ (fx_t30 fx) (fx_r30_0 fx) ?_
        refine r_iload rfl rfl ?_
        refine r_iaload rfl (.inl (fx_t31 fx)) (vp_ct (fx_n31 fx) (vp_in_nI (by have := i_nlt c1; have := i_rg c; have : (0 : Int32).toInt = 0 := rfl; have := i_eq ek2; have : (nI k2).toInt = ((k2 : Nat) : Int) := nI_toInt (by omega); have := i_nle c3; have : (24 : Int32).toInt = 24 := rfl; omega) (by omega))) ?_
        refine WR_tI (congrArg (hI (sI (sI h (ad 0) 6 0) (ad 0) 6 (-14)) (ad 31)) ((nI_clamp (by have := i_nlt c1; have := i_rg c; have : (0 : Int32).toInt = 0 := rfl; have := i_eq ek2; have : (nI k2).toInt = ((k2 : Nat) : Int) := nI_toInt (by omega); have := i_nle c3; have : (24 : Int32).toInt = 24 := rfl; omega)) : _ = k2)) ?_
        refine WR_tI (y := nI t4) (Eq.trans (I_ne (fx_ne fx (by decide))) (Eq.trans (I_ne (fx_ne fx (by decide))) v4)) ?_
        refine r_ic (x := 8) rfl rfl ?_
        refine r_iload rfl rfl ?_
        refine r_cv (y := 168) (ra := [.int i, .int 8, .int (nI t4)]) (rest := []) rfl ⟨⟨rfl, rfl⟩, rfl, by decide⟩ (fx_t30 fx) rfl rfl (Nat.le_of_ble_eq_true rfl) ?_
        refine in_168 (Nat.le_of_ble_eq_true rfl) ?_
        show WR _ cd_168 0 [some (.ref (ad 30)), some (.int (nI t4)), some (.int 8), some (.int i)] [] (sI (sI h (ad 0) 6 0) (ad 0) 6 (-14)) _
        refine r_iload rfl rfl ?_
        refine r_ic (x := (-1)) rfl rfl ?_
        refine r_icmp_eq (tg := 18) rfl rfl (fun q => False.elim (by have : (nI t4).toInt = ((t4 : Nat) : Int) := nI_toInt (by omega); have : (-1 : Int32).toInt = -1 := rfl; have := i_eq q; omega)) (fun _ => ?_)
        refine r_aload rfl rfl ?_
        refine r_iload rfl rfl ?_
        refine r_cv (y := 166) (ra := [.int (nI t4)]) (rest := []) rfl ⟨⟨rfl, rfl⟩, rfl, by decide⟩ (fx_t30 fx) rfl rfl (Nat.le_of_ble_eq_true rfl) ?_
        refine in_166 (Nat.le_of_ble_eq_true rfl) ?_
        show WR _ cd_166 0 [some (.ref (ad 30)), some (.int (nI t4))] [] (sI (sI h (ad 0) 6 0) (ad 0) 6 (-14)) _
        refine r_iload rfl rfl ?_
        refine r_ic (x := (-1)) rfl rfl ?_
        refine r_icmp_ne (tg := 9) rfl rfl (fun _ => ?_) (fun q => False.elim (by have : (nI t4).toInt = ((t4 : Nat) : Int) := nI_toInt (by omega); have : (-1 : Int32).toInt = -1 := rfl; have := i_eq q; omega))
        refine r_iload rfl rfl ?_
        refine r_ic (x := 1000) rfl rfl ?_
        refine r_icmp_lt (tg := 21) rfl rfl (fun _ => ?_) (fun q => False.elim (by have : (nI t4).toInt = ((t4 : Nat) : Int) := nI_toInt (by omega); have : (1000 : Int32).toInt = 1000 := rfl; have := i_nlt q; omega))
        refine r_aload rfl rfl ?_
        refine r_getA (b := ad 33) rfl ⟨rfl, rfl, rfl⟩ (fx_t30 fx) (fx_r30_2 fx) ?_
        refine r_iload rfl rfl ?_
        refine r_iaload rfl (.inl (fx_t33 fx)) (vp_ct (fx_n33 fx) (vp_in_nI (by omega) (by omega))) ?_
        refine WR_tI (congrArg (hI (sI (sI h (ad 0) 6 0) (ad 0) 6 (-14)) (ad 33)) ((nI_clamp (by omega)) : _ = t4)) ?_
        refine WR_tI (y := 9) (Eq.trans (I_ne (fx_ne fx (by decide))) (Eq.trans (I_ne (fx_ne fx (by decide))) l2_4)) ?_
        refine r_iret rfl ?_
        show WR _ cd_168 10 [some (.ref (ad 30)), some (.int (nI t4)), some (.int 8), some (.int i)] [.int 9] (sI (sI h (ad 0) 6 0) (ad 0) 6 (-14)) _
        refine r_iload rfl rfl ?_
        refine r_icmp_eq (tg := 18) rfl rfl (fun q => absurd q (by decide)) (fun _ => ?_)
        refine r_ic (x := 4) rfl rfl ?_
        refine r_goto (tg := 50) rfl rfl ?_
        refine r_iret rfl ?_
        show WR _ cd_173 13 [some (.ref (ad 30)), some (.int (nI k2)), some (.int i), some (.int j), none, none] [.int 4] (sI (sI h (ad 0) 6 0) (ad 0) 6 (-14)) _
        refine r_istore (lv' := [some (.ref (ad 30)), some (.int (nI k2)), some (.int i), some (.int j), some (.int 4), none]) rfl (Nat.le_of_ble_eq_true rfl) rfl ?_
        refine r_iload rfl rfl ?_
        refine r_if_le (tg := 24) rfl rfl (fun q => absurd q (by decide)) (fun _ => ?_)
        refine r_iload rfl rfl ?_
        refine r_ineg rfl ?_
        refine WR_tI (y := (-4)) rfl ?_
        refine r_iret rfl ?_
        show WR _ cd_174 22 [some (.ref (ad 30)), some (.int c), some (.int i), some (.int j), none] [.int (-4)] (sI (sI h (ad 0) 6 0) (ad 0) 6 (-14)) _
        refine r_istore (lv' := [some (.ref (ad 30)), some (.int c), some (.int i), some (.int j), some (.int (-4))]) rfl (Nat.le_of_ble_eq_true rfl) rfl ?_
        refine r_iload rfl rfl ?_
        refine r_if_ge (tg := 40) rfl rfl (fun q => absurd q (by decide)) (fun _ => ?_)
        refine r_aload rfl rfl ?_
        refine r_ic (x := (-10)) rfl rfl ?_
        refine r_iload rfl rfl ?_
        refine r_iadd rfl ?_
        refine WR_tI (y := (-14)) rfl ?_
        refine r_cv (y := 171) (ra := [.int (-14)]) (rest := []) rfl ⟨⟨rfl, rfl⟩, rfl, by decide⟩ (fx_t30 fx) rfl rfl (Nat.le_of_ble_eq_true rfl) ?_
        refine in_171 (Nat.le_of_ble_eq_true rfl) ?_
        show WR _ cd_171 0 [some (.ref (ad 30)), some (.int (-14))] [] (sI (sI h (ad 0) 6 0) (ad 0) 6 (-14)) _
        refine r_aload rfl rfl ?_
        refine r_iload rfl rfl ?_
        refine r_putI rfl ⟨rfl, rfl, rfl⟩ (fx_t30 fx) ?_
        refine r_lc (x := 0) rfl rfl ?_
        refine r_lret rfl ?_
        show WR _ cd_174 38 [some (.ref (ad 30)), some (.int c), some (.int i), some (.int j), some (.int (-4))] [.long 0] (sI (sI (sI h (ad 0) 6 0) (ad 0) 6 (-14)) (ad 30) 11 (-14)) _
        refine r_l2i rfl ?_
        refine WR_tI (y := 0) rfl ?_
        refine r_iret rfl ?_
        exact ⟨rfl, Rel.why r (((Chg.rf.sI (fx_j fx) (.inl (by decide))).sI (fx_j fx) (.inl (by decide))).sI (fx_j fx) (.inl (by decide))) ⟨rfl, by decide⟩ (Eq.trans (Eq.trans (I_ne (fx_ne fx (by decide))) I_eq) (Eq.symm I_eq)), Nat.le_add_right _ _, Nat.le_add_right _ _⟩

set_option maxHeartbeats 2000000 in
theorem k_putAt {n : Nat} {ad sa : Nat → Nat} {z0 : Nat} {h : mH} (r : Rel n ad sa z0 h) (c : Int32) (i : Int32) (j : Int32) (v : Int32) : AP n ad sa z0 h 41 172 [.int c, .int i, .int j, .int v] := by
  obtain ⟨mid, pa, np, fx, ry, rt, ra, rp, rf, rst, ru, rs⟩ := id r
  have fx0 := fx
  unfold AP
  refine in_41 (Nat.le_of_ble_eq_true rfl) ?_
  show WR _ cd_41 0 [some (.ref (ad 0)), some (.int c), some (.int i), some (.int j), some (.int v), none] [] h _
  refine r_aload rfl rfl ?_
  refine r_ic (x := 0) rfl rfl ?_
  refine r_putI rfl ⟨rfl, rfl, rfl⟩ (fx_t0 fx) ?_
  refine r_aload rfl rfl ?_
  refine r_iload rfl rfl ?_
  refine r_iload rfl rfl ?_
  refine r_iload rfl rfl ?_
  refine r_cv (y := 42) (ra := [.int j, .int i, .int c]) (rest := []) rfl ⟨⟨rfl, rfl⟩, rfl, by decide⟩ (fx_t0 fx) rfl rfl (Nat.le_of_ble_eq_true rfl) ?_
  refine in_42 (Nat.le_of_ble_eq_true rfl) ?_
  show WR _ cd_42 0 [some (.ref (ad 0)), some (.int c), some (.int i), some (.int j), none, none, none] [] (sI h (ad 0) 6 0) _
  refine r_iload rfl rfl ?_
  refine r_cs (y := 12) (ra := [.int c]) (rest := []) rfl ⟨⟨rfl, rfl⟩, by decide⟩ rfl rfl (Nat.le_of_ble_eq_true rfl) ?_
  refine in_12 (Nat.le_of_ble_eq_true rfl) ?_
  show WR _ cd_12 0 [some (.int c)] [] (sI h (ad 0) 6 0) _
  refine r_iload rfl rfl ?_
  refine r_if_lt (tg := 14) rfl rfl (fun c1 => ?_) (fun c1 => ?_)
  · refine r_ic (x := 0) rfl rfl ?_
    refine r_zret rfl (.inl rfl) ?_
    show WR _ cd_42 4 [some (.ref (ad 0)), some (.int c), some (.int i), some (.int j), none, none, none] [.int 0] (sI h (ad 0) 6 0) _
    refine r_if_ne (tg := 15) rfl rfl (fun q => absurd q (by decide)) (fun _ => ?_)
    refine r_aload rfl rfl ?_
    refine r_ic (x := (-2)) rfl rfl ?_
    refine r_putI rfl ⟨rfl, rfl, rfl⟩ (fx_t0 fx) ?_
    refine r_null rfl ?_
    refine r_aret0 rfl ?_
    show WR _ cd_41 12 [some (.ref (ad 0)), some (.int c), some (.int i), some (.int j), some (.int v), none] [.null] (sI (sI h (ad 0) 6 0) (ad 0) 6 (-2)) _
    refine r_astore0 (lv' := [some (.ref (ad 0)), some (.int c), some (.int i), some (.int j), some (.int v), some (.null)]) rfl (Nat.le_of_ble_eq_true rfl) rfl ?_
    refine r_aload0 rfl rfl ?_
    refine r_ifnonnullN (tg := 24) rfl rfl ?_
    refine r_aload rfl rfl ?_
    refine r_getI rfl ⟨rfl, rfl, rfl⟩ (fx_t0 fx) ?_
    refine WR_tI (y := (-2)) I_eq ?_
    refine r_iret rfl ?_
    show EV _ 172 [.ref (ad 30), .int c, .int i, .int j, .int v] (sI (sI h (ad 0) 6 0) (ad 0) 6 (-2)) _
    refine in_172 (Nat.le_of_ble_eq_true rfl) ?_
    show WR _ cd_172 0 [some (.ref (ad 30)), some (.int c), some (.int i), some (.int j), some (.int v), none] [] (sI (sI h (ad 0) 6 0) (ad 0) 6 (-2)) _
    refine r_iload rfl rfl ?_
    refine r_cs (y := 153) (ra := [.int c]) (rest := []) rfl ⟨⟨rfl, rfl⟩, by decide⟩ rfl rfl (Nat.le_of_ble_eq_true rfl) ?_
    refine in_153 (Nat.le_of_ble_eq_true rfl) ?_
    show WR _ cd_153 0 [some (.int c)] [] (sI (sI h (ad 0) 6 0) (ad 0) 6 (-2)) _
    refine r_iload rfl rfl ?_
    refine r_if_lt (tg := 14) rfl rfl (fun _ => ?_) (fun q => False.elim (by have := i_lt c1; have := i_rg c; have : (0 : Int32).toInt = 0 := rfl; have := i_nlt q; omega))
    refine r_ic (x := 0) rfl rfl ?_
    refine r_zret rfl (.inl rfl) ?_
    show WR _ cd_172 4 [some (.ref (ad 30)), some (.int c), some (.int i), some (.int j), some (.int v), none] [.int 0] (sI (sI h (ad 0) 6 0) (ad 0) 6 (-2)) _
    refine r_if_ne (tg := 14) rfl rfl (fun q => absurd q (by decide)) (fun _ => ?_)
    refine r_aload rfl rfl ?_
    refine r_ic (x := (-2)) rfl rfl ?_
    refine r_cv (y := 154) (ra := [.int (-2)]) (rest := []) rfl ⟨⟨rfl, rfl⟩, rfl, by decide⟩ (fx_t30 fx) rfl rfl (Nat.le_of_ble_eq_true rfl) ?_
    refine in_154 (Nat.le_of_ble_eq_true rfl) ?_
    show WR _ cd_154 0 [some (.ref (ad 30)), some (.int (-2))] [] (sI (sI h (ad 0) 6 0) (ad 0) 6 (-2)) _
    refine r_aload rfl rfl ?_
    refine r_iload rfl rfl ?_
    refine r_ic (x := (-1)) rfl rfl ?_
    refine r_icmp_ge (tg := 10) rfl rfl (fun q => absurd q (by decide)) (fun _ => ?_)
    refine r_iload rfl rfl ?_
    refine r_goto (tg := 11) rfl rfl ?_
    refine r_putI rfl ⟨rfl, rfl, rfl⟩ (fx_t30 fx) ?_
    refine r_iload rfl rfl ?_
    refine r_iret rfl ?_
    show WR _ cd_172 13 [some (.ref (ad 30)), some (.int c), some (.int i), some (.int j), some (.int v), none] [.int (-2)] (sI (sI (sI h (ad 0) 6 0) (ad 0) 6 (-2)) (ad 30) 11 (-2)) _
    refine r_iret rfl ?_
    exact ⟨rfl, Rel.why r (((Chg.rf.sI (fx_j fx) (.inl (by decide))).sI (fx_j fx) (.inl (by decide))).sI (fx_j fx) (.inl (by decide))) ⟨rfl, by decide⟩ (Eq.trans (Eq.trans (I_ne (fx_ne fx (by decide))) I_eq) (Eq.symm I_eq)), Nat.le_add_right _ _, Nat.le_add_right _ _⟩
  · obtain ⟨k2, hk2, ek2⟩ := ix_of (x := c) (n := 2147483648) (by have := i_nlt c1; have := i_rg c; have : (0 : Int32).toInt = 0 := rfl; omega) (by have := i_nlt c1; have := i_rg c; have : (0 : Int32).toInt = 0 := rfl; omega)
    refine r_iload rfl rfl ?_
    refine WR_tI (y := nI k2) ek2 ?_
    refine r_ic (x := 24) rfl rfl ?_
    refine r_icmp_ge (tg := 14) rfl rfl (fun c3 => ?_) (fun c3 => ?_)
    · refine r_ic (x := 0) rfl rfl ?_
      refine r_zret rfl (.inl rfl) ?_
      show WR _ cd_42 4 [some (.ref (ad 0)), some (.int c), some (.int i), some (.int j), none, none, none] [.int 0] (sI h (ad 0) 6 0) _
      refine r_if_ne (tg := 15) rfl rfl (fun q => absurd q (by decide)) (fun _ => ?_)
      refine r_aload rfl rfl ?_
      refine r_ic (x := (-2)) rfl rfl ?_
      refine r_putI rfl ⟨rfl, rfl, rfl⟩ (fx_t0 fx) ?_
      refine r_null rfl ?_
      refine r_aret0 rfl ?_
      show WR _ cd_41 12 [some (.ref (ad 0)), some (.int c), some (.int i), some (.int j), some (.int v), none] [.null] (sI (sI h (ad 0) 6 0) (ad 0) 6 (-2)) _
      refine r_astore0 (lv' := [some (.ref (ad 0)), some (.int c), some (.int i), some (.int j), some (.int v), some (.null)]) rfl (Nat.le_of_ble_eq_true rfl) rfl ?_
      refine r_aload0 rfl rfl ?_
      refine r_ifnonnullN (tg := 24) rfl rfl ?_
      refine r_aload rfl rfl ?_
      refine r_getI rfl ⟨rfl, rfl, rfl⟩ (fx_t0 fx) ?_
      refine WR_tI (y := (-2)) I_eq ?_
      refine r_iret rfl ?_
      show EV _ 172 [.ref (ad 30), .int c, .int i, .int j, .int v] (sI (sI h (ad 0) 6 0) (ad 0) 6 (-2)) _
      refine in_172 (Nat.le_of_ble_eq_true rfl) ?_
      show WR _ cd_172 0 [some (.ref (ad 30)), some (.int c), some (.int i), some (.int j), some (.int v), none] [] (sI (sI h (ad 0) 6 0) (ad 0) 6 (-2)) _
      refine r_iload rfl rfl ?_
      refine WR_tI (y := nI k2) ek2 ?_
      refine r_cs (y := 153) (ra := [.int (nI k2)]) (rest := []) rfl ⟨⟨rfl, rfl⟩, by decide⟩ rfl rfl (Nat.le_of_ble_eq_true rfl) ?_
      refine in_153 (Nat.le_of_ble_eq_true rfl) ?_
      show WR _ cd_153 0 [some (.int (nI k2))] [] (sI (sI h (ad 0) 6 0) (ad 0) 6 (-2)) _
      refine r_iload rfl rfl ?_
      refine r_if_lt (tg := 14) rfl rfl (fun q => False.elim (by have := i_nlt c1; have := i_rg c; have : (0 : Int32).toInt = 0 := rfl; have := i_eq ek2; have : (nI k2).toInt = ((k2 : Nat) : Int) := nI_toInt (by omega); have := i_le c3; have : (24 : Int32).toInt = 24 := rfl; have := i_lt q; omega)) (fun _ => ?_)
      refine r_iload rfl rfl ?_
      refine r_ic (x := 24) rfl rfl ?_
      refine r_icmp_ge (tg := 14) rfl rfl (fun _ => ?_) (fun q => False.elim (by have := i_nlt c1; have := i_rg c; have : (0 : Int32).toInt = 0 := rfl; have := i_eq ek2; have : (nI k2).toInt = ((k2 : Nat) : Int) := nI_toInt (by omega); have := i_le c3; have : (24 : Int32).toInt = 24 := rfl; have := i_nle q; omega))
      refine r_ic (x := 0) rfl rfl ?_
      refine r_zret rfl (.inl rfl) ?_
      show WR _ cd_172 4 [some (.ref (ad 30)), some (.int c), some (.int i), some (.int j), some (.int v), none] [.int 0] (sI (sI h (ad 0) 6 0) (ad 0) 6 (-2)) _
      refine r_if_ne (tg := 14) rfl rfl (fun q => absurd q (by decide)) (fun _ => ?_)
      refine r_aload rfl rfl ?_
      refine r_ic (x := (-2)) rfl rfl ?_
      refine r_cv (y := 154) (ra := [.int (-2)]) (rest := []) rfl ⟨⟨rfl, rfl⟩, rfl, by decide⟩ (fx_t30 fx) rfl rfl (Nat.le_of_ble_eq_true rfl) ?_
      refine in_154 (Nat.le_of_ble_eq_true rfl) ?_
      show WR _ cd_154 0 [some (.ref (ad 30)), some (.int (-2))] [] (sI (sI h (ad 0) 6 0) (ad 0) 6 (-2)) _
      refine r_aload rfl rfl ?_
      refine r_iload rfl rfl ?_
      refine r_ic (x := (-1)) rfl rfl ?_
      refine r_icmp_ge (tg := 10) rfl rfl (fun q => absurd q (by decide)) (fun _ => ?_)
      refine r_iload rfl rfl ?_
      refine r_goto (tg := 11) rfl rfl ?_
      refine r_putI rfl ⟨rfl, rfl, rfl⟩ (fx_t30 fx) ?_
      refine r_iload rfl rfl ?_
      refine r_iret rfl ?_
      show WR _ cd_172 13 [some (.ref (ad 30)), some (.int c), some (.int i), some (.int j), some (.int v), none] [.int (-2)] (sI (sI (sI h (ad 0) 6 0) (ad 0) 6 (-2)) (ad 30) 11 (-2)) _
      refine r_iret rfl ?_
      exact ⟨rfl, Rel.why r (((Chg.rf.sI (fx_j fx) (.inl (by decide))).sI (fx_j fx) (.inl (by decide))).sI (fx_j fx) (.inl (by decide))) ⟨rfl, by decide⟩ (Eq.trans (Eq.trans (I_ne (fx_ne fx (by decide))) I_eq) (Eq.symm I_eq)), Nat.le_add_right _ _, Nat.le_add_right _ _⟩
    · refine r_ic (x := 1) rfl rfl ?_
      refine r_goto (tg := 15) rfl rfl ?_
      refine r_zret rfl (.inr rfl) ?_
      show WR _ cd_42 4 [some (.ref (ad 0)), some (.int c), some (.int i), some (.int j), none, none, none] [.int 1] (sI h (ad 0) 6 0) _
      refine r_if_ne (tg := 15) rfl rfl (fun _ => ?_) (fun q => absurd q (by decide))
      refine r_aload rfl rfl ?_
      refine r_iload rfl rfl ?_
      refine WR_tI (y := nI k2) ek2 ?_
      refine r_ic (x := 8) rfl rfl ?_
      refine r_cv (y := 43) (ra := [.int 8, .int (nI k2)]) (rest := []) rfl ⟨⟨rfl, rfl⟩, rfl, by decide⟩ (fx_t0 fx) rfl rfl (Nat.le_of_ble_eq_true rfl) ?_
      refine in_43 (Nat.le_of_ble_eq_true rfl) ?_
      show WR _ cd_43 0 [some (.ref (ad 0)), some (.int (nI k2)), some (.int 8), none, none] [] (sI h (ad 0) 6 0) _
      refine r_aload rfl rfl ?_
      refine r_getA (b := ad 1) rfl ⟨rfl, rfl, rfl⟩ (fx_t0 fx) (fx_r0_0 fx) ?_
      refine r_iload rfl rfl ?_
      rcases rs.cs (n := n) (sa := sa) (c := k2) (by have := i_nlt c1; have := i_rg c; have : (0 : Int32).toInt = 0 := rfl; have := i_eq ek2; have : (nI k2).toInt = ((k2 : Nat) : Int) := nI_toInt (by omega); have := i_nle c3; have : (24 : Int32).toInt = 24 := rfl; omega) with ⟨v4, w4⟩ | ⟨q4, kd4, hq4, hn4, v4, w4, dz4, tg4, s1_4, k1_4, k2_4, hk_4, we4⟩ | ⟨t4, ln4, sz4, ht4, v4, w4, dz4, tg4, r_4, tg2_4, l1_4, l2_4, hl_4, kd_4, n_4, sz_4, hs_4, al4, rw4⟩ | ⟨t4, sz4, ht4, v4, w4, dz4, tg4, r_4, tg2_4, k1_4, l2_4, k2_4, n_4, sz_4, hs_4, al4, rw4⟩ | ⟨t4, kd4, sz4, ht4, v4, w4, dz4, tg4, r_4, tg2_4, k1_4, l2_4, k2_4, hk_4, n_4, sz_4, hs_4, al4, rw4⟩
      · refine r_aaload0 rfl (isQ_of (fx_t1 fx) (by decide)) (vp_ct (fx_n1 fx) (vp_in_nI (by have := i_nlt c1; have := i_rg c; have : (0 : Int32).toInt = 0 := rfl; have := i_eq ek2; have : (nI k2).toInt = ((k2 : Nat) : Int) := nI_toInt (by omega); have := i_nle c3; have : (24 : Int32).toInt = 24 := rfl; omega) (by omega))) (Eq.trans (congrArg (hR (sI h (ad 0) 6 0) (ad 1)) ((nI_clamp (by have := i_nlt c1; have := i_rg c; have : (0 : Int32).toInt = 0 := rfl; have := i_eq ek2; have : (nI k2).toInt = ((k2 : Nat) : Int) := nI_toInt (by omega); have := i_nle c3; have : (24 : Int32).toInt = 24 := rfl; omega)) : _ = k2)) (Eq.trans R_oI w4)) ?_
        refine r_astore0 (lv' := [some (.ref (ad 0)), some (.int (nI k2)), some (.int 8), some (.null), none]) rfl (Nat.le_of_ble_eq_true rfl) rfl ?_
        refine r_aload0 rfl rfl ?_
        refine r_instN rfl (by decide) ?_
        refine r_if_eq (tg := 32) rfl rfl (fun _ => ?_) (fun q => absurd q (by decide))
        refine r_aload rfl rfl ?_
        refine r_aload0 rfl rfl ?_
        refine r_ifnonnullN (tg := 42) rfl rfl ?_
        refine r_ic (x := (-11)) rfl rfl ?_
        refine r_goto (tg := 44) rfl rfl ?_
        refine r_putI rfl ⟨rfl, rfl, rfl⟩ (fx_t0 fx) ?_
        refine r_null rfl ?_
        refine r_aret0 rfl ?_
        show WR _ cd_42 22 [some (.ref (ad 0)), some (.int c), some (.int i), some (.int j), none, none, none] [.null] (sI (sI h (ad 0) 6 0) (ad 0) 6 (-11)) _
        refine r_astore0 (lv' := [some (.ref (ad 0)), some (.int c), some (.int i), some (.int j), some (.null), none, none]) rfl (Nat.le_of_ble_eq_true rfl) rfl ?_
        refine r_aload0 rfl rfl ?_
        refine r_ifnonnullN (tg := 31) rfl rfl ?_
        refine r_null rfl ?_
        refine r_aret0 rfl ?_
        show WR _ cd_41 12 [some (.ref (ad 0)), some (.int c), some (.int i), some (.int j), some (.int v), none] [.null] (sI (sI h (ad 0) 6 0) (ad 0) 6 (-11)) _
        refine r_astore0 (lv' := [some (.ref (ad 0)), some (.int c), some (.int i), some (.int j), some (.int v), some (.null)]) rfl (Nat.le_of_ble_eq_true rfl) rfl ?_
        refine r_aload0 rfl rfl ?_
        refine r_ifnonnullN (tg := 24) rfl rfl ?_
        refine r_aload rfl rfl ?_
        refine r_getI rfl ⟨rfl, rfl, rfl⟩ (fx_t0 fx) ?_
        refine WR_tI (y := (-11)) I_eq ?_
        refine r_iret rfl ?_
        show EV _ 172 [.ref (ad 30), .int c, .int i, .int j, .int v] (sI (sI h (ad 0) 6 0) (ad 0) 6 (-11)) _
        refine in_172 (Nat.le_of_ble_eq_true rfl) ?_
        show WR _ cd_172 0 [some (.ref (ad 30)), some (.int c), some (.int i), some (.int j), some (.int v), none] [] (sI (sI h (ad 0) 6 0) (ad 0) 6 (-11)) _
        refine r_iload rfl rfl ?_
        refine WR_tI (y := nI k2) ek2 ?_
        refine r_cs (y := 153) (ra := [.int (nI k2)]) (rest := []) rfl ⟨⟨rfl, rfl⟩, by decide⟩ rfl rfl (Nat.le_of_ble_eq_true rfl) ?_
        refine in_153 (Nat.le_of_ble_eq_true rfl) ?_
        show WR _ cd_153 0 [some (.int (nI k2))] [] (sI (sI h (ad 0) 6 0) (ad 0) 6 (-11)) _
        refine r_iload rfl rfl ?_
        refine r_if_lt (tg := 14) rfl rfl (fun q => False.elim (by have := i_nlt c1; have := i_rg c; have : (0 : Int32).toInt = 0 := rfl; have := i_eq ek2; have : (nI k2).toInt = ((k2 : Nat) : Int) := nI_toInt (by omega); have := i_nle c3; have : (24 : Int32).toInt = 24 := rfl; have := i_lt q; omega)) (fun _ => ?_)
        refine r_iload rfl rfl ?_
        refine r_ic (x := 24) rfl rfl ?_
        refine r_icmp_ge (tg := 14) rfl rfl (fun q => False.elim (by have := i_nlt c1; have := i_rg c; have : (0 : Int32).toInt = 0 := rfl; have := i_eq ek2; have : (nI k2).toInt = ((k2 : Nat) : Int) := nI_toInt (by omega); have := i_nle c3; have : (24 : Int32).toInt = 24 := rfl; have := i_le q; omega)) (fun _ => ?_)
        refine r_ic (x := 1) rfl rfl ?_
        refine r_goto (tg := 15) rfl rfl ?_
        refine r_zret rfl (.inr rfl) ?_
        show WR _ cd_172 4 [some (.ref (ad 30)), some (.int c), some (.int i), some (.int j), some (.int v), none] [.int 1] (sI (sI h (ad 0) 6 0) (ad 0) 6 (-11)) _
        refine r_if_ne (tg := 14) rfl rfl (fun _ => ?_) (fun q => absurd q (by decide))
        refine r_aload rfl rfl ?_
        refine r_iload rfl rfl ?_
        refine WR_tI (y := nI k2) ek2 ?_
        refine r_iload rfl rfl ?_
        refine r_iload rfl rfl ?_
        refine r_cv (y := 173) (ra := [.int j, .int i, .int (nI k2)]) (rest := []) rfl ⟨⟨rfl, rfl⟩, rfl, by decide⟩ (fx_t30 fx) rfl rfl (Nat.le_of_ble_eq_true rfl) ?_
        refine in_173 (Nat.le_of_ble_eq_true rfl) ?_
        show WR _ cd_173 0 [some (.ref (ad 30)), some (.int (nI k2)), some (.int i), some (.int j), none, none] [] (sI (sI h (ad 0) 6 0) (ad 0) 6 (-11)) _
        refine r_aload rfl rfl ?_
        refine r_aload rfl rfl ?_
        refine r_getA (b := ad 31) rfl ⟨rfl, rfl, rfl⟩ (fx_t30 fx) (fx_r30_0 fx) ?_
        refine r_iload rfl rfl ?_
        refine r_iaload rfl (.inl (fx_t31 fx)) (vp_ct (fx_n31 fx) (vp_in_nI (by have := i_nlt c1; have := i_rg c; have : (0 : Int32).toInt = 0 := rfl; have := i_eq ek2; have : (nI k2).toInt = ((k2 : Nat) : Int) := nI_toInt (by omega); have := i_nle c3; have : (24 : Int32).toInt = 24 := rfl; omega) (by omega))) ?_
        refine WR_tI (congrArg (hI (sI (sI h (ad 0) 6 0) (ad 0) 6 (-11)) (ad 31)) ((nI_clamp (by have := i_nlt c1; have := i_rg c; have : (0 : Int32).toInt = 0 := rfl; have := i_eq ek2; have : (nI k2).toInt = ((k2 : Nat) : Int) := nI_toInt (by omega); have := i_nle c3; have : (24 : Int32).toInt = 24 := rfl; omega)) : _ = k2)) ?_
        refine WR_tI (y := (-1)) (Eq.trans (I_ne (fx_ne fx (by decide))) (Eq.trans (I_ne (fx_ne fx (by decide))) v4)) ?_
        refine r_ic (x := 8) rfl rfl ?_
        refine r_iload rfl rfl ?_
        refine r_cv (y := 168) (ra := [.int i, .int 8, .int (-1)]) (rest := []) rfl ⟨⟨rfl, rfl⟩, rfl, by decide⟩ (fx_t30 fx) rfl rfl (Nat.le_of_ble_eq_true rfl) ?_
        refine in_168 (Nat.le_of_ble_eq_true rfl) ?_
        show WR _ cd_168 0 [some (.ref (ad 30)), some (.int (-1)), some (.int 8), some (.int i)] [] (sI (sI h (ad 0) 6 0) (ad 0) 6 (-11)) _
        refine r_iload rfl rfl ?_
        refine r_ic (x := (-1)) rfl rfl ?_
        refine r_icmp_eq (tg := 18) rfl rfl (fun _ => ?_) (fun q => absurd q (by decide))
        refine r_iload rfl rfl ?_
        refine r_ic (x := (-1)) rfl rfl ?_
        refine r_icmp_ne (tg := 27) rfl rfl (fun q => absurd q (by decide)) (fun _ => ?_)
        refine r_ic (x := 1) rfl rfl ?_
        refine r_goto (tg := 50) rfl rfl ?_
        refine r_iret rfl ?_
        show WR _ cd_173 13 [some (.ref (ad 30)), some (.int (nI k2)), some (.int i), some (.int j), none, none] [.int 1] (sI (sI h (ad 0) 6 0) (ad 0) 6 (-11)) _
        refine r_istore (lv' := [some (.ref (ad 30)), some (.int (nI k2)), some (.int i), some (.int j), some (.int 1), none]) rfl (Nat.le_of_ble_eq_true rfl) rfl ?_
        refine r_iload rfl rfl ?_
        refine r_if_le (tg := 24) rfl rfl (fun q => absurd q (by decide)) (fun _ => ?_)
        refine r_iload rfl rfl ?_
        refine r_ineg rfl ?_
        refine WR_tI (y := (-1)) rfl ?_
        refine r_iret rfl ?_
        show WR _ cd_172 21 [some (.ref (ad 30)), some (.int c), some (.int i), some (.int j), some (.int v), none] [.int (-1)] (sI (sI h (ad 0) 6 0) (ad 0) 6 (-11)) _
        refine r_istore (lv' := [some (.ref (ad 30)), some (.int c), some (.int i), some (.int j), some (.int v), some (.int (-1))]) rfl (Nat.le_of_ble_eq_true rfl) rfl ?_
        refine r_iload rfl rfl ?_
        refine r_if_ge (tg := 36) rfl rfl (fun q => absurd q (by decide)) (fun _ => ?_)
        refine r_aload rfl rfl ?_
        refine r_iload rfl rfl ?_
        refine r_ineg rfl ?_
        refine WR_tI (y := 1) rfl ?_
        refine r_cv (y := 156) (ra := [.int 1]) (rest := []) rfl ⟨⟨rfl, rfl⟩, rfl, by decide⟩ (fx_t30 fx) rfl rfl (Nat.le_of_ble_eq_true rfl) ?_
        refine in_156 (Nat.le_of_ble_eq_true rfl) ?_
        show WR _ cd_156 0 [some (.ref (ad 30)), some (.int 1)] [] (sI (sI h (ad 0) 6 0) (ad 0) 6 (-11)) _
        refine r_aload rfl rfl ?_
        refine r_ic (x := (-10)) rfl rfl ?_
        refine r_iload rfl rfl ?_
        refine r_isub rfl ?_
        refine WR_tI (y := (-11)) rfl ?_
        refine r_cv (y := 154) (ra := [.int (-11)]) (rest := []) rfl ⟨⟨rfl, rfl⟩, rfl, by decide⟩ (fx_t30 fx) rfl rfl (Nat.le_of_ble_eq_true rfl) ?_
        refine in_154 (Nat.le_of_ble_eq_true rfl) ?_
        show WR _ cd_154 0 [some (.ref (ad 30)), some (.int (-11))] [] (sI (sI h (ad 0) 6 0) (ad 0) 6 (-11)) _
        refine r_aload rfl rfl ?_
        refine r_iload rfl rfl ?_
        refine r_ic (x := (-1)) rfl rfl ?_
        refine r_icmp_ge (tg := 10) rfl rfl (fun q => absurd q (by decide)) (fun _ => ?_)
        refine r_iload rfl rfl ?_
        refine r_goto (tg := 11) rfl rfl ?_
        refine r_putI rfl ⟨rfl, rfl, rfl⟩ (fx_t30 fx) ?_
        refine r_iload rfl rfl ?_
        refine r_iret rfl ?_
        show WR _ cd_156 8 [some (.ref (ad 30)), some (.int 1)] [.int (-11)] (sI (sI (sI h (ad 0) 6 0) (ad 0) 6 (-11)) (ad 30) 11 (-11)) _
        refine r_iret rfl ?_
        show WR _ cd_172 35 [some (.ref (ad 30)), some (.int c), some (.int i), some (.int j), some (.int v), some (.int (-1))] [.int (-11)] (sI (sI (sI h (ad 0) 6 0) (ad 0) 6 (-11)) (ad 30) 11 (-11)) _
        refine r_iret rfl ?_
        exact ⟨rfl, Rel.why r (((Chg.rf.sI (fx_j fx) (.inl (by decide))).sI (fx_j fx) (.inl (by decide))).sI (fx_j fx) (.inl (by decide))) ⟨rfl, by decide⟩ (Eq.trans (Eq.trans (I_ne (fx_ne fx (by decide))) I_eq) (Eq.symm I_eq)), Nat.le_add_right _ _, Nat.le_add_right _ _⟩
      · refine r_aaloadA (b := pa q4) rfl (isQ_of (fx_t1 fx) (by decide)) (vp_ct (fx_n1 fx) (vp_in_nI (by have := i_nlt c1; have := i_rg c; have : (0 : Int32).toInt = 0 := rfl; have := i_eq ek2; have : (nI k2).toInt = ((k2 : Nat) : Int) := nI_toInt (by omega); have := i_nle c3; have : (24 : Int32).toInt = 24 := rfl; omega) (by omega))) (Eq.trans (congrArg (hR (sI h (ad 0) 6 0) (ad 1)) ((nI_clamp (by have := i_nlt c1; have := i_rg c; have : (0 : Int32).toInt = 0 := rfl; have := i_eq ek2; have : (nI k2).toInt = ((k2 : Nat) : Int) := nI_toInt (by omega); have := i_nle c3; have : (24 : Int32).toInt = 24 := rfl; omega)) : _ = k2)) (Eq.trans R_oI w4)) ?_
        refine r_astore (lv' := [some (.ref (ad 0)), some (.int (nI k2)), some (.int 8), some (.ref (pa q4)), none]) rfl (Nat.le_of_ble_eq_true rfl) rfl ?_
        refine r_aload rfl rfl ?_
        refine r_instW rfl (by decide) tg4 (by decide) ?_
        refine r_if_eq (tg := 32) rfl rfl (fun _ => ?_) (fun q => absurd q (by decide))
        refine r_aload rfl rfl ?_
        refine r_aload rfl rfl ?_
        refine r_ifnonnullA (tg := 42) rfl rfl ?_
        refine r_ic (x := (-14)) rfl rfl ?_
        refine r_putI rfl ⟨rfl, rfl, rfl⟩ (fx_t0 fx) ?_
        refine r_null rfl ?_
        refine r_aret0 rfl ?_
        show WR _ cd_42 22 [some (.ref (ad 0)), some (.int c), some (.int i), some (.int j), none, none, none] [.null] (sI (sI h (ad 0) 6 0) (ad 0) 6 (-14)) _
        refine r_astore0 (lv' := [some (.ref (ad 0)), some (.int c), some (.int i), some (.int j), some (.null), none, none]) rfl (Nat.le_of_ble_eq_true rfl) rfl ?_
        refine r_aload0 rfl rfl ?_
        refine r_ifnonnullN (tg := 31) rfl rfl ?_
        refine r_null rfl ?_
        refine r_aret0 rfl ?_
        show WR _ cd_41 12 [some (.ref (ad 0)), some (.int c), some (.int i), some (.int j), some (.int v), none] [.null] (sI (sI h (ad 0) 6 0) (ad 0) 6 (-14)) _
        refine r_astore0 (lv' := [some (.ref (ad 0)), some (.int c), some (.int i), some (.int j), some (.int v), some (.null)]) rfl (Nat.le_of_ble_eq_true rfl) rfl ?_
        refine r_aload0 rfl rfl ?_
        refine r_ifnonnullN (tg := 24) rfl rfl ?_
        refine r_aload rfl rfl ?_
        refine r_getI rfl ⟨rfl, rfl, rfl⟩ (fx_t0 fx) ?_
        refine WR_tI (y := (-14)) I_eq ?_
        refine r_iret rfl ?_
        show EV _ 172 [.ref (ad 30), .int c, .int i, .int j, .int v] (sI (sI h (ad 0) 6 0) (ad 0) 6 (-14)) _
        refine in_172 (Nat.le_of_ble_eq_true rfl) ?_
        show WR _ cd_172 0 [some (.ref (ad 30)), some (.int c), some (.int i), some (.int j), some (.int v), none] [] (sI (sI h (ad 0) 6 0) (ad 0) 6 (-14)) _
        refine r_iload rfl rfl ?_
        refine WR_tI (y := nI k2) ek2 ?_
        refine r_cs (y := 153) (ra := [.int (nI k2)]) (rest := []) rfl ⟨⟨rfl, rfl⟩, by decide⟩ rfl rfl (Nat.le_of_ble_eq_true rfl) ?_
        refine in_153 (Nat.le_of_ble_eq_true rfl) ?_
        show WR _ cd_153 0 [some (.int (nI k2))] [] (sI (sI h (ad 0) 6 0) (ad 0) 6 (-14)) _
        refine r_iload rfl rfl ?_
        refine r_if_lt (tg := 14) rfl rfl (fun q => False.elim (by have := i_nlt c1; have := i_rg c; have : (0 : Int32).toInt = 0 := rfl; have := i_eq ek2; have : (nI k2).toInt = ((k2 : Nat) : Int) := nI_toInt (by omega); have := i_nle c3; have : (24 : Int32).toInt = 24 := rfl; have := i_lt q; omega)) (fun _ => ?_)
        refine r_iload rfl rfl ?_
        refine r_ic (x := 24) rfl rfl ?_
        refine r_icmp_ge (tg := 14) rfl rfl (fun q => False.elim (by have := i_nlt c1; have := i_rg c; have : (0 : Int32).toInt = 0 := rfl; have := i_eq ek2; have : (nI k2).toInt = ((k2 : Nat) : Int) := nI_toInt (by omega); have := i_nle c3; have : (24 : Int32).toInt = 24 := rfl; have := i_le q; omega)) (fun _ => ?_)
        refine r_ic (x := 1) rfl rfl ?_
        refine r_goto (tg := 15) rfl rfl ?_
        refine r_zret rfl (.inr rfl) ?_
        show WR _ cd_172 4 [some (.ref (ad 30)), some (.int c), some (.int i), some (.int j), some (.int v), none] [.int 1] (sI (sI h (ad 0) 6 0) (ad 0) 6 (-14)) _
        refine r_if_ne (tg := 14) rfl rfl (fun _ => ?_) (fun q => absurd q (by decide))
        refine r_aload rfl rfl ?_
        refine r_iload rfl rfl ?_
        refine WR_tI (y := nI k2) ek2 ?_
        refine r_iload rfl rfl ?_
        refine r_iload rfl rfl ?_
        refine r_cv (y := 173) (ra := [.int j, .int i, .int (nI k2)]) (rest := []) rfl ⟨⟨rfl, rfl⟩, rfl, by decide⟩ (fx_t30 fx) rfl rfl (Nat.le_of_ble_eq_true rfl) ?_
        refine in_173 (Nat.le_of_ble_eq_true rfl) ?_
        show WR _ cd_173 0 [some (.ref (ad 30)), some (.int (nI k2)), some (.int i), some (.int j), none, none] [] (sI (sI h (ad 0) 6 0) (ad 0) 6 (-14)) _
        refine r_aload rfl rfl ?_
        refine r_aload rfl rfl ?_
        refine r_getA (b := ad 31) rfl ⟨rfl, rfl, rfl⟩ (fx_t30 fx) (fx_r30_0 fx) ?_
        refine r_iload rfl rfl ?_
        refine r_iaload rfl (.inl (fx_t31 fx)) (vp_ct (fx_n31 fx) (vp_in_nI (by have := i_nlt c1; have := i_rg c; have : (0 : Int32).toInt = 0 := rfl; have := i_eq ek2; have : (nI k2).toInt = ((k2 : Nat) : Int) := nI_toInt (by omega); have := i_nle c3; have : (24 : Int32).toInt = 24 := rfl; omega) (by omega))) ?_
        refine WR_tI (congrArg (hI (sI (sI h (ad 0) 6 0) (ad 0) 6 (-14)) (ad 31)) ((nI_clamp (by have := i_nlt c1; have := i_rg c; have : (0 : Int32).toInt = 0 := rfl; have := i_eq ek2; have : (nI k2).toInt = ((k2 : Nat) : Int) := nI_toInt (by omega); have := i_nle c3; have : (24 : Int32).toInt = 24 := rfl; omega)) : _ = k2)) ?_
        refine WR_tI (y := nI (q4 + 1000)) (Eq.trans (I_ne (fx_ne fx (by decide))) (Eq.trans (I_ne (fx_ne fx (by decide))) v4)) ?_
        refine r_ic (x := 8) rfl rfl ?_
        refine r_iload rfl rfl ?_
        refine r_cv (y := 168) (ra := [.int i, .int 8, .int (nI (q4 + 1000))]) (rest := []) rfl ⟨⟨rfl, rfl⟩, rfl, by decide⟩ (fx_t30 fx) rfl rfl (Nat.le_of_ble_eq_true rfl) ?_
        refine in_168 (Nat.le_of_ble_eq_true rfl) ?_
        show WR _ cd_168 0 [some (.ref (ad 30)), some (.int (nI (q4 + 1000))), some (.int 8), some (.int i)] [] (sI (sI h (ad 0) 6 0) (ad 0) 6 (-14)) _
        refine r_iload rfl rfl ?_
        refine r_ic (x := (-1)) rfl rfl ?_
        refine r_icmp_eq (tg := 18) rfl rfl (fun q => False.elim (by have : (nI (q4 + 1000)).toInt = ((q4 + 1000 : Nat) : Int) := nI_toInt (by omega); have : (-1 : Int32).toInt = -1 := rfl; have := i_eq q; omega)) (fun _ => ?_)
        refine r_aload rfl rfl ?_
        refine r_iload rfl rfl ?_
        refine r_cv (y := 166) (ra := [.int (nI (q4 + 1000))]) (rest := []) rfl ⟨⟨rfl, rfl⟩, rfl, by decide⟩ (fx_t30 fx) rfl rfl (Nat.le_of_ble_eq_true rfl) ?_
        refine in_166 (Nat.le_of_ble_eq_true rfl) ?_
        show WR _ cd_166 0 [some (.ref (ad 30)), some (.int (nI (q4 + 1000)))] [] (sI (sI h (ad 0) 6 0) (ad 0) 6 (-14)) _
        refine r_iload rfl rfl ?_
        refine r_ic (x := (-1)) rfl rfl ?_
        refine r_icmp_ne (tg := 9) rfl rfl (fun _ => ?_) (fun q => False.elim (by have : (nI (q4 + 1000)).toInt = ((q4 + 1000 : Nat) : Int) := nI_toInt (by omega); have : (-1 : Int32).toInt = -1 := rfl; have := i_eq q; omega))
        refine r_iload rfl rfl ?_
        refine r_ic (x := 1000) rfl rfl ?_
        refine r_icmp_lt (tg := 21) rfl rfl (fun q => False.elim (by have : (nI (q4 + 1000)).toInt = ((q4 + 1000 : Nat) : Int) := nI_toInt (by omega); have : (1000 : Int32).toInt = 1000 := rfl; have := i_lt q; omega)) (fun _ => ?_)
        refine r_ic (x := 10) rfl rfl ?_
        refine r_goto (tg := 27) rfl rfl ?_
        refine r_iret rfl ?_
        show WR _ cd_168 10 [some (.ref (ad 30)), some (.int (nI (q4 + 1000))), some (.int 8), some (.int i)] [.int 10] (sI (sI h (ad 0) 6 0) (ad 0) 6 (-14)) _
        refine r_iload rfl rfl ?_
        refine r_icmp_eq (tg := 18) rfl rfl (fun q => absurd q (by decide)) (fun _ => ?_)
        refine r_ic (x := 4) rfl rfl ?_
        refine r_goto (tg := 50) rfl rfl ?_
        refine r_iret rfl ?_
        show WR _ cd_173 13 [some (.ref (ad 30)), some (.int (nI k2)), some (.int i), some (.int j), none, none] [.int 4] (sI (sI h (ad 0) 6 0) (ad 0) 6 (-14)) _
        refine r_istore (lv' := [some (.ref (ad 30)), some (.int (nI k2)), some (.int i), some (.int j), some (.int 4), none]) rfl (Nat.le_of_ble_eq_true rfl) rfl ?_
        refine r_iload rfl rfl ?_
        refine r_if_le (tg := 24) rfl rfl (fun q => absurd q (by decide)) (fun _ => ?_)
        refine r_iload rfl rfl ?_
        refine r_ineg rfl ?_
        refine WR_tI (y := (-4)) rfl ?_
        refine r_iret rfl ?_
        show WR _ cd_172 21 [some (.ref (ad 30)), some (.int c), some (.int i), some (.int j), some (.int v), none] [.int (-4)] (sI (sI h (ad 0) 6 0) (ad 0) 6 (-14)) _
        refine r_istore (lv' := [some (.ref (ad 30)), some (.int c), some (.int i), some (.int j), some (.int v), some (.int (-4))]) rfl (Nat.le_of_ble_eq_true rfl) rfl ?_
        refine r_iload rfl rfl ?_
        refine r_if_ge (tg := 36) rfl rfl (fun q => absurd q (by decide)) (fun _ => ?_)
        refine r_aload rfl rfl ?_
        refine r_iload rfl rfl ?_
        refine r_ineg rfl ?_
        refine WR_tI (y := 4) rfl ?_
        refine r_cv (y := 156) (ra := [.int 4]) (rest := []) rfl ⟨⟨rfl, rfl⟩, rfl, by decide⟩ (fx_t30 fx) rfl rfl (Nat.le_of_ble_eq_true rfl) ?_
        refine in_156 (Nat.le_of_ble_eq_true rfl) ?_
        show WR _ cd_156 0 [some (.ref (ad 30)), some (.int 4)] [] (sI (sI h (ad 0) 6 0) (ad 0) 6 (-14)) _
        refine r_aload rfl rfl ?_
        refine r_ic (x := (-10)) rfl rfl ?_
        refine r_iload rfl rfl ?_
        refine r_isub rfl ?_
        refine WR_tI (y := (-14)) rfl ?_
        refine r_cv (y := 154) (ra := [.int (-14)]) (rest := []) rfl ⟨⟨rfl, rfl⟩, rfl, by decide⟩ (fx_t30 fx) rfl rfl (Nat.le_of_ble_eq_true rfl) ?_
        refine in_154 (Nat.le_of_ble_eq_true rfl) ?_
        show WR _ cd_154 0 [some (.ref (ad 30)), some (.int (-14))] [] (sI (sI h (ad 0) 6 0) (ad 0) 6 (-14)) _
        refine r_aload rfl rfl ?_
        refine r_iload rfl rfl ?_
        refine r_ic (x := (-1)) rfl rfl ?_
        refine r_icmp_ge (tg := 10) rfl rfl (fun q => absurd q (by decide)) (fun _ => ?_)
        refine r_iload rfl rfl ?_
        refine r_goto (tg := 11) rfl rfl ?_
        refine r_putI rfl ⟨rfl, rfl, rfl⟩ (fx_t30 fx) ?_
        refine r_iload rfl rfl ?_
        refine r_iret rfl ?_
        show WR _ cd_156 8 [some (.ref (ad 30)), some (.int 4)] [.int (-14)] (sI (sI (sI h (ad 0) 6 0) (ad 0) 6 (-14)) (ad 30) 11 (-14)) _
        refine r_iret rfl ?_
        show WR _ cd_172 35 [some (.ref (ad 30)), some (.int c), some (.int i), some (.int j), some (.int v), some (.int (-4))] [.int (-14)] (sI (sI (sI h (ad 0) 6 0) (ad 0) 6 (-14)) (ad 30) 11 (-14)) _
        refine r_iret rfl ?_
        exact ⟨rfl, Rel.why r (((Chg.rf.sI (fx_j fx) (.inl (by decide))).sI (fx_j fx) (.inl (by decide))).sI (fx_j fx) (.inl (by decide))) ⟨rfl, by decide⟩ (Eq.trans (Eq.trans (I_ne (fx_ne fx (by decide))) I_eq) (Eq.symm I_eq)), Nat.le_add_right _ _, Nat.le_add_right _ _⟩
      · refine r_aaloadA (b := mid t4) rfl (isQ_of (fx_t1 fx) (by decide)) (vp_ct (fx_n1 fx) (vp_in_nI (by have := i_nlt c1; have := i_rg c; have : (0 : Int32).toInt = 0 := rfl; have := i_eq ek2; have : (nI k2).toInt = ((k2 : Nat) : Int) := nI_toInt (by omega); have := i_nle c3; have : (24 : Int32).toInt = 24 := rfl; omega) (by omega))) (Eq.trans (congrArg (hR (sI h (ad 0) 6 0) (ad 1)) ((nI_clamp (by have := i_nlt c1; have := i_rg c; have : (0 : Int32).toInt = 0 := rfl; have := i_eq ek2; have : (nI k2).toInt = ((k2 : Nat) : Int) := nI_toInt (by omega); have := i_nle c3; have : (24 : Int32).toInt = 24 := rfl; omega)) : _ = k2)) (Eq.trans R_oI w4)) ?_
        refine r_astore (lv' := [some (.ref (ad 0)), some (.int (nI k2)), some (.int 8), some (.ref (mid t4)), none]) rfl (Nat.le_of_ble_eq_true rfl) rfl ?_
        refine r_aload rfl rfl ?_
        refine r_instW rfl (by decide) tg4 (by decide) ?_
        refine r_if_eq (tg := 32) rfl rfl (fun _ => ?_) (fun q => absurd q (by decide))
        refine r_aload rfl rfl ?_
        refine r_aload rfl rfl ?_
        refine r_ifnonnullA (tg := 42) rfl rfl ?_
        refine r_ic (x := (-14)) rfl rfl ?_
        refine r_putI rfl ⟨rfl, rfl, rfl⟩ (fx_t0 fx) ?_
        refine r_null rfl ?_
        refine r_aret0 rfl ?_
        show WR _ cd_42 22 [some (.ref (ad 0)), some (.int c), some (.int i), some (.int j), none, none, none] [.null] (sI (sI h (ad 0) 6 0) (ad 0) 6 (-14)) _
        refine r_astore0 (lv' := [some (.ref (ad 0)), some (.int c), some (.int i), some (.int j), some (.null), none, none]) rfl (Nat.le_of_ble_eq_true rfl) rfl ?_
        refine r_aload0 rfl rfl ?_
        refine r_ifnonnullN (tg := 31) rfl rfl ?_
        refine r_null rfl ?_
        refine r_aret0 rfl ?_
        show WR _ cd_41 12 [some (.ref (ad 0)), some (.int c), some (.int i), some (.int j), some (.int v), none] [.null] (sI (sI h (ad 0) 6 0) (ad 0) 6 (-14)) _
        refine r_astore0 (lv' := [some (.ref (ad 0)), some (.int c), some (.int i), some (.int j), some (.int v), some (.null)]) rfl (Nat.le_of_ble_eq_true rfl) rfl ?_
        refine r_aload0 rfl rfl ?_
        refine r_ifnonnullN (tg := 24) rfl rfl ?_
        refine r_aload rfl rfl ?_
        refine r_getI rfl ⟨rfl, rfl, rfl⟩ (fx_t0 fx) ?_
        refine WR_tI (y := (-14)) I_eq ?_
        refine r_iret rfl ?_
        show EV _ 172 [.ref (ad 30), .int c, .int i, .int j, .int v] (sI (sI h (ad 0) 6 0) (ad 0) 6 (-14)) _
        refine in_172 (Nat.le_of_ble_eq_true rfl) ?_
        show WR _ cd_172 0 [some (.ref (ad 30)), some (.int c), some (.int i), some (.int j), some (.int v), none] [] (sI (sI h (ad 0) 6 0) (ad 0) 6 (-14)) _
        refine r_iload rfl rfl ?_
        refine WR_tI (y := nI k2) ek2 ?_
        refine r_cs (y := 153) (ra := [.int (nI k2)]) (rest := []) rfl ⟨⟨rfl, rfl⟩, by decide⟩ rfl rfl (Nat.le_of_ble_eq_true rfl) ?_
        refine in_153 (Nat.le_of_ble_eq_true rfl) ?_
        show WR _ cd_153 0 [some (.int (nI k2))] [] (sI (sI h (ad 0) 6 0) (ad 0) 6 (-14)) _
        refine r_iload rfl rfl ?_
        refine r_if_lt (tg := 14) rfl rfl (fun q => False.elim (by have := i_nlt c1; have := i_rg c; have : (0 : Int32).toInt = 0 := rfl; have := i_eq ek2; have : (nI k2).toInt = ((k2 : Nat) : Int) := nI_toInt (by omega); have := i_nle c3; have : (24 : Int32).toInt = 24 := rfl; have := i_lt q; omega)) (fun _ => ?_)
        refine r_iload rfl rfl ?_
        refine r_ic (x := 24) rfl rfl ?_
        refine r_icmp_ge (tg := 14) rfl rfl (fun q => False.elim (by have := i_nlt c1; have := i_rg c; have : (0 : Int32).toInt = 0 := rfl; have := i_eq ek2; have : (nI k2).toInt = ((k2 : Nat) : Int) := nI_toInt (by omega); have := i_nle c3; have : (24 : Int32).toInt = 24 := rfl; have := i_le q; omega)) (fun _ => ?_)
        refine r_ic (x := 1) rfl rfl ?_
        refine r_goto (tg := 15) rfl rfl ?_
        refine r_zret rfl (.inr rfl) ?_
        show WR _ cd_172 4 [some (.ref (ad 30)), some (.int c), some (.int i), some (.int j), some (.int v), none] [.int 1] (sI (sI h (ad 0) 6 0) (ad 0) 6 (-14)) _
        refine r_if_ne (tg := 14) rfl rfl (fun _ => ?_) (fun q => absurd q (by decide))
        refine r_aload rfl rfl ?_
        refine r_iload rfl rfl ?_
        refine WR_tI (y := nI k2) ek2 ?_
        refine r_iload rfl rfl ?_
        refine r_iload rfl rfl ?_
        refine r_cv (y := 173) (ra := [.int j, .int i, .int (nI k2)]) (rest := []) rfl ⟨⟨rfl, rfl⟩, rfl, by decide⟩ (fx_t30 fx) rfl rfl (Nat.le_of_ble_eq_true rfl) ?_
        refine in_173 (Nat.le_of_ble_eq_true rfl) ?_
        show WR _ cd_173 0 [some (.ref (ad 30)), some (.int (nI k2)), some (.int i), some (.int j), none, none] [] (sI (sI h (ad 0) 6 0) (ad 0) 6 (-14)) _
        refine r_aload rfl rfl ?_
        refine r_aload rfl rfl ?_
        refine r_getA (b := ad 31) rfl ⟨rfl, rfl, rfl⟩ (fx_t30 fx) (fx_r30_0 fx) ?_
        refine r_iload rfl rfl ?_
        refine r_iaload rfl (.inl (fx_t31 fx)) (vp_ct (fx_n31 fx) (vp_in_nI (by have := i_nlt c1; have := i_rg c; have : (0 : Int32).toInt = 0 := rfl; have := i_eq ek2; have : (nI k2).toInt = ((k2 : Nat) : Int) := nI_toInt (by omega); have := i_nle c3; have : (24 : Int32).toInt = 24 := rfl; omega) (by omega))) ?_
        refine WR_tI (congrArg (hI (sI (sI h (ad 0) 6 0) (ad 0) 6 (-14)) (ad 31)) ((nI_clamp (by have := i_nlt c1; have := i_rg c; have : (0 : Int32).toInt = 0 := rfl; have := i_eq ek2; have : (nI k2).toInt = ((k2 : Nat) : Int) := nI_toInt (by omega); have := i_nle c3; have : (24 : Int32).toInt = 24 := rfl; omega)) : _ = k2)) ?_
        refine WR_tI (y := nI t4) (Eq.trans (I_ne (fx_ne fx (by decide))) (Eq.trans (I_ne (fx_ne fx (by decide))) v4)) ?_
        refine r_ic (x := 8) rfl rfl ?_
        refine r_iload rfl rfl ?_
        refine r_cv (y := 168) (ra := [.int i, .int 8, .int (nI t4)]) (rest := []) rfl ⟨⟨rfl, rfl⟩, rfl, by decide⟩ (fx_t30 fx) rfl rfl (Nat.le_of_ble_eq_true rfl) ?_
        refine in_168 (Nat.le_of_ble_eq_true rfl) ?_
        show WR _ cd_168 0 [some (.ref (ad 30)), some (.int (nI t4)), some (.int 8), some (.int i)] [] (sI (sI h (ad 0) 6 0) (ad 0) 6 (-14)) _
        refine r_iload rfl rfl ?_
        refine r_ic (x := (-1)) rfl rfl ?_
        refine r_icmp_eq (tg := 18) rfl rfl (fun q => False.elim (by have : (nI t4).toInt = ((t4 : Nat) : Int) := nI_toInt (by omega); have : (-1 : Int32).toInt = -1 := rfl; have := i_eq q; omega)) (fun _ => ?_)
        refine r_aload rfl rfl ?_
        refine r_iload rfl rfl ?_
        refine r_cv (y := 166) (ra := [.int (nI t4)]) (rest := []) rfl ⟨⟨rfl, rfl⟩, rfl, by decide⟩ (fx_t30 fx) rfl rfl (Nat.le_of_ble_eq_true rfl) ?_
        refine in_166 (Nat.le_of_ble_eq_true rfl) ?_
        show WR _ cd_166 0 [some (.ref (ad 30)), some (.int (nI t4))] [] (sI (sI h (ad 0) 6 0) (ad 0) 6 (-14)) _
        refine r_iload rfl rfl ?_
        refine r_ic (x := (-1)) rfl rfl ?_
        refine r_icmp_ne (tg := 9) rfl rfl (fun _ => ?_) (fun q => False.elim (by have : (nI t4).toInt = ((t4 : Nat) : Int) := nI_toInt (by omega); have : (-1 : Int32).toInt = -1 := rfl; have := i_eq q; omega))
        refine r_iload rfl rfl ?_
        refine r_ic (x := 1000) rfl rfl ?_
        refine r_icmp_lt (tg := 21) rfl rfl (fun _ => ?_) (fun q => False.elim (by have : (nI t4).toInt = ((t4 : Nat) : Int) := nI_toInt (by omega); have : (1000 : Int32).toInt = 1000 := rfl; have := i_nlt q; omega))
        refine r_aload rfl rfl ?_
        refine r_getA (b := ad 33) rfl ⟨rfl, rfl, rfl⟩ (fx_t30 fx) (fx_r30_2 fx) ?_
        refine r_iload rfl rfl ?_
        refine r_iaload rfl (.inl (fx_t33 fx)) (vp_ct (fx_n33 fx) (vp_in_nI (by omega) (by omega))) ?_
        refine WR_tI (congrArg (hI (sI (sI h (ad 0) 6 0) (ad 0) 6 (-14)) (ad 33)) ((nI_clamp (by omega)) : _ = t4)) ?_
        refine WR_tI (y := nI ln4) (Eq.trans (I_ne (fx_ne fx (by decide))) (Eq.trans (I_ne (fx_ne fx (by decide))) l2_4)) ?_
        refine r_iret rfl ?_
        show WR _ cd_168 10 [some (.ref (ad 30)), some (.int (nI t4)), some (.int 8), some (.int i)] [.int (nI ln4)] (sI (sI h (ad 0) 6 0) (ad 0) 6 (-14)) _
        refine r_iload rfl rfl ?_
        refine r_icmp_eq (tg := 18) rfl rfl (fun q => False.elim (by have : (nI ln4).toInt = ((ln4 : Nat) : Int) := nI_toInt (by omega); have : (8 : Int32).toInt = 8 := rfl; have := i_eq q; omega)) (fun _ => ?_)
        refine r_ic (x := 4) rfl rfl ?_
        refine r_goto (tg := 50) rfl rfl ?_
        refine r_iret rfl ?_
        show WR _ cd_173 13 [some (.ref (ad 30)), some (.int (nI k2)), some (.int i), some (.int j), none, none] [.int 4] (sI (sI h (ad 0) 6 0) (ad 0) 6 (-14)) _
        refine r_istore (lv' := [some (.ref (ad 30)), some (.int (nI k2)), some (.int i), some (.int j), some (.int 4), none]) rfl (Nat.le_of_ble_eq_true rfl) rfl ?_
        refine r_iload rfl rfl ?_
        refine r_if_le (tg := 24) rfl rfl (fun q => absurd q (by decide)) (fun _ => ?_)
        refine r_iload rfl rfl ?_
        refine r_ineg rfl ?_
        refine WR_tI (y := (-4)) rfl ?_
        refine r_iret rfl ?_
        show WR _ cd_172 21 [some (.ref (ad 30)), some (.int c), some (.int i), some (.int j), some (.int v), none] [.int (-4)] (sI (sI h (ad 0) 6 0) (ad 0) 6 (-14)) _
        refine r_istore (lv' := [some (.ref (ad 30)), some (.int c), some (.int i), some (.int j), some (.int v), some (.int (-4))]) rfl (Nat.le_of_ble_eq_true rfl) rfl ?_
        refine r_iload rfl rfl ?_
        refine r_if_ge (tg := 36) rfl rfl (fun q => absurd q (by decide)) (fun _ => ?_)
        refine r_aload rfl rfl ?_
        refine r_iload rfl rfl ?_
        refine r_ineg rfl ?_
        refine WR_tI (y := 4) rfl ?_
        refine r_cv (y := 156) (ra := [.int 4]) (rest := []) rfl ⟨⟨rfl, rfl⟩, rfl, by decide⟩ (fx_t30 fx) rfl rfl (Nat.le_of_ble_eq_true rfl) ?_
        refine in_156 (Nat.le_of_ble_eq_true rfl) ?_
        show WR _ cd_156 0 [some (.ref (ad 30)), some (.int 4)] [] (sI (sI h (ad 0) 6 0) (ad 0) 6 (-14)) _
        refine r_aload rfl rfl ?_
        refine r_ic (x := (-10)) rfl rfl ?_
        refine r_iload rfl rfl ?_
        refine r_isub rfl ?_
        refine WR_tI (y := (-14)) rfl ?_
        refine r_cv (y := 154) (ra := [.int (-14)]) (rest := []) rfl ⟨⟨rfl, rfl⟩, rfl, by decide⟩ (fx_t30 fx) rfl rfl (Nat.le_of_ble_eq_true rfl) ?_
        refine in_154 (Nat.le_of_ble_eq_true rfl) ?_
        show WR _ cd_154 0 [some (.ref (ad 30)), some (.int (-14))] [] (sI (sI h (ad 0) 6 0) (ad 0) 6 (-14)) _
        refine r_aload rfl rfl ?_
        refine r_iload rfl rfl ?_
        refine r_ic (x := (-1)) rfl rfl ?_
        refine r_icmp_ge (tg := 10) rfl rfl (fun q => absurd q (by decide)) (fun _ => ?_)
        refine r_iload rfl rfl ?_
        refine r_goto (tg := 11) rfl rfl ?_
        refine r_putI rfl ⟨rfl, rfl, rfl⟩ (fx_t30 fx) ?_
        refine r_iload rfl rfl ?_
        refine r_iret rfl ?_
        show WR _ cd_156 8 [some (.ref (ad 30)), some (.int 4)] [.int (-14)] (sI (sI (sI h (ad 0) 6 0) (ad 0) 6 (-14)) (ad 30) 11 (-14)) _
        refine r_iret rfl ?_
        show WR _ cd_172 35 [some (.ref (ad 30)), some (.int c), some (.int i), some (.int j), some (.int v), some (.int (-4))] [.int (-14)] (sI (sI (sI h (ad 0) 6 0) (ad 0) 6 (-14)) (ad 30) 11 (-14)) _
        refine r_iret rfl ?_
        exact ⟨rfl, Rel.why r (((Chg.rf.sI (fx_j fx) (.inl (by decide))).sI (fx_j fx) (.inl (by decide))).sI (fx_j fx) (.inl (by decide))) ⟨rfl, by decide⟩ (Eq.trans (Eq.trans (I_ne (fx_ne fx (by decide))) I_eq) (Eq.symm I_eq)), Nat.le_add_right _ _, Nat.le_add_right _ _⟩
      · refine r_aaloadA (b := mid t4) rfl (isQ_of (fx_t1 fx) (by decide)) (vp_ct (fx_n1 fx) (vp_in_nI (by have := i_nlt c1; have := i_rg c; have : (0 : Int32).toInt = 0 := rfl; have := i_eq ek2; have : (nI k2).toInt = ((k2 : Nat) : Int) := nI_toInt (by omega); have := i_nle c3; have : (24 : Int32).toInt = 24 := rfl; omega) (by omega))) (Eq.trans (congrArg (hR (sI h (ad 0) 6 0) (ad 1)) ((nI_clamp (by have := i_nlt c1; have := i_rg c; have : (0 : Int32).toInt = 0 := rfl; have := i_eq ek2; have : (nI k2).toInt = ((k2 : Nat) : Int) := nI_toInt (by omega); have := i_nle c3; have : (24 : Int32).toInt = 24 := rfl; omega)) : _ = k2)) (Eq.trans R_oI w4)) ?_
        refine r_astore (lv' := [some (.ref (ad 0)), some (.int (nI k2)), some (.int 8), some (.ref (mid t4)), none]) rfl (Nat.le_of_ble_eq_true rfl) rfl ?_
        refine r_aload rfl rfl ?_
        refine r_instY rfl (by decide) tg4 ?_
        refine r_if_eq (tg := 32) rfl rfl (fun q => absurd q (by decide)) (fun _ => ?_)
        refine r_aload rfl rfl ?_
        refine r_cast rfl tg4 ?_
        refine r_astore (lv' := [some (.ref (ad 0)), some (.int (nI k2)), some (.int 8), some (.ref (mid t4)), some (.ref (mid t4))]) rfl (Nat.le_of_ble_eq_true rfl) rfl ?_
        refine r_aload rfl rfl ?_
        refine r_cv (y := 28) (ra := []) (rest := []) rfl ⟨⟨rfl, rfl⟩, rfl, by decide⟩ tg4 rfl rfl (Nat.le_of_ble_eq_true rfl) ?_
        refine in_28 (Nat.le_of_ble_eq_true rfl) ?_
        show WR _ cd_28 0 [some (.ref (mid t4))] [] (sI h (ad 0) 6 0) _
        refine r_aload rfl rfl ?_
        refine r_getI rfl ⟨rfl, rfl, rfl⟩ tg4 ?_
        refine WR_tI (y := (-1)) (Eq.trans (I_ne (dy_ad fx (.inl (by decide)) dz4)) k1_4) ?_
        refine r_ic (x := (-1)) rfl rfl ?_
        refine r_icmp_ne (tg := 13) rfl rfl (fun q => absurd q (by decide)) (fun _ => ?_)
        refine r_ic (x := 8) rfl rfl ?_
        refine r_goto (tg := 15) rfl rfl ?_
        refine r_iret rfl ?_
        show WR _ cd_43 25 [some (.ref (ad 0)), some (.int (nI k2)), some (.int 8), some (.ref (mid t4)), some (.ref (mid t4))] [.int 8] (sI h (ad 0) 6 0) _
        refine r_iload rfl rfl ?_
        refine r_icmp_ne (tg := 32) rfl rfl (fun q => absurd q (by decide)) (fun _ => ?_)
        refine r_aload rfl rfl ?_
        refine r_aret rfl ?_
        show WR _ cd_42 22 [some (.ref (ad 0)), some (.int c), some (.int i), some (.int j), none, none, none] [.ref (mid t4)] (sI h (ad 0) 6 0) _
        refine r_astore (lv' := [some (.ref (ad 0)), some (.int c), some (.int i), some (.int j), some (.ref (mid t4)), none, none]) rfl (Nat.le_of_ble_eq_true rfl) rfl ?_
        refine r_aload rfl rfl ?_
        refine r_ifnonnullA (tg := 31) rfl rfl ?_
        refine r_aload rfl rfl ?_
        refine r_iload rfl rfl ?_
        refine r_ic (x := 1) rfl rfl ?_
        refine r_cv (y := 32) (ra := [.int 1, .int i]) (rest := []) rfl ⟨⟨rfl, rfl⟩, rfl, by decide⟩ tg4 rfl rfl (Nat.le_of_ble_eq_true rfl) ?_
        refine in_32 (Nat.le_of_ble_eq_true rfl) ?_
        show WR _ cd_32 0 [some (.ref (mid t4)), some (.int i), some (.int 1)] [] (sI h (ad 0) 6 0) _
        refine r_iload rfl rfl ?_
        refine r_if_lt (tg := 22) rfl rfl (fun c5 => ?_) (fun c5 => ?_)
        · refine r_ic (x := 0) rfl rfl ?_
          refine r_zret rfl (.inl rfl) ?_
          show WR _ cd_42 38 [some (.ref (ad 0)), some (.int c), some (.int i), some (.int j), some (.ref (mid t4)), none, none] [.int 0] (sI h (ad 0) 6 0) _
          refine r_if_ne (tg := 49) rfl rfl (fun q => absurd q (by decide)) (fun _ => ?_)
          refine r_aload rfl rfl ?_
          refine r_ic (x := (-12)) rfl rfl ?_
          refine r_putI rfl ⟨rfl, rfl, rfl⟩ (fx_t0 fx) ?_
          refine r_null rfl ?_
          refine r_aret0 rfl ?_
          show WR _ cd_41 12 [some (.ref (ad 0)), some (.int c), some (.int i), some (.int j), some (.int v), none] [.null] (sI (sI h (ad 0) 6 0) (ad 0) 6 (-12)) _
          refine r_astore0 (lv' := [some (.ref (ad 0)), some (.int c), some (.int i), some (.int j), some (.int v), some (.null)]) rfl (Nat.le_of_ble_eq_true rfl) rfl ?_
          refine r_aload0 rfl rfl ?_
          refine r_ifnonnullN (tg := 24) rfl rfl ?_
          refine r_aload rfl rfl ?_
          refine r_getI rfl ⟨rfl, rfl, rfl⟩ (fx_t0 fx) ?_
          refine WR_tI (y := (-12)) I_eq ?_
          refine r_iret rfl ?_
          show EV _ 172 [.ref (ad 30), .int c, .int i, .int j, .int v] (sI (sI h (ad 0) 6 0) (ad 0) 6 (-12)) _
          refine in_172 (Nat.le_of_ble_eq_true rfl) ?_
          show WR _ cd_172 0 [some (.ref (ad 30)), some (.int c), some (.int i), some (.int j), some (.int v), none] [] (sI (sI h (ad 0) 6 0) (ad 0) 6 (-12)) _
          refine r_iload rfl rfl ?_
          refine WR_tI (y := nI k2) ek2 ?_
          refine r_cs (y := 153) (ra := [.int (nI k2)]) (rest := []) rfl ⟨⟨rfl, rfl⟩, by decide⟩ rfl rfl (Nat.le_of_ble_eq_true rfl) ?_
          refine in_153 (Nat.le_of_ble_eq_true rfl) ?_
          show WR _ cd_153 0 [some (.int (nI k2))] [] (sI (sI h (ad 0) 6 0) (ad 0) 6 (-12)) _
          refine r_iload rfl rfl ?_
          refine r_if_lt (tg := 14) rfl rfl (fun q => False.elim (by have := i_nlt c1; have := i_rg c; have : (0 : Int32).toInt = 0 := rfl; have := i_eq ek2; have : (nI k2).toInt = ((k2 : Nat) : Int) := nI_toInt (by omega); have := i_nle c3; have : (24 : Int32).toInt = 24 := rfl; have := i_lt q; omega)) (fun _ => ?_)
          refine r_iload rfl rfl ?_
          refine r_ic (x := 24) rfl rfl ?_
          refine r_icmp_ge (tg := 14) rfl rfl (fun q => False.elim (by have := i_nlt c1; have := i_rg c; have : (0 : Int32).toInt = 0 := rfl; have := i_eq ek2; have : (nI k2).toInt = ((k2 : Nat) : Int) := nI_toInt (by omega); have := i_nle c3; have : (24 : Int32).toInt = 24 := rfl; have := i_le q; omega)) (fun _ => ?_)
          refine r_ic (x := 1) rfl rfl ?_
          refine r_goto (tg := 15) rfl rfl ?_
          refine r_zret rfl (.inr rfl) ?_
          show WR _ cd_172 4 [some (.ref (ad 30)), some (.int c), some (.int i), some (.int j), some (.int v), none] [.int 1] (sI (sI h (ad 0) 6 0) (ad 0) 6 (-12)) _
          refine r_if_ne (tg := 14) rfl rfl (fun _ => ?_) (fun q => absurd q (by decide))
          refine r_aload rfl rfl ?_
          refine r_iload rfl rfl ?_
          refine WR_tI (y := nI k2) ek2 ?_
          refine r_iload rfl rfl ?_
          refine r_iload rfl rfl ?_
          refine r_cv (y := 173) (ra := [.int j, .int i, .int (nI k2)]) (rest := []) rfl ⟨⟨rfl, rfl⟩, rfl, by decide⟩ (fx_t30 fx) rfl rfl (Nat.le_of_ble_eq_true rfl) ?_
          refine in_173 (Nat.le_of_ble_eq_true rfl) ?_
          show WR _ cd_173 0 [some (.ref (ad 30)), some (.int (nI k2)), some (.int i), some (.int j), none, none] [] (sI (sI h (ad 0) 6 0) (ad 0) 6 (-12)) _
          refine r_aload rfl rfl ?_
          refine r_aload rfl rfl ?_
          refine r_getA (b := ad 31) rfl ⟨rfl, rfl, rfl⟩ (fx_t30 fx) (fx_r30_0 fx) ?_
          refine r_iload rfl rfl ?_
          refine r_iaload rfl (.inl (fx_t31 fx)) (vp_ct (fx_n31 fx) (vp_in_nI (by have := i_nlt c1; have := i_rg c; have : (0 : Int32).toInt = 0 := rfl; have := i_eq ek2; have : (nI k2).toInt = ((k2 : Nat) : Int) := nI_toInt (by omega); have := i_nle c3; have : (24 : Int32).toInt = 24 := rfl; omega) (by omega))) ?_
          refine WR_tI (congrArg (hI (sI (sI h (ad 0) 6 0) (ad 0) 6 (-12)) (ad 31)) ((nI_clamp (by have := i_nlt c1; have := i_rg c; have : (0 : Int32).toInt = 0 := rfl; have := i_eq ek2; have : (nI k2).toInt = ((k2 : Nat) : Int) := nI_toInt (by omega); have := i_nle c3; have : (24 : Int32).toInt = 24 := rfl; omega)) : _ = k2)) ?_
          refine WR_tI (y := nI t4) (Eq.trans (I_ne (fx_ne fx (by decide))) (Eq.trans (I_ne (fx_ne fx (by decide))) v4)) ?_
          refine r_ic (x := 8) rfl rfl ?_
          refine r_iload rfl rfl ?_
          refine r_cv (y := 168) (ra := [.int i, .int 8, .int (nI t4)]) (rest := []) rfl ⟨⟨rfl, rfl⟩, rfl, by decide⟩ (fx_t30 fx) rfl rfl (Nat.le_of_ble_eq_true rfl) ?_
          refine in_168 (Nat.le_of_ble_eq_true rfl) ?_
          show WR _ cd_168 0 [some (.ref (ad 30)), some (.int (nI t4)), some (.int 8), some (.int i)] [] (sI (sI h (ad 0) 6 0) (ad 0) 6 (-12)) _
          refine r_iload rfl rfl ?_
          refine r_ic (x := (-1)) rfl rfl ?_
          refine r_icmp_eq (tg := 18) rfl rfl (fun q => False.elim (by have : (nI t4).toInt = ((t4 : Nat) : Int) := nI_toInt (by omega); have : (-1 : Int32).toInt = -1 := rfl; have := i_eq q; omega)) (fun _ => ?_)
          refine r_aload rfl rfl ?_
          refine r_iload rfl rfl ?_
          refine r_cv (y := 166) (ra := [.int (nI t4)]) (rest := []) rfl ⟨⟨rfl, rfl⟩, rfl, by decide⟩ (fx_t30 fx) rfl rfl (Nat.le_of_ble_eq_true rfl) ?_
          refine in_166 (Nat.le_of_ble_eq_true rfl) ?_
          show WR _ cd_166 0 [some (.ref (ad 30)), some (.int (nI t4))] [] (sI (sI h (ad 0) 6 0) (ad 0) 6 (-12)) _
          refine r_iload rfl rfl ?_
          refine r_ic (x := (-1)) rfl rfl ?_
          refine r_icmp_ne (tg := 9) rfl rfl (fun _ => ?_) (fun q => False.elim (by have : (nI t4).toInt = ((t4 : Nat) : Int) := nI_toInt (by omega); have : (-1 : Int32).toInt = -1 := rfl; have := i_eq q; omega))
          refine r_iload rfl rfl ?_
          refine r_ic (x := 1000) rfl rfl ?_
          refine r_icmp_lt (tg := 21) rfl rfl (fun _ => ?_) (fun q => False.elim (by have : (nI t4).toInt = ((t4 : Nat) : Int) := nI_toInt (by omega); have : (1000 : Int32).toInt = 1000 := rfl; have := i_nlt q; omega))
          refine r_aload rfl rfl ?_
          refine r_getA (b := ad 33) rfl ⟨rfl, rfl, rfl⟩ (fx_t30 fx) (fx_r30_2 fx) ?_
          refine r_iload rfl rfl ?_
          refine r_iaload rfl (.inl (fx_t33 fx)) (vp_ct (fx_n33 fx) (vp_in_nI (by omega) (by omega))) ?_
          refine WR_tI (congrArg (hI (sI (sI h (ad 0) 6 0) (ad 0) 6 (-12)) (ad 33)) ((nI_clamp (by omega)) : _ = t4)) ?_
          refine WR_tI (y := 8) (Eq.trans (I_ne (fx_ne fx (by decide))) (Eq.trans (I_ne (fx_ne fx (by decide))) l2_4)) ?_
          refine r_iret rfl ?_
          show WR _ cd_168 10 [some (.ref (ad 30)), some (.int (nI t4)), some (.int 8), some (.int i)] [.int 8] (sI (sI h (ad 0) 6 0) (ad 0) 6 (-12)) _
          refine r_iload rfl rfl ?_
          refine r_icmp_eq (tg := 18) rfl rfl (fun _ => ?_) (fun q => absurd q (by decide))
          refine r_iload rfl rfl ?_
          refine r_ic (x := (-1)) rfl rfl ?_
          refine r_icmp_ne (tg := 27) rfl rfl (fun _ => ?_) (fun q => False.elim (by have : (nI t4).toInt = ((t4 : Nat) : Int) := nI_toInt (by omega); have : (-1 : Int32).toInt = -1 := rfl; have := i_eq q; omega))
          refine r_iload rfl rfl ?_
          refine r_i2l rfl ?_
          refine r_lc (x := 0) rfl rfl ?_
          refine r_aload rfl rfl ?_
          refine r_getA (b := ad 35) rfl ⟨rfl, rfl, rfl⟩ (fx_t30 fx) (fx_r30_4 fx) ?_
          refine r_iload rfl rfl ?_
          refine r_iaload rfl (.inl (fx_t35 fx)) (vp_ct (fx_n35 fx) (vp_in_nI (by omega) (by omega))) ?_
          refine WR_tI (congrArg (hI (sI (sI h (ad 0) 6 0) (ad 0) 6 (-12)) (ad 35)) ((nI_clamp (by omega)) : _ = t4)) ?_
          refine WR_tI (y := nI sz4) (Eq.trans (I_ne (fx_ne fx (by decide))) (Eq.trans (I_ne (fx_ne fx (by decide))) sz_4)) ?_
          refine r_ic (x := 1) rfl rfl ?_
          refine r_isub rfl ?_
          refine r_i2l rfl ?_
          refine r_cs (y := 155) (ra := [.long (((nI sz4) - 1).toInt64), .long 0, .long i.toInt64]) (rest := []) rfl ⟨⟨rfl, rfl⟩, by decide⟩ rfl rfl (Nat.le_of_ble_eq_true rfl) ?_
          refine in_155 (Nat.le_of_ble_eq_true rfl) ?_
          show WR _ cd_155 0 [some (.long i.toInt64), none, some (.long 0), none, some (.long (((nI sz4) - 1).toInt64)), none] [] (sI (sI h (ad 0) 6 0) (ad 0) 6 (-12)) _
          refine r_lload rfl rfl ?_
          refine r_lload rfl rfl ?_
          refine r_lif_lt (tg := 17) rfl rfl rfl (fun _ => ?_) (fun q => False.elim (by have := i_lt c5; have := i_rg i; have : (0 : Int32).toInt = 0 := rfl; have := w_t i; have : (0 : Int64).toInt = 0 := rfl; have := l_nlt q; omega))
          refine r_ic (x := 0) rfl rfl ?_
          refine r_zret rfl (.inl rfl) ?_
          show WR _ cd_168 42 [some (.ref (ad 30)), some (.int (nI t4)), some (.int 8), some (.int i)] [.int 0] (sI (sI h (ad 0) 6 0) (ad 0) 6 (-12)) _
          refine r_if_ne (tg := 49) rfl rfl (fun q => absurd q (by decide)) (fun _ => ?_)
          refine r_ic (x := 2) rfl rfl ?_
          refine r_goto (tg := 50) rfl rfl ?_
          refine r_iret rfl ?_
          show WR _ cd_173 13 [some (.ref (ad 30)), some (.int (nI k2)), some (.int i), some (.int j), none, none] [.int 2] (sI (sI h (ad 0) 6 0) (ad 0) 6 (-12)) _
          refine r_istore (lv' := [some (.ref (ad 30)), some (.int (nI k2)), some (.int i), some (.int j), some (.int 2), none]) rfl (Nat.le_of_ble_eq_true rfl) rfl ?_
          refine r_iload rfl rfl ?_
          refine r_if_le (tg := 24) rfl rfl (fun q => absurd q (by decide)) (fun _ => ?_)
          refine r_iload rfl rfl ?_
          refine r_ineg rfl ?_
          refine WR_tI (y := (-2)) rfl ?_
          refine r_iret rfl ?_
          show WR _ cd_172 21 [some (.ref (ad 30)), some (.int c), some (.int i), some (.int j), some (.int v), none] [.int (-2)] (sI (sI h (ad 0) 6 0) (ad 0) 6 (-12)) _
          refine r_istore (lv' := [some (.ref (ad 30)), some (.int c), some (.int i), some (.int j), some (.int v), some (.int (-2))]) rfl (Nat.le_of_ble_eq_true rfl) rfl ?_
          refine r_iload rfl rfl ?_
          refine r_if_ge (tg := 36) rfl rfl (fun q => absurd q (by decide)) (fun _ => ?_)
          refine r_aload rfl rfl ?_
          refine r_iload rfl rfl ?_
          refine r_ineg rfl ?_
          refine WR_tI (y := 2) rfl ?_
          refine r_cv (y := 156) (ra := [.int 2]) (rest := []) rfl ⟨⟨rfl, rfl⟩, rfl, by decide⟩ (fx_t30 fx) rfl rfl (Nat.le_of_ble_eq_true rfl) ?_
          refine in_156 (Nat.le_of_ble_eq_true rfl) ?_
          show WR _ cd_156 0 [some (.ref (ad 30)), some (.int 2)] [] (sI (sI h (ad 0) 6 0) (ad 0) 6 (-12)) _
          refine r_aload rfl rfl ?_
          refine r_ic (x := (-10)) rfl rfl ?_
          refine r_iload rfl rfl ?_
          refine r_isub rfl ?_
          refine WR_tI (y := (-12)) rfl ?_
          refine r_cv (y := 154) (ra := [.int (-12)]) (rest := []) rfl ⟨⟨rfl, rfl⟩, rfl, by decide⟩ (fx_t30 fx) rfl rfl (Nat.le_of_ble_eq_true rfl) ?_
          refine in_154 (Nat.le_of_ble_eq_true rfl) ?_
          show WR _ cd_154 0 [some (.ref (ad 30)), some (.int (-12))] [] (sI (sI h (ad 0) 6 0) (ad 0) 6 (-12)) _
          refine r_aload rfl rfl ?_
          refine r_iload rfl rfl ?_
          refine r_ic (x := (-1)) rfl rfl ?_
          refine r_icmp_ge (tg := 10) rfl rfl (fun q => absurd q (by decide)) (fun _ => ?_)
          refine r_iload rfl rfl ?_
          refine r_goto (tg := 11) rfl rfl ?_
          refine r_putI rfl ⟨rfl, rfl, rfl⟩ (fx_t30 fx) ?_
          refine r_iload rfl rfl ?_
          refine r_iret rfl ?_
          show WR _ cd_156 8 [some (.ref (ad 30)), some (.int 2)] [.int (-12)] (sI (sI (sI h (ad 0) 6 0) (ad 0) 6 (-12)) (ad 30) 11 (-12)) _
          refine r_iret rfl ?_
          show WR _ cd_172 35 [some (.ref (ad 30)), some (.int c), some (.int i), some (.int j), some (.int v), some (.int (-2))] [.int (-12)] (sI (sI (sI h (ad 0) 6 0) (ad 0) 6 (-12)) (ad 30) 11 (-12)) _
          refine r_iret rfl ?_
          exact ⟨rfl, Rel.why r (((Chg.rf.sI (fx_j fx) (.inl (by decide))).sI (fx_j fx) (.inl (by decide))).sI (fx_j fx) (.inl (by decide))) ⟨rfl, by decide⟩ (Eq.trans (Eq.trans (I_ne (fx_ne fx (by decide))) I_eq) (Eq.symm I_eq)), Nat.le_add_right _ _, Nat.le_add_right _ _⟩
        · refine r_iload rfl rfl ?_
          refine r_if_lt (tg := 22) rfl rfl (fun q => absurd q (by decide)) (fun _ => ?_)
          refine r_iload rfl rfl ?_
          refine r_aload rfl rfl ?_
          refine r_cw (y := 35) (ra := []) (rest := [.int 1]) rfl ⟨rfl, rfl⟩ (by rw [show hT (sI h (ad 0) 6 0) (mid t4) = 6 from tg4]; rfl) rfl rfl (Nat.le_of_ble_eq_true rfl) ?_
          refine in_35 (Nat.le_of_ble_eq_true rfl) ?_
          show WR _ cd_35 0 [some (.ref (mid t4))] [] (sI h (ad 0) 6 0) _
          refine r_aload rfl rfl ?_
          refine r_getA (b := mid t4 + 1) rfl ⟨rfl, rfl, rfl⟩ tg4 (Eq.trans R_oI r_4) ?_
          refine r_alen rfl (isA_of tg2_4 (by decide)) ?_
          refine WR_tI (y := nI sz4) (congrArg nI n_4) ?_
          refine r_iret rfl ?_
          show WR _ cd_32 13 [some (.ref (mid t4)), some (.int i), some (.int 1)] [.int (nI sz4), .int 1] (sI h (ad 0) 6 0) _
          obtain ⟨k6, hk6, ek6⟩ := ix_of (x := i) (n := 2147483648) (by have := i_nlt c5; have := i_rg i; have : (0 : Int32).toInt = 0 := rfl; omega) (by have := i_nlt c5; have := i_rg i; have : (0 : Int32).toInt = 0 := rfl; omega)
          refine r_iload rfl rfl ?_
          refine WR_tI (y := nI k6) ek6 ?_
          refine r_isub rfl ?_
          refine r_icmp_gt (tg := 22) rfl rfl (fun c7 => ?_) (fun c7 => ?_)
          · refine r_ic (x := 0) rfl rfl ?_
            refine r_zret rfl (.inl rfl) ?_
            show WR _ cd_42 38 [some (.ref (ad 0)), some (.int c), some (.int i), some (.int j), some (.ref (mid t4)), none, none] [.int 0] (sI h (ad 0) 6 0) _
            refine r_if_ne (tg := 49) rfl rfl (fun q => absurd q (by decide)) (fun _ => ?_)
            refine r_aload rfl rfl ?_
            refine r_ic (x := (-12)) rfl rfl ?_
            refine r_putI rfl ⟨rfl, rfl, rfl⟩ (fx_t0 fx) ?_
            refine r_null rfl ?_
            refine r_aret0 rfl ?_
            show WR _ cd_41 12 [some (.ref (ad 0)), some (.int c), some (.int i), some (.int j), some (.int v), none] [.null] (sI (sI h (ad 0) 6 0) (ad 0) 6 (-12)) _
            refine r_astore0 (lv' := [some (.ref (ad 0)), some (.int c), some (.int i), some (.int j), some (.int v), some (.null)]) rfl (Nat.le_of_ble_eq_true rfl) rfl ?_
            refine r_aload0 rfl rfl ?_
            refine r_ifnonnullN (tg := 24) rfl rfl ?_
            refine r_aload rfl rfl ?_
            refine r_getI rfl ⟨rfl, rfl, rfl⟩ (fx_t0 fx) ?_
            refine WR_tI (y := (-12)) I_eq ?_
            refine r_iret rfl ?_
            show EV _ 172 [.ref (ad 30), .int c, .int i, .int j, .int v] (sI (sI h (ad 0) 6 0) (ad 0) 6 (-12)) _
            refine in_172 (Nat.le_of_ble_eq_true rfl) ?_
            show WR _ cd_172 0 [some (.ref (ad 30)), some (.int c), some (.int i), some (.int j), some (.int v), none] [] (sI (sI h (ad 0) 6 0) (ad 0) 6 (-12)) _
            refine r_iload rfl rfl ?_
            refine WR_tI (y := nI k2) ek2 ?_
            refine r_cs (y := 153) (ra := [.int (nI k2)]) (rest := []) rfl ⟨⟨rfl, rfl⟩, by decide⟩ rfl rfl (Nat.le_of_ble_eq_true rfl) ?_
            refine in_153 (Nat.le_of_ble_eq_true rfl) ?_
            show WR _ cd_153 0 [some (.int (nI k2))] [] (sI (sI h (ad 0) 6 0) (ad 0) 6 (-12)) _
            refine r_iload rfl rfl ?_
            refine r_if_lt (tg := 14) rfl rfl (fun q => False.elim (by have := i_nlt c1; have := i_rg c; have : (0 : Int32).toInt = 0 := rfl; have := i_eq ek2; have : (nI k2).toInt = ((k2 : Nat) : Int) := nI_toInt (by omega); have := i_nle c3; have : (24 : Int32).toInt = 24 := rfl; have := i_lt q; omega)) (fun _ => ?_)
            refine r_iload rfl rfl ?_
            refine r_ic (x := 24) rfl rfl ?_
            refine r_icmp_ge (tg := 14) rfl rfl (fun q => False.elim (by have := i_nlt c1; have := i_rg c; have : (0 : Int32).toInt = 0 := rfl; have := i_eq ek2; have : (nI k2).toInt = ((k2 : Nat) : Int) := nI_toInt (by omega); have := i_nle c3; have : (24 : Int32).toInt = 24 := rfl; have := i_le q; omega)) (fun _ => ?_)
            refine r_ic (x := 1) rfl rfl ?_
            refine r_goto (tg := 15) rfl rfl ?_
            refine r_zret rfl (.inr rfl) ?_
            show WR _ cd_172 4 [some (.ref (ad 30)), some (.int c), some (.int i), some (.int j), some (.int v), none] [.int 1] (sI (sI h (ad 0) 6 0) (ad 0) 6 (-12)) _
            refine r_if_ne (tg := 14) rfl rfl (fun _ => ?_) (fun q => absurd q (by decide))
            refine r_aload rfl rfl ?_
            refine r_iload rfl rfl ?_
            refine WR_tI (y := nI k2) ek2 ?_
            refine r_iload rfl rfl ?_
            refine WR_tI (y := nI k6) ek6 ?_
            refine r_iload rfl rfl ?_
            refine r_cv (y := 173) (ra := [.int j, .int (nI k6), .int (nI k2)]) (rest := []) rfl ⟨⟨rfl, rfl⟩, rfl, by decide⟩ (fx_t30 fx) rfl rfl (Nat.le_of_ble_eq_true rfl) ?_
            refine in_173 (Nat.le_of_ble_eq_true rfl) ?_
            show WR _ cd_173 0 [some (.ref (ad 30)), some (.int (nI k2)), some (.int (nI k6)), some (.int j), none, none] [] (sI (sI h (ad 0) 6 0) (ad 0) 6 (-12)) _
            refine r_aload rfl rfl ?_
            refine r_aload rfl rfl ?_
            refine r_getA (b := ad 31) rfl ⟨rfl, rfl, rfl⟩ (fx_t30 fx) (fx_r30_0 fx) ?_
            refine r_iload rfl rfl ?_
            refine r_iaload rfl (.inl (fx_t31 fx)) (vp_ct (fx_n31 fx) (vp_in_nI (by have := i_nlt c1; have := i_rg c; have : (0 : Int32).toInt = 0 := rfl; have := i_eq ek2; have : (nI k2).toInt = ((k2 : Nat) : Int) := nI_toInt (by omega); have := i_nle c3; have : (24 : Int32).toInt = 24 := rfl; omega) (by omega))) ?_
            refine WR_tI (congrArg (hI (sI (sI h (ad 0) 6 0) (ad 0) 6 (-12)) (ad 31)) ((nI_clamp (by have := i_nlt c1; have := i_rg c; have : (0 : Int32).toInt = 0 := rfl; have := i_eq ek2; have : (nI k2).toInt = ((k2 : Nat) : Int) := nI_toInt (by omega); have := i_nle c3; have : (24 : Int32).toInt = 24 := rfl; omega)) : _ = k2)) ?_
            refine WR_tI (y := nI t4) (Eq.trans (I_ne (fx_ne fx (by decide))) (Eq.trans (I_ne (fx_ne fx (by decide))) v4)) ?_
            refine r_ic (x := 8) rfl rfl ?_
            refine r_iload rfl rfl ?_
            refine r_cv (y := 168) (ra := [.int (nI k6), .int 8, .int (nI t4)]) (rest := []) rfl ⟨⟨rfl, rfl⟩, rfl, by decide⟩ (fx_t30 fx) rfl rfl (Nat.le_of_ble_eq_true rfl) ?_
            refine in_168 (Nat.le_of_ble_eq_true rfl) ?_
            show WR _ cd_168 0 [some (.ref (ad 30)), some (.int (nI t4)), some (.int 8), some (.int (nI k6))] [] (sI (sI h (ad 0) 6 0) (ad 0) 6 (-12)) _
            refine r_iload rfl rfl ?_
            refine r_ic (x := (-1)) rfl rfl ?_
            refine r_icmp_eq (tg := 18) rfl rfl (fun q => False.elim (by have : (nI t4).toInt = ((t4 : Nat) : Int) := nI_toInt (by omega); have : (-1 : Int32).toInt = -1 := rfl; have := i_eq q; omega)) (fun _ => ?_)
            refine r_aload rfl rfl ?_
            refine r_iload rfl rfl ?_
            refine r_cv (y := 166) (ra := [.int (nI t4)]) (rest := []) rfl ⟨⟨rfl, rfl⟩, rfl, by decide⟩ (fx_t30 fx) rfl rfl (Nat.le_of_ble_eq_true rfl) ?_
            refine in_166 (Nat.le_of_ble_eq_true rfl) ?_
            show WR _ cd_166 0 [some (.ref (ad 30)), some (.int (nI t4))] [] (sI (sI h (ad 0) 6 0) (ad 0) 6 (-12)) _
            refine r_iload rfl rfl ?_
            refine r_ic (x := (-1)) rfl rfl ?_
            refine r_icmp_ne (tg := 9) rfl rfl (fun _ => ?_) (fun q => False.elim (by have : (nI t4).toInt = ((t4 : Nat) : Int) := nI_toInt (by omega); have : (-1 : Int32).toInt = -1 := rfl; have := i_eq q; omega))
            refine r_iload rfl rfl ?_
            refine r_ic (x := 1000) rfl rfl ?_
            refine r_icmp_lt (tg := 21) rfl rfl (fun _ => ?_) (fun q => False.elim (by have : (nI t4).toInt = ((t4 : Nat) : Int) := nI_toInt (by omega); have : (1000 : Int32).toInt = 1000 := rfl; have := i_nlt q; omega))
            refine r_aload rfl rfl ?_
            refine r_getA (b := ad 33) rfl ⟨rfl, rfl, rfl⟩ (fx_t30 fx) (fx_r30_2 fx) ?_
            refine r_iload rfl rfl ?_
            refine r_iaload rfl (.inl (fx_t33 fx)) (vp_ct (fx_n33 fx) (vp_in_nI (by omega) (by omega))) ?_
            refine WR_tI (congrArg (hI (sI (sI h (ad 0) 6 0) (ad 0) 6 (-12)) (ad 33)) ((nI_clamp (by omega)) : _ = t4)) ?_
            refine WR_tI (y := 8) (Eq.trans (I_ne (fx_ne fx (by decide))) (Eq.trans (I_ne (fx_ne fx (by decide))) l2_4)) ?_
            refine r_iret rfl ?_
            show WR _ cd_168 10 [some (.ref (ad 30)), some (.int (nI t4)), some (.int 8), some (.int (nI k6))] [.int 8] (sI (sI h (ad 0) 6 0) (ad 0) 6 (-12)) _
            refine r_iload rfl rfl ?_
            refine r_icmp_eq (tg := 18) rfl rfl (fun _ => ?_) (fun q => absurd q (by decide))
            refine r_iload rfl rfl ?_
            refine r_ic (x := (-1)) rfl rfl ?_
            refine r_icmp_ne (tg := 27) rfl rfl (fun _ => ?_) (fun q => False.elim (by have : (nI t4).toInt = ((t4 : Nat) : Int) := nI_toInt (by omega); have : (-1 : Int32).toInt = -1 := rfl; have := i_eq q; omega))
            refine r_iload rfl rfl ?_
            refine r_i2l rfl ?_
            refine WR_tL (y := lN k6) (nI_l (by have := i_nlt c5; have := i_rg i; have : (0 : Int32).toInt = 0 := rfl; have := i_eq ek6; have : (nI k6).toInt = ((k6 : Nat) : Int) := nI_toInt (by omega); have := i_lt c7; have : (1 : Int32).toInt = 1 := rfl; have : (nI sz4).toInt = ((sz4 : Nat) : Int) := nI_toInt (by omega); have := sub_t (x := nI sz4) (y := nI k6) (by have := i_nlt c5; have := i_rg i; have : (0 : Int32).toInt = 0 := rfl; have := i_eq ek6; have : (nI k6).toInt = ((k6 : Nat) : Int) := nI_toInt (by omega); have : (nI sz4).toInt = ((sz4 : Nat) : Int) := nI_toInt (by omega); omega) (by have := i_nlt c5; have := i_rg i; have : (0 : Int32).toInt = 0 := rfl; have := i_eq ek6; have : (nI k6).toInt = ((k6 : Nat) : Int) := nI_toInt (by omega); have : (nI sz4).toInt = ((sz4 : Nat) : Int) := nI_toInt (by omega); omega); omega)) ?_
            refine r_lc (x := 0) rfl rfl ?_
            refine r_aload rfl rfl ?_
            refine r_getA (b := ad 35) rfl ⟨rfl, rfl, rfl⟩ (fx_t30 fx) (fx_r30_4 fx) ?_
            refine r_iload rfl rfl ?_
            refine r_iaload rfl (.inl (fx_t35 fx)) (vp_ct (fx_n35 fx) (vp_in_nI (by omega) (by omega))) ?_
            refine WR_tI (congrArg (hI (sI (sI h (ad 0) 6 0) (ad 0) 6 (-12)) (ad 35)) ((nI_clamp (by omega)) : _ = t4)) ?_
            refine WR_tI (y := nI sz4) (Eq.trans (I_ne (fx_ne fx (by decide))) (Eq.trans (I_ne (fx_ne fx (by decide))) sz_4)) ?_
            refine r_ic (x := 1) rfl rfl ?_
            refine r_isub rfl ?_
            refine r_i2l rfl ?_
            refine r_cs (y := 155) (ra := [.long (((nI sz4) - 1).toInt64), .long 0, .long (lN k6)]) (rest := []) rfl ⟨⟨rfl, rfl⟩, by decide⟩ rfl rfl (Nat.le_of_ble_eq_true rfl) ?_
            refine in_155 (Nat.le_of_ble_eq_true rfl) ?_
            show WR _ cd_155 0 [some (.long (lN k6)), none, some (.long 0), none, some (.long (((nI sz4) - 1).toInt64)), none] [] (sI (sI h (ad 0) 6 0) (ad 0) 6 (-12)) _
            refine r_lload rfl rfl ?_
            refine r_lload rfl rfl ?_
            refine r_lif_lt (tg := 17) rfl rfl rfl (fun q => False.elim (by have := i_nlt c5; have := i_rg i; have : (0 : Int32).toInt = 0 := rfl; have := i_eq ek6; have : (nI k6).toInt = ((k6 : Nat) : Int) := nI_toInt (by omega); have := i_lt c7; have : (1 : Int32).toInt = 1 := rfl; have : (nI sz4).toInt = ((sz4 : Nat) : Int) := nI_toInt (by omega); have := sub_t (x := nI sz4) (y := nI k6) (by have := i_nlt c5; have := i_rg i; have : (0 : Int32).toInt = 0 := rfl; have := i_eq ek6; have : (nI k6).toInt = ((k6 : Nat) : Int) := nI_toInt (by omega); have : (nI sz4).toInt = ((sz4 : Nat) : Int) := nI_toInt (by omega); omega) (by have := i_nlt c5; have := i_rg i; have : (0 : Int32).toInt = 0 := rfl; have := i_eq ek6; have : (nI k6).toInt = ((k6 : Nat) : Int) := nI_toInt (by omega); have : (nI sz4).toInt = ((sz4 : Nat) : Int) := nI_toInt (by omega); omega); have : (lN k6).toInt = ((k6 : Nat) : Int) := lN_toInt (by omega); have : (0 : Int64).toInt = 0 := rfl; have := l_lt q; omega)) (fun _ => ?_)
            refine r_lload rfl rfl ?_
            refine r_lload rfl rfl ?_
            refine r_lif_gt (tg := 17) rfl rfl rfl (fun _ => ?_) (fun q => False.elim (by have := i_nlt c5; have := i_rg i; have : (0 : Int32).toInt = 0 := rfl; have := i_eq ek6; have : (nI k6).toInt = ((k6 : Nat) : Int) := nI_toInt (by omega); have := i_lt c7; have : (1 : Int32).toInt = 1 := rfl; have : (nI sz4).toInt = ((sz4 : Nat) : Int) := nI_toInt (by omega); have := sub_t (x := nI sz4) (y := nI k6) (by have := i_nlt c5; have := i_rg i; have : (0 : Int32).toInt = 0 := rfl; have := i_eq ek6; have : (nI k6).toInt = ((k6 : Nat) : Int) := nI_toInt (by omega); have : (nI sz4).toInt = ((sz4 : Nat) : Int) := nI_toInt (by omega); omega) (by have := i_nlt c5; have := i_rg i; have : (0 : Int32).toInt = 0 := rfl; have := i_eq ek6; have : (nI k6).toInt = ((k6 : Nat) : Int) := nI_toInt (by omega); have : (nI sz4).toInt = ((sz4 : Nat) : Int) := nI_toInt (by omega); omega); have : (lN k6).toInt = ((k6 : Nat) : Int) := lN_toInt (by omega); have := sub_t (x := nI sz4) (y := 1) (by have := i_nlt c5; have := i_rg i; have : (0 : Int32).toInt = 0 := rfl; have := i_eq ek6; have : (nI k6).toInt = ((k6 : Nat) : Int) := nI_toInt (by omega); have := i_lt c7; have : (1 : Int32).toInt = 1 := rfl; have : (nI sz4).toInt = ((sz4 : Nat) : Int) := nI_toInt (by omega); have := sub_t (x := nI sz4) (y := nI k6) (by have := i_nlt c5; have := i_rg i; have : (0 : Int32).toInt = 0 := rfl; have := i_eq ek6; have : (nI k6).toInt = ((k6 : Nat) : Int) := nI_toInt (by omega); have : (nI sz4).toInt = ((sz4 : Nat) : Int) := nI_toInt (by omega); omega) (by have := i_nlt c5; have := i_rg i; have : (0 : Int32).toInt = 0 := rfl; have := i_eq ek6; have : (nI k6).toInt = ((k6 : Nat) : Int) := nI_toInt (by omega); have : (nI sz4).toInt = ((sz4 : Nat) : Int) := nI_toInt (by omega); omega); omega) (by have := i_nlt c5; have := i_rg i; have : (0 : Int32).toInt = 0 := rfl; have := i_eq ek6; have : (nI k6).toInt = ((k6 : Nat) : Int) := nI_toInt (by omega); have := i_lt c7; have : (1 : Int32).toInt = 1 := rfl; have : (nI sz4).toInt = ((sz4 : Nat) : Int) := nI_toInt (by omega); have := sub_t (x := nI sz4) (y := nI k6) (by have := i_nlt c5; have := i_rg i; have : (0 : Int32).toInt = 0 := rfl; have := i_eq ek6; have : (nI k6).toInt = ((k6 : Nat) : Int) := nI_toInt (by omega); have : (nI sz4).toInt = ((sz4 : Nat) : Int) := nI_toInt (by omega); omega) (by have := i_nlt c5; have := i_rg i; have : (0 : Int32).toInt = 0 := rfl; have := i_eq ek6; have : (nI k6).toInt = ((k6 : Nat) : Int) := nI_toInt (by omega); have : (nI sz4).toInt = ((sz4 : Nat) : Int) := nI_toInt (by omega); omega); omega); have := w_t ((nI sz4) - 1); have := l_nlt q; omega))
            refine r_ic (x := 0) rfl rfl ?_
            refine r_zret rfl (.inl rfl) ?_
            show WR _ cd_168 42 [some (.ref (ad 30)), some (.int (nI t4)), some (.int 8), some (.int (nI k6))] [.int 0] (sI (sI h (ad 0) 6 0) (ad 0) 6 (-12)) _
            refine r_if_ne (tg := 49) rfl rfl (fun q => absurd q (by decide)) (fun _ => ?_)
            refine r_ic (x := 2) rfl rfl ?_
            refine r_goto (tg := 50) rfl rfl ?_
            refine r_iret rfl ?_
            show WR _ cd_173 13 [some (.ref (ad 30)), some (.int (nI k2)), some (.int (nI k6)), some (.int j), none, none] [.int 2] (sI (sI h (ad 0) 6 0) (ad 0) 6 (-12)) _
            refine r_istore (lv' := [some (.ref (ad 30)), some (.int (nI k2)), some (.int (nI k6)), some (.int j), some (.int 2), none]) rfl (Nat.le_of_ble_eq_true rfl) rfl ?_
            refine r_iload rfl rfl ?_
            refine r_if_le (tg := 24) rfl rfl (fun q => absurd q (by decide)) (fun _ => ?_)
            refine r_iload rfl rfl ?_
            refine r_ineg rfl ?_
            refine WR_tI (y := (-2)) rfl ?_
            refine r_iret rfl ?_
            show WR _ cd_172 21 [some (.ref (ad 30)), some (.int c), some (.int i), some (.int j), some (.int v), none] [.int (-2)] (sI (sI h (ad 0) 6 0) (ad 0) 6 (-12)) _
            refine r_istore (lv' := [some (.ref (ad 30)), some (.int c), some (.int i), some (.int j), some (.int v), some (.int (-2))]) rfl (Nat.le_of_ble_eq_true rfl) rfl ?_
            refine r_iload rfl rfl ?_
            refine r_if_ge (tg := 36) rfl rfl (fun q => absurd q (by decide)) (fun _ => ?_)
            refine r_aload rfl rfl ?_
            refine r_iload rfl rfl ?_
            refine r_ineg rfl ?_
            refine WR_tI (y := 2) rfl ?_
            refine r_cv (y := 156) (ra := [.int 2]) (rest := []) rfl ⟨⟨rfl, rfl⟩, rfl, by decide⟩ (fx_t30 fx) rfl rfl (Nat.le_of_ble_eq_true rfl) ?_
            refine in_156 (Nat.le_of_ble_eq_true rfl) ?_
            show WR _ cd_156 0 [some (.ref (ad 30)), some (.int 2)] [] (sI (sI h (ad 0) 6 0) (ad 0) 6 (-12)) _
            refine r_aload rfl rfl ?_
            refine r_ic (x := (-10)) rfl rfl ?_
            refine r_iload rfl rfl ?_
            refine r_isub rfl ?_
            refine WR_tI (y := (-12)) rfl ?_
            refine r_cv (y := 154) (ra := [.int (-12)]) (rest := []) rfl ⟨⟨rfl, rfl⟩, rfl, by decide⟩ (fx_t30 fx) rfl rfl (Nat.le_of_ble_eq_true rfl) ?_
            refine in_154 (Nat.le_of_ble_eq_true rfl) ?_
            show WR _ cd_154 0 [some (.ref (ad 30)), some (.int (-12))] [] (sI (sI h (ad 0) 6 0) (ad 0) 6 (-12)) _
            refine r_aload rfl rfl ?_
            refine r_iload rfl rfl ?_
            refine r_ic (x := (-1)) rfl rfl ?_
            refine r_icmp_ge (tg := 10) rfl rfl (fun q => absurd q (by decide)) (fun _ => ?_)
            refine r_iload rfl rfl ?_
            refine r_goto (tg := 11) rfl rfl ?_
            refine r_putI rfl ⟨rfl, rfl, rfl⟩ (fx_t30 fx) ?_
            refine r_iload rfl rfl ?_
            refine r_iret rfl ?_
            show WR _ cd_156 8 [some (.ref (ad 30)), some (.int 2)] [.int (-12)] (sI (sI (sI h (ad 0) 6 0) (ad 0) 6 (-12)) (ad 30) 11 (-12)) _
            refine r_iret rfl ?_
            show WR _ cd_172 35 [some (.ref (ad 30)), some (.int c), some (.int i), some (.int j), some (.int v), some (.int (-2))] [.int (-12)] (sI (sI (sI h (ad 0) 6 0) (ad 0) 6 (-12)) (ad 30) 11 (-12)) _
            refine r_iret rfl ?_
            exact ⟨rfl, Rel.why r (((Chg.rf.sI (fx_j fx) (.inl (by decide))).sI (fx_j fx) (.inl (by decide))).sI (fx_j fx) (.inl (by decide))) ⟨rfl, by decide⟩ (Eq.trans (Eq.trans (I_ne (fx_ne fx (by decide))) I_eq) (Eq.symm I_eq)), Nat.le_add_right _ _, Nat.le_add_right _ _⟩
          · refine r_ic (x := 1) rfl rfl ?_
            refine r_goto (tg := 23) rfl rfl ?_
            refine r_zret rfl (.inr rfl) ?_
            show WR _ cd_42 38 [some (.ref (ad 0)), some (.int c), some (.int i), some (.int j), some (.ref (mid t4)), none, none] [.int 1] (sI h (ad 0) 6 0) _
            refine r_if_ne (tg := 49) rfl rfl (fun _ => ?_) (fun q => absurd q (by decide))
            refine r_aload rfl rfl ?_
            refine r_getA (b := mid t4 + 1) rfl ⟨rfl, rfl, rfl⟩ tg4 (Eq.trans R_oI r_4) ?_
            refine r_iload rfl rfl ?_
            refine WR_tI (y := nI k6) ek6 ?_
            rcases al4 k6 (by have := i_nlt c5; have := i_rg i; have : (0 : Int32).toInt = 0 := rfl; have := i_eq ek6; have : (nI k6).toInt = ((k6 : Nat) : Int) := nI_toInt (by omega); have := i_nlt c7; have : (1 : Int32).toInt = 1 := rfl; have : (nI sz4).toInt = ((sz4 : Nat) : Int) := nI_toInt (by omega); have := sub_t (x := nI sz4) (y := nI k6) (by have := i_nlt c5; have := i_rg i; have : (0 : Int32).toInt = 0 := rfl; have := i_eq ek6; have : (nI k6).toInt = ((k6 : Nat) : Int) := nI_toInt (by omega); have : (nI sz4).toInt = ((sz4 : Nat) : Int) := nI_toInt (by omega); omega) (by have := i_nlt c5; have := i_rg i; have : (0 : Int32).toInt = 0 := rfl; have := i_eq ek6; have : (nI k6).toInt = ((k6 : Nat) : Int) := nI_toInt (by omega); have : (nI sz4).toInt = ((sz4 : Nat) : Int) := nI_toInt (by omega); omega); omega) with ⟨v8, w8⟩ | ⟨t8, ht8, v8, w8, tg8, dz8, r_8, tg2_8, ⟨hl_8, l1_8, l2_8, kd_8⟩, sz8, hs_8, n_8, sz_8, al8⟩
            · refine r_aaload0 rfl (isQ_of tg2_4 (by decide)) (vp_ct n_4 (vp_in_nI (by have := i_nlt c5; have := i_rg i; have : (0 : Int32).toInt = 0 := rfl; have := i_eq ek6; have : (nI k6).toInt = ((k6 : Nat) : Int) := nI_toInt (by omega); have := i_nlt c7; have : (1 : Int32).toInt = 1 := rfl; have : (nI sz4).toInt = ((sz4 : Nat) : Int) := nI_toInt (by omega); have := sub_t (x := nI sz4) (y := nI k6) (by have := i_nlt c5; have := i_rg i; have : (0 : Int32).toInt = 0 := rfl; have := i_eq ek6; have : (nI k6).toInt = ((k6 : Nat) : Int) := nI_toInt (by omega); have : (nI sz4).toInt = ((sz4 : Nat) : Int) := nI_toInt (by omega); omega) (by have := i_nlt c5; have := i_rg i; have : (0 : Int32).toInt = 0 := rfl; have := i_eq ek6; have : (nI k6).toInt = ((k6 : Nat) : Int) := nI_toInt (by omega); have : (nI sz4).toInt = ((sz4 : Nat) : Int) := nI_toInt (by omega); omega); omega) (by omega))) (Eq.trans (congrArg (hR (sI h (ad 0) 6 0) (mid t4 + 1)) ((nI_clamp (by have := i_nlt c5; have := i_rg i; have : (0 : Int32).toInt = 0 := rfl; have := i_eq ek6; have : (nI k6).toInt = ((k6 : Nat) : Int) := nI_toInt (by omega); have := i_nlt c7; have : (1 : Int32).toInt = 1 := rfl; have : (nI sz4).toInt = ((sz4 : Nat) : Int) := nI_toInt (by omega); have := sub_t (x := nI sz4) (y := nI k6) (by have := i_nlt c5; have := i_rg i; have : (0 : Int32).toInt = 0 := rfl; have := i_eq ek6; have : (nI k6).toInt = ((k6 : Nat) : Int) := nI_toInt (by omega); have : (nI sz4).toInt = ((sz4 : Nat) : Int) := nI_toInt (by omega); omega) (by have := i_nlt c5; have := i_rg i; have : (0 : Int32).toInt = 0 := rfl; have := i_eq ek6; have : (nI k6).toInt = ((k6 : Nat) : Int) := nI_toInt (by omega); have : (nI sz4).toInt = ((sz4 : Nat) : Int) := nI_toInt (by omega); omega); omega)) : _ = k6)) (Eq.trans R_oI w8)) ?_
              refine r_astore0 (lv' := [some (.ref (ad 0)), some (.int c), some (.int i), some (.int j), some (.ref (mid t4)), none, some (.null)]) rfl (Nat.le_of_ble_eq_true rfl) rfl ?_
              refine r_aload0 rfl rfl ?_
              refine r_instN rfl (by decide) ?_
              refine r_if_eq (tg := 107) rfl rfl (fun _ => ?_) (fun q => absurd q (by decide))
              refine r_aload rfl rfl ?_
              refine r_ic (x := (-11)) rfl rfl ?_
              refine r_putI rfl ⟨rfl, rfl, rfl⟩ (fx_t0 fx) ?_
              refine r_null rfl ?_
              refine r_aret0 rfl ?_
              show WR _ cd_41 12 [some (.ref (ad 0)), some (.int c), some (.int i), some (.int j), some (.int v), none] [.null] (sI (sI h (ad 0) 6 0) (ad 0) 6 (-11)) _
              refine r_astore0 (lv' := [some (.ref (ad 0)), some (.int c), some (.int i), some (.int j), some (.int v), some (.null)]) rfl (Nat.le_of_ble_eq_true rfl) rfl ?_
              refine r_aload0 rfl rfl ?_
              refine r_ifnonnullN (tg := 24) rfl rfl ?_
              refine r_aload rfl rfl ?_
              refine r_getI rfl ⟨rfl, rfl, rfl⟩ (fx_t0 fx) ?_
              refine WR_tI (y := (-11)) I_eq ?_
              refine r_iret rfl ?_
              show EV _ 172 [.ref (ad 30), .int c, .int i, .int j, .int v] (sI (sI h (ad 0) 6 0) (ad 0) 6 (-11)) _
              refine in_172 (Nat.le_of_ble_eq_true rfl) ?_
              show WR _ cd_172 0 [some (.ref (ad 30)), some (.int c), some (.int i), some (.int j), some (.int v), none] [] (sI (sI h (ad 0) 6 0) (ad 0) 6 (-11)) _
              refine r_iload rfl rfl ?_
              refine WR_tI (y := nI k2) ek2 ?_
              refine r_cs (y := 153) (ra := [.int (nI k2)]) (rest := []) rfl ⟨⟨rfl, rfl⟩, by decide⟩ rfl rfl (Nat.le_of_ble_eq_true rfl) ?_
              refine in_153 (Nat.le_of_ble_eq_true rfl) ?_
              show WR _ cd_153 0 [some (.int (nI k2))] [] (sI (sI h (ad 0) 6 0) (ad 0) 6 (-11)) _
              refine r_iload rfl rfl ?_
              refine r_if_lt (tg := 14) rfl rfl (fun q => False.elim (by have := i_nlt c1; have := i_rg c; have : (0 : Int32).toInt = 0 := rfl; have := i_eq ek2; have : (nI k2).toInt = ((k2 : Nat) : Int) := nI_toInt (by omega); have := i_nle c3; have : (24 : Int32).toInt = 24 := rfl; have := i_lt q; omega)) (fun _ => ?_)
              refine r_iload rfl rfl ?_
              refine r_ic (x := 24) rfl rfl ?_
              refine r_icmp_ge (tg := 14) rfl rfl (fun q => False.elim (by have := i_nlt c1; have := i_rg c; have : (0 : Int32).toInt = 0 := rfl; have := i_eq ek2; have : (nI k2).toInt = ((k2 : Nat) : Int) := nI_toInt (by omega); have := i_nle c3; have : (24 : Int32).toInt = 24 := rfl; have := i_le q; omega)) (fun _ => ?_)
              refine r_ic (x := 1) rfl rfl ?_
              refine r_goto (tg := 15) rfl rfl ?_
              refine r_zret rfl (.inr rfl) ?_
              show WR _ cd_172 4 [some (.ref (ad 30)), some (.int c), some (.int i), some (.int j), some (.int v), none] [.int 1] (sI (sI h (ad 0) 6 0) (ad 0) 6 (-11)) _
              refine r_if_ne (tg := 14) rfl rfl (fun _ => ?_) (fun q => absurd q (by decide))
              refine r_aload rfl rfl ?_
              refine r_iload rfl rfl ?_
              refine WR_tI (y := nI k2) ek2 ?_
              refine r_iload rfl rfl ?_
              refine WR_tI (y := nI k6) ek6 ?_
              refine r_iload rfl rfl ?_
              refine r_cv (y := 173) (ra := [.int j, .int (nI k6), .int (nI k2)]) (rest := []) rfl ⟨⟨rfl, rfl⟩, rfl, by decide⟩ (fx_t30 fx) rfl rfl (Nat.le_of_ble_eq_true rfl) ?_
              refine in_173 (Nat.le_of_ble_eq_true rfl) ?_
              show WR _ cd_173 0 [some (.ref (ad 30)), some (.int (nI k2)), some (.int (nI k6)), some (.int j), none, none] [] (sI (sI h (ad 0) 6 0) (ad 0) 6 (-11)) _
              refine r_aload rfl rfl ?_
              refine r_aload rfl rfl ?_
              refine r_getA (b := ad 31) rfl ⟨rfl, rfl, rfl⟩ (fx_t30 fx) (fx_r30_0 fx) ?_
              refine r_iload rfl rfl ?_
              refine r_iaload rfl (.inl (fx_t31 fx)) (vp_ct (fx_n31 fx) (vp_in_nI (by have := i_nlt c1; have := i_rg c; have : (0 : Int32).toInt = 0 := rfl; have := i_eq ek2; have : (nI k2).toInt = ((k2 : Nat) : Int) := nI_toInt (by omega); have := i_nle c3; have : (24 : Int32).toInt = 24 := rfl; omega) (by omega))) ?_
              refine WR_tI (congrArg (hI (sI (sI h (ad 0) 6 0) (ad 0) 6 (-11)) (ad 31)) ((nI_clamp (by have := i_nlt c1; have := i_rg c; have : (0 : Int32).toInt = 0 := rfl; have := i_eq ek2; have : (nI k2).toInt = ((k2 : Nat) : Int) := nI_toInt (by omega); have := i_nle c3; have : (24 : Int32).toInt = 24 := rfl; omega)) : _ = k2)) ?_
              refine WR_tI (y := nI t4) (Eq.trans (I_ne (fx_ne fx (by decide))) (Eq.trans (I_ne (fx_ne fx (by decide))) v4)) ?_
              refine r_ic (x := 8) rfl rfl ?_
              refine r_iload rfl rfl ?_
              refine r_cv (y := 168) (ra := [.int (nI k6), .int 8, .int (nI t4)]) (rest := []) rfl ⟨⟨rfl, rfl⟩, rfl, by decide⟩ (fx_t30 fx) rfl rfl (Nat.le_of_ble_eq_true rfl) ?_
              refine in_168 (Nat.le_of_ble_eq_true rfl) ?_
              show WR _ cd_168 0 [some (.ref (ad 30)), some (.int (nI t4)), some (.int 8), some (.int (nI k6))] [] (sI (sI h (ad 0) 6 0) (ad 0) 6 (-11)) _
              refine r_iload rfl rfl ?_
              refine r_ic (x := (-1)) rfl rfl ?_
              refine r_icmp_eq (tg := 18) rfl rfl (fun q => False.elim (by have : (nI t4).toInt = ((t4 : Nat) : Int) := nI_toInt (by omega); have : (-1 : Int32).toInt = -1 := rfl; have := i_eq q; omega)) (fun _ => ?_)
              refine r_aload rfl rfl ?_
              refine r_iload rfl rfl ?_
              refine r_cv (y := 166) (ra := [.int (nI t4)]) (rest := []) rfl ⟨⟨rfl, rfl⟩, rfl, by decide⟩ (fx_t30 fx) rfl rfl (Nat.le_of_ble_eq_true rfl) ?_
              refine in_166 (Nat.le_of_ble_eq_true rfl) ?_
              show WR _ cd_166 0 [some (.ref (ad 30)), some (.int (nI t4))] [] (sI (sI h (ad 0) 6 0) (ad 0) 6 (-11)) _
              refine r_iload rfl rfl ?_
              refine r_ic (x := (-1)) rfl rfl ?_
              refine r_icmp_ne (tg := 9) rfl rfl (fun _ => ?_) (fun q => False.elim (by have : (nI t4).toInt = ((t4 : Nat) : Int) := nI_toInt (by omega); have : (-1 : Int32).toInt = -1 := rfl; have := i_eq q; omega))
              refine r_iload rfl rfl ?_
              refine r_ic (x := 1000) rfl rfl ?_
              refine r_icmp_lt (tg := 21) rfl rfl (fun _ => ?_) (fun q => False.elim (by have : (nI t4).toInt = ((t4 : Nat) : Int) := nI_toInt (by omega); have : (1000 : Int32).toInt = 1000 := rfl; have := i_nlt q; omega))
              refine r_aload rfl rfl ?_
              refine r_getA (b := ad 33) rfl ⟨rfl, rfl, rfl⟩ (fx_t30 fx) (fx_r30_2 fx) ?_
              refine r_iload rfl rfl ?_
              refine r_iaload rfl (.inl (fx_t33 fx)) (vp_ct (fx_n33 fx) (vp_in_nI (by omega) (by omega))) ?_
              refine WR_tI (congrArg (hI (sI (sI h (ad 0) 6 0) (ad 0) 6 (-11)) (ad 33)) ((nI_clamp (by omega)) : _ = t4)) ?_
              refine WR_tI (y := 8) (Eq.trans (I_ne (fx_ne fx (by decide))) (Eq.trans (I_ne (fx_ne fx (by decide))) l2_4)) ?_
              refine r_iret rfl ?_
              show WR _ cd_168 10 [some (.ref (ad 30)), some (.int (nI t4)), some (.int 8), some (.int (nI k6))] [.int 8] (sI (sI h (ad 0) 6 0) (ad 0) 6 (-11)) _
              refine r_iload rfl rfl ?_
              refine r_icmp_eq (tg := 18) rfl rfl (fun _ => ?_) (fun q => absurd q (by decide))
              refine r_iload rfl rfl ?_
              refine r_ic (x := (-1)) rfl rfl ?_
              refine r_icmp_ne (tg := 27) rfl rfl (fun _ => ?_) (fun q => False.elim (by have : (nI t4).toInt = ((t4 : Nat) : Int) := nI_toInt (by omega); have : (-1 : Int32).toInt = -1 := rfl; have := i_eq q; omega))
              refine r_iload rfl rfl ?_
              refine r_i2l rfl ?_
              refine WR_tL (y := lN k6) (nI_l (by have := i_nlt c5; have := i_rg i; have : (0 : Int32).toInt = 0 := rfl; have := i_eq ek6; have : (nI k6).toInt = ((k6 : Nat) : Int) := nI_toInt (by omega); have := i_nlt c7; have : (1 : Int32).toInt = 1 := rfl; have : (nI sz4).toInt = ((sz4 : Nat) : Int) := nI_toInt (by omega); have := sub_t (x := nI sz4) (y := nI k6) (by have := i_nlt c5; have := i_rg i; have : (0 : Int32).toInt = 0 := rfl; have := i_eq ek6; have : (nI k6).toInt = ((k6 : Nat) : Int) := nI_toInt (by omega); have : (nI sz4).toInt = ((sz4 : Nat) : Int) := nI_toInt (by omega); omega) (by have := i_nlt c5; have := i_rg i; have : (0 : Int32).toInt = 0 := rfl; have := i_eq ek6; have : (nI k6).toInt = ((k6 : Nat) : Int) := nI_toInt (by omega); have : (nI sz4).toInt = ((sz4 : Nat) : Int) := nI_toInt (by omega); omega); omega)) ?_
              refine r_lc (x := 0) rfl rfl ?_
              refine r_aload rfl rfl ?_
              refine r_getA (b := ad 35) rfl ⟨rfl, rfl, rfl⟩ (fx_t30 fx) (fx_r30_4 fx) ?_
              refine r_iload rfl rfl ?_
              refine r_iaload rfl (.inl (fx_t35 fx)) (vp_ct (fx_n35 fx) (vp_in_nI (by omega) (by omega))) ?_
              refine WR_tI (congrArg (hI (sI (sI h (ad 0) 6 0) (ad 0) 6 (-11)) (ad 35)) ((nI_clamp (by omega)) : _ = t4)) ?_
              refine WR_tI (y := nI sz4) (Eq.trans (I_ne (fx_ne fx (by decide))) (Eq.trans (I_ne (fx_ne fx (by decide))) sz_4)) ?_
              refine r_ic (x := 1) rfl rfl ?_
              refine r_isub rfl ?_
              refine WR_tI (y := nI (sz4 - 1)) (Eq.trans (pk_sub (a := sz4) (b := 1) (by have := i_nlt c5; have := i_rg i; have : (0 : Int32).toInt = 0 := rfl; have := i_eq ek6; have : (nI k6).toInt = ((k6 : Nat) : Int) := nI_toInt (by omega); have := i_nlt c7; have : (1 : Int32).toInt = 1 := rfl; have : (nI sz4).toInt = ((sz4 : Nat) : Int) := nI_toInt (by omega); have := sub_t (x := nI sz4) (y := nI k6) (by have := i_nlt c5; have := i_rg i; have : (0 : Int32).toInt = 0 := rfl; have := i_eq ek6; have : (nI k6).toInt = ((k6 : Nat) : Int) := nI_toInt (by omega); have : (nI sz4).toInt = ((sz4 : Nat) : Int) := nI_toInt (by omega); omega) (by have := i_nlt c5; have := i_rg i; have : (0 : Int32).toInt = 0 := rfl; have := i_eq ek6; have : (nI k6).toInt = ((k6 : Nat) : Int) := nI_toInt (by omega); have : (nI sz4).toInt = ((sz4 : Nat) : Int) := nI_toInt (by omega); omega); omega)) (congrArg nI (by have := i_nlt c5; have := i_rg i; have : (0 : Int32).toInt = 0 := rfl; have := i_eq ek6; have : (nI k6).toInt = ((k6 : Nat) : Int) := nI_toInt (by omega); have := i_nlt c7; have : (1 : Int32).toInt = 1 := rfl; have : (nI sz4).toInt = ((sz4 : Nat) : Int) := nI_toInt (by omega); have := sub_t (x := nI sz4) (y := nI k6) (by have := i_nlt c5; have := i_rg i; have : (0 : Int32).toInt = 0 := rfl; have := i_eq ek6; have : (nI k6).toInt = ((k6 : Nat) : Int) := nI_toInt (by omega); have : (nI sz4).toInt = ((sz4 : Nat) : Int) := nI_toInt (by omega); omega) (by have := i_nlt c5; have := i_rg i; have : (0 : Int32).toInt = 0 := rfl; have := i_eq ek6; have : (nI k6).toInt = ((k6 : Nat) : Int) := nI_toInt (by omega); have : (nI sz4).toInt = ((sz4 : Nat) : Int) := nI_toInt (by omega); omega); omega))) ?_
              refine r_i2l rfl ?_
              refine WR_tL (y := lN (sz4 - 1)) (nI_l (by have := i_nlt c5; have := i_rg i; have : (0 : Int32).toInt = 0 := rfl; have := i_eq ek6; have : (nI k6).toInt = ((k6 : Nat) : Int) := nI_toInt (by omega); have := i_nlt c7; have : (1 : Int32).toInt = 1 := rfl; have : (nI sz4).toInt = ((sz4 : Nat) : Int) := nI_toInt (by omega); have := sub_t (x := nI sz4) (y := nI k6) (by have := i_nlt c5; have := i_rg i; have : (0 : Int32).toInt = 0 := rfl; have := i_eq ek6; have : (nI k6).toInt = ((k6 : Nat) : Int) := nI_toInt (by omega); have : (nI sz4).toInt = ((sz4 : Nat) : Int) := nI_toInt (by omega); omega) (by have := i_nlt c5; have := i_rg i; have : (0 : Int32).toInt = 0 := rfl; have := i_eq ek6; have : (nI k6).toInt = ((k6 : Nat) : Int) := nI_toInt (by omega); have : (nI sz4).toInt = ((sz4 : Nat) : Int) := nI_toInt (by omega); omega); omega)) ?_
              refine r_cs (y := 155) (ra := [.long (lN (sz4 - 1)), .long 0, .long (lN k6)]) (rest := []) rfl ⟨⟨rfl, rfl⟩, by decide⟩ rfl rfl (Nat.le_of_ble_eq_true rfl) ?_
              refine in_155 (Nat.le_of_ble_eq_true rfl) ?_
              show WR _ cd_155 0 [some (.long (lN k6)), none, some (.long 0), none, some (.long (lN (sz4 - 1))), none] [] (sI (sI h (ad 0) 6 0) (ad 0) 6 (-11)) _
              refine r_lload rfl rfl ?_
              refine r_lload rfl rfl ?_
              refine r_lif_lt (tg := 17) rfl rfl rfl (fun q => False.elim (by have := i_nlt c5; have := i_rg i; have : (0 : Int32).toInt = 0 := rfl; have := i_eq ek6; have : (nI k6).toInt = ((k6 : Nat) : Int) := nI_toInt (by omega); have := i_nlt c7; have : (1 : Int32).toInt = 1 := rfl; have : (nI sz4).toInt = ((sz4 : Nat) : Int) := nI_toInt (by omega); have := sub_t (x := nI sz4) (y := nI k6) (by have := i_nlt c5; have := i_rg i; have : (0 : Int32).toInt = 0 := rfl; have := i_eq ek6; have : (nI k6).toInt = ((k6 : Nat) : Int) := nI_toInt (by omega); have : (nI sz4).toInt = ((sz4 : Nat) : Int) := nI_toInt (by omega); omega) (by have := i_nlt c5; have := i_rg i; have : (0 : Int32).toInt = 0 := rfl; have := i_eq ek6; have : (nI k6).toInt = ((k6 : Nat) : Int) := nI_toInt (by omega); have : (nI sz4).toInt = ((sz4 : Nat) : Int) := nI_toInt (by omega); omega); have : (lN k6).toInt = ((k6 : Nat) : Int) := lN_toInt (by omega); have : (0 : Int64).toInt = 0 := rfl; have := l_lt q; omega)) (fun _ => ?_)
              refine r_lload rfl rfl ?_
              refine r_lload rfl rfl ?_
              refine r_lif_gt (tg := 17) rfl rfl rfl (fun q => False.elim (by have := i_nlt c5; have := i_rg i; have : (0 : Int32).toInt = 0 := rfl; have := i_eq ek6; have : (nI k6).toInt = ((k6 : Nat) : Int) := nI_toInt (by omega); have := i_nlt c7; have : (1 : Int32).toInt = 1 := rfl; have : (nI sz4).toInt = ((sz4 : Nat) : Int) := nI_toInt (by omega); have := sub_t (x := nI sz4) (y := nI k6) (by have := i_nlt c5; have := i_rg i; have : (0 : Int32).toInt = 0 := rfl; have := i_eq ek6; have : (nI k6).toInt = ((k6 : Nat) : Int) := nI_toInt (by omega); have : (nI sz4).toInt = ((sz4 : Nat) : Int) := nI_toInt (by omega); omega) (by have := i_nlt c5; have := i_rg i; have : (0 : Int32).toInt = 0 := rfl; have := i_eq ek6; have : (nI k6).toInt = ((k6 : Nat) : Int) := nI_toInt (by omega); have : (nI sz4).toInt = ((sz4 : Nat) : Int) := nI_toInt (by omega); omega); have : (lN k6).toInt = ((k6 : Nat) : Int) := lN_toInt (by omega); have : (lN (sz4 - 1)).toInt = ((sz4 - 1 : Nat) : Int) := lN_toInt (by omega); have := l_lt q; omega)) (fun _ => ?_)
              refine r_ic (x := 1) rfl rfl ?_
              refine r_goto (tg := 18) rfl rfl ?_
              refine r_zret rfl (.inr rfl) ?_
              show WR _ cd_168 42 [some (.ref (ad 30)), some (.int (nI t4)), some (.int 8), some (.int (nI k6))] [.int 1] (sI (sI h (ad 0) 6 0) (ad 0) 6 (-11)) _
              refine r_if_ne (tg := 49) rfl rfl (fun _ => ?_) (fun q => absurd q (by decide))
              refine r_ic (x := 0) rfl rfl ?_
              refine r_iret rfl ?_
              show WR _ cd_173 13 [some (.ref (ad 30)), some (.int (nI k2)), some (.int (nI k6)), some (.int j), none, none] [.int 0] (sI (sI h (ad 0) 6 0) (ad 0) 6 (-11)) _
              refine r_istore (lv' := [some (.ref (ad 30)), some (.int (nI k2)), some (.int (nI k6)), some (.int j), some (.int 0), none]) rfl (Nat.le_of_ble_eq_true rfl) rfl ?_
              refine r_iload rfl rfl ?_
              refine r_if_le (tg := 24) rfl rfl (fun _ => ?_) (fun q => absurd q (by decide))
              refine r_aload rfl rfl ?_
              refine r_getA (b := ad 36) rfl ⟨rfl, rfl, rfl⟩ (fx_t30 fx) (fx_r30_5 fx) ?_
              refine r_ic (x := 30) rfl rfl ?_
              refine r_aload rfl rfl ?_
              refine r_getA (b := ad 31) rfl ⟨rfl, rfl, rfl⟩ (fx_t30 fx) (fx_r30_0 fx) ?_
              refine r_iload rfl rfl ?_
              refine r_iaload rfl (.inl (fx_t31 fx)) (vp_ct (fx_n31 fx) (vp_in_nI (by have := i_nlt c1; have := i_rg c; have : (0 : Int32).toInt = 0 := rfl; have := i_eq ek2; have : (nI k2).toInt = ((k2 : Nat) : Int) := nI_toInt (by omega); have := i_nle c3; have : (24 : Int32).toInt = 24 := rfl; omega) (by omega))) ?_
              refine WR_tI (congrArg (hI (sI (sI h (ad 0) 6 0) (ad 0) 6 (-11)) (ad 31)) ((nI_clamp (by have := i_nlt c1; have := i_rg c; have : (0 : Int32).toInt = 0 := rfl; have := i_eq ek2; have : (nI k2).toInt = ((k2 : Nat) : Int) := nI_toInt (by omega); have := i_nle c3; have : (24 : Int32).toInt = 24 := rfl; omega)) : _ = k2)) ?_
              refine WR_tI (y := nI t4) (Eq.trans (I_ne (fx_ne fx (by decide))) (Eq.trans (I_ne (fx_ne fx (by decide))) v4)) ?_
              refine r_imul rfl ?_
              refine WR_tI (y := nI (30 * t4)) (Eq.trans (pk_mul 30 t4) (congrArg nI (by omega))) ?_
              refine r_iload rfl rfl ?_
              refine r_iadd rfl ?_
              refine WR_tI (y := nI (30 * t4 + k6)) (Eq.trans (nI_add (30 * t4) k6) (congrArg nI (by have := i_nlt c5; have := i_rg i; have : (0 : Int32).toInt = 0 := rfl; have := i_eq ek6; have : (nI k6).toInt = ((k6 : Nat) : Int) := nI_toInt (by omega); have := i_nlt c7; have : (1 : Int32).toInt = 1 := rfl; have : (nI sz4).toInt = ((sz4 : Nat) : Int) := nI_toInt (by omega); have := sub_t (x := nI sz4) (y := nI k6) (by have := i_nlt c5; have := i_rg i; have : (0 : Int32).toInt = 0 := rfl; have := i_eq ek6; have : (nI k6).toInt = ((k6 : Nat) : Int) := nI_toInt (by omega); have : (nI sz4).toInt = ((sz4 : Nat) : Int) := nI_toInt (by omega); omega) (by have := i_nlt c5; have := i_rg i; have : (0 : Int32).toInt = 0 := rfl; have := i_eq ek6; have : (nI k6).toInt = ((k6 : Nat) : Int) := nI_toInt (by omega); have : (nI sz4).toInt = ((sz4 : Nat) : Int) := nI_toInt (by omega); omega); omega))) ?_
              refine r_laload rfl (fx_t36 fx) (vp_ct (fx_n36 fx) (vp_in_nI (by have := i_nlt c5; have := i_rg i; have : (0 : Int32).toInt = 0 := rfl; have := i_eq ek6; have : (nI k6).toInt = ((k6 : Nat) : Int) := nI_toInt (by omega); have := i_nlt c7; have : (1 : Int32).toInt = 1 := rfl; have : (nI sz4).toInt = ((sz4 : Nat) : Int) := nI_toInt (by omega); have := sub_t (x := nI sz4) (y := nI k6) (by have := i_nlt c5; have := i_rg i; have : (0 : Int32).toInt = 0 := rfl; have := i_eq ek6; have : (nI k6).toInt = ((k6 : Nat) : Int) := nI_toInt (by omega); have : (nI sz4).toInt = ((sz4 : Nat) : Int) := nI_toInt (by omega); omega) (by have := i_nlt c5; have := i_rg i; have : (0 : Int32).toInt = 0 := rfl; have := i_eq ek6; have : (nI k6).toInt = ((k6 : Nat) : Int) := nI_toInt (by omega); have : (nI sz4).toInt = ((sz4 : Nat) : Int) := nI_toInt (by omega); omega); omega) (by omega))) ?_
              refine WR_tL (congrArg (hL (sI (sI h (ad 0) 6 0) (ad 0) 6 (-11)) (ad 36)) ((nI_clamp (by have := i_nlt c5; have := i_rg i; have : (0 : Int32).toInt = 0 := rfl; have := i_eq ek6; have : (nI k6).toInt = ((k6 : Nat) : Int) := nI_toInt (by omega); have := i_nlt c7; have : (1 : Int32).toInt = 1 := rfl; have : (nI sz4).toInt = ((sz4 : Nat) : Int) := nI_toInt (by omega); have := sub_t (x := nI sz4) (y := nI k6) (by have := i_nlt c5; have := i_rg i; have : (0 : Int32).toInt = 0 := rfl; have := i_eq ek6; have : (nI k6).toInt = ((k6 : Nat) : Int) := nI_toInt (by omega); have : (nI sz4).toInt = ((sz4 : Nat) : Int) := nI_toInt (by omega); omega) (by have := i_nlt c5; have := i_rg i; have : (0 : Int32).toInt = 0 := rfl; have := i_eq ek6; have : (nI k6).toInt = ((k6 : Nat) : Int) := nI_toInt (by omega); have : (nI sz4).toInt = ((sz4 : Nat) : Int) := nI_toInt (by omega); omega); omega)) : _ = 30 * t4 + k6)) ?_
              refine WR_tL (y := (-1)) (Eq.trans L_oI (Eq.trans L_oI v8)) ?_
              refine r_l2i rfl ?_
              refine WR_tI (y := (-1)) rfl ?_
              refine r_istore (lv' := [some (.ref (ad 30)), some (.int (nI k2)), some (.int (nI k6)), some (.int j), some (.int 0), some (.int (-1))]) rfl (Nat.le_of_ble_eq_true rfl) rfl ?_
              refine r_iload rfl rfl ?_
              refine r_ic (x := (-1)) rfl rfl ?_
              refine r_icmp_ne (tg := 51) rfl rfl (fun q => absurd q (by decide)) (fun _ => ?_)
              refine r_ic (x := (-1)) rfl rfl ?_
              refine r_iret rfl ?_
              show WR _ cd_172 21 [some (.ref (ad 30)), some (.int c), some (.int i), some (.int j), some (.int v), none] [.int (-1)] (sI (sI h (ad 0) 6 0) (ad 0) 6 (-11)) _
              refine r_istore (lv' := [some (.ref (ad 30)), some (.int c), some (.int i), some (.int j), some (.int v), some (.int (-1))]) rfl (Nat.le_of_ble_eq_true rfl) rfl ?_
              refine r_iload rfl rfl ?_
              refine r_if_ge (tg := 36) rfl rfl (fun q => absurd q (by decide)) (fun _ => ?_)
              refine r_aload rfl rfl ?_
              refine r_iload rfl rfl ?_
              refine r_ineg rfl ?_
              refine WR_tI (y := 1) rfl ?_
              refine r_cv (y := 156) (ra := [.int 1]) (rest := []) rfl ⟨⟨rfl, rfl⟩, rfl, by decide⟩ (fx_t30 fx) rfl rfl (Nat.le_of_ble_eq_true rfl) ?_
              refine in_156 (Nat.le_of_ble_eq_true rfl) ?_
              show WR _ cd_156 0 [some (.ref (ad 30)), some (.int 1)] [] (sI (sI h (ad 0) 6 0) (ad 0) 6 (-11)) _
              refine r_aload rfl rfl ?_
              refine r_ic (x := (-10)) rfl rfl ?_
              refine r_iload rfl rfl ?_
              refine r_isub rfl ?_
              refine WR_tI (y := (-11)) rfl ?_
              refine r_cv (y := 154) (ra := [.int (-11)]) (rest := []) rfl ⟨⟨rfl, rfl⟩, rfl, by decide⟩ (fx_t30 fx) rfl rfl (Nat.le_of_ble_eq_true rfl) ?_
              refine in_154 (Nat.le_of_ble_eq_true rfl) ?_
              show WR _ cd_154 0 [some (.ref (ad 30)), some (.int (-11))] [] (sI (sI h (ad 0) 6 0) (ad 0) 6 (-11)) _
              refine r_aload rfl rfl ?_
              refine r_iload rfl rfl ?_
              refine r_ic (x := (-1)) rfl rfl ?_
              refine r_icmp_ge (tg := 10) rfl rfl (fun q => absurd q (by decide)) (fun _ => ?_)
              refine r_iload rfl rfl ?_
              refine r_goto (tg := 11) rfl rfl ?_
              refine r_putI rfl ⟨rfl, rfl, rfl⟩ (fx_t30 fx) ?_
              refine r_iload rfl rfl ?_
              refine r_iret rfl ?_
              show WR _ cd_156 8 [some (.ref (ad 30)), some (.int 1)] [.int (-11)] (sI (sI (sI h (ad 0) 6 0) (ad 0) 6 (-11)) (ad 30) 11 (-11)) _
              refine r_iret rfl ?_
              show WR _ cd_172 35 [some (.ref (ad 30)), some (.int c), some (.int i), some (.int j), some (.int v), some (.int (-1))] [.int (-11)] (sI (sI (sI h (ad 0) 6 0) (ad 0) 6 (-11)) (ad 30) 11 (-11)) _
              refine r_iret rfl ?_
              exact ⟨rfl, Rel.why r (((Chg.rf.sI (fx_j fx) (.inl (by decide))).sI (fx_j fx) (.inl (by decide))).sI (fx_j fx) (.inl (by decide))) ⟨rfl, by decide⟩ (Eq.trans (Eq.trans (I_ne (fx_ne fx (by decide))) I_eq) (Eq.symm I_eq)), Nat.le_add_right _ _, Nat.le_add_right _ _⟩
            · refine r_aaloadA (b := mid t8) rfl (isQ_of tg2_4 (by decide)) (vp_ct n_4 (vp_in_nI (by have := i_nlt c5; have := i_rg i; have : (0 : Int32).toInt = 0 := rfl; have := i_eq ek6; have : (nI k6).toInt = ((k6 : Nat) : Int) := nI_toInt (by omega); have := i_nlt c7; have : (1 : Int32).toInt = 1 := rfl; have : (nI sz4).toInt = ((sz4 : Nat) : Int) := nI_toInt (by omega); have := sub_t (x := nI sz4) (y := nI k6) (by have := i_nlt c5; have := i_rg i; have : (0 : Int32).toInt = 0 := rfl; have := i_eq ek6; have : (nI k6).toInt = ((k6 : Nat) : Int) := nI_toInt (by omega); have : (nI sz4).toInt = ((sz4 : Nat) : Int) := nI_toInt (by omega); omega) (by have := i_nlt c5; have := i_rg i; have : (0 : Int32).toInt = 0 := rfl; have := i_eq ek6; have : (nI k6).toInt = ((k6 : Nat) : Int) := nI_toInt (by omega); have : (nI sz4).toInt = ((sz4 : Nat) : Int) := nI_toInt (by omega); omega); omega) (by omega))) (Eq.trans (congrArg (hR (sI h (ad 0) 6 0) (mid t4 + 1)) ((nI_clamp (by have := i_nlt c5; have := i_rg i; have : (0 : Int32).toInt = 0 := rfl; have := i_eq ek6; have : (nI k6).toInt = ((k6 : Nat) : Int) := nI_toInt (by omega); have := i_nlt c7; have : (1 : Int32).toInt = 1 := rfl; have : (nI sz4).toInt = ((sz4 : Nat) : Int) := nI_toInt (by omega); have := sub_t (x := nI sz4) (y := nI k6) (by have := i_nlt c5; have := i_rg i; have : (0 : Int32).toInt = 0 := rfl; have := i_eq ek6; have : (nI k6).toInt = ((k6 : Nat) : Int) := nI_toInt (by omega); have : (nI sz4).toInt = ((sz4 : Nat) : Int) := nI_toInt (by omega); omega) (by have := i_nlt c5; have := i_rg i; have : (0 : Int32).toInt = 0 := rfl; have := i_eq ek6; have : (nI k6).toInt = ((k6 : Nat) : Int) := nI_toInt (by omega); have : (nI sz4).toInt = ((sz4 : Nat) : Int) := nI_toInt (by omega); omega); omega)) : _ = k6)) (Eq.trans R_oI w8)) ?_
              refine r_astore (lv' := [some (.ref (ad 0)), some (.int c), some (.int i), some (.int j), some (.ref (mid t4)), none, some (.ref (mid t8))]) rfl (Nat.le_of_ble_eq_true rfl) rfl ?_
              refine r_aload rfl rfl ?_
              refine r_instY rfl (by decide) tg8 ?_
              refine r_if_eq (tg := 107) rfl rfl (fun q => absurd q (by decide)) (fun _ => ?_)
              refine r_aload rfl rfl ?_
              refine r_cast rfl tg8 ?_
              refine r_astore (lv' := [some (.ref (ad 0)), some (.int c), some (.int i), some (.int j), some (.ref (mid t4)), some (.ref (mid t8)), some (.ref (mid t8))]) rfl (Nat.le_of_ble_eq_true rfl) rfl ?_
              refine r_aload rfl rfl ?_
              refine r_aload rfl rfl ?_
              refine r_iload rfl rfl ?_
              refine r_ic (x := 1) rfl rfl ?_
              refine r_cv (y := 32) (ra := [.int 1, .int j]) (rest := [.ref (ad 0)]) rfl ⟨⟨rfl, rfl⟩, rfl, by decide⟩ tg8 rfl rfl (Nat.le_of_ble_eq_true rfl) ?_
              refine in_32 (Nat.le_of_ble_eq_true rfl) ?_
              show WR _ cd_32 0 [some (.ref (mid t8)), some (.int j), some (.int 1)] [] (sI h (ad 0) 6 0) _
              refine r_iload rfl rfl ?_
              refine r_if_lt (tg := 22) rfl rfl (fun c9 => ?_) (fun c9 => ?_)
              · refine r_ic (x := 0) rfl rfl ?_
                refine r_zret rfl (.inl rfl) ?_
                show WR _ cd_42 81 [some (.ref (ad 0)), some (.int c), some (.int i), some (.int j), some (.ref (mid t4)), some (.ref (mid t8)), some (.ref (mid t8))] [.int 0, .ref (ad 0)] (sI h (ad 0) 6 0) _
                refine r_if_eq (tg := 88) rfl rfl (fun _ => ?_) (fun q => absurd q (by decide))
                refine r_ic (x := (-12)) rfl rfl ?_
                refine r_putI rfl ⟨rfl, rfl, rfl⟩ (fx_t0 fx) ?_
                refine r_aload rfl rfl ?_
                refine r_getI rfl ⟨rfl, rfl, rfl⟩ (fx_t0 fx) ?_
                refine WR_tI (y := (-12)) I_eq ?_
                refine r_if_ne (tg := 105) rfl rfl (fun _ => ?_) (fun q => absurd q (by decide))
                refine r_null rfl ?_
                refine r_aret0 rfl ?_
                show WR _ cd_41 12 [some (.ref (ad 0)), some (.int c), some (.int i), some (.int j), some (.int v), none] [.null] (sI (sI h (ad 0) 6 0) (ad 0) 6 (-12)) _
                refine r_astore0 (lv' := [some (.ref (ad 0)), some (.int c), some (.int i), some (.int j), some (.int v), some (.null)]) rfl (Nat.le_of_ble_eq_true rfl) rfl ?_
                refine r_aload0 rfl rfl ?_
                refine r_ifnonnullN (tg := 24) rfl rfl ?_
                refine r_aload rfl rfl ?_
                refine r_getI rfl ⟨rfl, rfl, rfl⟩ (fx_t0 fx) ?_
                refine WR_tI (y := (-12)) I_eq ?_
                refine r_iret rfl ?_
                show EV _ 172 [.ref (ad 30), .int c, .int i, .int j, .int v] (sI (sI h (ad 0) 6 0) (ad 0) 6 (-12)) _
                refine in_172 (Nat.le_of_ble_eq_true rfl) ?_
                show WR _ cd_172 0 [some (.ref (ad 30)), some (.int c), some (.int i), some (.int j), some (.int v), none] [] (sI (sI h (ad 0) 6 0) (ad 0) 6 (-12)) _
                refine r_iload rfl rfl ?_
                refine WR_tI (y := nI k2) ek2 ?_
                refine r_cs (y := 153) (ra := [.int (nI k2)]) (rest := []) rfl ⟨⟨rfl, rfl⟩, by decide⟩ rfl rfl (Nat.le_of_ble_eq_true rfl) ?_
                refine in_153 (Nat.le_of_ble_eq_true rfl) ?_
                show WR _ cd_153 0 [some (.int (nI k2))] [] (sI (sI h (ad 0) 6 0) (ad 0) 6 (-12)) _
                refine r_iload rfl rfl ?_
                refine r_if_lt (tg := 14) rfl rfl (fun q => False.elim (by have := i_nlt c1; have := i_rg c; have : (0 : Int32).toInt = 0 := rfl; have := i_eq ek2; have : (nI k2).toInt = ((k2 : Nat) : Int) := nI_toInt (by omega); have := i_nle c3; have : (24 : Int32).toInt = 24 := rfl; have := i_lt q; omega)) (fun _ => ?_)
                refine r_iload rfl rfl ?_
                refine r_ic (x := 24) rfl rfl ?_
                refine r_icmp_ge (tg := 14) rfl rfl (fun q => False.elim (by have := i_nlt c1; have := i_rg c; have : (0 : Int32).toInt = 0 := rfl; have := i_eq ek2; have : (nI k2).toInt = ((k2 : Nat) : Int) := nI_toInt (by omega); have := i_nle c3; have : (24 : Int32).toInt = 24 := rfl; have := i_le q; omega)) (fun _ => ?_)
                refine r_ic (x := 1) rfl rfl ?_
                refine r_goto (tg := 15) rfl rfl ?_
                refine r_zret rfl (.inr rfl) ?_
                show WR _ cd_172 4 [some (.ref (ad 30)), some (.int c), some (.int i), some (.int j), some (.int v), none] [.int 1] (sI (sI h (ad 0) 6 0) (ad 0) 6 (-12)) _
                refine r_if_ne (tg := 14) rfl rfl (fun _ => ?_) (fun q => absurd q (by decide))
                refine r_aload rfl rfl ?_
                refine r_iload rfl rfl ?_
                refine WR_tI (y := nI k2) ek2 ?_
                refine r_iload rfl rfl ?_
                refine WR_tI (y := nI k6) ek6 ?_
                refine r_iload rfl rfl ?_
                refine r_cv (y := 173) (ra := [.int j, .int (nI k6), .int (nI k2)]) (rest := []) rfl ⟨⟨rfl, rfl⟩, rfl, by decide⟩ (fx_t30 fx) rfl rfl (Nat.le_of_ble_eq_true rfl) ?_
                refine in_173 (Nat.le_of_ble_eq_true rfl) ?_
                show WR _ cd_173 0 [some (.ref (ad 30)), some (.int (nI k2)), some (.int (nI k6)), some (.int j), none, none] [] (sI (sI h (ad 0) 6 0) (ad 0) 6 (-12)) _
                refine r_aload rfl rfl ?_
                refine r_aload rfl rfl ?_
                refine r_getA (b := ad 31) rfl ⟨rfl, rfl, rfl⟩ (fx_t30 fx) (fx_r30_0 fx) ?_
                refine r_iload rfl rfl ?_
                refine r_iaload rfl (.inl (fx_t31 fx)) (vp_ct (fx_n31 fx) (vp_in_nI (by have := i_nlt c1; have := i_rg c; have : (0 : Int32).toInt = 0 := rfl; have := i_eq ek2; have : (nI k2).toInt = ((k2 : Nat) : Int) := nI_toInt (by omega); have := i_nle c3; have : (24 : Int32).toInt = 24 := rfl; omega) (by omega))) ?_
                refine WR_tI (congrArg (hI (sI (sI h (ad 0) 6 0) (ad 0) 6 (-12)) (ad 31)) ((nI_clamp (by have := i_nlt c1; have := i_rg c; have : (0 : Int32).toInt = 0 := rfl; have := i_eq ek2; have : (nI k2).toInt = ((k2 : Nat) : Int) := nI_toInt (by omega); have := i_nle c3; have : (24 : Int32).toInt = 24 := rfl; omega)) : _ = k2)) ?_
                refine WR_tI (y := nI t4) (Eq.trans (I_ne (fx_ne fx (by decide))) (Eq.trans (I_ne (fx_ne fx (by decide))) v4)) ?_
                refine r_ic (x := 8) rfl rfl ?_
                refine r_iload rfl rfl ?_
                refine r_cv (y := 168) (ra := [.int (nI k6), .int 8, .int (nI t4)]) (rest := []) rfl ⟨⟨rfl, rfl⟩, rfl, by decide⟩ (fx_t30 fx) rfl rfl (Nat.le_of_ble_eq_true rfl) ?_
                refine in_168 (Nat.le_of_ble_eq_true rfl) ?_
                show WR _ cd_168 0 [some (.ref (ad 30)), some (.int (nI t4)), some (.int 8), some (.int (nI k6))] [] (sI (sI h (ad 0) 6 0) (ad 0) 6 (-12)) _
                refine r_iload rfl rfl ?_
                refine r_ic (x := (-1)) rfl rfl ?_
                refine r_icmp_eq (tg := 18) rfl rfl (fun q => False.elim (by have : (nI t4).toInt = ((t4 : Nat) : Int) := nI_toInt (by omega); have : (-1 : Int32).toInt = -1 := rfl; have := i_eq q; omega)) (fun _ => ?_)
                refine r_aload rfl rfl ?_
                refine r_iload rfl rfl ?_
                refine r_cv (y := 166) (ra := [.int (nI t4)]) (rest := []) rfl ⟨⟨rfl, rfl⟩, rfl, by decide⟩ (fx_t30 fx) rfl rfl (Nat.le_of_ble_eq_true rfl) ?_
                refine in_166 (Nat.le_of_ble_eq_true rfl) ?_
                show WR _ cd_166 0 [some (.ref (ad 30)), some (.int (nI t4))] [] (sI (sI h (ad 0) 6 0) (ad 0) 6 (-12)) _
                refine r_iload rfl rfl ?_
                refine r_ic (x := (-1)) rfl rfl ?_
                refine r_icmp_ne (tg := 9) rfl rfl (fun _ => ?_) (fun q => False.elim (by have : (nI t4).toInt = ((t4 : Nat) : Int) := nI_toInt (by omega); have : (-1 : Int32).toInt = -1 := rfl; have := i_eq q; omega))
                refine r_iload rfl rfl ?_
                refine r_ic (x := 1000) rfl rfl ?_
                refine r_icmp_lt (tg := 21) rfl rfl (fun _ => ?_) (fun q => False.elim (by have : (nI t4).toInt = ((t4 : Nat) : Int) := nI_toInt (by omega); have : (1000 : Int32).toInt = 1000 := rfl; have := i_nlt q; omega))
                refine r_aload rfl rfl ?_
                refine r_getA (b := ad 33) rfl ⟨rfl, rfl, rfl⟩ (fx_t30 fx) (fx_r30_2 fx) ?_
                refine r_iload rfl rfl ?_
                refine r_iaload rfl (.inl (fx_t33 fx)) (vp_ct (fx_n33 fx) (vp_in_nI (by omega) (by omega))) ?_
                refine WR_tI (congrArg (hI (sI (sI h (ad 0) 6 0) (ad 0) 6 (-12)) (ad 33)) ((nI_clamp (by omega)) : _ = t4)) ?_
                refine WR_tI (y := 8) (Eq.trans (I_ne (fx_ne fx (by decide))) (Eq.trans (I_ne (fx_ne fx (by decide))) l2_4)) ?_
                refine r_iret rfl ?_
                show WR _ cd_168 10 [some (.ref (ad 30)), some (.int (nI t4)), some (.int 8), some (.int (nI k6))] [.int 8] (sI (sI h (ad 0) 6 0) (ad 0) 6 (-12)) _
                refine r_iload rfl rfl ?_
                refine r_icmp_eq (tg := 18) rfl rfl (fun _ => ?_) (fun q => absurd q (by decide))
                refine r_iload rfl rfl ?_
                refine r_ic (x := (-1)) rfl rfl ?_
                refine r_icmp_ne (tg := 27) rfl rfl (fun _ => ?_) (fun q => False.elim (by have : (nI t4).toInt = ((t4 : Nat) : Int) := nI_toInt (by omega); have : (-1 : Int32).toInt = -1 := rfl; have := i_eq q; omega))
                refine r_iload rfl rfl ?_
                refine r_i2l rfl ?_
                refine WR_tL (y := lN k6) (nI_l (by have := i_nlt c5; have := i_rg i; have : (0 : Int32).toInt = 0 := rfl; have := i_eq ek6; have : (nI k6).toInt = ((k6 : Nat) : Int) := nI_toInt (by omega); have := i_nlt c7; have : (1 : Int32).toInt = 1 := rfl; have : (nI sz4).toInt = ((sz4 : Nat) : Int) := nI_toInt (by omega); have := sub_t (x := nI sz4) (y := nI k6) (by have := i_nlt c5; have := i_rg i; have : (0 : Int32).toInt = 0 := rfl; have := i_eq ek6; have : (nI k6).toInt = ((k6 : Nat) : Int) := nI_toInt (by omega); have : (nI sz4).toInt = ((sz4 : Nat) : Int) := nI_toInt (by omega); omega) (by have := i_nlt c5; have := i_rg i; have : (0 : Int32).toInt = 0 := rfl; have := i_eq ek6; have : (nI k6).toInt = ((k6 : Nat) : Int) := nI_toInt (by omega); have : (nI sz4).toInt = ((sz4 : Nat) : Int) := nI_toInt (by omega); omega); omega)) ?_
                refine r_lc (x := 0) rfl rfl ?_
                refine r_aload rfl rfl ?_
                refine r_getA (b := ad 35) rfl ⟨rfl, rfl, rfl⟩ (fx_t30 fx) (fx_r30_4 fx) ?_
                refine r_iload rfl rfl ?_
                refine r_iaload rfl (.inl (fx_t35 fx)) (vp_ct (fx_n35 fx) (vp_in_nI (by omega) (by omega))) ?_
                refine WR_tI (congrArg (hI (sI (sI h (ad 0) 6 0) (ad 0) 6 (-12)) (ad 35)) ((nI_clamp (by omega)) : _ = t4)) ?_
                refine WR_tI (y := nI sz4) (Eq.trans (I_ne (fx_ne fx (by decide))) (Eq.trans (I_ne (fx_ne fx (by decide))) sz_4)) ?_
                refine r_ic (x := 1) rfl rfl ?_
                refine r_isub rfl ?_
                refine WR_tI (y := nI (sz4 - 1)) (Eq.trans (pk_sub (a := sz4) (b := 1) (by have := i_nlt c5; have := i_rg i; have : (0 : Int32).toInt = 0 := rfl; have := i_eq ek6; have : (nI k6).toInt = ((k6 : Nat) : Int) := nI_toInt (by omega); have := i_nlt c7; have : (1 : Int32).toInt = 1 := rfl; have : (nI sz4).toInt = ((sz4 : Nat) : Int) := nI_toInt (by omega); have := sub_t (x := nI sz4) (y := nI k6) (by have := i_nlt c5; have := i_rg i; have : (0 : Int32).toInt = 0 := rfl; have := i_eq ek6; have : (nI k6).toInt = ((k6 : Nat) : Int) := nI_toInt (by omega); have : (nI sz4).toInt = ((sz4 : Nat) : Int) := nI_toInt (by omega); omega) (by have := i_nlt c5; have := i_rg i; have : (0 : Int32).toInt = 0 := rfl; have := i_eq ek6; have : (nI k6).toInt = ((k6 : Nat) : Int) := nI_toInt (by omega); have : (nI sz4).toInt = ((sz4 : Nat) : Int) := nI_toInt (by omega); omega); omega)) (congrArg nI (by have := i_nlt c5; have := i_rg i; have : (0 : Int32).toInt = 0 := rfl; have := i_eq ek6; have : (nI k6).toInt = ((k6 : Nat) : Int) := nI_toInt (by omega); have := i_nlt c7; have : (1 : Int32).toInt = 1 := rfl; have : (nI sz4).toInt = ((sz4 : Nat) : Int) := nI_toInt (by omega); have := sub_t (x := nI sz4) (y := nI k6) (by have := i_nlt c5; have := i_rg i; have : (0 : Int32).toInt = 0 := rfl; have := i_eq ek6; have : (nI k6).toInt = ((k6 : Nat) : Int) := nI_toInt (by omega); have : (nI sz4).toInt = ((sz4 : Nat) : Int) := nI_toInt (by omega); omega) (by have := i_nlt c5; have := i_rg i; have : (0 : Int32).toInt = 0 := rfl; have := i_eq ek6; have : (nI k6).toInt = ((k6 : Nat) : Int) := nI_toInt (by omega); have : (nI sz4).toInt = ((sz4 : Nat) : Int) := nI_toInt (by omega); omega); omega))) ?_
                refine r_i2l rfl ?_
                refine WR_tL (y := lN (sz4 - 1)) (nI_l (by have := i_nlt c5; have := i_rg i; have : (0 : Int32).toInt = 0 := rfl; have := i_eq ek6; have : (nI k6).toInt = ((k6 : Nat) : Int) := nI_toInt (by omega); have := i_nlt c7; have : (1 : Int32).toInt = 1 := rfl; have : (nI sz4).toInt = ((sz4 : Nat) : Int) := nI_toInt (by omega); have := sub_t (x := nI sz4) (y := nI k6) (by have := i_nlt c5; have := i_rg i; have : (0 : Int32).toInt = 0 := rfl; have := i_eq ek6; have : (nI k6).toInt = ((k6 : Nat) : Int) := nI_toInt (by omega); have : (nI sz4).toInt = ((sz4 : Nat) : Int) := nI_toInt (by omega); omega) (by have := i_nlt c5; have := i_rg i; have : (0 : Int32).toInt = 0 := rfl; have := i_eq ek6; have : (nI k6).toInt = ((k6 : Nat) : Int) := nI_toInt (by omega); have : (nI sz4).toInt = ((sz4 : Nat) : Int) := nI_toInt (by omega); omega); omega)) ?_
                refine r_cs (y := 155) (ra := [.long (lN (sz4 - 1)), .long 0, .long (lN k6)]) (rest := []) rfl ⟨⟨rfl, rfl⟩, by decide⟩ rfl rfl (Nat.le_of_ble_eq_true rfl) ?_
                refine in_155 (Nat.le_of_ble_eq_true rfl) ?_
                show WR _ cd_155 0 [some (.long (lN k6)), none, some (.long 0), none, some (.long (lN (sz4 - 1))), none] [] (sI (sI h (ad 0) 6 0) (ad 0) 6 (-12)) _
                refine r_lload rfl rfl ?_
                refine r_lload rfl rfl ?_
                refine r_lif_lt (tg := 17) rfl rfl rfl (fun q => False.elim (by have := i_nlt c5; have := i_rg i; have : (0 : Int32).toInt = 0 := rfl; have := i_eq ek6; have : (nI k6).toInt = ((k6 : Nat) : Int) := nI_toInt (by omega); have := i_nlt c7; have : (1 : Int32).toInt = 1 := rfl; have : (nI sz4).toInt = ((sz4 : Nat) : Int) := nI_toInt (by omega); have := sub_t (x := nI sz4) (y := nI k6) (by have := i_nlt c5; have := i_rg i; have : (0 : Int32).toInt = 0 := rfl; have := i_eq ek6; have : (nI k6).toInt = ((k6 : Nat) : Int) := nI_toInt (by omega); have : (nI sz4).toInt = ((sz4 : Nat) : Int) := nI_toInt (by omega); omega) (by have := i_nlt c5; have := i_rg i; have : (0 : Int32).toInt = 0 := rfl; have := i_eq ek6; have : (nI k6).toInt = ((k6 : Nat) : Int) := nI_toInt (by omega); have : (nI sz4).toInt = ((sz4 : Nat) : Int) := nI_toInt (by omega); omega); have : (lN k6).toInt = ((k6 : Nat) : Int) := lN_toInt (by omega); have : (0 : Int64).toInt = 0 := rfl; have := l_lt q; omega)) (fun _ => ?_)
                refine r_lload rfl rfl ?_
                refine r_lload rfl rfl ?_
                refine r_lif_gt (tg := 17) rfl rfl rfl (fun q => False.elim (by have := i_nlt c5; have := i_rg i; have : (0 : Int32).toInt = 0 := rfl; have := i_eq ek6; have : (nI k6).toInt = ((k6 : Nat) : Int) := nI_toInt (by omega); have := i_nlt c7; have : (1 : Int32).toInt = 1 := rfl; have : (nI sz4).toInt = ((sz4 : Nat) : Int) := nI_toInt (by omega); have := sub_t (x := nI sz4) (y := nI k6) (by have := i_nlt c5; have := i_rg i; have : (0 : Int32).toInt = 0 := rfl; have := i_eq ek6; have : (nI k6).toInt = ((k6 : Nat) : Int) := nI_toInt (by omega); have : (nI sz4).toInt = ((sz4 : Nat) : Int) := nI_toInt (by omega); omega) (by have := i_nlt c5; have := i_rg i; have : (0 : Int32).toInt = 0 := rfl; have := i_eq ek6; have : (nI k6).toInt = ((k6 : Nat) : Int) := nI_toInt (by omega); have : (nI sz4).toInt = ((sz4 : Nat) : Int) := nI_toInt (by omega); omega); have : (lN k6).toInt = ((k6 : Nat) : Int) := lN_toInt (by omega); have : (lN (sz4 - 1)).toInt = ((sz4 - 1 : Nat) : Int) := lN_toInt (by omega); have := l_lt q; omega)) (fun _ => ?_)
                refine r_ic (x := 1) rfl rfl ?_
                refine r_goto (tg := 18) rfl rfl ?_
                refine r_zret rfl (.inr rfl) ?_
                show WR _ cd_168 42 [some (.ref (ad 30)), some (.int (nI t4)), some (.int 8), some (.int (nI k6))] [.int 1] (sI (sI h (ad 0) 6 0) (ad 0) 6 (-12)) _
                refine r_if_ne (tg := 49) rfl rfl (fun _ => ?_) (fun q => absurd q (by decide))
                refine r_ic (x := 0) rfl rfl ?_
                refine r_iret rfl ?_
                show WR _ cd_173 13 [some (.ref (ad 30)), some (.int (nI k2)), some (.int (nI k6)), some (.int j), none, none] [.int 0] (sI (sI h (ad 0) 6 0) (ad 0) 6 (-12)) _
                refine r_istore (lv' := [some (.ref (ad 30)), some (.int (nI k2)), some (.int (nI k6)), some (.int j), some (.int 0), none]) rfl (Nat.le_of_ble_eq_true rfl) rfl ?_
                refine r_iload rfl rfl ?_
                refine r_if_le (tg := 24) rfl rfl (fun _ => ?_) (fun q => absurd q (by decide))
                refine r_aload rfl rfl ?_
                refine r_getA (b := ad 36) rfl ⟨rfl, rfl, rfl⟩ (fx_t30 fx) (fx_r30_5 fx) ?_
                refine r_ic (x := 30) rfl rfl ?_
                refine r_aload rfl rfl ?_
                refine r_getA (b := ad 31) rfl ⟨rfl, rfl, rfl⟩ (fx_t30 fx) (fx_r30_0 fx) ?_
                refine r_iload rfl rfl ?_
                refine r_iaload rfl (.inl (fx_t31 fx)) (vp_ct (fx_n31 fx) (vp_in_nI (by have := i_nlt c1; have := i_rg c; have : (0 : Int32).toInt = 0 := rfl; have := i_eq ek2; have : (nI k2).toInt = ((k2 : Nat) : Int) := nI_toInt (by omega); have := i_nle c3; have : (24 : Int32).toInt = 24 := rfl; omega) (by omega))) ?_
                refine WR_tI (congrArg (hI (sI (sI h (ad 0) 6 0) (ad 0) 6 (-12)) (ad 31)) ((nI_clamp (by have := i_nlt c1; have := i_rg c; have : (0 : Int32).toInt = 0 := rfl; have := i_eq ek2; have : (nI k2).toInt = ((k2 : Nat) : Int) := nI_toInt (by omega); have := i_nle c3; have : (24 : Int32).toInt = 24 := rfl; omega)) : _ = k2)) ?_
                refine WR_tI (y := nI t4) (Eq.trans (I_ne (fx_ne fx (by decide))) (Eq.trans (I_ne (fx_ne fx (by decide))) v4)) ?_
                refine r_imul rfl ?_
                refine WR_tI (y := nI (30 * t4)) (Eq.trans (pk_mul 30 t4) (congrArg nI (by omega))) ?_
                refine r_iload rfl rfl ?_
                refine r_iadd rfl ?_
                refine WR_tI (y := nI (30 * t4 + k6)) (Eq.trans (nI_add (30 * t4) k6) (congrArg nI (by have := i_nlt c5; have := i_rg i; have : (0 : Int32).toInt = 0 := rfl; have := i_eq ek6; have : (nI k6).toInt = ((k6 : Nat) : Int) := nI_toInt (by omega); have := i_nlt c7; have : (1 : Int32).toInt = 1 := rfl; have : (nI sz4).toInt = ((sz4 : Nat) : Int) := nI_toInt (by omega); have := sub_t (x := nI sz4) (y := nI k6) (by have := i_nlt c5; have := i_rg i; have : (0 : Int32).toInt = 0 := rfl; have := i_eq ek6; have : (nI k6).toInt = ((k6 : Nat) : Int) := nI_toInt (by omega); have : (nI sz4).toInt = ((sz4 : Nat) : Int) := nI_toInt (by omega); omega) (by have := i_nlt c5; have := i_rg i; have : (0 : Int32).toInt = 0 := rfl; have := i_eq ek6; have : (nI k6).toInt = ((k6 : Nat) : Int) := nI_toInt (by omega); have : (nI sz4).toInt = ((sz4 : Nat) : Int) := nI_toInt (by omega); omega); omega))) ?_
                refine r_laload rfl (fx_t36 fx) (vp_ct (fx_n36 fx) (vp_in_nI (by have := i_nlt c5; have := i_rg i; have : (0 : Int32).toInt = 0 := rfl; have := i_eq ek6; have : (nI k6).toInt = ((k6 : Nat) : Int) := nI_toInt (by omega); have := i_nlt c7; have : (1 : Int32).toInt = 1 := rfl; have : (nI sz4).toInt = ((sz4 : Nat) : Int) := nI_toInt (by omega); have := sub_t (x := nI sz4) (y := nI k6) (by have := i_nlt c5; have := i_rg i; have : (0 : Int32).toInt = 0 := rfl; have := i_eq ek6; have : (nI k6).toInt = ((k6 : Nat) : Int) := nI_toInt (by omega); have : (nI sz4).toInt = ((sz4 : Nat) : Int) := nI_toInt (by omega); omega) (by have := i_nlt c5; have := i_rg i; have : (0 : Int32).toInt = 0 := rfl; have := i_eq ek6; have : (nI k6).toInt = ((k6 : Nat) : Int) := nI_toInt (by omega); have : (nI sz4).toInt = ((sz4 : Nat) : Int) := nI_toInt (by omega); omega); omega) (by omega))) ?_
                refine WR_tL (congrArg (hL (sI (sI h (ad 0) 6 0) (ad 0) 6 (-12)) (ad 36)) ((nI_clamp (by have := i_nlt c5; have := i_rg i; have : (0 : Int32).toInt = 0 := rfl; have := i_eq ek6; have : (nI k6).toInt = ((k6 : Nat) : Int) := nI_toInt (by omega); have := i_nlt c7; have : (1 : Int32).toInt = 1 := rfl; have : (nI sz4).toInt = ((sz4 : Nat) : Int) := nI_toInt (by omega); have := sub_t (x := nI sz4) (y := nI k6) (by have := i_nlt c5; have := i_rg i; have : (0 : Int32).toInt = 0 := rfl; have := i_eq ek6; have : (nI k6).toInt = ((k6 : Nat) : Int) := nI_toInt (by omega); have : (nI sz4).toInt = ((sz4 : Nat) : Int) := nI_toInt (by omega); omega) (by have := i_nlt c5; have := i_rg i; have : (0 : Int32).toInt = 0 := rfl; have := i_eq ek6; have : (nI k6).toInt = ((k6 : Nat) : Int) := nI_toInt (by omega); have : (nI sz4).toInt = ((sz4 : Nat) : Int) := nI_toInt (by omega); omega); omega)) : _ = 30 * t4 + k6)) ?_
                refine WR_tL (y := lN t8) (Eq.trans L_oI (Eq.trans L_oI v8)) ?_
                refine r_l2i rfl ?_
                refine WR_tI (y := nI t8) (lN_i _) ?_
                refine r_istore (lv' := [some (.ref (ad 30)), some (.int (nI k2)), some (.int (nI k6)), some (.int j), some (.int 0), some (.int (nI t8))]) rfl (Nat.le_of_ble_eq_true rfl) rfl ?_
                refine r_iload rfl rfl ?_
                refine r_ic (x := (-1)) rfl rfl ?_
                refine r_icmp_ne (tg := 51) rfl rfl (fun _ => ?_) (fun q => False.elim (by have : (nI t8).toInt = ((t8 : Nat) : Int) := nI_toInt (by omega); have : (-1 : Int32).toInt = -1 := rfl; have := i_eq q; omega))
                refine r_iload rfl rfl ?_
                refine r_i2l rfl ?_
                refine r_lc (x := 0) rfl rfl ?_
                refine r_aload rfl rfl ?_
                refine r_getA (b := ad 35) rfl ⟨rfl, rfl, rfl⟩ (fx_t30 fx) (fx_r30_4 fx) ?_
                refine r_iload rfl rfl ?_
                refine r_iaload rfl (.inl (fx_t35 fx)) (vp_ct (fx_n35 fx) (vp_in_nI (by omega) (by omega))) ?_
                refine WR_tI (congrArg (hI (sI (sI h (ad 0) 6 0) (ad 0) 6 (-12)) (ad 35)) ((nI_clamp (by omega)) : _ = t8)) ?_
                refine WR_tI (y := nI sz8) (Eq.trans (I_ne (fx_ne fx (by decide))) (Eq.trans (I_ne (fx_ne fx (by decide))) sz_8)) ?_
                refine r_ic (x := 1) rfl rfl ?_
                refine r_isub rfl ?_
                refine r_i2l rfl ?_
                refine r_cs (y := 155) (ra := [.long (((nI sz8) - 1).toInt64), .long 0, .long j.toInt64]) (rest := []) rfl ⟨⟨rfl, rfl⟩, by decide⟩ rfl rfl (Nat.le_of_ble_eq_true rfl) ?_
                refine in_155 (Nat.le_of_ble_eq_true rfl) ?_
                show WR _ cd_155 0 [some (.long j.toInt64), none, some (.long 0), none, some (.long (((nI sz8) - 1).toInt64)), none] [] (sI (sI h (ad 0) 6 0) (ad 0) 6 (-12)) _
                refine r_lload rfl rfl ?_
                refine r_lload rfl rfl ?_
                refine r_lif_lt (tg := 17) rfl rfl rfl (fun _ => ?_) (fun q => False.elim (by have := i_lt c9; have := i_rg j; have : (0 : Int32).toInt = 0 := rfl; have := w_t j; have : (0 : Int64).toInt = 0 := rfl; have := l_nlt q; omega))
                refine r_ic (x := 0) rfl rfl ?_
                refine r_zret rfl (.inl rfl) ?_
                show WR _ cd_173 67 [some (.ref (ad 30)), some (.int (nI k2)), some (.int (nI k6)), some (.int j), some (.int 0), some (.int (nI t8))] [.int 0] (sI (sI h (ad 0) 6 0) (ad 0) 6 (-12)) _
                refine r_if_eq (tg := 80) rfl rfl (fun _ => ?_) (fun q => absurd q (by decide))
                refine r_ic (x := (-2)) rfl rfl ?_
                refine r_iret rfl ?_
                show WR _ cd_172 21 [some (.ref (ad 30)), some (.int c), some (.int i), some (.int j), some (.int v), none] [.int (-2)] (sI (sI h (ad 0) 6 0) (ad 0) 6 (-12)) _
                refine r_istore (lv' := [some (.ref (ad 30)), some (.int c), some (.int i), some (.int j), some (.int v), some (.int (-2))]) rfl (Nat.le_of_ble_eq_true rfl) rfl ?_
                refine r_iload rfl rfl ?_
                refine r_if_ge (tg := 36) rfl rfl (fun q => absurd q (by decide)) (fun _ => ?_)
                refine r_aload rfl rfl ?_
                refine r_iload rfl rfl ?_
                refine r_ineg rfl ?_
                refine WR_tI (y := 2) rfl ?_
                refine r_cv (y := 156) (ra := [.int 2]) (rest := []) rfl ⟨⟨rfl, rfl⟩, rfl, by decide⟩ (fx_t30 fx) rfl rfl (Nat.le_of_ble_eq_true rfl) ?_
                refine in_156 (Nat.le_of_ble_eq_true rfl) ?_
                show WR _ cd_156 0 [some (.ref (ad 30)), some (.int 2)] [] (sI (sI h (ad 0) 6 0) (ad 0) 6 (-12)) _
                refine r_aload rfl rfl ?_
                refine r_ic (x := (-10)) rfl rfl ?_
                refine r_iload rfl rfl ?_
                refine r_isub rfl ?_
                refine WR_tI (y := (-12)) rfl ?_
                refine r_cv (y := 154) (ra := [.int (-12)]) (rest := []) rfl ⟨⟨rfl, rfl⟩, rfl, by decide⟩ (fx_t30 fx) rfl rfl (Nat.le_of_ble_eq_true rfl) ?_
                refine in_154 (Nat.le_of_ble_eq_true rfl) ?_
                show WR _ cd_154 0 [some (.ref (ad 30)), some (.int (-12))] [] (sI (sI h (ad 0) 6 0) (ad 0) 6 (-12)) _
                refine r_aload rfl rfl ?_
                refine r_iload rfl rfl ?_
                refine r_ic (x := (-1)) rfl rfl ?_
                refine r_icmp_ge (tg := 10) rfl rfl (fun q => absurd q (by decide)) (fun _ => ?_)
                refine r_iload rfl rfl ?_
                refine r_goto (tg := 11) rfl rfl ?_
                refine r_putI rfl ⟨rfl, rfl, rfl⟩ (fx_t30 fx) ?_
                refine r_iload rfl rfl ?_
                refine r_iret rfl ?_
                show WR _ cd_156 8 [some (.ref (ad 30)), some (.int 2)] [.int (-12)] (sI (sI (sI h (ad 0) 6 0) (ad 0) 6 (-12)) (ad 30) 11 (-12)) _
                refine r_iret rfl ?_
                show WR _ cd_172 35 [some (.ref (ad 30)), some (.int c), some (.int i), some (.int j), some (.int v), some (.int (-2))] [.int (-12)] (sI (sI (sI h (ad 0) 6 0) (ad 0) 6 (-12)) (ad 30) 11 (-12)) _
                refine r_iret rfl ?_
                exact ⟨rfl, Rel.why r (((Chg.rf.sI (fx_j fx) (.inl (by decide))).sI (fx_j fx) (.inl (by decide))).sI (fx_j fx) (.inl (by decide))) ⟨rfl, by decide⟩ (Eq.trans (Eq.trans (I_ne (fx_ne fx (by decide))) I_eq) (Eq.symm I_eq)), Nat.le_add_right _ _, Nat.le_add_right _ _⟩
              · refine r_iload rfl rfl ?_
                refine r_if_lt (tg := 22) rfl rfl (fun q => absurd q (by decide)) (fun _ => ?_)
                refine r_iload rfl rfl ?_
                refine r_aload rfl rfl ?_
                refine r_cw (y := 34) (ra := []) (rest := [.int 1]) rfl ⟨rfl, rfl⟩ (by rw [show hT (sI h (ad 0) 6 0) (mid t8) = 5 from tg8]; rfl) rfl rfl (Nat.le_of_ble_eq_true rfl) ?_
                refine in_34 (Nat.le_of_ble_eq_true rfl) ?_
                show WR _ cd_34 0 [some (.ref (mid t8))] [] (sI h (ad 0) 6 0) _
                refine r_aload rfl rfl ?_
                refine r_getA (b := mid t8 + 1) rfl ⟨rfl, rfl, rfl⟩ tg8 (Eq.trans R_oI r_8) ?_
                refine r_alen rfl (isA_of tg2_8 (by decide)) ?_
                refine WR_tI (y := nI sz8) (congrArg nI n_8) ?_
                refine r_iret rfl ?_
                show WR _ cd_32 13 [some (.ref (mid t8)), some (.int j), some (.int 1)] [.int (nI sz8), .int 1] (sI h (ad 0) 6 0) _
                obtain ⟨k10, hk10, ek10⟩ := ix_of (x := j) (n := 2147483648) (by have := i_nlt c9; have := i_rg j; have : (0 : Int32).toInt = 0 := rfl; omega) (by have := i_nlt c9; have := i_rg j; have : (0 : Int32).toInt = 0 := rfl; omega)
                refine r_iload rfl rfl ?_
                refine WR_tI (y := nI k10) ek10 ?_
                refine r_isub rfl ?_
                refine r_icmp_gt (tg := 22) rfl rfl (fun c11 => ?_) (fun c11 => ?_)
                · refine r_ic (x := 0) rfl rfl ?_
                  refine r_zret rfl (.inl rfl) ?_
                  show WR _ cd_42 81 [some (.ref (ad 0)), some (.int c), some (.int i), some (.int j), some (.ref (mid t4)), some (.ref (mid t8)), some (.ref (mid t8))] [.int 0, .ref (ad 0)] (sI h (ad 0) 6 0) _
                  refine r_if_eq (tg := 88) rfl rfl (fun _ => ?_) (fun q => absurd q (by decide))
                  refine r_ic (x := (-12)) rfl rfl ?_
                  refine r_putI rfl ⟨rfl, rfl, rfl⟩ (fx_t0 fx) ?_
                  refine r_aload rfl rfl ?_
                  refine r_getI rfl ⟨rfl, rfl, rfl⟩ (fx_t0 fx) ?_
                  refine WR_tI (y := (-12)) I_eq ?_
                  refine r_if_ne (tg := 105) rfl rfl (fun _ => ?_) (fun q => absurd q (by decide))
                  refine r_null rfl ?_
                  refine r_aret0 rfl ?_
                  show WR _ cd_41 12 [some (.ref (ad 0)), some (.int c), some (.int i), some (.int j), some (.int v), none] [.null] (sI (sI h (ad 0) 6 0) (ad 0) 6 (-12)) _
                  refine r_astore0 (lv' := [some (.ref (ad 0)), some (.int c), some (.int i), some (.int j), some (.int v), some (.null)]) rfl (Nat.le_of_ble_eq_true rfl) rfl ?_
                  refine r_aload0 rfl rfl ?_
                  refine r_ifnonnullN (tg := 24) rfl rfl ?_
                  refine r_aload rfl rfl ?_
                  refine r_getI rfl ⟨rfl, rfl, rfl⟩ (fx_t0 fx) ?_
                  refine WR_tI (y := (-12)) I_eq ?_
                  refine r_iret rfl ?_
                  show EV _ 172 [.ref (ad 30), .int c, .int i, .int j, .int v] (sI (sI h (ad 0) 6 0) (ad 0) 6 (-12)) _
                  refine in_172 (Nat.le_of_ble_eq_true rfl) ?_
                  show WR _ cd_172 0 [some (.ref (ad 30)), some (.int c), some (.int i), some (.int j), some (.int v), none] [] (sI (sI h (ad 0) 6 0) (ad 0) 6 (-12)) _
                  refine r_iload rfl rfl ?_
                  refine WR_tI (y := nI k2) ek2 ?_
                  refine r_cs (y := 153) (ra := [.int (nI k2)]) (rest := []) rfl ⟨⟨rfl, rfl⟩, by decide⟩ rfl rfl (Nat.le_of_ble_eq_true rfl) ?_
                  refine in_153 (Nat.le_of_ble_eq_true rfl) ?_
                  show WR _ cd_153 0 [some (.int (nI k2))] [] (sI (sI h (ad 0) 6 0) (ad 0) 6 (-12)) _
                  refine r_iload rfl rfl ?_
                  refine r_if_lt (tg := 14) rfl rfl (fun q => False.elim (by have := i_nlt c1; have := i_rg c; have : (0 : Int32).toInt = 0 := rfl; have := i_eq ek2; have : (nI k2).toInt = ((k2 : Nat) : Int) := nI_toInt (by omega); have := i_nle c3; have : (24 : Int32).toInt = 24 := rfl; have := i_lt q; omega)) (fun _ => ?_)
                  refine r_iload rfl rfl ?_
                  refine r_ic (x := 24) rfl rfl ?_
                  refine r_icmp_ge (tg := 14) rfl rfl (fun q => False.elim (by have := i_nlt c1; have := i_rg c; have : (0 : Int32).toInt = 0 := rfl; have := i_eq ek2; have : (nI k2).toInt = ((k2 : Nat) : Int) := nI_toInt (by omega); have := i_nle c3; have : (24 : Int32).toInt = 24 := rfl; have := i_le q; omega)) (fun _ => ?_)
                  refine r_ic (x := 1) rfl rfl ?_
                  refine r_goto (tg := 15) rfl rfl ?_
                  refine r_zret rfl (.inr rfl) ?_
                  show WR _ cd_172 4 [some (.ref (ad 30)), some (.int c), some (.int i), some (.int j), some (.int v), none] [.int 1] (sI (sI h (ad 0) 6 0) (ad 0) 6 (-12)) _
                  refine r_if_ne (tg := 14) rfl rfl (fun _ => ?_) (fun q => absurd q (by decide))
                  refine r_aload rfl rfl ?_
                  refine r_iload rfl rfl ?_
                  refine WR_tI (y := nI k2) ek2 ?_
                  refine r_iload rfl rfl ?_
                  refine WR_tI (y := nI k6) ek6 ?_
                  refine r_iload rfl rfl ?_
                  refine WR_tI (y := nI k10) ek10 ?_
                  refine r_cv (y := 173) (ra := [.int (nI k10), .int (nI k6), .int (nI k2)]) (rest := []) rfl ⟨⟨rfl, rfl⟩, rfl, by decide⟩ (fx_t30 fx) rfl rfl (Nat.le_of_ble_eq_true rfl) ?_
                  refine in_173 (Nat.le_of_ble_eq_true rfl) ?_
                  show WR _ cd_173 0 [some (.ref (ad 30)), some (.int (nI k2)), some (.int (nI k6)), some (.int (nI k10)), none, none] [] (sI (sI h (ad 0) 6 0) (ad 0) 6 (-12)) _
                  refine r_aload rfl rfl ?_
                  refine r_aload rfl rfl ?_
                  refine r_getA (b := ad 31) rfl ⟨rfl, rfl, rfl⟩ (fx_t30 fx) (fx_r30_0 fx) ?_
                  refine r_iload rfl rfl ?_
                  refine r_iaload rfl (.inl (fx_t31 fx)) (vp_ct (fx_n31 fx) (vp_in_nI (by have := i_nlt c1; have := i_rg c; have : (0 : Int32).toInt = 0 := rfl; have := i_eq ek2; have : (nI k2).toInt = ((k2 : Nat) : Int) := nI_toInt (by omega); have := i_nle c3; have : (24 : Int32).toInt = 24 := rfl; omega) (by omega))) ?_
                  refine WR_tI (congrArg (hI (sI (sI h (ad 0) 6 0) (ad 0) 6 (-12)) (ad 31)) ((nI_clamp (by have := i_nlt c1; have := i_rg c; have : (0 : Int32).toInt = 0 := rfl; have := i_eq ek2; have : (nI k2).toInt = ((k2 : Nat) : Int) := nI_toInt (by omega); have := i_nle c3; have : (24 : Int32).toInt = 24 := rfl; omega)) : _ = k2)) ?_
                  refine WR_tI (y := nI t4) (Eq.trans (I_ne (fx_ne fx (by decide))) (Eq.trans (I_ne (fx_ne fx (by decide))) v4)) ?_
                  refine r_ic (x := 8) rfl rfl ?_
                  refine r_iload rfl rfl ?_
                  refine r_cv (y := 168) (ra := [.int (nI k6), .int 8, .int (nI t4)]) (rest := []) rfl ⟨⟨rfl, rfl⟩, rfl, by decide⟩ (fx_t30 fx) rfl rfl (Nat.le_of_ble_eq_true rfl) ?_
                  refine in_168 (Nat.le_of_ble_eq_true rfl) ?_
                  show WR _ cd_168 0 [some (.ref (ad 30)), some (.int (nI t4)), some (.int 8), some (.int (nI k6))] [] (sI (sI h (ad 0) 6 0) (ad 0) 6 (-12)) _
                  refine r_iload rfl rfl ?_
                  refine r_ic (x := (-1)) rfl rfl ?_
                  refine r_icmp_eq (tg := 18) rfl rfl (fun q => False.elim (by have : (nI t4).toInt = ((t4 : Nat) : Int) := nI_toInt (by omega); have : (-1 : Int32).toInt = -1 := rfl; have := i_eq q; omega)) (fun _ => ?_)
                  refine r_aload rfl rfl ?_
                  refine r_iload rfl rfl ?_
                  refine r_cv (y := 166) (ra := [.int (nI t4)]) (rest := []) rfl ⟨⟨rfl, rfl⟩, rfl, by decide⟩ (fx_t30 fx) rfl rfl (Nat.le_of_ble_eq_true rfl) ?_
                  refine in_166 (Nat.le_of_ble_eq_true rfl) ?_
                  show WR _ cd_166 0 [some (.ref (ad 30)), some (.int (nI t4))] [] (sI (sI h (ad 0) 6 0) (ad 0) 6 (-12)) _
                  refine r_iload rfl rfl ?_
                  refine r_ic (x := (-1)) rfl rfl ?_
                  refine r_icmp_ne (tg := 9) rfl rfl (fun _ => ?_) (fun q => False.elim (by have : (nI t4).toInt = ((t4 : Nat) : Int) := nI_toInt (by omega); have : (-1 : Int32).toInt = -1 := rfl; have := i_eq q; omega))
                  refine r_iload rfl rfl ?_
                  refine r_ic (x := 1000) rfl rfl ?_
                  refine r_icmp_lt (tg := 21) rfl rfl (fun _ => ?_) (fun q => False.elim (by have : (nI t4).toInt = ((t4 : Nat) : Int) := nI_toInt (by omega); have : (1000 : Int32).toInt = 1000 := rfl; have := i_nlt q; omega))
                  refine r_aload rfl rfl ?_
                  refine r_getA (b := ad 33) rfl ⟨rfl, rfl, rfl⟩ (fx_t30 fx) (fx_r30_2 fx) ?_
                  refine r_iload rfl rfl ?_
                  refine r_iaload rfl (.inl (fx_t33 fx)) (vp_ct (fx_n33 fx) (vp_in_nI (by omega) (by omega))) ?_
                  refine WR_tI (congrArg (hI (sI (sI h (ad 0) 6 0) (ad 0) 6 (-12)) (ad 33)) ((nI_clamp (by omega)) : _ = t4)) ?_
                  refine WR_tI (y := 8) (Eq.trans (I_ne (fx_ne fx (by decide))) (Eq.trans (I_ne (fx_ne fx (by decide))) l2_4)) ?_
                  refine r_iret rfl ?_
                  show WR _ cd_168 10 [some (.ref (ad 30)), some (.int (nI t4)), some (.int 8), some (.int (nI k6))] [.int 8] (sI (sI h (ad 0) 6 0) (ad 0) 6 (-12)) _
                  refine r_iload rfl rfl ?_
                  refine r_icmp_eq (tg := 18) rfl rfl (fun _ => ?_) (fun q => absurd q (by decide))
                  refine r_iload rfl rfl ?_
                  refine r_ic (x := (-1)) rfl rfl ?_
                  refine r_icmp_ne (tg := 27) rfl rfl (fun _ => ?_) (fun q => False.elim (by have : (nI t4).toInt = ((t4 : Nat) : Int) := nI_toInt (by omega); have : (-1 : Int32).toInt = -1 := rfl; have := i_eq q; omega))
                  refine r_iload rfl rfl ?_
                  refine r_i2l rfl ?_
                  refine WR_tL (y := lN k6) (nI_l (by have := i_nlt c5; have := i_rg i; have : (0 : Int32).toInt = 0 := rfl; have := i_eq ek6; have : (nI k6).toInt = ((k6 : Nat) : Int) := nI_toInt (by omega); have := i_nlt c7; have : (1 : Int32).toInt = 1 := rfl; have : (nI sz4).toInt = ((sz4 : Nat) : Int) := nI_toInt (by omega); have := sub_t (x := nI sz4) (y := nI k6) (by have := i_nlt c5; have := i_rg i; have : (0 : Int32).toInt = 0 := rfl; have := i_eq ek6; have : (nI k6).toInt = ((k6 : Nat) : Int) := nI_toInt (by omega); have : (nI sz4).toInt = ((sz4 : Nat) : Int) := nI_toInt (by omega); omega) (by have := i_nlt c5; have := i_rg i; have : (0 : Int32).toInt = 0 := rfl; have := i_eq ek6; have : (nI k6).toInt = ((k6 : Nat) : Int) := nI_toInt (by omega); have : (nI sz4).toInt = ((sz4 : Nat) : Int) := nI_toInt (by omega); omega); omega)) ?_
                  refine r_lc (x := 0) rfl rfl ?_
                  refine r_aload rfl rfl ?_
                  refine r_getA (b := ad 35) rfl ⟨rfl, rfl, rfl⟩ (fx_t30 fx) (fx_r30_4 fx) ?_
                  refine r_iload rfl rfl ?_
                  refine r_iaload rfl (.inl (fx_t35 fx)) (vp_ct (fx_n35 fx) (vp_in_nI (by omega) (by omega))) ?_
                  refine WR_tI (congrArg (hI (sI (sI h (ad 0) 6 0) (ad 0) 6 (-12)) (ad 35)) ((nI_clamp (by omega)) : _ = t4)) ?_
                  refine WR_tI (y := nI sz4) (Eq.trans (I_ne (fx_ne fx (by decide))) (Eq.trans (I_ne (fx_ne fx (by decide))) sz_4)) ?_
                  refine r_ic (x := 1) rfl rfl ?_
                  refine r_isub rfl ?_
                  refine WR_tI (y := nI (sz4 - 1)) (Eq.trans (pk_sub (a := sz4) (b := 1) (by have := i_nlt c5; have := i_rg i; have : (0 : Int32).toInt = 0 := rfl; have := i_eq ek6; have : (nI k6).toInt = ((k6 : Nat) : Int) := nI_toInt (by omega); have := i_nlt c7; have : (1 : Int32).toInt = 1 := rfl; have : (nI sz4).toInt = ((sz4 : Nat) : Int) := nI_toInt (by omega); have := sub_t (x := nI sz4) (y := nI k6) (by have := i_nlt c5; have := i_rg i; have : (0 : Int32).toInt = 0 := rfl; have := i_eq ek6; have : (nI k6).toInt = ((k6 : Nat) : Int) := nI_toInt (by omega); have : (nI sz4).toInt = ((sz4 : Nat) : Int) := nI_toInt (by omega); omega) (by have := i_nlt c5; have := i_rg i; have : (0 : Int32).toInt = 0 := rfl; have := i_eq ek6; have : (nI k6).toInt = ((k6 : Nat) : Int) := nI_toInt (by omega); have : (nI sz4).toInt = ((sz4 : Nat) : Int) := nI_toInt (by omega); omega); omega)) (congrArg nI (by have := i_nlt c5; have := i_rg i; have : (0 : Int32).toInt = 0 := rfl; have := i_eq ek6; have : (nI k6).toInt = ((k6 : Nat) : Int) := nI_toInt (by omega); have := i_nlt c7; have : (1 : Int32).toInt = 1 := rfl; have : (nI sz4).toInt = ((sz4 : Nat) : Int) := nI_toInt (by omega); have := sub_t (x := nI sz4) (y := nI k6) (by have := i_nlt c5; have := i_rg i; have : (0 : Int32).toInt = 0 := rfl; have := i_eq ek6; have : (nI k6).toInt = ((k6 : Nat) : Int) := nI_toInt (by omega); have : (nI sz4).toInt = ((sz4 : Nat) : Int) := nI_toInt (by omega); omega) (by have := i_nlt c5; have := i_rg i; have : (0 : Int32).toInt = 0 := rfl; have := i_eq ek6; have : (nI k6).toInt = ((k6 : Nat) : Int) := nI_toInt (by omega); have : (nI sz4).toInt = ((sz4 : Nat) : Int) := nI_toInt (by omega); omega); omega))) ?_
                  refine r_i2l rfl ?_
                  refine WR_tL (y := lN (sz4 - 1)) (nI_l (by have := i_nlt c5; have := i_rg i; have : (0 : Int32).toInt = 0 := rfl; have := i_eq ek6; have : (nI k6).toInt = ((k6 : Nat) : Int) := nI_toInt (by omega); have := i_nlt c7; have : (1 : Int32).toInt = 1 := rfl; have : (nI sz4).toInt = ((sz4 : Nat) : Int) := nI_toInt (by omega); have := sub_t (x := nI sz4) (y := nI k6) (by have := i_nlt c5; have := i_rg i; have : (0 : Int32).toInt = 0 := rfl; have := i_eq ek6; have : (nI k6).toInt = ((k6 : Nat) : Int) := nI_toInt (by omega); have : (nI sz4).toInt = ((sz4 : Nat) : Int) := nI_toInt (by omega); omega) (by have := i_nlt c5; have := i_rg i; have : (0 : Int32).toInt = 0 := rfl; have := i_eq ek6; have : (nI k6).toInt = ((k6 : Nat) : Int) := nI_toInt (by omega); have : (nI sz4).toInt = ((sz4 : Nat) : Int) := nI_toInt (by omega); omega); omega)) ?_
                  refine r_cs (y := 155) (ra := [.long (lN (sz4 - 1)), .long 0, .long (lN k6)]) (rest := []) rfl ⟨⟨rfl, rfl⟩, by decide⟩ rfl rfl (Nat.le_of_ble_eq_true rfl) ?_
                  refine in_155 (Nat.le_of_ble_eq_true rfl) ?_
                  show WR _ cd_155 0 [some (.long (lN k6)), none, some (.long 0), none, some (.long (lN (sz4 - 1))), none] [] (sI (sI h (ad 0) 6 0) (ad 0) 6 (-12)) _
                  refine r_lload rfl rfl ?_
                  refine r_lload rfl rfl ?_
                  refine r_lif_lt (tg := 17) rfl rfl rfl (fun q => False.elim (by have := i_nlt c5; have := i_rg i; have : (0 : Int32).toInt = 0 := rfl; have := i_eq ek6; have : (nI k6).toInt = ((k6 : Nat) : Int) := nI_toInt (by omega); have := i_nlt c7; have : (1 : Int32).toInt = 1 := rfl; have : (nI sz4).toInt = ((sz4 : Nat) : Int) := nI_toInt (by omega); have := sub_t (x := nI sz4) (y := nI k6) (by have := i_nlt c5; have := i_rg i; have : (0 : Int32).toInt = 0 := rfl; have := i_eq ek6; have : (nI k6).toInt = ((k6 : Nat) : Int) := nI_toInt (by omega); have : (nI sz4).toInt = ((sz4 : Nat) : Int) := nI_toInt (by omega); omega) (by have := i_nlt c5; have := i_rg i; have : (0 : Int32).toInt = 0 := rfl; have := i_eq ek6; have : (nI k6).toInt = ((k6 : Nat) : Int) := nI_toInt (by omega); have : (nI sz4).toInt = ((sz4 : Nat) : Int) := nI_toInt (by omega); omega); have : (lN k6).toInt = ((k6 : Nat) : Int) := lN_toInt (by omega); have : (0 : Int64).toInt = 0 := rfl; have := l_lt q; omega)) (fun _ => ?_)
                  refine r_lload rfl rfl ?_
                  refine r_lload rfl rfl ?_
                  refine r_lif_gt (tg := 17) rfl rfl rfl (fun q => False.elim (by have := i_nlt c5; have := i_rg i; have : (0 : Int32).toInt = 0 := rfl; have := i_eq ek6; have : (nI k6).toInt = ((k6 : Nat) : Int) := nI_toInt (by omega); have := i_nlt c7; have : (1 : Int32).toInt = 1 := rfl; have : (nI sz4).toInt = ((sz4 : Nat) : Int) := nI_toInt (by omega); have := sub_t (x := nI sz4) (y := nI k6) (by have := i_nlt c5; have := i_rg i; have : (0 : Int32).toInt = 0 := rfl; have := i_eq ek6; have : (nI k6).toInt = ((k6 : Nat) : Int) := nI_toInt (by omega); have : (nI sz4).toInt = ((sz4 : Nat) : Int) := nI_toInt (by omega); omega) (by have := i_nlt c5; have := i_rg i; have : (0 : Int32).toInt = 0 := rfl; have := i_eq ek6; have : (nI k6).toInt = ((k6 : Nat) : Int) := nI_toInt (by omega); have : (nI sz4).toInt = ((sz4 : Nat) : Int) := nI_toInt (by omega); omega); have : (lN k6).toInt = ((k6 : Nat) : Int) := lN_toInt (by omega); have : (lN (sz4 - 1)).toInt = ((sz4 - 1 : Nat) : Int) := lN_toInt (by omega); have := l_lt q; omega)) (fun _ => ?_)
                  refine r_ic (x := 1) rfl rfl ?_
                  refine r_goto (tg := 18) rfl rfl ?_
                  refine r_zret rfl (.inr rfl) ?_
                  show WR _ cd_168 42 [some (.ref (ad 30)), some (.int (nI t4)), some (.int 8), some (.int (nI k6))] [.int 1] (sI (sI h (ad 0) 6 0) (ad 0) 6 (-12)) _
                  refine r_if_ne (tg := 49) rfl rfl (fun _ => ?_) (fun q => absurd q (by decide))
                  refine r_ic (x := 0) rfl rfl ?_
                  refine r_iret rfl ?_
                  show WR _ cd_173 13 [some (.ref (ad 30)), some (.int (nI k2)), some (.int (nI k6)), some (.int (nI k10)), none, none] [.int 0] (sI (sI h (ad 0) 6 0) (ad 0) 6 (-12)) _
                  refine r_istore (lv' := [some (.ref (ad 30)), some (.int (nI k2)), some (.int (nI k6)), some (.int (nI k10)), some (.int 0), none]) rfl (Nat.le_of_ble_eq_true rfl) rfl ?_
                  refine r_iload rfl rfl ?_
                  refine r_if_le (tg := 24) rfl rfl (fun _ => ?_) (fun q => absurd q (by decide))
                  refine r_aload rfl rfl ?_
                  refine r_getA (b := ad 36) rfl ⟨rfl, rfl, rfl⟩ (fx_t30 fx) (fx_r30_5 fx) ?_
                  refine r_ic (x := 30) rfl rfl ?_
                  refine r_aload rfl rfl ?_
                  refine r_getA (b := ad 31) rfl ⟨rfl, rfl, rfl⟩ (fx_t30 fx) (fx_r30_0 fx) ?_
                  refine r_iload rfl rfl ?_
                  refine r_iaload rfl (.inl (fx_t31 fx)) (vp_ct (fx_n31 fx) (vp_in_nI (by have := i_nlt c1; have := i_rg c; have : (0 : Int32).toInt = 0 := rfl; have := i_eq ek2; have : (nI k2).toInt = ((k2 : Nat) : Int) := nI_toInt (by omega); have := i_nle c3; have : (24 : Int32).toInt = 24 := rfl; omega) (by omega))) ?_
                  refine WR_tI (congrArg (hI (sI (sI h (ad 0) 6 0) (ad 0) 6 (-12)) (ad 31)) ((nI_clamp (by have := i_nlt c1; have := i_rg c; have : (0 : Int32).toInt = 0 := rfl; have := i_eq ek2; have : (nI k2).toInt = ((k2 : Nat) : Int) := nI_toInt (by omega); have := i_nle c3; have : (24 : Int32).toInt = 24 := rfl; omega)) : _ = k2)) ?_
                  refine WR_tI (y := nI t4) (Eq.trans (I_ne (fx_ne fx (by decide))) (Eq.trans (I_ne (fx_ne fx (by decide))) v4)) ?_
                  refine r_imul rfl ?_
                  refine WR_tI (y := nI (30 * t4)) (Eq.trans (pk_mul 30 t4) (congrArg nI (by omega))) ?_
                  refine r_iload rfl rfl ?_
                  refine r_iadd rfl ?_
                  refine WR_tI (y := nI (30 * t4 + k6)) (Eq.trans (nI_add (30 * t4) k6) (congrArg nI (by have := i_nlt c5; have := i_rg i; have : (0 : Int32).toInt = 0 := rfl; have := i_eq ek6; have : (nI k6).toInt = ((k6 : Nat) : Int) := nI_toInt (by omega); have := i_nlt c7; have : (1 : Int32).toInt = 1 := rfl; have : (nI sz4).toInt = ((sz4 : Nat) : Int) := nI_toInt (by omega); have := sub_t (x := nI sz4) (y := nI k6) (by have := i_nlt c5; have := i_rg i; have : (0 : Int32).toInt = 0 := rfl; have := i_eq ek6; have : (nI k6).toInt = ((k6 : Nat) : Int) := nI_toInt (by omega); have : (nI sz4).toInt = ((sz4 : Nat) : Int) := nI_toInt (by omega); omega) (by have := i_nlt c5; have := i_rg i; have : (0 : Int32).toInt = 0 := rfl; have := i_eq ek6; have : (nI k6).toInt = ((k6 : Nat) : Int) := nI_toInt (by omega); have : (nI sz4).toInt = ((sz4 : Nat) : Int) := nI_toInt (by omega); omega); omega))) ?_
                  refine r_laload rfl (fx_t36 fx) (vp_ct (fx_n36 fx) (vp_in_nI (by have := i_nlt c5; have := i_rg i; have : (0 : Int32).toInt = 0 := rfl; have := i_eq ek6; have : (nI k6).toInt = ((k6 : Nat) : Int) := nI_toInt (by omega); have := i_nlt c7; have : (1 : Int32).toInt = 1 := rfl; have : (nI sz4).toInt = ((sz4 : Nat) : Int) := nI_toInt (by omega); have := sub_t (x := nI sz4) (y := nI k6) (by have := i_nlt c5; have := i_rg i; have : (0 : Int32).toInt = 0 := rfl; have := i_eq ek6; have : (nI k6).toInt = ((k6 : Nat) : Int) := nI_toInt (by omega); have : (nI sz4).toInt = ((sz4 : Nat) : Int) := nI_toInt (by omega); omega) (by have := i_nlt c5; have := i_rg i; have : (0 : Int32).toInt = 0 := rfl; have := i_eq ek6; have : (nI k6).toInt = ((k6 : Nat) : Int) := nI_toInt (by omega); have : (nI sz4).toInt = ((sz4 : Nat) : Int) := nI_toInt (by omega); omega); omega) (by omega))) ?_
                  refine WR_tL (congrArg (hL (sI (sI h (ad 0) 6 0) (ad 0) 6 (-12)) (ad 36)) ((nI_clamp (by have := i_nlt c5; have := i_rg i; have : (0 : Int32).toInt = 0 := rfl; have := i_eq ek6; have : (nI k6).toInt = ((k6 : Nat) : Int) := nI_toInt (by omega); have := i_nlt c7; have : (1 : Int32).toInt = 1 := rfl; have : (nI sz4).toInt = ((sz4 : Nat) : Int) := nI_toInt (by omega); have := sub_t (x := nI sz4) (y := nI k6) (by have := i_nlt c5; have := i_rg i; have : (0 : Int32).toInt = 0 := rfl; have := i_eq ek6; have : (nI k6).toInt = ((k6 : Nat) : Int) := nI_toInt (by omega); have : (nI sz4).toInt = ((sz4 : Nat) : Int) := nI_toInt (by omega); omega) (by have := i_nlt c5; have := i_rg i; have : (0 : Int32).toInt = 0 := rfl; have := i_eq ek6; have : (nI k6).toInt = ((k6 : Nat) : Int) := nI_toInt (by omega); have : (nI sz4).toInt = ((sz4 : Nat) : Int) := nI_toInt (by omega); omega); omega)) : _ = 30 * t4 + k6)) ?_
                  refine WR_tL (y := lN t8) (Eq.trans L_oI (Eq.trans L_oI v8)) ?_
                  refine r_l2i rfl ?_
                  refine WR_tI (y := nI t8) (lN_i _) ?_
                  refine r_istore (lv' := [some (.ref (ad 30)), some (.int (nI k2)), some (.int (nI k6)), some (.int (nI k10)), some (.int 0), some (.int (nI t8))]) rfl (Nat.le_of_ble_eq_true rfl) rfl ?_
                  refine r_iload rfl rfl ?_
                  refine r_ic (x := (-1)) rfl rfl ?_
                  refine r_icmp_ne (tg := 51) rfl rfl (fun _ => ?_) (fun q => False.elim (by have : (nI t8).toInt = ((t8 : Nat) : Int) := nI_toInt (by omega); have : (-1 : Int32).toInt = -1 := rfl; have := i_eq q; omega))
                  refine r_iload rfl rfl ?_
                  refine r_i2l rfl ?_
                  refine WR_tL (y := lN k10) (nI_l (by have := i_nlt c9; have := i_rg j; have : (0 : Int32).toInt = 0 := rfl; have := i_eq ek10; have : (nI k10).toInt = ((k10 : Nat) : Int) := nI_toInt (by omega); have := i_lt c11; have : (1 : Int32).toInt = 1 := rfl; have : (nI sz8).toInt = ((sz8 : Nat) : Int) := nI_toInt (by omega); have := sub_t (x := nI sz8) (y := nI k10) (by have := i_nlt c9; have := i_rg j; have : (0 : Int32).toInt = 0 := rfl; have := i_eq ek10; have : (nI k10).toInt = ((k10 : Nat) : Int) := nI_toInt (by omega); have : (nI sz8).toInt = ((sz8 : Nat) : Int) := nI_toInt (by omega); omega) (by have := i_nlt c9; have := i_rg j; have : (0 : Int32).toInt = 0 := rfl; have := i_eq ek10; have : (nI k10).toInt = ((k10 : Nat) : Int) := nI_toInt (by omega); have : (nI sz8).toInt = ((sz8 : Nat) : Int) := nI_toInt (by omega); omega); omega)) ?_
                  refine r_lc (x := 0) rfl rfl ?_
                  refine r_aload rfl rfl ?_
                  refine r_getA (b := ad 35) rfl ⟨rfl, rfl, rfl⟩ (fx_t30 fx) (fx_r30_4 fx) ?_
                  refine r_iload rfl rfl ?_
                  refine r_iaload rfl (.inl (fx_t35 fx)) (vp_ct (fx_n35 fx) (vp_in_nI (by omega) (by omega))) ?_
                  refine WR_tI (congrArg (hI (sI (sI h (ad 0) 6 0) (ad 0) 6 (-12)) (ad 35)) ((nI_clamp (by omega)) : _ = t8)) ?_
                  refine WR_tI (y := nI sz8) (Eq.trans (I_ne (fx_ne fx (by decide))) (Eq.trans (I_ne (fx_ne fx (by decide))) sz_8)) ?_
                  refine r_ic (x := 1) rfl rfl ?_
                  refine r_isub rfl ?_
                  refine r_i2l rfl ?_
                  refine r_cs (y := 155) (ra := [.long (((nI sz8) - 1).toInt64), .long 0, .long (lN k10)]) (rest := []) rfl ⟨⟨rfl, rfl⟩, by decide⟩ rfl rfl (Nat.le_of_ble_eq_true rfl) ?_
                  refine in_155 (Nat.le_of_ble_eq_true rfl) ?_
                  show WR _ cd_155 0 [some (.long (lN k10)), none, some (.long 0), none, some (.long (((nI sz8) - 1).toInt64)), none] [] (sI (sI h (ad 0) 6 0) (ad 0) 6 (-12)) _
                  refine r_lload rfl rfl ?_
                  refine r_lload rfl rfl ?_
                  refine r_lif_lt (tg := 17) rfl rfl rfl (fun q => False.elim (by have := i_nlt c9; have := i_rg j; have : (0 : Int32).toInt = 0 := rfl; have := i_eq ek10; have : (nI k10).toInt = ((k10 : Nat) : Int) := nI_toInt (by omega); have := i_lt c11; have : (1 : Int32).toInt = 1 := rfl; have : (nI sz8).toInt = ((sz8 : Nat) : Int) := nI_toInt (by omega); have := sub_t (x := nI sz8) (y := nI k10) (by have := i_nlt c9; have := i_rg j; have : (0 : Int32).toInt = 0 := rfl; have := i_eq ek10; have : (nI k10).toInt = ((k10 : Nat) : Int) := nI_toInt (by omega); have : (nI sz8).toInt = ((sz8 : Nat) : Int) := nI_toInt (by omega); omega) (by have := i_nlt c9; have := i_rg j; have : (0 : Int32).toInt = 0 := rfl; have := i_eq ek10; have : (nI k10).toInt = ((k10 : Nat) : Int) := nI_toInt (by omega); have : (nI sz8).toInt = ((sz8 : Nat) : Int) := nI_toInt (by omega); omega); have : (lN k10).toInt = ((k10 : Nat) : Int) := lN_toInt (by omega); have : (0 : Int64).toInt = 0 := rfl; have := l_lt q; omega)) (fun _ => ?_)
                  refine r_lload rfl rfl ?_
                  refine r_lload rfl rfl ?_
                  refine r_lif_gt (tg := 17) rfl rfl rfl (fun _ => ?_) (fun q => False.elim (by have := i_nlt c9; have := i_rg j; have : (0 : Int32).toInt = 0 := rfl; have := i_eq ek10; have : (nI k10).toInt = ((k10 : Nat) : Int) := nI_toInt (by omega); have := i_lt c11; have : (1 : Int32).toInt = 1 := rfl; have : (nI sz8).toInt = ((sz8 : Nat) : Int) := nI_toInt (by omega); have := sub_t (x := nI sz8) (y := nI k10) (by have := i_nlt c9; have := i_rg j; have : (0 : Int32).toInt = 0 := rfl; have := i_eq ek10; have : (nI k10).toInt = ((k10 : Nat) : Int) := nI_toInt (by omega); have : (nI sz8).toInt = ((sz8 : Nat) : Int) := nI_toInt (by omega); omega) (by have := i_nlt c9; have := i_rg j; have : (0 : Int32).toInt = 0 := rfl; have := i_eq ek10; have : (nI k10).toInt = ((k10 : Nat) : Int) := nI_toInt (by omega); have : (nI sz8).toInt = ((sz8 : Nat) : Int) := nI_toInt (by omega); omega); have : (lN k10).toInt = ((k10 : Nat) : Int) := lN_toInt (by omega); have := sub_t (x := nI sz8) (y := 1) (by have := i_nlt c9; have := i_rg j; have : (0 : Int32).toInt = 0 := rfl; have := i_eq ek10; have : (nI k10).toInt = ((k10 : Nat) : Int) := nI_toInt (by omega); have := i_lt c11; have : (1 : Int32).toInt = 1 := rfl; have : (nI sz8).toInt = ((sz8 : Nat) : Int) := nI_toInt (by omega); have := sub_t (x := nI sz8) (y := nI k10) (by have := i_nlt c9; have := i_rg j; have : (0 : Int32).toInt = 0 := rfl; have := i_eq ek10; have : (nI k10).toInt = ((k10 : Nat) : Int) := nI_toInt (by omega); have : (nI sz8).toInt = ((sz8 : Nat) : Int) := nI_toInt (by omega); omega) (by have := i_nlt c9; have := i_rg j; have : (0 : Int32).toInt = 0 := rfl; have := i_eq ek10; have : (nI k10).toInt = ((k10 : Nat) : Int) := nI_toInt (by omega); have : (nI sz8).toInt = ((sz8 : Nat) : Int) := nI_toInt (by omega); omega); omega) (by have := i_nlt c9; have := i_rg j; have : (0 : Int32).toInt = 0 := rfl; have := i_eq ek10; have : (nI k10).toInt = ((k10 : Nat) : Int) := nI_toInt (by omega); have := i_lt c11; have : (1 : Int32).toInt = 1 := rfl; have : (nI sz8).toInt = ((sz8 : Nat) : Int) := nI_toInt (by omega); have := sub_t (x := nI sz8) (y := nI k10) (by have := i_nlt c9; have := i_rg j; have : (0 : Int32).toInt = 0 := rfl; have := i_eq ek10; have : (nI k10).toInt = ((k10 : Nat) : Int) := nI_toInt (by omega); have : (nI sz8).toInt = ((sz8 : Nat) : Int) := nI_toInt (by omega); omega) (by have := i_nlt c9; have := i_rg j; have : (0 : Int32).toInt = 0 := rfl; have := i_eq ek10; have : (nI k10).toInt = ((k10 : Nat) : Int) := nI_toInt (by omega); have : (nI sz8).toInt = ((sz8 : Nat) : Int) := nI_toInt (by omega); omega); omega); have := w_t ((nI sz8) - 1); have := l_nlt q; omega))
                  refine r_ic (x := 0) rfl rfl ?_
                  refine r_zret rfl (.inl rfl) ?_
                  show WR _ cd_173 67 [some (.ref (ad 30)), some (.int (nI k2)), some (.int (nI k6)), some (.int (nI k10)), some (.int 0), some (.int (nI t8))] [.int 0] (sI (sI h (ad 0) 6 0) (ad 0) 6 (-12)) _
                  refine r_if_eq (tg := 80) rfl rfl (fun _ => ?_) (fun q => absurd q (by decide))
                  refine r_ic (x := (-2)) rfl rfl ?_
                  refine r_iret rfl ?_
                  show WR _ cd_172 21 [some (.ref (ad 30)), some (.int c), some (.int i), some (.int j), some (.int v), none] [.int (-2)] (sI (sI h (ad 0) 6 0) (ad 0) 6 (-12)) _
                  refine r_istore (lv' := [some (.ref (ad 30)), some (.int c), some (.int i), some (.int j), some (.int v), some (.int (-2))]) rfl (Nat.le_of_ble_eq_true rfl) rfl ?_
                  refine r_iload rfl rfl ?_
                  refine r_if_ge (tg := 36) rfl rfl (fun q => absurd q (by decide)) (fun _ => ?_)
                  refine r_aload rfl rfl ?_
                  refine r_iload rfl rfl ?_
                  refine r_ineg rfl ?_
                  refine WR_tI (y := 2) rfl ?_
                  refine r_cv (y := 156) (ra := [.int 2]) (rest := []) rfl ⟨⟨rfl, rfl⟩, rfl, by decide⟩ (fx_t30 fx) rfl rfl (Nat.le_of_ble_eq_true rfl) ?_
                  refine in_156 (Nat.le_of_ble_eq_true rfl) ?_
                  show WR _ cd_156 0 [some (.ref (ad 30)), some (.int 2)] [] (sI (sI h (ad 0) 6 0) (ad 0) 6 (-12)) _
                  refine r_aload rfl rfl ?_
                  refine r_ic (x := (-10)) rfl rfl ?_
                  refine r_iload rfl rfl ?_
                  refine r_isub rfl ?_
                  refine WR_tI (y := (-12)) rfl ?_
                  refine r_cv (y := 154) (ra := [.int (-12)]) (rest := []) rfl ⟨⟨rfl, rfl⟩, rfl, by decide⟩ (fx_t30 fx) rfl rfl (Nat.le_of_ble_eq_true rfl) ?_
                  refine in_154 (Nat.le_of_ble_eq_true rfl) ?_
                  show WR _ cd_154 0 [some (.ref (ad 30)), some (.int (-12))] [] (sI (sI h (ad 0) 6 0) (ad 0) 6 (-12)) _
                  refine r_aload rfl rfl ?_
                  refine r_iload rfl rfl ?_
                  refine r_ic (x := (-1)) rfl rfl ?_
                  refine r_icmp_ge (tg := 10) rfl rfl (fun q => absurd q (by decide)) (fun _ => ?_)
                  refine r_iload rfl rfl ?_
                  refine r_goto (tg := 11) rfl rfl ?_
                  refine r_putI rfl ⟨rfl, rfl, rfl⟩ (fx_t30 fx) ?_
                  refine r_iload rfl rfl ?_
                  refine r_iret rfl ?_
                  show WR _ cd_156 8 [some (.ref (ad 30)), some (.int 2)] [.int (-12)] (sI (sI (sI h (ad 0) 6 0) (ad 0) 6 (-12)) (ad 30) 11 (-12)) _
                  refine r_iret rfl ?_
                  show WR _ cd_172 35 [some (.ref (ad 30)), some (.int c), some (.int i), some (.int j), some (.int v), some (.int (-2))] [.int (-12)] (sI (sI (sI h (ad 0) 6 0) (ad 0) 6 (-12)) (ad 30) 11 (-12)) _
                  refine r_iret rfl ?_
                  exact ⟨rfl, Rel.why r (((Chg.rf.sI (fx_j fx) (.inl (by decide))).sI (fx_j fx) (.inl (by decide))).sI (fx_j fx) (.inl (by decide))) ⟨rfl, by decide⟩ (Eq.trans (Eq.trans (I_ne (fx_ne fx (by decide))) I_eq) (Eq.symm I_eq)), Nat.le_add_right _ _, Nat.le_add_right _ _⟩
                · refine r_ic (x := 1) rfl rfl ?_
                  refine r_goto (tg := 23) rfl rfl ?_
                  refine r_zret rfl (.inr rfl) ?_
                  show WR _ cd_42 81 [some (.ref (ad 0)), some (.int c), some (.int i), some (.int j), some (.ref (mid t4)), some (.ref (mid t8)), some (.ref (mid t8))] [.int 1, .ref (ad 0)] (sI h (ad 0) 6 0) _
                  refine r_if_eq (tg := 88) rfl rfl (fun q => absurd q (by decide)) (fun _ => ?_)
                  refine r_ic (x := 0) rfl rfl ?_
                  refine r_goto (tg := 90) rfl rfl ?_
                  refine r_putI rfl ⟨rfl, rfl, rfl⟩ (fx_t0 fx) ?_
                  refine r_aload rfl rfl ?_
                  refine r_getI rfl ⟨rfl, rfl, rfl⟩ (fx_t0 fx) ?_
                  refine WR_tI (y := 0) I_eq ?_
                  refine r_if_ne (tg := 105) rfl rfl (fun q => absurd q (by decide)) (fun _ => ?_)
                  refine r_aload rfl rfl ?_
                  refine r_goto (tg := 106) rfl rfl ?_
                  refine r_aret rfl ?_
                  show WR _ cd_41 12 [some (.ref (ad 0)), some (.int c), some (.int i), some (.int j), some (.int v), none] [.ref (mid t8)] (sI (sI h (ad 0) 6 0) (ad 0) 6 0) _
                  refine r_astore (lv' := [some (.ref (ad 0)), some (.int c), some (.int i), some (.int j), some (.int v), some (.ref (mid t8))]) rfl (Nat.le_of_ble_eq_true rfl) rfl ?_
                  refine r_aload rfl rfl ?_
                  refine r_ifnonnullA (tg := 24) rfl rfl ?_
                  refine r_aload rfl rfl ?_
                  refine r_getA (b := mid t8 + 1) rfl ⟨rfl, rfl, rfl⟩ tg8 (Eq.trans R_oI (Eq.trans R_oI r_8)) ?_
                  refine r_iload rfl rfl ?_
                  refine WR_tI (y := nI k10) ek10 ?_
                  refine r_iload rfl rfl ?_
                  refine r_i2l rfl ?_
                  refine r_lastore rfl tg2_8 (vp_ct n_8 (vp_in_nI (by have := i_nlt c9; have := i_rg j; have : (0 : Int32).toInt = 0 := rfl; have := i_eq ek10; have : (nI k10).toInt = ((k10 : Nat) : Int) := nI_toInt (by omega); have := i_nlt c11; have : (1 : Int32).toInt = 1 := rfl; have : (nI sz8).toInt = ((sz8 : Nat) : Int) := nI_toInt (by omega); have := sub_t (x := nI sz8) (y := nI k10) (by have := i_nlt c9; have := i_rg j; have : (0 : Int32).toInt = 0 := rfl; have := i_eq ek10; have : (nI k10).toInt = ((k10 : Nat) : Int) := nI_toInt (by omega); have : (nI sz8).toInt = ((sz8 : Nat) : Int) := nI_toInt (by omega); omega) (by have := i_nlt c9; have := i_rg j; have : (0 : Int32).toInt = 0 := rfl; have := i_eq ek10; have : (nI k10).toInt = ((k10 : Nat) : Int) := nI_toInt (by omega); have : (nI sz8).toInt = ((sz8 : Nat) : Int) := nI_toInt (by omega); omega); omega) (by omega))) ?_
                  refine WR_h (h2 := sL (sI (sI h (ad 0) 6 0) (ad 0) 6 0) (mid t8 + 1) k10 v.toInt64) (congrArg (fun z => sL (sI (sI h (ad 0) 6 0) (ad 0) 6 0) (mid t8 + 1) z v.toInt64) ((nI_clamp (by have := i_nlt c9; have := i_rg j; have : (0 : Int32).toInt = 0 := rfl; have := i_eq ek10; have : (nI k10).toInt = ((k10 : Nat) : Int) := nI_toInt (by omega); have := i_nlt c11; have : (1 : Int32).toInt = 1 := rfl; have : (nI sz8).toInt = ((sz8 : Nat) : Int) := nI_toInt (by omega); have := sub_t (x := nI sz8) (y := nI k10) (by have := i_nlt c9; have := i_rg j; have : (0 : Int32).toInt = 0 := rfl; have := i_eq ek10; have : (nI k10).toInt = ((k10 : Nat) : Int) := nI_toInt (by omega); have : (nI sz8).toInt = ((sz8 : Nat) : Int) := nI_toInt (by omega); omega) (by have := i_nlt c9; have := i_rg j; have : (0 : Int32).toInt = 0 := rfl; have := i_eq ek10; have : (nI k10).toInt = ((k10 : Nat) : Int) := nI_toInt (by omega); have : (nI sz8).toInt = ((sz8 : Nat) : Int) := nI_toInt (by omega); omega); omega)) : _ = k10)) ?_
                  refine r_ic (x := 1) rfl rfl ?_
                  refine r_iret rfl ?_
                  show EV _ 172 [.ref (ad 30), .int c, .int i, .int j, .int v] (sL (sI (sI h (ad 0) 6 0) (ad 0) 6 0) (mid t8 + 1) k10 v.toInt64) _
                  refine in_172 (Nat.le_of_ble_eq_true rfl) ?_
                  show WR _ cd_172 0 [some (.ref (ad 30)), some (.int c), some (.int i), some (.int j), some (.int v), none] [] (sL (sI (sI h (ad 0) 6 0) (ad 0) 6 0) (mid t8 + 1) k10 v.toInt64) _
                  refine r_iload rfl rfl ?_
                  refine WR_tI (y := nI k2) ek2 ?_
                  refine r_cs (y := 153) (ra := [.int (nI k2)]) (rest := []) rfl ⟨⟨rfl, rfl⟩, by decide⟩ rfl rfl (Nat.le_of_ble_eq_true rfl) ?_
                  refine in_153 (Nat.le_of_ble_eq_true rfl) ?_
                  show WR _ cd_153 0 [some (.int (nI k2))] [] (sL (sI (sI h (ad 0) 6 0) (ad 0) 6 0) (mid t8 + 1) k10 v.toInt64) _
                  refine r_iload rfl rfl ?_
                  refine r_if_lt (tg := 14) rfl rfl (fun q => False.elim (by have := i_nlt c1; have := i_rg c; have : (0 : Int32).toInt = 0 := rfl; have := i_eq ek2; have : (nI k2).toInt = ((k2 : Nat) : Int) := nI_toInt (by omega); have := i_nle c3; have : (24 : Int32).toInt = 24 := rfl; have := i_lt q; omega)) (fun _ => ?_)
                  refine r_iload rfl rfl ?_
                  refine r_ic (x := 24) rfl rfl ?_
                  refine r_icmp_ge (tg := 14) rfl rfl (fun q => False.elim (by have := i_nlt c1; have := i_rg c; have : (0 : Int32).toInt = 0 := rfl; have := i_eq ek2; have : (nI k2).toInt = ((k2 : Nat) : Int) := nI_toInt (by omega); have := i_nle c3; have : (24 : Int32).toInt = 24 := rfl; have := i_le q; omega)) (fun _ => ?_)
                  refine r_ic (x := 1) rfl rfl ?_
                  refine r_goto (tg := 15) rfl rfl ?_
                  refine r_zret rfl (.inr rfl) ?_
                  show WR _ cd_172 4 [some (.ref (ad 30)), some (.int c), some (.int i), some (.int j), some (.int v), none] [.int 1] (sL (sI (sI h (ad 0) 6 0) (ad 0) 6 0) (mid t8 + 1) k10 v.toInt64) _
                  refine r_if_ne (tg := 14) rfl rfl (fun _ => ?_) (fun q => absurd q (by decide))
                  refine r_aload rfl rfl ?_
                  refine r_iload rfl rfl ?_
                  refine WR_tI (y := nI k2) ek2 ?_
                  refine r_iload rfl rfl ?_
                  refine WR_tI (y := nI k6) ek6 ?_
                  refine r_iload rfl rfl ?_
                  refine WR_tI (y := nI k10) ek10 ?_
                  refine r_cv (y := 173) (ra := [.int (nI k10), .int (nI k6), .int (nI k2)]) (rest := []) rfl ⟨⟨rfl, rfl⟩, rfl, by decide⟩ (fx_t30 fx) rfl rfl (Nat.le_of_ble_eq_true rfl) ?_
                  refine in_173 (Nat.le_of_ble_eq_true rfl) ?_
                  show WR _ cd_173 0 [some (.ref (ad 30)), some (.int (nI k2)), some (.int (nI k6)), some (.int (nI k10)), none, none] [] (sL (sI (sI h (ad 0) 6 0) (ad 0) 6 0) (mid t8 + 1) k10 v.toInt64) _
                  refine r_aload rfl rfl ?_
                  refine r_aload rfl rfl ?_
                  refine r_getA (b := ad 31) rfl ⟨rfl, rfl, rfl⟩ (fx_t30 fx) (fx_r30_0 fx) ?_
                  refine r_iload rfl rfl ?_
                  refine r_iaload rfl (.inl (fx_t31 fx)) (vp_ct (fx_n31 fx) (vp_in_nI (by have := i_nlt c1; have := i_rg c; have : (0 : Int32).toInt = 0 := rfl; have := i_eq ek2; have : (nI k2).toInt = ((k2 : Nat) : Int) := nI_toInt (by omega); have := i_nle c3; have : (24 : Int32).toInt = 24 := rfl; omega) (by omega))) ?_
                  refine WR_tI (congrArg (hI (sL (sI (sI h (ad 0) 6 0) (ad 0) 6 0) (mid t8 + 1) k10 v.toInt64) (ad 31)) ((nI_clamp (by have := i_nlt c1; have := i_rg c; have : (0 : Int32).toInt = 0 := rfl; have := i_eq ek2; have : (nI k2).toInt = ((k2 : Nat) : Int) := nI_toInt (by omega); have := i_nle c3; have : (24 : Int32).toInt = 24 := rfl; omega)) : _ = k2)) ?_
                  refine WR_tI (y := nI t4) (Eq.trans I_oL (Eq.trans (I_ne (fx_ne fx (by decide))) (Eq.trans (I_ne (fx_ne fx (by decide))) v4))) ?_
                  refine r_ic (x := 8) rfl rfl ?_
                  refine r_iload rfl rfl ?_
                  refine r_cv (y := 168) (ra := [.int (nI k6), .int 8, .int (nI t4)]) (rest := []) rfl ⟨⟨rfl, rfl⟩, rfl, by decide⟩ (fx_t30 fx) rfl rfl (Nat.le_of_ble_eq_true rfl) ?_
                  refine in_168 (Nat.le_of_ble_eq_true rfl) ?_
                  show WR _ cd_168 0 [some (.ref (ad 30)), some (.int (nI t4)), some (.int 8), some (.int (nI k6))] [] (sL (sI (sI h (ad 0) 6 0) (ad 0) 6 0) (mid t8 + 1) k10 v.toInt64) _
                  refine r_iload rfl rfl ?_
                  refine r_ic (x := (-1)) rfl rfl ?_
                  refine r_icmp_eq (tg := 18) rfl rfl (fun q => False.elim (by have : (nI t4).toInt = ((t4 : Nat) : Int) := nI_toInt (by omega); have : (-1 : Int32).toInt = -1 := rfl; have := i_eq q; omega)) (fun _ => ?_)
                  refine r_aload rfl rfl ?_
                  refine r_iload rfl rfl ?_
                  refine r_cv (y := 166) (ra := [.int (nI t4)]) (rest := []) rfl ⟨⟨rfl, rfl⟩, rfl, by decide⟩ (fx_t30 fx) rfl rfl (Nat.le_of_ble_eq_true rfl) ?_
                  refine in_166 (Nat.le_of_ble_eq_true rfl) ?_
                  show WR _ cd_166 0 [some (.ref (ad 30)), some (.int (nI t4))] [] (sL (sI (sI h (ad 0) 6 0) (ad 0) 6 0) (mid t8 + 1) k10 v.toInt64) _
                  refine r_iload rfl rfl ?_
                  refine r_ic (x := (-1)) rfl rfl ?_
                  refine r_icmp_ne (tg := 9) rfl rfl (fun _ => ?_) (fun q => False.elim (by have : (nI t4).toInt = ((t4 : Nat) : Int) := nI_toInt (by omega); have : (-1 : Int32).toInt = -1 := rfl; have := i_eq q; omega))
                  refine r_iload rfl rfl ?_
                  refine r_ic (x := 1000) rfl rfl ?_
                  refine r_icmp_lt (tg := 21) rfl rfl (fun _ => ?_) (fun q => False.elim (by have : (nI t4).toInt = ((t4 : Nat) : Int) := nI_toInt (by omega); have : (1000 : Int32).toInt = 1000 := rfl; have := i_nlt q; omega))
                  refine r_aload rfl rfl ?_
                  refine r_getA (b := ad 33) rfl ⟨rfl, rfl, rfl⟩ (fx_t30 fx) (fx_r30_2 fx) ?_
                  refine r_iload rfl rfl ?_
                  refine r_iaload rfl (.inl (fx_t33 fx)) (vp_ct (fx_n33 fx) (vp_in_nI (by omega) (by omega))) ?_
                  refine WR_tI (congrArg (hI (sL (sI (sI h (ad 0) 6 0) (ad 0) 6 0) (mid t8 + 1) k10 v.toInt64) (ad 33)) ((nI_clamp (by omega)) : _ = t4)) ?_
                  refine WR_tI (y := 8) (Eq.trans I_oL (Eq.trans (I_ne (fx_ne fx (by decide))) (Eq.trans (I_ne (fx_ne fx (by decide))) l2_4))) ?_
                  refine r_iret rfl ?_
                  show WR _ cd_168 10 [some (.ref (ad 30)), some (.int (nI t4)), some (.int 8), some (.int (nI k6))] [.int 8] (sL (sI (sI h (ad 0) 6 0) (ad 0) 6 0) (mid t8 + 1) k10 v.toInt64) _
                  refine r_iload rfl rfl ?_
                  refine r_icmp_eq (tg := 18) rfl rfl (fun _ => ?_) (fun q => absurd q (by decide))
                  refine r_iload rfl rfl ?_
                  refine r_ic (x := (-1)) rfl rfl ?_
                  refine r_icmp_ne (tg := 27) rfl rfl (fun _ => ?_) (fun q => False.elim (by have : (nI t4).toInt = ((t4 : Nat) : Int) := nI_toInt (by omega); have : (-1 : Int32).toInt = -1 := rfl; have := i_eq q; omega))
                  refine r_iload rfl rfl ?_
                  refine r_i2l rfl ?_
                  refine WR_tL (y := lN k6) (nI_l (by have := i_nlt c5; have := i_rg i; have : (0 : Int32).toInt = 0 := rfl; have := i_eq ek6; have : (nI k6).toInt = ((k6 : Nat) : Int) := nI_toInt (by omega); have := i_nlt c7; have : (1 : Int32).toInt = 1 := rfl; have : (nI sz4).toInt = ((sz4 : Nat) : Int) := nI_toInt (by omega); have := sub_t (x := nI sz4) (y := nI k6) (by have := i_nlt c5; have := i_rg i; have : (0 : Int32).toInt = 0 := rfl; have := i_eq ek6; have : (nI k6).toInt = ((k6 : Nat) : Int) := nI_toInt (by omega); have : (nI sz4).toInt = ((sz4 : Nat) : Int) := nI_toInt (by omega); omega) (by have := i_nlt c5; have := i_rg i; have : (0 : Int32).toInt = 0 := rfl; have := i_eq ek6; have : (nI k6).toInt = ((k6 : Nat) : Int) := nI_toInt (by omega); have : (nI sz4).toInt = ((sz4 : Nat) : Int) := nI_toInt (by omega); omega); omega)) ?_
                  refine r_lc (x := 0) rfl rfl ?_
                  refine r_aload rfl rfl ?_
                  refine r_getA (b := ad 35) rfl ⟨rfl, rfl, rfl⟩ (fx_t30 fx) (fx_r30_4 fx) ?_
                  refine r_iload rfl rfl ?_
                  refine r_iaload rfl (.inl (fx_t35 fx)) (vp_ct (fx_n35 fx) (vp_in_nI (by omega) (by omega))) ?_
                  refine WR_tI (congrArg (hI (sL (sI (sI h (ad 0) 6 0) (ad 0) 6 0) (mid t8 + 1) k10 v.toInt64) (ad 35)) ((nI_clamp (by omega)) : _ = t4)) ?_
                  refine WR_tI (y := nI sz4) (Eq.trans I_oL (Eq.trans (I_ne (fx_ne fx (by decide))) (Eq.trans (I_ne (fx_ne fx (by decide))) sz_4))) ?_
                  refine r_ic (x := 1) rfl rfl ?_
                  refine r_isub rfl ?_
                  refine WR_tI (y := nI (sz4 - 1)) (Eq.trans (pk_sub (a := sz4) (b := 1) (by have := i_nlt c5; have := i_rg i; have : (0 : Int32).toInt = 0 := rfl; have := i_eq ek6; have : (nI k6).toInt = ((k6 : Nat) : Int) := nI_toInt (by omega); have := i_nlt c7; have : (1 : Int32).toInt = 1 := rfl; have : (nI sz4).toInt = ((sz4 : Nat) : Int) := nI_toInt (by omega); have := sub_t (x := nI sz4) (y := nI k6) (by have := i_nlt c5; have := i_rg i; have : (0 : Int32).toInt = 0 := rfl; have := i_eq ek6; have : (nI k6).toInt = ((k6 : Nat) : Int) := nI_toInt (by omega); have : (nI sz4).toInt = ((sz4 : Nat) : Int) := nI_toInt (by omega); omega) (by have := i_nlt c5; have := i_rg i; have : (0 : Int32).toInt = 0 := rfl; have := i_eq ek6; have : (nI k6).toInt = ((k6 : Nat) : Int) := nI_toInt (by omega); have : (nI sz4).toInt = ((sz4 : Nat) : Int) := nI_toInt (by omega); omega); omega)) (congrArg nI (by have := i_nlt c5; have := i_rg i; have : (0 : Int32).toInt = 0 := rfl; have := i_eq ek6; have : (nI k6).toInt = ((k6 : Nat) : Int) := nI_toInt (by omega); have := i_nlt c7; have : (1 : Int32).toInt = 1 := rfl; have : (nI sz4).toInt = ((sz4 : Nat) : Int) := nI_toInt (by omega); have := sub_t (x := nI sz4) (y := nI k6) (by have := i_nlt c5; have := i_rg i; have : (0 : Int32).toInt = 0 := rfl; have := i_eq ek6; have : (nI k6).toInt = ((k6 : Nat) : Int) := nI_toInt (by omega); have : (nI sz4).toInt = ((sz4 : Nat) : Int) := nI_toInt (by omega); omega) (by have := i_nlt c5; have := i_rg i; have : (0 : Int32).toInt = 0 := rfl; have := i_eq ek6; have : (nI k6).toInt = ((k6 : Nat) : Int) := nI_toInt (by omega); have : (nI sz4).toInt = ((sz4 : Nat) : Int) := nI_toInt (by omega); omega); omega))) ?_
                  refine r_i2l rfl ?_
                  refine WR_tL (y := lN (sz4 - 1)) (nI_l (by have := i_nlt c5; have := i_rg i; have : (0 : Int32).toInt = 0 := rfl; have := i_eq ek6; have : (nI k6).toInt = ((k6 : Nat) : Int) := nI_toInt (by omega); have := i_nlt c7; have : (1 : Int32).toInt = 1 := rfl; have : (nI sz4).toInt = ((sz4 : Nat) : Int) := nI_toInt (by omega); have := sub_t (x := nI sz4) (y := nI k6) (by have := i_nlt c5; have := i_rg i; have : (0 : Int32).toInt = 0 := rfl; have := i_eq ek6; have : (nI k6).toInt = ((k6 : Nat) : Int) := nI_toInt (by omega); have : (nI sz4).toInt = ((sz4 : Nat) : Int) := nI_toInt (by omega); omega) (by have := i_nlt c5; have := i_rg i; have : (0 : Int32).toInt = 0 := rfl; have := i_eq ek6; have : (nI k6).toInt = ((k6 : Nat) : Int) := nI_toInt (by omega); have : (nI sz4).toInt = ((sz4 : Nat) : Int) := nI_toInt (by omega); omega); omega)) ?_
                  refine r_cs (y := 155) (ra := [.long (lN (sz4 - 1)), .long 0, .long (lN k6)]) (rest := []) rfl ⟨⟨rfl, rfl⟩, by decide⟩ rfl rfl (Nat.le_of_ble_eq_true rfl) ?_
                  refine in_155 (Nat.le_of_ble_eq_true rfl) ?_
                  show WR _ cd_155 0 [some (.long (lN k6)), none, some (.long 0), none, some (.long (lN (sz4 - 1))), none] [] (sL (sI (sI h (ad 0) 6 0) (ad 0) 6 0) (mid t8 + 1) k10 v.toInt64) _
                  refine r_lload rfl rfl ?_
                  refine r_lload rfl rfl ?_
                  refine r_lif_lt (tg := 17) rfl rfl rfl (fun q => False.elim (by have := i_nlt c5; have := i_rg i; have : (0 : Int32).toInt = 0 := rfl; have := i_eq ek6; have : (nI k6).toInt = ((k6 : Nat) : Int) := nI_toInt (by omega); have := i_nlt c7; have : (1 : Int32).toInt = 1 := rfl; have : (nI sz4).toInt = ((sz4 : Nat) : Int) := nI_toInt (by omega); have := sub_t (x := nI sz4) (y := nI k6) (by have := i_nlt c5; have := i_rg i; have : (0 : Int32).toInt = 0 := rfl; have := i_eq ek6; have : (nI k6).toInt = ((k6 : Nat) : Int) := nI_toInt (by omega); have : (nI sz4).toInt = ((sz4 : Nat) : Int) := nI_toInt (by omega); omega) (by have := i_nlt c5; have := i_rg i; have : (0 : Int32).toInt = 0 := rfl; have := i_eq ek6; have : (nI k6).toInt = ((k6 : Nat) : Int) := nI_toInt (by omega); have : (nI sz4).toInt = ((sz4 : Nat) : Int) := nI_toInt (by omega); omega); have : (lN k6).toInt = ((k6 : Nat) : Int) := lN_toInt (by omega); have : (0 : Int64).toInt = 0 := rfl; have := l_lt q; omega)) (fun _ => ?_)
                  refine r_lload rfl rfl ?_
                  refine r_lload rfl rfl ?_
                  refine r_lif_gt (tg := 17) rfl rfl rfl (fun q => False.elim (by have := i_nlt c5; have := i_rg i; have : (0 : Int32).toInt = 0 := rfl; have := i_eq ek6; have : (nI k6).toInt = ((k6 : Nat) : Int) := nI_toInt (by omega); have := i_nlt c7; have : (1 : Int32).toInt = 1 := rfl; have : (nI sz4).toInt = ((sz4 : Nat) : Int) := nI_toInt (by omega); have := sub_t (x := nI sz4) (y := nI k6) (by have := i_nlt c5; have := i_rg i; have : (0 : Int32).toInt = 0 := rfl; have := i_eq ek6; have : (nI k6).toInt = ((k6 : Nat) : Int) := nI_toInt (by omega); have : (nI sz4).toInt = ((sz4 : Nat) : Int) := nI_toInt (by omega); omega) (by have := i_nlt c5; have := i_rg i; have : (0 : Int32).toInt = 0 := rfl; have := i_eq ek6; have : (nI k6).toInt = ((k6 : Nat) : Int) := nI_toInt (by omega); have : (nI sz4).toInt = ((sz4 : Nat) : Int) := nI_toInt (by omega); omega); have : (lN k6).toInt = ((k6 : Nat) : Int) := lN_toInt (by omega); have : (lN (sz4 - 1)).toInt = ((sz4 - 1 : Nat) : Int) := lN_toInt (by omega); have := l_lt q; omega)) (fun _ => ?_)
                  refine r_ic (x := 1) rfl rfl ?_
                  refine r_goto (tg := 18) rfl rfl ?_
                  refine r_zret rfl (.inr rfl) ?_
                  show WR _ cd_168 42 [some (.ref (ad 30)), some (.int (nI t4)), some (.int 8), some (.int (nI k6))] [.int 1] (sL (sI (sI h (ad 0) 6 0) (ad 0) 6 0) (mid t8 + 1) k10 v.toInt64) _
                  refine r_if_ne (tg := 49) rfl rfl (fun _ => ?_) (fun q => absurd q (by decide))
                  refine r_ic (x := 0) rfl rfl ?_
                  refine r_iret rfl ?_
                  show WR _ cd_173 13 [some (.ref (ad 30)), some (.int (nI k2)), some (.int (nI k6)), some (.int (nI k10)), none, none] [.int 0] (sL (sI (sI h (ad 0) 6 0) (ad 0) 6 0) (mid t8 + 1) k10 v.toInt64) _
                  refine r_istore (lv' := [some (.ref (ad 30)), some (.int (nI k2)), some (.int (nI k6)), some (.int (nI k10)), some (.int 0), none]) rfl (Nat.le_of_ble_eq_true rfl) rfl ?_
                  refine r_iload rfl rfl ?_
                  refine r_if_le (tg := 24) rfl rfl (fun _ => ?_) (fun q => absurd q (by decide))
                  refine r_aload rfl rfl ?_
                  refine r_getA (b := ad 36) rfl ⟨rfl, rfl, rfl⟩ (fx_t30 fx) (fx_r30_5 fx) ?_
                  refine r_ic (x := 30) rfl rfl ?_
                  refine r_aload rfl rfl ?_
                  refine r_getA (b := ad 31) rfl ⟨rfl, rfl, rfl⟩ (fx_t30 fx) (fx_r30_0 fx) ?_
                  refine r_iload rfl rfl ?_
                  refine r_iaload rfl (.inl (fx_t31 fx)) (vp_ct (fx_n31 fx) (vp_in_nI (by have := i_nlt c1; have := i_rg c; have : (0 : Int32).toInt = 0 := rfl; have := i_eq ek2; have : (nI k2).toInt = ((k2 : Nat) : Int) := nI_toInt (by omega); have := i_nle c3; have : (24 : Int32).toInt = 24 := rfl; omega) (by omega))) ?_
                  refine WR_tI (congrArg (hI (sL (sI (sI h (ad 0) 6 0) (ad 0) 6 0) (mid t8 + 1) k10 v.toInt64) (ad 31)) ((nI_clamp (by have := i_nlt c1; have := i_rg c; have : (0 : Int32).toInt = 0 := rfl; have := i_eq ek2; have : (nI k2).toInt = ((k2 : Nat) : Int) := nI_toInt (by omega); have := i_nle c3; have : (24 : Int32).toInt = 24 := rfl; omega)) : _ = k2)) ?_
                  refine WR_tI (y := nI t4) (Eq.trans I_oL (Eq.trans (I_ne (fx_ne fx (by decide))) (Eq.trans (I_ne (fx_ne fx (by decide))) v4))) ?_
                  refine r_imul rfl ?_
                  refine WR_tI (y := nI (30 * t4)) (Eq.trans (pk_mul 30 t4) (congrArg nI (by omega))) ?_
                  refine r_iload rfl rfl ?_
                  refine r_iadd rfl ?_
                  refine WR_tI (y := nI (30 * t4 + k6)) (Eq.trans (nI_add (30 * t4) k6) (congrArg nI (by have := i_nlt c5; have := i_rg i; have : (0 : Int32).toInt = 0 := rfl; have := i_eq ek6; have : (nI k6).toInt = ((k6 : Nat) : Int) := nI_toInt (by omega); have := i_nlt c7; have : (1 : Int32).toInt = 1 := rfl; have : (nI sz4).toInt = ((sz4 : Nat) : Int) := nI_toInt (by omega); have := sub_t (x := nI sz4) (y := nI k6) (by have := i_nlt c5; have := i_rg i; have : (0 : Int32).toInt = 0 := rfl; have := i_eq ek6; have : (nI k6).toInt = ((k6 : Nat) : Int) := nI_toInt (by omega); have : (nI sz4).toInt = ((sz4 : Nat) : Int) := nI_toInt (by omega); omega) (by have := i_nlt c5; have := i_rg i; have : (0 : Int32).toInt = 0 := rfl; have := i_eq ek6; have : (nI k6).toInt = ((k6 : Nat) : Int) := nI_toInt (by omega); have : (nI sz4).toInt = ((sz4 : Nat) : Int) := nI_toInt (by omega); omega); omega))) ?_
                  refine r_laload rfl (fx_t36 fx) (vp_ct (fx_n36 fx) (vp_in_nI (by have := i_nlt c5; have := i_rg i; have : (0 : Int32).toInt = 0 := rfl; have := i_eq ek6; have : (nI k6).toInt = ((k6 : Nat) : Int) := nI_toInt (by omega); have := i_nlt c7; have : (1 : Int32).toInt = 1 := rfl; have : (nI sz4).toInt = ((sz4 : Nat) : Int) := nI_toInt (by omega); have := sub_t (x := nI sz4) (y := nI k6) (by have := i_nlt c5; have := i_rg i; have : (0 : Int32).toInt = 0 := rfl; have := i_eq ek6; have : (nI k6).toInt = ((k6 : Nat) : Int) := nI_toInt (by omega); have : (nI sz4).toInt = ((sz4 : Nat) : Int) := nI_toInt (by omega); omega) (by have := i_nlt c5; have := i_rg i; have : (0 : Int32).toInt = 0 := rfl; have := i_eq ek6; have : (nI k6).toInt = ((k6 : Nat) : Int) := nI_toInt (by omega); have : (nI sz4).toInt = ((sz4 : Nat) : Int) := nI_toInt (by omega); omega); omega) (by omega))) ?_
                  refine WR_tL (congrArg (hL (sL (sI (sI h (ad 0) 6 0) (ad 0) 6 0) (mid t8 + 1) k10 v.toInt64) (ad 36)) ((nI_clamp (by have := i_nlt c5; have := i_rg i; have : (0 : Int32).toInt = 0 := rfl; have := i_eq ek6; have : (nI k6).toInt = ((k6 : Nat) : Int) := nI_toInt (by omega); have := i_nlt c7; have : (1 : Int32).toInt = 1 := rfl; have : (nI sz4).toInt = ((sz4 : Nat) : Int) := nI_toInt (by omega); have := sub_t (x := nI sz4) (y := nI k6) (by have := i_nlt c5; have := i_rg i; have : (0 : Int32).toInt = 0 := rfl; have := i_eq ek6; have : (nI k6).toInt = ((k6 : Nat) : Int) := nI_toInt (by omega); have : (nI sz4).toInt = ((sz4 : Nat) : Int) := nI_toInt (by omega); omega) (by have := i_nlt c5; have := i_rg i; have : (0 : Int32).toInt = 0 := rfl; have := i_eq ek6; have : (nI k6).toInt = ((k6 : Nat) : Int) := nI_toInt (by omega); have : (nI sz4).toInt = ((sz4 : Nat) : Int) := nI_toInt (by omega); omega); omega)) : _ = 30 * t4 + k6)) ?_
                  refine WR_tL (y := lN t8) (Eq.trans (L_ne (ad_dy fx (.inl (by decide)) (Nat.le_succ_of_le dz8))) (Eq.trans L_oI (Eq.trans L_oI v8))) ?_
                  refine r_l2i rfl ?_
                  refine WR_tI (y := nI t8) (lN_i _) ?_
                  refine r_istore (lv' := [some (.ref (ad 30)), some (.int (nI k2)), some (.int (nI k6)), some (.int (nI k10)), some (.int 0), some (.int (nI t8))]) rfl (Nat.le_of_ble_eq_true rfl) rfl ?_
                  refine r_iload rfl rfl ?_
                  refine r_ic (x := (-1)) rfl rfl ?_
                  refine r_icmp_ne (tg := 51) rfl rfl (fun _ => ?_) (fun q => False.elim (by have : (nI t8).toInt = ((t8 : Nat) : Int) := nI_toInt (by omega); have : (-1 : Int32).toInt = -1 := rfl; have := i_eq q; omega))
                  refine r_iload rfl rfl ?_
                  refine r_i2l rfl ?_
                  refine WR_tL (y := lN k10) (nI_l (by have := i_nlt c9; have := i_rg j; have : (0 : Int32).toInt = 0 := rfl; have := i_eq ek10; have : (nI k10).toInt = ((k10 : Nat) : Int) := nI_toInt (by omega); have := i_nlt c11; have : (1 : Int32).toInt = 1 := rfl; have : (nI sz8).toInt = ((sz8 : Nat) : Int) := nI_toInt (by omega); have := sub_t (x := nI sz8) (y := nI k10) (by have := i_nlt c9; have := i_rg j; have : (0 : Int32).toInt = 0 := rfl; have := i_eq ek10; have : (nI k10).toInt = ((k10 : Nat) : Int) := nI_toInt (by omega); have : (nI sz8).toInt = ((sz8 : Nat) : Int) := nI_toInt (by omega); omega) (by have := i_nlt c9; have := i_rg j; have : (0 : Int32).toInt = 0 := rfl; have := i_eq ek10; have : (nI k10).toInt = ((k10 : Nat) : Int) := nI_toInt (by omega); have : (nI sz8).toInt = ((sz8 : Nat) : Int) := nI_toInt (by omega); omega); omega)) ?_
                  refine r_lc (x := 0) rfl rfl ?_
                  refine r_aload rfl rfl ?_
                  refine r_getA (b := ad 35) rfl ⟨rfl, rfl, rfl⟩ (fx_t30 fx) (fx_r30_4 fx) ?_
                  refine r_iload rfl rfl ?_
                  refine r_iaload rfl (.inl (fx_t35 fx)) (vp_ct (fx_n35 fx) (vp_in_nI (by omega) (by omega))) ?_
                  refine WR_tI (congrArg (hI (sL (sI (sI h (ad 0) 6 0) (ad 0) 6 0) (mid t8 + 1) k10 v.toInt64) (ad 35)) ((nI_clamp (by omega)) : _ = t8)) ?_
                  refine WR_tI (y := nI sz8) (Eq.trans I_oL (Eq.trans (I_ne (fx_ne fx (by decide))) (Eq.trans (I_ne (fx_ne fx (by decide))) sz_8))) ?_
                  refine r_ic (x := 1) rfl rfl ?_
                  refine r_isub rfl ?_
                  refine WR_tI (y := nI (sz8 - 1)) (Eq.trans (pk_sub (a := sz8) (b := 1) (by have := i_nlt c9; have := i_rg j; have : (0 : Int32).toInt = 0 := rfl; have := i_eq ek10; have : (nI k10).toInt = ((k10 : Nat) : Int) := nI_toInt (by omega); have := i_nlt c11; have : (1 : Int32).toInt = 1 := rfl; have : (nI sz8).toInt = ((sz8 : Nat) : Int) := nI_toInt (by omega); have := sub_t (x := nI sz8) (y := nI k10) (by have := i_nlt c9; have := i_rg j; have : (0 : Int32).toInt = 0 := rfl; have := i_eq ek10; have : (nI k10).toInt = ((k10 : Nat) : Int) := nI_toInt (by omega); have : (nI sz8).toInt = ((sz8 : Nat) : Int) := nI_toInt (by omega); omega) (by have := i_nlt c9; have := i_rg j; have : (0 : Int32).toInt = 0 := rfl; have := i_eq ek10; have : (nI k10).toInt = ((k10 : Nat) : Int) := nI_toInt (by omega); have : (nI sz8).toInt = ((sz8 : Nat) : Int) := nI_toInt (by omega); omega); omega)) (congrArg nI (by have := i_nlt c9; have := i_rg j; have : (0 : Int32).toInt = 0 := rfl; have := i_eq ek10; have : (nI k10).toInt = ((k10 : Nat) : Int) := nI_toInt (by omega); have := i_nlt c11; have : (1 : Int32).toInt = 1 := rfl; have : (nI sz8).toInt = ((sz8 : Nat) : Int) := nI_toInt (by omega); have := sub_t (x := nI sz8) (y := nI k10) (by have := i_nlt c9; have := i_rg j; have : (0 : Int32).toInt = 0 := rfl; have := i_eq ek10; have : (nI k10).toInt = ((k10 : Nat) : Int) := nI_toInt (by omega); have : (nI sz8).toInt = ((sz8 : Nat) : Int) := nI_toInt (by omega); omega) (by have := i_nlt c9; have := i_rg j; have : (0 : Int32).toInt = 0 := rfl; have := i_eq ek10; have : (nI k10).toInt = ((k10 : Nat) : Int) := nI_toInt (by omega); have : (nI sz8).toInt = ((sz8 : Nat) : Int) := nI_toInt (by omega); omega); omega))) ?_
                  refine r_i2l rfl ?_
                  refine WR_tL (y := lN (sz8 - 1)) (nI_l (by have := i_nlt c9; have := i_rg j; have : (0 : Int32).toInt = 0 := rfl; have := i_eq ek10; have : (nI k10).toInt = ((k10 : Nat) : Int) := nI_toInt (by omega); have := i_nlt c11; have : (1 : Int32).toInt = 1 := rfl; have : (nI sz8).toInt = ((sz8 : Nat) : Int) := nI_toInt (by omega); have := sub_t (x := nI sz8) (y := nI k10) (by have := i_nlt c9; have := i_rg j; have : (0 : Int32).toInt = 0 := rfl; have := i_eq ek10; have : (nI k10).toInt = ((k10 : Nat) : Int) := nI_toInt (by omega); have : (nI sz8).toInt = ((sz8 : Nat) : Int) := nI_toInt (by omega); omega) (by have := i_nlt c9; have := i_rg j; have : (0 : Int32).toInt = 0 := rfl; have := i_eq ek10; have : (nI k10).toInt = ((k10 : Nat) : Int) := nI_toInt (by omega); have : (nI sz8).toInt = ((sz8 : Nat) : Int) := nI_toInt (by omega); omega); omega)) ?_
                  refine r_cs (y := 155) (ra := [.long (lN (sz8 - 1)), .long 0, .long (lN k10)]) (rest := []) rfl ⟨⟨rfl, rfl⟩, by decide⟩ rfl rfl (Nat.le_of_ble_eq_true rfl) ?_
                  refine in_155 (Nat.le_of_ble_eq_true rfl) ?_
                  show WR _ cd_155 0 [some (.long (lN k10)), none, some (.long 0), none, some (.long (lN (sz8 - 1))), none] [] (sL (sI (sI h (ad 0) 6 0) (ad 0) 6 0) (mid t8 + 1) k10 v.toInt64) _
                  refine r_lload rfl rfl ?_
                  refine r_lload rfl rfl ?_
                  refine r_lif_lt (tg := 17) rfl rfl rfl (fun q => False.elim (by have := i_nlt c9; have := i_rg j; have : (0 : Int32).toInt = 0 := rfl; have := i_eq ek10; have : (nI k10).toInt = ((k10 : Nat) : Int) := nI_toInt (by omega); have := i_nlt c11; have : (1 : Int32).toInt = 1 := rfl; have : (nI sz8).toInt = ((sz8 : Nat) : Int) := nI_toInt (by omega); have := sub_t (x := nI sz8) (y := nI k10) (by have := i_nlt c9; have := i_rg j; have : (0 : Int32).toInt = 0 := rfl; have := i_eq ek10; have : (nI k10).toInt = ((k10 : Nat) : Int) := nI_toInt (by omega); have : (nI sz8).toInt = ((sz8 : Nat) : Int) := nI_toInt (by omega); omega) (by have := i_nlt c9; have := i_rg j; have : (0 : Int32).toInt = 0 := rfl; have := i_eq ek10; have : (nI k10).toInt = ((k10 : Nat) : Int) := nI_toInt (by omega); have : (nI sz8).toInt = ((sz8 : Nat) : Int) := nI_toInt (by omega); omega); have : (lN k10).toInt = ((k10 : Nat) : Int) := lN_toInt (by omega); have : (0 : Int64).toInt = 0 := rfl; have := l_lt q; omega)) (fun _ => ?_)
                  refine r_lload rfl rfl ?_
                  refine r_lload rfl rfl ?_
                  refine r_lif_gt (tg := 17) rfl rfl rfl (fun q => False.elim (by have := i_nlt c9; have := i_rg j; have : (0 : Int32).toInt = 0 := rfl; have := i_eq ek10; have : (nI k10).toInt = ((k10 : Nat) : Int) := nI_toInt (by omega); have := i_nlt c11; have : (1 : Int32).toInt = 1 := rfl; have : (nI sz8).toInt = ((sz8 : Nat) : Int) := nI_toInt (by omega); have := sub_t (x := nI sz8) (y := nI k10) (by have := i_nlt c9; have := i_rg j; have : (0 : Int32).toInt = 0 := rfl; have := i_eq ek10; have : (nI k10).toInt = ((k10 : Nat) : Int) := nI_toInt (by omega); have : (nI sz8).toInt = ((sz8 : Nat) : Int) := nI_toInt (by omega); omega) (by have := i_nlt c9; have := i_rg j; have : (0 : Int32).toInt = 0 := rfl; have := i_eq ek10; have : (nI k10).toInt = ((k10 : Nat) : Int) := nI_toInt (by omega); have : (nI sz8).toInt = ((sz8 : Nat) : Int) := nI_toInt (by omega); omega); have : (lN k10).toInt = ((k10 : Nat) : Int) := lN_toInt (by omega); have : (lN (sz8 - 1)).toInt = ((sz8 - 1 : Nat) : Int) := lN_toInt (by omega); have := l_lt q; omega)) (fun _ => ?_)
                  refine r_ic (x := 1) rfl rfl ?_
                  refine r_goto (tg := 18) rfl rfl ?_
                  refine r_zret rfl (.inr rfl) ?_
                  show WR _ cd_173 67 [some (.ref (ad 30)), some (.int (nI k2)), some (.int (nI k6)), some (.int (nI k10)), some (.int 0), some (.int (nI t8))] [.int 1] (sL (sI (sI h (ad 0) 6 0) (ad 0) 6 0) (mid t8 + 1) k10 v.toInt64) _
                  refine r_if_eq (tg := 80) rfl rfl (fun q => absurd q (by decide)) (fun _ => ?_)
                  refine r_ic (x := 30) rfl rfl ?_
                  refine r_iload rfl rfl ?_
                  refine r_imul rfl ?_
                  refine WR_tI (y := nI (30 * t8)) (Eq.trans (pk_mul 30 t8) (congrArg nI (by omega))) ?_
                  refine r_iload rfl rfl ?_
                  refine r_iadd rfl ?_
                  refine WR_tI (y := nI (30 * t8 + k10)) (Eq.trans (nI_add (30 * t8) k10) (congrArg nI (by have := i_nlt c9; have := i_rg j; have : (0 : Int32).toInt = 0 := rfl; have := i_eq ek10; have : (nI k10).toInt = ((k10 : Nat) : Int) := nI_toInt (by omega); have := i_nlt c11; have : (1 : Int32).toInt = 1 := rfl; have : (nI sz8).toInt = ((sz8 : Nat) : Int) := nI_toInt (by omega); have := sub_t (x := nI sz8) (y := nI k10) (by have := i_nlt c9; have := i_rg j; have : (0 : Int32).toInt = 0 := rfl; have := i_eq ek10; have : (nI k10).toInt = ((k10 : Nat) : Int) := nI_toInt (by omega); have : (nI sz8).toInt = ((sz8 : Nat) : Int) := nI_toInt (by omega); omega) (by have := i_nlt c9; have := i_rg j; have : (0 : Int32).toInt = 0 := rfl; have := i_eq ek10; have : (nI k10).toInt = ((k10 : Nat) : Int) := nI_toInt (by omega); have : (nI sz8).toInt = ((sz8 : Nat) : Int) := nI_toInt (by omega); omega); omega))) ?_
                  refine r_goto (tg := 82) rfl rfl ?_
                  refine r_iret rfl ?_
                  show WR _ cd_172 21 [some (.ref (ad 30)), some (.int c), some (.int i), some (.int j), some (.int v), none] [.int (nI (30 * t8 + k10))] (sL (sI (sI h (ad 0) 6 0) (ad 0) 6 0) (mid t8 + 1) k10 v.toInt64) _
                  refine r_istore (lv' := [some (.ref (ad 30)), some (.int c), some (.int i), some (.int j), some (.int v), some (.int (nI (30 * t8 + k10)))]) rfl (Nat.le_of_ble_eq_true rfl) rfl ?_
                  refine r_iload rfl rfl ?_
                  refine r_if_ge (tg := 36) rfl rfl (fun _ => ?_) (fun q => False.elim (by have := i_nlt c9; have := i_rg j; have : (0 : Int32).toInt = 0 := rfl; have := i_eq ek10; have : (nI k10).toInt = ((k10 : Nat) : Int) := nI_toInt (by omega); have := i_nlt c11; have : (1 : Int32).toInt = 1 := rfl; have : (nI sz8).toInt = ((sz8 : Nat) : Int) := nI_toInt (by omega); have := sub_t (x := nI sz8) (y := nI k10) (by have := i_nlt c9; have := i_rg j; have : (0 : Int32).toInt = 0 := rfl; have := i_eq ek10; have : (nI k10).toInt = ((k10 : Nat) : Int) := nI_toInt (by omega); have : (nI sz8).toInt = ((sz8 : Nat) : Int) := nI_toInt (by omega); omega) (by have := i_nlt c9; have := i_rg j; have : (0 : Int32).toInt = 0 := rfl; have := i_eq ek10; have : (nI k10).toInt = ((k10 : Nat) : Int) := nI_toInt (by omega); have : (nI sz8).toInt = ((sz8 : Nat) : Int) := nI_toInt (by omega); omega); have : (nI (30 * t8 + k10)).toInt = ((30 * t8 + k10 : Nat) : Int) := nI_toInt (by omega); have := i_nle q; omega))
                  refine r_aload rfl rfl ?_
                  refine r_getA (b := ad 36) rfl ⟨rfl, rfl, rfl⟩ (fx_t30 fx) (fx_r30_5 fx) ?_
                  refine r_iload rfl rfl ?_
                  refine r_iload rfl rfl ?_
                  refine r_i2l rfl ?_
                  refine r_lastore rfl (fx_t36 fx) (vp_ct (fx_n36 fx) (vp_in_nI (by have := i_nlt c9; have := i_rg j; have : (0 : Int32).toInt = 0 := rfl; have := i_eq ek10; have : (nI k10).toInt = ((k10 : Nat) : Int) := nI_toInt (by omega); have := i_nlt c11; have : (1 : Int32).toInt = 1 := rfl; have : (nI sz8).toInt = ((sz8 : Nat) : Int) := nI_toInt (by omega); have := sub_t (x := nI sz8) (y := nI k10) (by have := i_nlt c9; have := i_rg j; have : (0 : Int32).toInt = 0 := rfl; have := i_eq ek10; have : (nI k10).toInt = ((k10 : Nat) : Int) := nI_toInt (by omega); have : (nI sz8).toInt = ((sz8 : Nat) : Int) := nI_toInt (by omega); omega) (by have := i_nlt c9; have := i_rg j; have : (0 : Int32).toInt = 0 := rfl; have := i_eq ek10; have : (nI k10).toInt = ((k10 : Nat) : Int) := nI_toInt (by omega); have : (nI sz8).toInt = ((sz8 : Nat) : Int) := nI_toInt (by omega); omega); omega) (by omega))) ?_
                  refine WR_h (h2 := sL (sL (sI (sI h (ad 0) 6 0) (ad 0) 6 0) (mid t8 + 1) k10 v.toInt64) (ad 36) (30 * t8 + k10) v.toInt64) (congrArg (fun z => sL (sL (sI (sI h (ad 0) 6 0) (ad 0) 6 0) (mid t8 + 1) k10 v.toInt64) (ad 36) z v.toInt64) ((nI_clamp (by have := i_nlt c9; have := i_rg j; have : (0 : Int32).toInt = 0 := rfl; have := i_eq ek10; have : (nI k10).toInt = ((k10 : Nat) : Int) := nI_toInt (by omega); have := i_nlt c11; have : (1 : Int32).toInt = 1 := rfl; have : (nI sz8).toInt = ((sz8 : Nat) : Int) := nI_toInt (by omega); have := sub_t (x := nI sz8) (y := nI k10) (by have := i_nlt c9; have := i_rg j; have : (0 : Int32).toInt = 0 := rfl; have := i_eq ek10; have : (nI k10).toInt = ((k10 : Nat) : Int) := nI_toInt (by omega); have : (nI sz8).toInt = ((sz8 : Nat) : Int) := nI_toInt (by omega); omega) (by have := i_nlt c9; have := i_rg j; have : (0 : Int32).toInt = 0 := rfl; have := i_eq ek10; have : (nI k10).toInt = ((k10 : Nat) : Int) := nI_toInt (by omega); have : (nI sz8).toInt = ((sz8 : Nat) : Int) := nI_toInt (by omega); omega); omega)) : _ = 30 * t8 + k10)) ?_
                  refine r_aload rfl rfl ?_
                  refine r_ic (x := 1) rfl rfl ?_
                  refine r_cv (y := 154) (ra := [.int 1]) (rest := []) rfl ⟨⟨rfl, rfl⟩, rfl, by decide⟩ (fx_t30 fx) rfl rfl (Nat.le_of_ble_eq_true rfl) ?_
                  refine in_154 (Nat.le_of_ble_eq_true rfl) ?_
                  show WR _ cd_154 0 [some (.ref (ad 30)), some (.int 1)] [] (sL (sL (sI (sI h (ad 0) 6 0) (ad 0) 6 0) (mid t8 + 1) k10 v.toInt64) (ad 36) (30 * t8 + k10) v.toInt64) _
                  refine r_aload rfl rfl ?_
                  refine r_iload rfl rfl ?_
                  refine r_ic (x := (-1)) rfl rfl ?_
                  refine r_icmp_ge (tg := 10) rfl rfl (fun _ => ?_) (fun q => absurd q (by decide))
                  refine r_ic (x := 0) rfl rfl ?_
                  refine r_putI rfl ⟨rfl, rfl, rfl⟩ (fx_t30 fx) ?_
                  refine r_iload rfl rfl ?_
                  refine r_iret rfl ?_
                  show WR _ cd_172 51 [some (.ref (ad 30)), some (.int c), some (.int i), some (.int j), some (.int v), some (.int (nI (30 * t8 + k10)))] [.int 1] (sI (sL (sL (sI (sI h (ad 0) 6 0) (ad 0) 6 0) (mid t8 + 1) k10 v.toInt64) (ad 36) (30 * t8 + k10) v.toInt64) (ad 30) 11 0) _
                  refine r_iret rfl ?_
                  have rI : Rel n ad sa z0 (sL (sL h (mid t8 + 1) k10 v.toInt64) (ad 36) (30 * t8 + k10) v.toInt64) := Rel_item fx0 ry rt ra rp rf rst ru rs (ln := 3) ht8 (.inr ⟨k2, t4, k6, sz4, (by have := i_nlt c1; have := i_rg c; have : (0 : Int32).toInt = 0 := rfl; have := i_eq ek2; have : (nI k2).toInt = ((k2 : Nat) : Int) := nI_toInt (by omega); have := i_nle c3; have : (24 : Int32).toInt = 24 := rfl; omega), ht4, v4, l2_4, sz_4, hs_4, (by have := i_nlt c5; have := i_rg i; have : (0 : Int32).toInt = 0 := rfl; have := i_eq ek6; have : (nI k6).toInt = ((k6 : Nat) : Int) := nI_toInt (by omega); have := i_nlt c7; have : (1 : Int32).toInt = 1 := rfl; have : (nI sz4).toInt = ((sz4 : Nat) : Int) := nI_toInt (by omega); have := sub_t (x := nI sz4) (y := nI k6) (by have := i_nlt c5; have := i_rg i; have : (0 : Int32).toInt = 0 := rfl; have := i_eq ek6; have : (nI k6).toInt = ((k6 : Nat) : Int) := nI_toInt (by omega); have : (nI sz4).toInt = ((sz4 : Nat) : Int) := nI_toInt (by omega); omega) (by have := i_nlt c5; have := i_rg i; have : (0 : Int32).toInt = 0 := rfl; have := i_eq ek6; have : (nI k6).toInt = ((k6 : Nat) : Int) := nI_toInt (by omega); have : (nI sz4).toInt = ((sz4 : Nat) : Int) := nI_toInt (by omega); omega); omega), v8⟩) ⟨tg8, dz8, r_8, tg2_8, ⟨hl_8, l1_8, l2_8, kd_8⟩, sz8, hs_8, n_8, sz_8, al8⟩ sz_8 (by have := i_nlt c9; have := i_rg j; have : (0 : Int32).toInt = 0 := rfl; have := i_eq ek10; have : (nI k10).toInt = ((k10 : Nat) : Int) := nI_toInt (by omega); have := i_nlt c11; have : (1 : Int32).toInt = 1 := rfl; have : (nI sz8).toInt = ((sz8 : Nat) : Int) := nI_toInt (by omega); have := sub_t (x := nI sz8) (y := nI k10) (by have := i_nlt c9; have := i_rg j; have : (0 : Int32).toInt = 0 := rfl; have := i_eq ek10; have : (nI k10).toInt = ((k10 : Nat) : Int) := nI_toInt (by omega); have : (nI sz8).toInt = ((sz8 : Nat) : Int) := nI_toInt (by omega); omega) (by have := i_nlt c9; have := i_rg j; have : (0 : Int32).toInt = 0 := rfl; have := i_eq ek10; have : (nI k10).toInt = ((k10 : Nat) : Int) := nI_toInt (by omega); have : (nI sz8).toInt = ((sz8 : Nat) : Int) := nI_toInt (by omega); omega); omega) hs_8 ⟨fun e => absurd e (by decide), fun e => absurd e (by decide)⟩
                  exact ⟨rfl, Rel.why rI (((Chg.rf.sI (fx_j fx0) (k := 6) (v := 0) (.inl (by decide))).sI (fx_j fx0) (k := 6) (v := 0) (.inl (by decide))).sI (fx_j fx0) (k := 11) (v := 0) (.inl (by decide))) ⟨rfl, by decide⟩ (Eq.trans (Eq.trans (I_ne (fx_ne fx (by decide))) I_eq) (Eq.symm I_eq)), Nat.le_add_right _ _, Nat.le_add_right _ _⟩
      · refine r_aaloadA (b := mid t4) rfl (isQ_of (fx_t1 fx) (by decide)) (vp_ct (fx_n1 fx) (vp_in_nI (by have := i_nlt c1; have := i_rg c; have : (0 : Int32).toInt = 0 := rfl; have := i_eq ek2; have : (nI k2).toInt = ((k2 : Nat) : Int) := nI_toInt (by omega); have := i_nle c3; have : (24 : Int32).toInt = 24 := rfl; omega) (by omega))) (Eq.trans (congrArg (hR (sI h (ad 0) 6 0) (ad 1)) ((nI_clamp (by have := i_nlt c1; have := i_rg c; have : (0 : Int32).toInt = 0 := rfl; have := i_eq ek2; have : (nI k2).toInt = ((k2 : Nat) : Int) := nI_toInt (by omega); have := i_nle c3; have : (24 : Int32).toInt = 24 := rfl; omega)) : _ = k2)) (Eq.trans R_oI w4)) ?_
        refine r_astore (lv' := [some (.ref (ad 0)), some (.int (nI k2)), some (.int 8), some (.ref (mid t4)), none]) rfl (Nat.le_of_ble_eq_true rfl) rfl ?_
        refine r_aload rfl rfl ?_
        refine r_instY rfl (by decide) tg4 ?_
        refine r_if_eq (tg := 32) rfl rfl (fun q => absurd q (by decide)) (fun _ => ?_)
        refine r_aload rfl rfl ?_
        refine r_cast rfl tg4 ?_
        refine r_astore (lv' := [some (.ref (ad 0)), some (.int (nI k2)), some (.int 8), some (.ref (mid t4)), some (.ref (mid t4))]) rfl (Nat.le_of_ble_eq_true rfl) rfl ?_
        refine r_aload rfl rfl ?_
        refine r_cv (y := 28) (ra := []) (rest := []) rfl ⟨⟨rfl, rfl⟩, rfl, by decide⟩ tg4 rfl rfl (Nat.le_of_ble_eq_true rfl) ?_
        refine in_28 (Nat.le_of_ble_eq_true rfl) ?_
        show WR _ cd_28 0 [some (.ref (mid t4))] [] (sI h (ad 0) 6 0) _
        refine r_aload rfl rfl ?_
        refine r_getI rfl ⟨rfl, rfl, rfl⟩ tg4 ?_
        refine WR_tI (y := nI kd4) (Eq.trans (I_ne (dy_ad fx (.inl (by decide)) dz4)) k1_4) ?_
        refine r_ic (x := (-1)) rfl rfl ?_
        refine r_icmp_ne (tg := 13) rfl rfl (fun _ => ?_) (fun q => False.elim (by have : (nI kd4).toInt = ((kd4 : Nat) : Int) := nI_toInt (by omega); have : (-1 : Int32).toInt = -1 := rfl; have := i_eq q; omega))
        refine r_ic (x := 9) rfl rfl ?_
        refine r_iret rfl ?_
        show WR _ cd_43 25 [some (.ref (ad 0)), some (.int (nI k2)), some (.int 8), some (.ref (mid t4)), some (.ref (mid t4))] [.int 9] (sI h (ad 0) 6 0) _
        refine r_iload rfl rfl ?_
        refine r_icmp_ne (tg := 32) rfl rfl (fun _ => ?_) (fun q => absurd q (by decide))
        refine r_aload rfl rfl ?_
        refine r_aload rfl rfl ?_
        refine r_ifnonnullA (tg := 42) rfl rfl ?_
        refine r_ic (x := (-14)) rfl rfl ?_
        refine r_putI rfl ⟨rfl, rfl, rfl⟩ (fx_t0 fx) ?_
        refine r_null rfl ?_
        refine r_aret0 rfl ?_
        show WR _ cd_42 22 [some (.ref (ad 0)), some (.int c), some (.int i), some (.int j), none, none, none] [.null] (sI (sI h (ad 0) 6 0) (ad 0) 6 (-14)) _
        refine r_astore0 (lv' := [some (.ref (ad 0)), some (.int c), some (.int i), some (.int j), some (.null), none, none]) rfl (Nat.le_of_ble_eq_true rfl) rfl ?_
        refine r_aload0 rfl rfl ?_
        refine r_ifnonnullN (tg := 31) rfl rfl ?_
        refine r_null rfl ?_
        refine r_aret0 rfl ?_
        show WR _ cd_41 12 [some (.ref (ad 0)), some (.int c), some (.int i), some (.int j), some (.int v), none] [.null] (sI (sI h (ad 0) 6 0) (ad 0) 6 (-14)) _
        refine r_astore0 (lv' := [some (.ref (ad 0)), some (.int c), some (.int i), some (.int j), some (.int v), some (.null)]) rfl (Nat.le_of_ble_eq_true rfl) rfl ?_
        refine r_aload0 rfl rfl ?_
        refine r_ifnonnullN (tg := 24) rfl rfl ?_
        refine r_aload rfl rfl ?_
        refine r_getI rfl ⟨rfl, rfl, rfl⟩ (fx_t0 fx) ?_
        refine WR_tI (y := (-14)) I_eq ?_
        refine r_iret rfl ?_
        show EV _ 172 [.ref (ad 30), .int c, .int i, .int j, .int v] (sI (sI h (ad 0) 6 0) (ad 0) 6 (-14)) _
        refine in_172 (Nat.le_of_ble_eq_true rfl) ?_
        show WR _ cd_172 0 [some (.ref (ad 30)), some (.int c), some (.int i), some (.int j), some (.int v), none] [] (sI (sI h (ad 0) 6 0) (ad 0) 6 (-14)) _
        refine r_iload rfl rfl ?_
        refine WR_tI (y := nI k2) ek2 ?_
        refine r_cs (y := 153) (ra := [.int (nI k2)]) (rest := []) rfl ⟨⟨rfl, rfl⟩, by decide⟩ rfl rfl (Nat.le_of_ble_eq_true rfl) ?_
        refine in_153 (Nat.le_of_ble_eq_true rfl) ?_
        show WR _ cd_153 0 [some (.int (nI k2))] [] (sI (sI h (ad 0) 6 0) (ad 0) 6 (-14)) _
        refine r_iload rfl rfl ?_
        refine r_if_lt (tg := 14) rfl rfl (fun q => False.elim (by have := i_nlt c1; have := i_rg c; have : (0 : Int32).toInt = 0 := rfl; have := i_eq ek2; have : (nI k2).toInt = ((k2 : Nat) : Int) := nI_toInt (by omega); have := i_nle c3; have : (24 : Int32).toInt = 24 := rfl; have := i_lt q; omega)) (fun _ => ?_)
        refine r_iload rfl rfl ?_
        refine r_ic (x := 24) rfl rfl ?_
        refine r_icmp_ge (tg := 14) rfl rfl (fun q => False.elim (by have := i_nlt c1; have := i_rg c; have : (0 : Int32).toInt = 0 := rfl; have := i_eq ek2; have : (nI k2).toInt = ((k2 : Nat) : Int) := nI_toInt (by omega); have := i_nle c3; have : (24 : Int32).toInt = 24 := rfl; have := i_le q; omega)) (fun _ => ?_)
        refine r_ic (x := 1) rfl rfl ?_
        refine r_goto (tg := 15) rfl rfl ?_
        refine r_zret rfl (.inr rfl) ?_
        show WR _ cd_172 4 [some (.ref (ad 30)), some (.int c), some (.int i), some (.int j), some (.int v), none] [.int 1] (sI (sI h (ad 0) 6 0) (ad 0) 6 (-14)) _
        refine r_if_ne (tg := 14) rfl rfl (fun _ => ?_) (fun q => absurd q (by decide))
        refine r_aload rfl rfl ?_
        refine r_iload rfl rfl ?_
        refine WR_tI (y := nI k2) ek2 ?_
        refine r_iload rfl rfl ?_
        refine r_iload rfl rfl ?_
        refine r_cv (y := 173) (ra := [.int j, .int i, .int (nI k2)]) (rest := []) rfl ⟨⟨rfl, rfl⟩, rfl, by decide⟩ (fx_t30 fx) rfl rfl (Nat.le_of_ble_eq_true rfl) ?_
        refine in_173 (Nat.le_of_ble_eq_true rfl) ?_
        show WR _ cd_173 0 [some (.ref (ad 30)), some (.int (nI k2)), some (.int i), some (.int j), none, none] [] (sI (sI h (ad 0) 6 0) (ad 0) 6 (-14)) _
        refine r_aload rfl rfl ?_
        refine r_aload rfl rfl ?_
        refine r_getA (b := ad 31) rfl ⟨rfl, rfl, rfl⟩ (fx_t30 fx) (fx_r30_0 fx) ?_
        refine r_iload rfl rfl ?_
        refine r_iaload rfl (.inl (fx_t31 fx)) (vp_ct (fx_n31 fx) (vp_in_nI (by have := i_nlt c1; have := i_rg c; have : (0 : Int32).toInt = 0 := rfl; have := i_eq ek2; have : (nI k2).toInt = ((k2 : Nat) : Int) := nI_toInt (by omega); have := i_nle c3; have : (24 : Int32).toInt = 24 := rfl; omega) (by omega))) ?_
        refine WR_tI (congrArg (hI (sI (sI h (ad 0) 6 0) (ad 0) 6 (-14)) (ad 31)) ((nI_clamp (by have := i_nlt c1; have := i_rg c; have : (0 : Int32).toInt = 0 := rfl; have := i_eq ek2; have : (nI k2).toInt = ((k2 : Nat) : Int) := nI_toInt (by omega); have := i_nle c3; have : (24 : Int32).toInt = 24 := rfl; omega)) : _ = k2)) ?_
        refine WR_tI (y := nI t4) (Eq.trans (I_ne (fx_ne fx (by decide))) (Eq.trans (I_ne (fx_ne fx (by decide))) v4)) ?_
        refine r_ic (x := 8) rfl rfl ?_
        refine r_iload rfl rfl ?_
        refine r_cv (y := 168) (ra := [.int i, .int 8, .int (nI t4)]) (rest := []) rfl ⟨⟨rfl, rfl⟩, rfl, by decide⟩ (fx_t30 fx) rfl rfl (Nat.le_of_ble_eq_true rfl) ?_
        refine in_168 (Nat.le_of_ble_eq_true rfl) ?_
        show WR _ cd_168 0 [some (.ref (ad 30)), some (.int (nI t4)), some (.int 8), some (.int i)] [] (sI (sI h (ad 0) 6 0) (ad 0) 6 (-14)) _
        refine r_iload rfl rfl ?_
        refine r_ic (x := (-1)) rfl rfl ?_
        refine r_icmp_eq (tg := 18) rfl rfl (fun q => False.elim (by have : (nI t4).toInt = ((t4 : Nat) : Int) := nI_toInt (by omega); have : (-1 : Int32).toInt = -1 := rfl; have := i_eq q; omega)) (fun _ => ?_)
        refine r_aload rfl rfl ?_
        refine r_iload rfl rfl ?_
        refine r_cv (y := 166) (ra := [.int (nI t4)]) (rest := []) rfl ⟨⟨rfl, rfl⟩, rfl, by decide⟩ (fx_t30 fx) rfl rfl (Nat.le_of_ble_eq_true rfl) ?_
        refine in_166 (Nat.le_of_ble_eq_true rfl) ?_
        show WR _ cd_166 0 [some (.ref (ad 30)), some (.int (nI t4))] [] (sI (sI h (ad 0) 6 0) (ad 0) 6 (-14)) _
        refine r_iload rfl rfl ?_
        refine r_ic (x := (-1)) rfl rfl ?_
        refine r_icmp_ne (tg := 9) rfl rfl (fun _ => ?_) (fun q => False.elim (by have : (nI t4).toInt = ((t4 : Nat) : Int) := nI_toInt (by omega); have : (-1 : Int32).toInt = -1 := rfl; have := i_eq q; omega))
        refine r_iload rfl rfl ?_
        refine r_ic (x := 1000) rfl rfl ?_
        refine r_icmp_lt (tg := 21) rfl rfl (fun _ => ?_) (fun q => False.elim (by have : (nI t4).toInt = ((t4 : Nat) : Int) := nI_toInt (by omega); have : (1000 : Int32).toInt = 1000 := rfl; have := i_nlt q; omega))
        refine r_aload rfl rfl ?_
        refine r_getA (b := ad 33) rfl ⟨rfl, rfl, rfl⟩ (fx_t30 fx) (fx_r30_2 fx) ?_
        refine r_iload rfl rfl ?_
        refine r_iaload rfl (.inl (fx_t33 fx)) (vp_ct (fx_n33 fx) (vp_in_nI (by omega) (by omega))) ?_
        refine WR_tI (congrArg (hI (sI (sI h (ad 0) 6 0) (ad 0) 6 (-14)) (ad 33)) ((nI_clamp (by omega)) : _ = t4)) ?_
        refine WR_tI (y := 9) (Eq.trans (I_ne (fx_ne fx (by decide))) (Eq.trans (I_ne (fx_ne fx (by decide))) l2_4)) ?_
        refine r_iret rfl ?_
        show WR _ cd_168 10 [some (.ref (ad 30)), some (.int (nI t4)), some (.int 8), some (.int i)] [.int 9] (sI (sI h (ad 0) 6 0) (ad 0) 6 (-14)) _
        refine r_iload rfl rfl ?_
        refine r_icmp_eq (tg := 18) rfl rfl (fun q => absurd q (by decide)) (fun _ => ?_)
        refine r_ic (x := 4) rfl rfl ?_
        refine r_goto (tg := 50) rfl rfl ?_
        refine r_iret rfl ?_
        show WR _ cd_173 13 [some (.ref (ad 30)), some (.int (nI k2)), some (.int i), some (.int j), none, none] [.int 4] (sI (sI h (ad 0) 6 0) (ad 0) 6 (-14)) _
        refine r_istore (lv' := [some (.ref (ad 30)), some (.int (nI k2)), some (.int i), some (.int j), some (.int 4), none]) rfl (Nat.le_of_ble_eq_true rfl) rfl ?_
        refine r_iload rfl rfl ?_
        refine r_if_le (tg := 24) rfl rfl (fun q => absurd q (by decide)) (fun _ => ?_)
        refine r_iload rfl rfl ?_
        refine r_ineg rfl ?_
        refine WR_tI (y := (-4)) rfl ?_
        refine r_iret rfl ?_
        show WR _ cd_172 21 [some (.ref (ad 30)), some (.int c), some (.int i), some (.int j), some (.int v), none] [.int (-4)] (sI (sI h (ad 0) 6 0) (ad 0) 6 (-14)) _
        refine r_istore (lv' := [some (.ref (ad 30)), some (.int c), some (.int i), some (.int j), some (.int v), some (.int (-4))]) rfl (Nat.le_of_ble_eq_true rfl) rfl ?_
        refine r_iload rfl rfl ?_
        refine r_if_ge (tg := 36) rfl rfl (fun q => absurd q (by decide)) (fun _ => ?_)
        refine r_aload rfl rfl ?_
        refine r_iload rfl rfl ?_
        refine r_ineg rfl ?_
        refine WR_tI (y := 4) rfl ?_
        refine r_cv (y := 156) (ra := [.int 4]) (rest := []) rfl ⟨⟨rfl, rfl⟩, rfl, by decide⟩ (fx_t30 fx) rfl rfl (Nat.le_of_ble_eq_true rfl) ?_
        refine in_156 (Nat.le_of_ble_eq_true rfl) ?_
        show WR _ cd_156 0 [some (.ref (ad 30)), some (.int 4)] [] (sI (sI h (ad 0) 6 0) (ad 0) 6 (-14)) _
        refine r_aload rfl rfl ?_
        refine r_ic (x := (-10)) rfl rfl ?_
        refine r_iload rfl rfl ?_
        refine r_isub rfl ?_
        refine WR_tI (y := (-14)) rfl ?_
        refine r_cv (y := 154) (ra := [.int (-14)]) (rest := []) rfl ⟨⟨rfl, rfl⟩, rfl, by decide⟩ (fx_t30 fx) rfl rfl (Nat.le_of_ble_eq_true rfl) ?_
        refine in_154 (Nat.le_of_ble_eq_true rfl) ?_
        show WR _ cd_154 0 [some (.ref (ad 30)), some (.int (-14))] [] (sI (sI h (ad 0) 6 0) (ad 0) 6 (-14)) _
        refine r_aload rfl rfl ?_
        refine r_iload rfl rfl ?_
        refine r_ic (x := (-1)) rfl rfl ?_
        refine r_icmp_ge (tg := 10) rfl rfl (fun q => absurd q (by decide)) (fun _ => ?_)
        refine r_iload rfl rfl ?_
        refine r_goto (tg := 11) rfl rfl ?_
        refine r_putI rfl ⟨rfl, rfl, rfl⟩ (fx_t30 fx) ?_
        refine r_iload rfl rfl ?_
        refine r_iret rfl ?_
        show WR _ cd_156 8 [some (.ref (ad 30)), some (.int 4)] [.int (-14)] (sI (sI (sI h (ad 0) 6 0) (ad 0) 6 (-14)) (ad 30) 11 (-14)) _
        refine r_iret rfl ?_
        show WR _ cd_172 35 [some (.ref (ad 30)), some (.int c), some (.int i), some (.int j), some (.int v), some (.int (-4))] [.int (-14)] (sI (sI (sI h (ad 0) 6 0) (ad 0) 6 (-14)) (ad 30) 11 (-14)) _
        refine r_iret rfl ?_
        exact ⟨rfl, Rel.why r (((Chg.rf.sI (fx_j fx) (.inl (by decide))).sI (fx_j fx) (.inl (by decide))).sI (fx_j fx) (.inl (by decide))) ⟨rfl, by decide⟩ (Eq.trans (Eq.trans (I_ne (fx_ne fx (by decide))) I_eq) (Eq.symm I_eq)), Nat.le_add_right _ _, Nat.le_add_right _ _⟩

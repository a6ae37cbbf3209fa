/-! ===== part; printed ===== -/
set_option maxHeartbeats 2000000 in
theorem k_part {n : Nat} {ad sa : Nat → Nat} {z0 : Nat} {h : mH} (r : Rel n ad sa z0 h) (c : Int32) (k : Int32) : AP n ad sa z0 h 21 162 [.int c, .int k] := by
  obtain ⟨mid, pa, np, fx, ry, rt, ra, rp, rf, rst, ru, rs⟩ := id r
  have fx0 := fx
  obtain ⟨np1, np2, np3, -, -⟩ := id rs.1
  have hz0 : hzO h := rs.2.2.2
  unfold AP
  refine in_21 (Nat.le_of_ble_eq_true rfl) ?_
  show WR _ cd_21 0 [some (.ref (ad 0)), some (.int c), some (.int k), none] [] h _
  refine r_aload rfl rfl ?_
  refine r_ic (x := 0) rfl rfl ?_
  refine r_putI rfl ⟨rfl, rfl, rfl⟩ (fx_t0 fx) ?_
  refine r_iload rfl rfl ?_
  refine r_cs (y := 12) (ra := [.int c]) (rest := []) rfl ⟨⟨rfl, rfl⟩, by decide⟩ rfl rfl (Nat.le_of_ble_eq_true rfl) ?_
  refine in_12 (Nat.le_of_ble_eq_true rfl) ?_
  show WR _ cd_12 0 [some (.int c)] [] (sI h (ad 0) 6 0) _
  refine r_iload rfl rfl ?_
  refine r_if_lt (tg := 14) rfl rfl (fun c1 => ?_) (fun c1 => ?_)
  · refine r_ic (x := 0) rfl rfl ?_
    refine r_zret rfl (.inl rfl) ?_
    show WR _ cd_21 9 [some (.ref (ad 0)), some (.int c), some (.int k), none] [.int 0] (sI h (ad 0) 6 0) _
    refine r_if_ne (tg := 19) rfl rfl (fun q => absurd q (by decide)) (fun _ => ?_)
    refine r_aload rfl rfl ?_
    refine r_ic (x := (-2)) rfl rfl ?_
    refine r_cv (y := 13) (ra := [.int (-2)]) (rest := []) rfl ⟨⟨rfl, rfl⟩, rfl, by decide⟩ (fx_t0 fx) rfl rfl (Nat.le_of_ble_eq_true rfl) ?_
    refine in_13 (Nat.le_of_ble_eq_true rfl) ?_
    show WR _ cd_13 0 [some (.ref (ad 0)), some (.int (-2))] [] (sI h (ad 0) 6 0) _
    refine r_aload rfl rfl ?_
    refine r_iload rfl rfl ?_
    refine r_putI rfl ⟨rfl, rfl, rfl⟩ (fx_t0 fx) ?_
    refine r_iload rfl rfl ?_
    refine r_iret rfl ?_
    show WR _ cd_21 18 [some (.ref (ad 0)), some (.int c), some (.int k), none] [.int (-2)] (sI (sI h (ad 0) 6 0) (ad 0) 6 (-2)) _
    refine r_iret rfl ?_
    show EV _ 162 [.ref (ad 30), .int c, .int k] (sI (sI h (ad 0) 6 0) (ad 0) 6 (-2)) _
    refine in_162 (Nat.le_of_ble_eq_true rfl) ?_
    show WR _ cd_162 0 [some (.ref (ad 30)), some (.int c), some (.int k)] [] (sI (sI h (ad 0) 6 0) (ad 0) 6 (-2)) _
    refine r_iload rfl rfl ?_
    refine r_cs (y := 153) (ra := [.int c]) (rest := []) rfl ⟨⟨rfl, rfl⟩, by decide⟩ rfl rfl (Nat.le_of_ble_eq_true rfl) ?_
    refine in_153 (Nat.le_of_ble_eq_true rfl) ?_
    show WR _ cd_153 0 [some (.int c)] [] (sI (sI h (ad 0) 6 0) (ad 0) 6 (-2)) _
    refine r_iload rfl rfl ?_
    refine r_if_lt (tg := 14) rfl rfl (fun _ => ?_) (fun q => False.elim (by have := i_lt c1; have := i_rg c; have : (0 : Int32).toInt = 0 := rfl; have := i_nlt q; omega))
    refine r_ic (x := 0) rfl rfl ?_
    refine r_zret rfl (.inl rfl) ?_
    show WR _ cd_162 4 [some (.ref (ad 30)), some (.int c), some (.int k)] [.int 0] (sI (sI h (ad 0) 6 0) (ad 0) 6 (-2)) _
    refine r_if_ne (tg := 14) rfl rfl (fun q => absurd q (by decide)) (fun _ => ?_)
    refine r_aload rfl rfl ?_
    refine r_ic (x := (-2)) rfl rfl ?_
    refine r_cv (y := 154) (ra := [.int (-2)]) (rest := []) rfl ⟨⟨rfl, rfl⟩, rfl, by decide⟩ (fx_t30 fx) rfl rfl (Nat.le_of_ble_eq_true rfl) ?_
    refine in_154 (Nat.le_of_ble_eq_true rfl) ?_
    show WR _ cd_154 0 [some (.ref (ad 30)), some (.int (-2))] [] (sI (sI h (ad 0) 6 0) (ad 0) 6 (-2)) _
    refine r_aload rfl rfl ?_
    refine r_iload rfl rfl ?_
    refine r_ic (x := (-1)) rfl rfl ?_
    refine r_icmp_ge (tg := 10) rfl rfl (fun q => absurd q (by decide)) (fun _ => ?_)
    refine r_iload rfl rfl ?_
    refine r_goto (tg := 11) rfl rfl ?_
    refine r_putI rfl ⟨rfl, rfl, rfl⟩ (fx_t30 fx) ?_
    refine r_iload rfl rfl ?_
    refine r_iret rfl ?_
    show WR _ cd_162 13 [some (.ref (ad 30)), some (.int c), some (.int k)] [.int (-2)] (sI (sI (sI h (ad 0) 6 0) (ad 0) 6 (-2)) (ad 30) 11 (-2)) _
    refine r_iret rfl ?_
    exact ⟨rfl, Rel.why r (((Chg.rf.sI (fx_j fx) (.inl (by decide))).sI (fx_j fx) (.inl (by decide))).sI (fx_j fx) (.inl (by decide))) ⟨rfl, by decide⟩ (Eq.trans (Eq.trans (I_ne (fx_ne fx (by decide))) I_eq) (Eq.symm I_eq)), Nat.le_add_right _ _, Nat.le_add_right _ _⟩
  · obtain ⟨k2, hk2, ek2⟩ := ix_of (x := c) (n := 2147483648) (by have := i_nlt c1; have := i_rg c; have : (0 : Int32).toInt = 0 := rfl; omega) (by have := i_nlt c1; have := i_rg c; have : (0 : Int32).toInt = 0 := rfl; omega)
    refine r_iload rfl rfl ?_
    refine WR_tI (y := nI k2) ek2 ?_
    refine r_ic (x := 24) rfl rfl ?_
    refine r_icmp_ge (tg := 14) rfl rfl (fun c3 => ?_) (fun c3 => ?_)
    · refine r_ic (x := 0) rfl rfl ?_
      refine r_zret rfl (.inl rfl) ?_
      show WR _ cd_21 9 [some (.ref (ad 0)), some (.int c), some (.int k), none] [.int 0] (sI h (ad 0) 6 0) _
      refine r_if_ne (tg := 19) rfl rfl (fun q => absurd q (by decide)) (fun _ => ?_)
      refine r_aload rfl rfl ?_
      refine r_ic (x := (-2)) rfl rfl ?_
      refine r_cv (y := 13) (ra := [.int (-2)]) (rest := []) rfl ⟨⟨rfl, rfl⟩, rfl, by decide⟩ (fx_t0 fx) rfl rfl (Nat.le_of_ble_eq_true rfl) ?_
      refine in_13 (Nat.le_of_ble_eq_true rfl) ?_
      show WR _ cd_13 0 [some (.ref (ad 0)), some (.int (-2))] [] (sI h (ad 0) 6 0) _
      refine r_aload rfl rfl ?_
      refine r_iload rfl rfl ?_
      refine r_putI rfl ⟨rfl, rfl, rfl⟩ (fx_t0 fx) ?_
      refine r_iload rfl rfl ?_
      refine r_iret rfl ?_
      show WR _ cd_21 18 [some (.ref (ad 0)), some (.int c), some (.int k), none] [.int (-2)] (sI (sI h (ad 0) 6 0) (ad 0) 6 (-2)) _
      refine r_iret rfl ?_
      show EV _ 162 [.ref (ad 30), .int c, .int k] (sI (sI h (ad 0) 6 0) (ad 0) 6 (-2)) _
      refine in_162 (Nat.le_of_ble_eq_true rfl) ?_
      show WR _ cd_162 0 [some (.ref (ad 30)), some (.int c), some (.int k)] [] (sI (sI h (ad 0) 6 0) (ad 0) 6 (-2)) _
      refine r_iload rfl rfl ?_
      refine WR_tI (y := nI k2) ek2 ?_
      refine r_cs (y := 153) (ra := [.int (nI k2)]) (rest := []) rfl ⟨⟨rfl, rfl⟩, by decide⟩ rfl rfl (Nat.le_of_ble_eq_true rfl) ?_
      refine in_153 (Nat.le_of_ble_eq_true rfl) ?_
      show WR _ cd_153 0 [some (.int (nI k2))] [] (sI (sI h (ad 0) 6 0) (ad 0) 6 (-2)) _
      refine r_iload rfl rfl ?_
      refine r_if_lt (tg := 14) rfl rfl (fun q => False.elim (by have := i_nlt c1; have := i_rg c; have : (0 : Int32).toInt = 0 := rfl; have := i_eq ek2; have : (nI k2).toInt = ((k2 : Nat) : Int) := nI_toInt (by omega); have := i_le c3; have : (24 : Int32).toInt = 24 := rfl; have := i_lt q; omega)) (fun _ => ?_)
      refine r_iload rfl rfl ?_
      refine r_ic (x := 24) rfl rfl ?_
      refine r_icmp_ge (tg := 14) rfl rfl (fun _ => ?_) (fun q => False.elim (by have := i_nlt c1; have := i_rg c; have : (0 : Int32).toInt = 0 := rfl; have := i_eq ek2; have : (nI k2).toInt = ((k2 : Nat) : Int) := nI_toInt (by omega); have := i_le c3; have : (24 : Int32).toInt = 24 := rfl; have := i_nle q; omega))
      refine r_ic (x := 0) rfl rfl ?_
      refine r_zret rfl (.inl rfl) ?_
      show WR _ cd_162 4 [some (.ref (ad 30)), some (.int c), some (.int k)] [.int 0] (sI (sI h (ad 0) 6 0) (ad 0) 6 (-2)) _
      refine r_if_ne (tg := 14) rfl rfl (fun q => absurd q (by decide)) (fun _ => ?_)
      refine r_aload rfl rfl ?_
      refine r_ic (x := (-2)) rfl rfl ?_
      refine r_cv (y := 154) (ra := [.int (-2)]) (rest := []) rfl ⟨⟨rfl, rfl⟩, rfl, by decide⟩ (fx_t30 fx) rfl rfl (Nat.le_of_ble_eq_true rfl) ?_
      refine in_154 (Nat.le_of_ble_eq_true rfl) ?_
      show WR _ cd_154 0 [some (.ref (ad 30)), some (.int (-2))] [] (sI (sI h (ad 0) 6 0) (ad 0) 6 (-2)) _
      refine r_aload rfl rfl ?_
      refine r_iload rfl rfl ?_
      refine r_ic (x := (-1)) rfl rfl ?_
      refine r_icmp_ge (tg := 10) rfl rfl (fun q => absurd q (by decide)) (fun _ => ?_)
      refine r_iload rfl rfl ?_
      refine r_goto (tg := 11) rfl rfl ?_
      refine r_putI rfl ⟨rfl, rfl, rfl⟩ (fx_t30 fx) ?_
      refine r_iload rfl rfl ?_
      refine r_iret rfl ?_
      show WR _ cd_162 13 [some (.ref (ad 30)), some (.int c), some (.int k)] [.int (-2)] (sI (sI (sI h (ad 0) 6 0) (ad 0) 6 (-2)) (ad 30) 11 (-2)) _
      refine r_iret rfl ?_
      exact ⟨rfl, Rel.why r (((Chg.rf.sI (fx_j fx) (.inl (by decide))).sI (fx_j fx) (.inl (by decide))).sI (fx_j fx) (.inl (by decide))) ⟨rfl, by decide⟩ (Eq.trans (Eq.trans (I_ne (fx_ne fx (by decide))) I_eq) (Eq.symm I_eq)), Nat.le_add_right _ _, Nat.le_add_right _ _⟩
    · refine r_ic (x := 1) rfl rfl ?_
      refine r_goto (tg := 15) rfl rfl ?_
      refine r_zret rfl (.inr rfl) ?_
      show WR _ cd_21 9 [some (.ref (ad 0)), some (.int c), some (.int k), none] [.int 1] (sI h (ad 0) 6 0) _
      refine r_if_ne (tg := 19) rfl rfl (fun _ => ?_) (fun q => absurd q (by decide))
      refine r_iload rfl rfl ?_
      refine r_cs (y := 20) (ra := [.int k]) (rest := []) rfl ⟨⟨rfl, rfl⟩, by decide⟩ rfl rfl (Nat.le_of_ble_eq_true rfl) ?_
      refine in_20 (Nat.le_of_ble_eq_true rfl) ?_
      show WR _ cd_20 0 [some (.int k)] [] (sI h (ad 0) 6 0) _
      refine r_iload rfl rfl ?_
      refine r_if_lt (tg := 14) rfl rfl (fun c4 => ?_) (fun c4 => ?_)
      · refine r_ic (x := 0) rfl rfl ?_
        refine r_zret rfl (.inl rfl) ?_
        show WR _ cd_21 23 [some (.ref (ad 0)), some (.int c), some (.int k), none] [.int 0] (sI h (ad 0) 6 0) _
        refine r_if_eq (tg := 32) rfl rfl (fun _ => ?_) (fun q => absurd q (by decide))
        refine r_aload rfl rfl ?_
        refine r_ic (x := (-3)) rfl rfl ?_
        refine r_cv (y := 13) (ra := [.int (-3)]) (rest := []) rfl ⟨⟨rfl, rfl⟩, rfl, by decide⟩ (fx_t0 fx) rfl rfl (Nat.le_of_ble_eq_true rfl) ?_
        refine in_13 (Nat.le_of_ble_eq_true rfl) ?_
        show WR _ cd_13 0 [some (.ref (ad 0)), some (.int (-3))] [] (sI h (ad 0) 6 0) _
        refine r_aload rfl rfl ?_
        refine r_iload rfl rfl ?_
        refine r_putI rfl ⟨rfl, rfl, rfl⟩ (fx_t0 fx) ?_
        refine r_iload rfl rfl ?_
        refine r_iret rfl ?_
        show WR _ cd_21 38 [some (.ref (ad 0)), some (.int c), some (.int k), none] [.int (-3)] (sI (sI h (ad 0) 6 0) (ad 0) 6 (-3)) _
        refine r_iret rfl ?_
        show EV _ 162 [.ref (ad 30), .int c, .int k] (sI (sI h (ad 0) 6 0) (ad 0) 6 (-3)) _
        refine in_162 (Nat.le_of_ble_eq_true rfl) ?_
        show WR _ cd_162 0 [some (.ref (ad 30)), some (.int c), some (.int k)] [] (sI (sI h (ad 0) 6 0) (ad 0) 6 (-3)) _
        refine r_iload rfl rfl ?_
        refine WR_tI (y := nI k2) ek2 ?_
        refine r_cs (y := 153) (ra := [.int (nI k2)]) (rest := []) rfl ⟨⟨rfl, rfl⟩, by decide⟩ rfl rfl (Nat.le_of_ble_eq_true rfl) ?_
        refine in_153 (Nat.le_of_ble_eq_true rfl) ?_
        show WR _ cd_153 0 [some (.int (nI k2))] [] (sI (sI h (ad 0) 6 0) (ad 0) 6 (-3)) _
        refine r_iload rfl rfl ?_
        refine r_if_lt (tg := 14) rfl rfl (fun q => False.elim (by have := i_nlt c1; have := i_rg c; have : (0 : Int32).toInt = 0 := rfl; have := i_eq ek2; have : (nI k2).toInt = ((k2 : Nat) : Int) := nI_toInt (by omega); have := i_nle c3; have : (24 : Int32).toInt = 24 := rfl; have := i_lt q; omega)) (fun _ => ?_)
        refine r_iload rfl rfl ?_
        refine r_ic (x := 24) rfl rfl ?_
        refine r_icmp_ge (tg := 14) rfl rfl (fun q => False.elim (by have := i_nlt c1; have := i_rg c; have : (0 : Int32).toInt = 0 := rfl; have := i_eq ek2; have : (nI k2).toInt = ((k2 : Nat) : Int) := nI_toInt (by omega); have := i_nle c3; have : (24 : Int32).toInt = 24 := rfl; have := i_le q; omega)) (fun _ => ?_)
        refine r_ic (x := 1) rfl rfl ?_
        refine r_goto (tg := 15) rfl rfl ?_
        refine r_zret rfl (.inr rfl) ?_
        show WR _ cd_162 4 [some (.ref (ad 30)), some (.int c), some (.int k)] [.int 1] (sI (sI h (ad 0) 6 0) (ad 0) 6 (-3)) _
        refine r_if_ne (tg := 14) rfl rfl (fun _ => ?_) (fun q => absurd q (by decide))
        refine r_iload rfl rfl ?_
        refine r_i2l rfl ?_
        refine r_lc (x := 0) rfl rfl ?_
        refine r_ldc (x := .long 6) rfl rfl ?_
        refine r_cs (y := 155) (ra := [.long 6, .long 0, .long k.toInt64]) (rest := []) rfl ⟨⟨rfl, rfl⟩, by decide⟩ rfl rfl (Nat.le_of_ble_eq_true rfl) ?_
        refine in_155 (Nat.le_of_ble_eq_true rfl) ?_
        show WR _ cd_155 0 [some (.long k.toInt64), none, some (.long 0), none, some (.long 6), none] [] (sI (sI h (ad 0) 6 0) (ad 0) 6 (-3)) _
        refine r_lload rfl rfl ?_
        refine r_lload rfl rfl ?_
        refine r_lif_lt (tg := 17) rfl rfl rfl (fun _ => ?_) (fun q => False.elim (by have := i_lt c4; have := i_rg k; have : (0 : Int32).toInt = 0 := rfl; have := w_t k; have : (0 : Int64).toInt = 0 := rfl; have := l_nlt q; omega))
        refine r_ic (x := 0) rfl rfl ?_
        refine r_zret rfl (.inl rfl) ?_
        show WR _ cd_162 23 [some (.ref (ad 30)), some (.int c), some (.int k)] [.int 0] (sI (sI h (ad 0) 6 0) (ad 0) 6 (-3)) _
        refine r_if_ne (tg := 33) rfl rfl (fun q => absurd q (by decide)) (fun _ => ?_)
        refine r_aload rfl rfl ?_
        refine r_ic (x := (-3)) rfl rfl ?_
        refine r_cv (y := 154) (ra := [.int (-3)]) (rest := []) rfl ⟨⟨rfl, rfl⟩, rfl, by decide⟩ (fx_t30 fx) rfl rfl (Nat.le_of_ble_eq_true rfl) ?_
        refine in_154 (Nat.le_of_ble_eq_true rfl) ?_
        show WR _ cd_154 0 [some (.ref (ad 30)), some (.int (-3))] [] (sI (sI h (ad 0) 6 0) (ad 0) 6 (-3)) _
        refine r_aload rfl rfl ?_
        refine r_iload rfl rfl ?_
        refine r_ic (x := (-1)) rfl rfl ?_
        refine r_icmp_ge (tg := 10) rfl rfl (fun q => absurd q (by decide)) (fun _ => ?_)
        refine r_iload rfl rfl ?_
        refine r_goto (tg := 11) rfl rfl ?_
        refine r_putI rfl ⟨rfl, rfl, rfl⟩ (fx_t30 fx) ?_
        refine r_iload rfl rfl ?_
        refine r_iret rfl ?_
        show WR _ cd_162 32 [some (.ref (ad 30)), some (.int c), some (.int k)] [.int (-3)] (sI (sI (sI h (ad 0) 6 0) (ad 0) 6 (-3)) (ad 30) 11 (-3)) _
        refine r_iret rfl ?_
        exact ⟨rfl, Rel.why r (((Chg.rf.sI (fx_j fx) (.inl (by decide))).sI (fx_j fx) (.inl (by decide))).sI (fx_j fx) (.inl (by decide))) ⟨rfl, by decide⟩ (Eq.trans (Eq.trans (I_ne (fx_ne fx (by decide))) I_eq) (Eq.symm I_eq)), Nat.le_add_right _ _, Nat.le_add_right _ _⟩
      · obtain ⟨k5, hk5, ek5⟩ := ix_of (x := k) (n := 2147483648) (by have := i_nlt c4; have := i_rg k; have : (0 : Int32).toInt = 0 := rfl; omega) (by have := i_nlt c4; have := i_rg k; have : (0 : Int32).toInt = 0 := rfl; omega)
        refine r_iload rfl rfl ?_
        refine WR_tI (y := nI k5) ek5 ?_
        refine r_ic (x := 7) rfl rfl ?_
        refine r_icmp_gt (tg := 14) rfl rfl (fun c6 => ?_) (fun c6 => ?_)
        · refine r_ic (x := 0) rfl rfl ?_
          refine r_zret rfl (.inl rfl) ?_
          show WR _ cd_21 23 [some (.ref (ad 0)), some (.int c), some (.int k), none] [.int 0] (sI h (ad 0) 6 0) _
          refine r_if_eq (tg := 32) rfl rfl (fun _ => ?_) (fun q => absurd q (by decide))
          refine r_aload rfl rfl ?_
          refine r_ic (x := (-3)) rfl rfl ?_
          refine r_cv (y := 13) (ra := [.int (-3)]) (rest := []) rfl ⟨⟨rfl, rfl⟩, rfl, by decide⟩ (fx_t0 fx) rfl rfl (Nat.le_of_ble_eq_true rfl) ?_
          refine in_13 (Nat.le_of_ble_eq_true rfl) ?_
          show WR _ cd_13 0 [some (.ref (ad 0)), some (.int (-3))] [] (sI h (ad 0) 6 0) _
          refine r_aload rfl rfl ?_
          refine r_iload rfl rfl ?_
          refine r_putI rfl ⟨rfl, rfl, rfl⟩ (fx_t0 fx) ?_
          refine r_iload rfl rfl ?_
          refine r_iret rfl ?_
          show WR _ cd_21 38 [some (.ref (ad 0)), some (.int c), some (.int k), none] [.int (-3)] (sI (sI h (ad 0) 6 0) (ad 0) 6 (-3)) _
          refine r_iret rfl ?_
          show EV _ 162 [.ref (ad 30), .int c, .int k] (sI (sI h (ad 0) 6 0) (ad 0) 6 (-3)) _
          refine in_162 (Nat.le_of_ble_eq_true rfl) ?_
          show WR _ cd_162 0 [some (.ref (ad 30)), some (.int c), some (.int k)] [] (sI (sI h (ad 0) 6 0) (ad 0) 6 (-3)) _
          refine r_iload rfl rfl ?_
          refine WR_tI (y := nI k2) ek2 ?_
          refine r_cs (y := 153) (ra := [.int (nI k2)]) (rest := []) rfl ⟨⟨rfl, rfl⟩, by decide⟩ rfl rfl (Nat.le_of_ble_eq_true rfl) ?_
          refine in_153 (Nat.le_of_ble_eq_true rfl) ?_
          show WR _ cd_153 0 [some (.int (nI k2))] [] (sI (sI h (ad 0) 6 0) (ad 0) 6 (-3)) _
          refine r_iload rfl rfl ?_
          refine r_if_lt (tg := 14) rfl rfl (fun q => False.elim (by have := i_nlt c1; have := i_rg c; have : (0 : Int32).toInt = 0 := rfl; have := i_eq ek2; have : (nI k2).toInt = ((k2 : Nat) : Int) := nI_toInt (by omega); have := i_nle c3; have : (24 : Int32).toInt = 24 := rfl; have := i_lt q; omega)) (fun _ => ?_)
          refine r_iload rfl rfl ?_
          refine r_ic (x := 24) rfl rfl ?_
          refine r_icmp_ge (tg := 14) rfl rfl (fun q => False.elim (by have := i_nlt c1; have := i_rg c; have : (0 : Int32).toInt = 0 := rfl; have := i_eq ek2; have : (nI k2).toInt = ((k2 : Nat) : Int) := nI_toInt (by omega); have := i_nle c3; have : (24 : Int32).toInt = 24 := rfl; have := i_le q; omega)) (fun _ => ?_)
          refine r_ic (x := 1) rfl rfl ?_
          refine r_goto (tg := 15) rfl rfl ?_
          refine r_zret rfl (.inr rfl) ?_
          show WR _ cd_162 4 [some (.ref (ad 30)), some (.int c), some (.int k)] [.int 1] (sI (sI h (ad 0) 6 0) (ad 0) 6 (-3)) _
          refine r_if_ne (tg := 14) rfl rfl (fun _ => ?_) (fun q => absurd q (by decide))
          refine r_iload rfl rfl ?_
          refine WR_tI (y := nI k5) ek5 ?_
          refine r_i2l rfl ?_
          refine WR_tL (y := lN k5) (nI_l (by have := i_nlt c4; have := i_rg k; have : (0 : Int32).toInt = 0 := rfl; have := i_eq ek5; have : (nI k5).toInt = ((k5 : Nat) : Int) := nI_toInt (by omega); have := i_lt c6; have : (7 : Int32).toInt = 7 := rfl; omega)) ?_
          refine r_lc (x := 0) rfl rfl ?_
          refine r_ldc (x := .long 6) rfl rfl ?_
          refine r_cs (y := 155) (ra := [.long 6, .long 0, .long (lN k5)]) (rest := []) rfl ⟨⟨rfl, rfl⟩, by decide⟩ rfl rfl (Nat.le_of_ble_eq_true rfl) ?_
          refine in_155 (Nat.le_of_ble_eq_true rfl) ?_
          show WR _ cd_155 0 [some (.long (lN k5)), none, some (.long 0), none, some (.long 6), none] [] (sI (sI h (ad 0) 6 0) (ad 0) 6 (-3)) _
          refine r_lload rfl rfl ?_
          refine r_lload rfl rfl ?_
          refine r_lif_lt (tg := 17) rfl rfl rfl (fun q => False.elim (by have := i_nlt c4; have := i_rg k; have : (0 : Int32).toInt = 0 := rfl; have := i_eq ek5; have : (nI k5).toInt = ((k5 : Nat) : Int) := nI_toInt (by omega); have := i_lt c6; have : (7 : Int32).toInt = 7 := rfl; have : (lN k5).toInt = ((k5 : Nat) : Int) := lN_toInt (by omega); have : (0 : Int64).toInt = 0 := rfl; have := l_lt q; omega)) (fun _ => ?_)
          refine r_lload rfl rfl ?_
          refine r_lload rfl rfl ?_
          refine r_lif_gt (tg := 17) rfl rfl rfl (fun _ => ?_) (fun q => False.elim (by have := i_nlt c4; have := i_rg k; have : (0 : Int32).toInt = 0 := rfl; have := i_eq ek5; have : (nI k5).toInt = ((k5 : Nat) : Int) := nI_toInt (by omega); have := i_lt c6; have : (7 : Int32).toInt = 7 := rfl; have : (lN k5).toInt = ((k5 : Nat) : Int) := lN_toInt (by omega); have : (6 : Int64).toInt = 6 := rfl; have := l_nlt q; omega))
          refine r_ic (x := 0) rfl rfl ?_
          refine r_zret rfl (.inl rfl) ?_
          show WR _ cd_162 23 [some (.ref (ad 30)), some (.int c), some (.int k)] [.int 0] (sI (sI h (ad 0) 6 0) (ad 0) 6 (-3)) _
          refine r_if_ne (tg := 33) rfl rfl (fun q => absurd q (by decide)) (fun _ => ?_)
          refine r_aload rfl rfl ?_
          refine r_ic (x := (-3)) rfl rfl ?_
          refine r_cv (y := 154) (ra := [.int (-3)]) (rest := []) rfl ⟨⟨rfl, rfl⟩, rfl, by decide⟩ (fx_t30 fx) rfl rfl (Nat.le_of_ble_eq_true rfl) ?_
          refine in_154 (Nat.le_of_ble_eq_true rfl) ?_
          show WR _ cd_154 0 [some (.ref (ad 30)), some (.int (-3))] [] (sI (sI h (ad 0) 6 0) (ad 0) 6 (-3)) _
          refine r_aload rfl rfl ?_
          refine r_iload rfl rfl ?_
          refine r_ic (x := (-1)) rfl rfl ?_
          refine r_icmp_ge (tg := 10) rfl rfl (fun q => absurd q (by decide)) (fun _ => ?_)
          refine r_iload rfl rfl ?_
          refine r_goto (tg := 11) rfl rfl ?_
          refine r_putI rfl ⟨rfl, rfl, rfl⟩ (fx_t30 fx) ?_
          refine r_iload rfl rfl ?_
          refine r_iret rfl ?_
          show WR _ cd_162 32 [some (.ref (ad 30)), some (.int c), some (.int k)] [.int (-3)] (sI (sI (sI h (ad 0) 6 0) (ad 0) 6 (-3)) (ad 30) 11 (-3)) _
          refine r_iret rfl ?_
          exact ⟨rfl, Rel.why r (((Chg.rf.sI (fx_j fx) (.inl (by decide))).sI (fx_j fx) (.inl (by decide))).sI (fx_j fx) (.inl (by decide))) ⟨rfl, by decide⟩ (Eq.trans (Eq.trans (I_ne (fx_ne fx (by decide))) I_eq) (Eq.symm I_eq)), Nat.le_add_right _ _, Nat.le_add_right _ _⟩
        · refine r_ic (x := 1) rfl rfl ?_
          refine r_goto (tg := 15) rfl rfl ?_
          refine r_zret rfl (.inr rfl) ?_
          show WR _ cd_21 23 [some (.ref (ad 0)), some (.int c), some (.int k), none] [.int 1] (sI h (ad 0) 6 0) _
          refine r_if_eq (tg := 32) rfl rfl (fun q => absurd q (by decide)) (fun _ => ?_)
          refine r_iload rfl rfl ?_
          refine WR_tI (y := nI k5) ek5 ?_
          refine r_ic (x := 7) rfl rfl ?_
          refine r_icmp_ne (tg := 39) rfl rfl (fun c7 => ?_) (fun c7 => ?_)
          · refine r_aload rfl rfl ?_
            refine r_getI rfl ⟨rfl, rfl, rfl⟩ (fx_t0 fx) ?_
            refine WR_tI (y := nI np) (Eq.trans (I_nk (by decide)) np2) ?_
            refine r_ic (x := 60) rfl rfl ?_
            refine r_icmp_lt (tg := 55) rfl rfl (fun c8 => ?_) (fun c8 => ?_)
            · refine r_aload rfl rfl ?_
              refine r_getI rfl ⟨rfl, rfl, rfl⟩ (fx_t0 fx) ?_
              refine WR_tI (y := nI np) (Eq.trans (I_nk (by decide)) np2) ?_
              refine r_istore (lv' := [some (.ref (ad 0)), some (.int c), some (.int k), some (.int (nI np))]) rfl (Nat.le_of_ble_eq_true rfl) rfl ?_
              refine r_aload rfl rfl ?_
              refine r_dup rfl rfl ?_
              refine r_getI rfl ⟨rfl, rfl, rfl⟩ (fx_t0 fx) ?_
              refine WR_tI (y := nI np) (Eq.trans (I_nk (by decide)) np2) ?_
              refine r_ic (x := 1) rfl rfl ?_
              refine r_iadd rfl ?_
              refine WR_tI (y := nI (np + 1)) (Eq.trans (nI_add np 1) (congrArg nI (by have := i_lt c8; have : (nI np).toInt = ((np : Nat) : Int) := nI_toInt (by omega); have : (60 : Int32).toInt = 60 := rfl; omega))) ?_
              refine r_putI rfl ⟨rfl, rfl, rfl⟩ (fx_t0 fx) ?_
              refine r_aload rfl rfl ?_
              refine r_getA (b := ad 1) rfl ⟨rfl, rfl, rfl⟩ (fx_t0 fx) (fx_r0_0 fx) ?_
              refine r_iload rfl rfl ?_
              refine WR_tI (y := nI k2) ek2 ?_
              refine r_new (m := 4) rfl rfl ?_
              show WR _ cd_21 78 [some (.ref (ad 0)), some (.int c), some (.int k), some (.int (nI np))] [.ref (hZ h), .int (nI k2), .ref (ad 1)] (nw (sI (sI h (ad 0) 6 0) (ad 0) 5 (nI (np + 1))) 4 4 4) _
              have fx : FX n ad sa z0 (nw (sI (sI h (ad 0) 6 0) (ad 0) 5 (nI (np + 1))) 4 4 4) := FX.nw (h := sI (sI h (ad 0) 6 0) (ad 0) 5 (nI (np + 1))) (FX.sI (FX.sI fx)) (hzO.sI (hzO.sI hz0))
              have hz1 : hzO (nw (sI (sI h (ad 0) 6 0) (ad 0) 5 (nI (np + 1))) 4 4 4) := hzO.nw (h := sI (sI h (ad 0) 6 0) (ad 0) 5 (nI (np + 1))) (hzO.sI (hzO.sI hz0))
              have tz0 : hT (nw (sI (sI h (ad 0) 6 0) (ad 0) 5 (nI (np + 1))) 4 4 4) (hZ h) = 4 := nw_T0 (h := sI (sI h (ad 0) 6 0) (ad 0) 5 (nI (np + 1))) (t := 4) (k := 4) (m := 4)
              refine r_dup rfl rfl ?_
              refine r_iload rfl rfl ?_
              refine WR_tI (y := nI k5) ek5 ?_
              refine r_iload rfl rfl ?_
              refine r_cp (y := 22) (ra := [.int (nI np), .int (nI k5)]) (rest := [.ref (hZ h), .int (nI k2), .ref (ad 1)]) rfl ⟨⟨rfl, rfl⟩, by decide⟩ rfl rfl (Nat.le_of_ble_eq_true rfl) ?_
              refine in_22 (Nat.le_of_ble_eq_true rfl) ?_
              show WR _ cd_22 0 [some (.ref (hZ h)), some (.int (nI k5)), some (.int (nI np))] [] (nw (sI (sI h (ad 0) 6 0) (ad 0) 5 (nI (np + 1))) 4 4 4) _
              refine r_aload rfl rfl ?_
              refine r_cp (y := 16) (ra := []) (rest := []) rfl ⟨⟨rfl, rfl⟩, by decide⟩ rfl rfl (Nat.le_of_ble_eq_true rfl) ?_
              refine in_16 (Nat.le_of_ble_eq_true rfl) ?_
              show WR _ cd_16 0 [some (.ref (hZ h))] [] (nw (sI (sI h (ad 0) 6 0) (ad 0) 5 (nI (np + 1))) 4 4 4) _
              refine r_aload rfl rfl ?_
              refine r_obj rfl (Nat.le_of_ble_eq_true rfl) ?_
              refine r_vret rfl ?_
              show WR _ cd_22 4 [some (.ref (hZ h)), some (.int (nI k5)), some (.int (nI np))] [] (nw (sI (sI h (ad 0) 6 0) (ad 0) 5 (nI (np + 1))) 4 4 4) _
              refine r_aload rfl rfl ?_
              refine r_iload rfl rfl ?_
              refine r_putI rfl ⟨rfl, rfl, rfl⟩ tz0 ?_
              have fx : FX n ad sa z0 (sI (nw (sI (sI h (ad 0) 6 0) (ad 0) 5 (nI (np + 1))) 4 4 4) (hZ h) 0 (nI k5)) := (FX.sI fx)
              have tz0 : hT (sI (nw (sI (sI h (ad 0) 6 0) (ad 0) 5 (nI (np + 1))) 4 4 4) (hZ h) 0 (nI k5)) (hZ h) = 4 := (Eq.trans (congrFun hT_sI _) tz0)
              refine r_aload rfl rfl ?_
              refine r_iload rfl rfl ?_
              refine r_putI rfl ⟨rfl, rfl, rfl⟩ tz0 ?_
              have fx : FX n ad sa z0 (sI (sI (nw (sI (sI h (ad 0) 6 0) (ad 0) 5 (nI (np + 1))) 4 4 4) (hZ h) 0 (nI k5)) (hZ h) 1 (nI np)) := (FX.sI fx)
              have tz0 : hT (sI (sI (nw (sI (sI h (ad 0) 6 0) (ad 0) 5 (nI (np + 1))) 4 4 4) (hZ h) 0 (nI k5)) (hZ h) 1 (nI np)) (hZ h) = 4 := (Eq.trans (congrFun hT_sI _) tz0)
              refine r_vret rfl ?_
              show WR _ cd_21 84 [some (.ref (ad 0)), some (.int c), some (.int k), some (.int (nI np))] [.ref (hZ h), .int (nI k2), .ref (ad 1)] (sI (sI (nw (sI (sI h (ad 0) 6 0) (ad 0) 5 (nI (np + 1))) 4 4 4) (hZ h) 0 (nI k5)) (hZ h) 1 (nI np)) _
              refine r_aastoreA rfl (isQ_of (fx_t1 fx) (by decide)) (vp_ct (fx_n1 fx) (vp_in_nI (by have := i_nlt c1; have := i_rg c; have : (0 : Int32).toInt = 0 := rfl; have := i_eq ek2; have : (nI k2).toInt = ((k2 : Nat) : Int) := nI_toInt (by omega); have := i_nle c3; have : (24 : Int32).toInt = 24 := rfl; omega) (by omega))) (okR_of (fx_t1 fx) tz0 (by decide)) ?_
              refine WR_h (h2 := sR (sI (sI (nw (sI (sI h (ad 0) 6 0) (ad 0) 5 (nI (np + 1))) 4 4 4) (hZ h) 0 (nI k5)) (hZ h) 1 (nI np)) (ad 1) k2 (some (hZ h))) (congrArg (fun z => sR (sI (sI (nw (sI (sI h (ad 0) 6 0) (ad 0) 5 (nI (np + 1))) 4 4 4) (hZ h) 0 (nI k5)) (hZ h) 1 (nI np)) (ad 1) z (some (hZ h))) ((nI_clamp (by have := i_nlt c1; have := i_rg c; have : (0 : Int32).toInt = 0 := rfl; have := i_eq ek2; have : (nI k2).toInt = ((k2 : Nat) : Int) := nI_toInt (by omega); have := i_nle c3; have : (24 : Int32).toInt = 24 := rfl; omega)) : _ = k2)) ?_
              have fx : FX n ad sa z0 (sR (sI (sI (nw (sI (sI h (ad 0) 6 0) (ad 0) 5 (nI (np + 1))) 4 4 4) (hZ h) 0 (nI k5)) (hZ h) 1 (nI np)) (ad 1) k2 (some (hZ h))) := FX.sRA (i := 1) fx (.inl (by decide)) (by decide)
              have tz0 : hT (sR (sI (sI (nw (sI (sI h (ad 0) 6 0) (ad 0) 5 (nI (np + 1))) 4 4 4) (hZ h) 0 (nI k5)) (hZ h) 1 (nI np)) (ad 1) k2 (some (hZ h))) (hZ h) = 4 := (Eq.trans (congrFun hT_sR _) tz0)
              refine r_iload rfl rfl ?_
              refine r_iret rfl ?_
              show EV _ 162 [.ref (ad 30), .int c, .int k] (sR (sI (sI (nw (sI (sI h (ad 0) 6 0) (ad 0) 5 (nI (np + 1))) 4 4 4) (hZ h) 0 (nI k5)) (hZ h) 1 (nI np)) (ad 1) k2 (some (hZ h))) _
              refine in_162 (Nat.le_of_ble_eq_true rfl) ?_
              show WR _ cd_162 0 [some (.ref (ad 30)), some (.int c), some (.int k)] [] (sR (sI (sI (nw (sI (sI h (ad 0) 6 0) (ad 0) 5 (nI (np + 1))) 4 4 4) (hZ h) 0 (nI k5)) (hZ h) 1 (nI np)) (ad 1) k2 (some (hZ h))) _
              refine r_iload rfl rfl ?_
              refine WR_tI (y := nI k2) ek2 ?_
              refine r_cs (y := 153) (ra := [.int (nI k2)]) (rest := []) rfl ⟨⟨rfl, rfl⟩, by decide⟩ rfl rfl (Nat.le_of_ble_eq_true rfl) ?_
              refine in_153 (Nat.le_of_ble_eq_true rfl) ?_
              show WR _ cd_153 0 [some (.int (nI k2))] [] (sR (sI (sI (nw (sI (sI h (ad 0) 6 0) (ad 0) 5 (nI (np + 1))) 4 4 4) (hZ h) 0 (nI k5)) (hZ h) 1 (nI np)) (ad 1) k2 (some (hZ h))) _
              refine r_iload rfl rfl ?_
              refine r_if_lt (tg := 14) rfl rfl (fun q => False.elim (by have := i_nlt c1; have := i_rg c; have : (0 : Int32).toInt = 0 := rfl; have := i_eq ek2; have : (nI k2).toInt = ((k2 : Nat) : Int) := nI_toInt (by omega); have := i_nle c3; have : (24 : Int32).toInt = 24 := rfl; have := i_lt q; omega)) (fun _ => ?_)
              refine r_iload rfl rfl ?_
              refine r_ic (x := 24) rfl rfl ?_
              refine r_icmp_ge (tg := 14) rfl rfl (fun q => False.elim (by have := i_nlt c1; have := i_rg c; have : (0 : Int32).toInt = 0 := rfl; have := i_eq ek2; have : (nI k2).toInt = ((k2 : Nat) : Int) := nI_toInt (by omega); have := i_nle c3; have : (24 : Int32).toInt = 24 := rfl; have := i_le q; omega)) (fun _ => ?_)
              refine r_ic (x := 1) rfl rfl ?_
              refine r_goto (tg := 15) rfl rfl ?_
              refine r_zret rfl (.inr rfl) ?_
              show WR _ cd_162 4 [some (.ref (ad 30)), some (.int c), some (.int k)] [.int 1] (sR (sI (sI (nw (sI (sI h (ad 0) 6 0) (ad 0) 5 (nI (np + 1))) 4 4 4) (hZ h) 0 (nI k5)) (hZ h) 1 (nI np)) (ad 1) k2 (some (hZ h))) _
              refine r_if_ne (tg := 14) rfl rfl (fun _ => ?_) (fun q => absurd q (by decide))
              refine r_iload rfl rfl ?_
              refine WR_tI (y := nI k5) ek5 ?_
              refine r_i2l rfl ?_
              refine WR_tL (y := lN k5) (nI_l (by have := i_nlt c4; have := i_rg k; have : (0 : Int32).toInt = 0 := rfl; have := i_eq ek5; have : (nI k5).toInt = ((k5 : Nat) : Int) := nI_toInt (by omega); have := i_nlt c6; have : (7 : Int32).toInt = 7 := rfl; have := i_neq c7; omega)) ?_
              refine r_lc (x := 0) rfl rfl ?_
              refine r_ldc (x := .long 6) rfl rfl ?_
              refine r_cs (y := 155) (ra := [.long 6, .long 0, .long (lN k5)]) (rest := []) rfl ⟨⟨rfl, rfl⟩, by decide⟩ rfl rfl (Nat.le_of_ble_eq_true rfl) ?_
              refine in_155 (Nat.le_of_ble_eq_true rfl) ?_
              show WR _ cd_155 0 [some (.long (lN k5)), none, some (.long 0), none, some (.long 6), none] [] (sR (sI (sI (nw (sI (sI h (ad 0) 6 0) (ad 0) 5 (nI (np + 1))) 4 4 4) (hZ h) 0 (nI k5)) (hZ h) 1 (nI np)) (ad 1) k2 (some (hZ h))) _
              refine r_lload rfl rfl ?_
              refine r_lload rfl rfl ?_
              refine r_lif_lt (tg := 17) rfl rfl rfl (fun q => False.elim (by have := i_nlt c4; have := i_rg k; have : (0 : Int32).toInt = 0 := rfl; have := i_eq ek5; have : (nI k5).toInt = ((k5 : Nat) : Int) := nI_toInt (by omega); have := i_nlt c6; have : (7 : Int32).toInt = 7 := rfl; have := i_neq c7; have : (lN k5).toInt = ((k5 : Nat) : Int) := lN_toInt (by omega); have : (0 : Int64).toInt = 0 := rfl; have := l_lt q; omega)) (fun _ => ?_)
              refine r_lload rfl rfl ?_
              refine r_lload rfl rfl ?_
              refine r_lif_gt (tg := 17) rfl rfl rfl (fun q => False.elim (by have := i_nlt c4; have := i_rg k; have : (0 : Int32).toInt = 0 := rfl; have := i_eq ek5; have : (nI k5).toInt = ((k5 : Nat) : Int) := nI_toInt (by omega); have := i_nlt c6; have : (7 : Int32).toInt = 7 := rfl; have := i_neq c7; have : (lN k5).toInt = ((k5 : Nat) : Int) := lN_toInt (by omega); have : (6 : Int64).toInt = 6 := rfl; have := l_lt q; omega)) (fun _ => ?_)
              refine r_ic (x := 1) rfl rfl ?_
              refine r_goto (tg := 18) rfl rfl ?_
              refine r_zret rfl (.inr rfl) ?_
              show WR _ cd_162 23 [some (.ref (ad 30)), some (.int c), some (.int k)] [.int 1] (sR (sI (sI (nw (sI (sI h (ad 0) 6 0) (ad 0) 5 (nI (np + 1))) 4 4 4) (hZ h) 0 (nI k5)) (hZ h) 1 (nI np)) (ad 1) k2 (some (hZ h))) _
              refine r_if_ne (tg := 33) rfl rfl (fun _ => ?_) (fun q => absurd q (by decide))
              refine r_aload rfl rfl ?_
              refine r_getI rfl ⟨rfl, rfl, rfl⟩ (fx_t30 fx) ?_
              refine WR_tI (y := nI np) (Eq.trans I_oR (Eq.trans (I_ne (ad_dy fx (.inl (by decide)) (fx_z fx0))) (Eq.trans (I_ne (ad_dy fx (.inl (by decide)) (fx_z fx0))) (Eq.trans (nw_I (Nat.ne_of_lt ((ad_lt fx0 (.inl (by decide)))))) (Eq.trans (I_ne (fx_ne fx (by decide))) (Eq.trans (I_ne (fx_ne fx (by decide))) np3)))))) ?_
              refine r_ic (x := 60) rfl rfl ?_
              refine r_icmp_ne (tg := 49) rfl rfl (fun _ => ?_) (fun q => False.elim (by have := i_lt c8; have : (nI np).toInt = ((np : Nat) : Int) := nI_toInt (by omega); have : (60 : Int32).toInt = 60 := rfl; have := i_eq q; omega))
              refine r_aload rfl rfl ?_
              refine r_getA (b := ad 37) rfl ⟨rfl, rfl, rfl⟩ (fx_t30 fx) (fx_r30_7 fx) ?_
              refine r_aload rfl rfl ?_
              refine r_getI rfl ⟨rfl, rfl, rfl⟩ (fx_t30 fx) ?_
              refine WR_tI (y := nI np) (Eq.trans I_oR (Eq.trans (I_ne (ad_dy fx (.inl (by decide)) (fx_z fx0))) (Eq.trans (I_ne (ad_dy fx (.inl (by decide)) (fx_z fx0))) (Eq.trans (nw_I (Nat.ne_of_lt ((ad_lt fx0 (.inl (by decide)))))) (Eq.trans (I_ne (fx_ne fx (by decide))) (Eq.trans (I_ne (fx_ne fx (by decide))) np3)))))) ?_
              refine r_iload rfl rfl ?_
              refine WR_tI (y := nI k5) ek5 ?_
              refine r_iastore rfl (fx_t37 fx) (vp_ct (fx_n37 fx) (vp_in_nI (by have := i_lt c8; have : (nI np).toInt = ((np : Nat) : Int) := nI_toInt (by omega); have : (60 : Int32).toInt = 60 := rfl; omega) (by omega))) ?_
              refine WR_h (h2 := sI (sR (sI (sI (nw (sI (sI h (ad 0) 6 0) (ad 0) 5 (nI (np + 1))) 4 4 4) (hZ h) 0 (nI k5)) (hZ h) 1 (nI np)) (ad 1) k2 (some (hZ h))) (ad 37) np (nI k5)) (congrArg (fun z => sI (sR (sI (sI (nw (sI (sI h (ad 0) 6 0) (ad 0) 5 (nI (np + 1))) 4 4 4) (hZ h) 0 (nI k5)) (hZ h) 1 (nI np)) (ad 1) k2 (some (hZ h))) (ad 37) z (nI k5)) ((nI_clamp (by have := i_lt c8; have : (nI np).toInt = ((np : Nat) : Int) := nI_toInt (by omega); have : (60 : Int32).toInt = 60 := rfl; omega)) : _ = np)) ?_
              have fx : FX n ad sa z0 (sI (sR (sI (sI (nw (sI (sI h (ad 0) 6 0) (ad 0) 5 (nI (np + 1))) 4 4 4) (hZ h) 0 (nI k5)) (hZ h) 1 (nI np)) (ad 1) k2 (some (hZ h))) (ad 37) np (nI k5)) := (FX.sI fx)
              have tz0 : hT (sI (sR (sI (sI (nw (sI (sI h (ad 0) 6 0) (ad 0) 5 (nI (np + 1))) 4 4 4) (hZ h) 0 (nI k5)) (hZ h) 1 (nI np)) (ad 1) k2 (some (hZ h))) (ad 37) np (nI k5)) (hZ h) = 4 := (Eq.trans (congrFun hT_sI _) tz0)
              refine r_aload rfl rfl ?_
              refine r_getA (b := ad 38) rfl ⟨rfl, rfl, rfl⟩ (fx_t30 fx) (fx_r30_8 fx) ?_
              refine r_aload rfl rfl ?_
              refine r_getI rfl ⟨rfl, rfl, rfl⟩ (fx_t30 fx) ?_
              refine WR_tI (y := nI np) (Eq.trans (I_ne (fx_ne fx (by decide))) (Eq.trans I_oR (Eq.trans (I_ne (ad_dy fx (.inl (by decide)) (fx_z fx0))) (Eq.trans (I_ne (ad_dy fx (.inl (by decide)) (fx_z fx0))) (Eq.trans (nw_I (Nat.ne_of_lt ((ad_lt fx0 (.inl (by decide)))))) (Eq.trans (I_ne (fx_ne fx (by decide))) (Eq.trans (I_ne (fx_ne fx (by decide))) np3))))))) ?_
              refine r_lc (x := 0) rfl rfl ?_
              refine r_lastore rfl (fx_t38 fx) (vp_ct (fx_n38 fx) (vp_in_nI (by have := i_lt c8; have : (nI np).toInt = ((np : Nat) : Int) := nI_toInt (by omega); have : (60 : Int32).toInt = 60 := rfl; omega) (by omega))) ?_
              refine WR_h (h2 := sL (sI (sR (sI (sI (nw (sI (sI h (ad 0) 6 0) (ad 0) 5 (nI (np + 1))) 4 4 4) (hZ h) 0 (nI k5)) (hZ h) 1 (nI np)) (ad 1) k2 (some (hZ h))) (ad 37) np (nI k5)) (ad 38) np 0) (congrArg (fun z => sL (sI (sR (sI (sI (nw (sI (sI h (ad 0) 6 0) (ad 0) 5 (nI (np + 1))) 4 4 4) (hZ h) 0 (nI k5)) (hZ h) 1 (nI np)) (ad 1) k2 (some (hZ h))) (ad 37) np (nI k5)) (ad 38) z 0) ((nI_clamp (by have := i_lt c8; have : (nI np).toInt = ((np : Nat) : Int) := nI_toInt (by omega); have : (60 : Int32).toInt = 60 := rfl; omega)) : _ = np)) ?_
              have fx : FX n ad sa z0 (sL (sI (sR (sI (sI (nw (sI (sI h (ad 0) 6 0) (ad 0) 5 (nI (np + 1))) 4 4 4) (hZ h) 0 (nI k5)) (hZ h) 1 (nI np)) (ad 1) k2 (some (hZ h))) (ad 37) np (nI k5)) (ad 38) np 0) := (FX.sL fx)
              have tz0 : hT (sL (sI (sR (sI (sI (nw (sI (sI h (ad 0) 6 0) (ad 0) 5 (nI (np + 1))) 4 4 4) (hZ h) 0 (nI k5)) (hZ h) 1 (nI np)) (ad 1) k2 (some (hZ h))) (ad 37) np (nI k5)) (ad 38) np 0) (hZ h) = 4 := (Eq.trans (congrFun hT_sL _) tz0)
              refine r_aload rfl rfl ?_
              refine r_getA (b := ad 31) rfl ⟨rfl, rfl, rfl⟩ (fx_t30 fx) (fx_r30_0 fx) ?_
              refine r_iload rfl rfl ?_
              refine WR_tI (y := nI k2) ek2 ?_
              refine r_ic (x := 1000) rfl rfl ?_
              refine r_aload rfl rfl ?_
              refine r_getI rfl ⟨rfl, rfl, rfl⟩ (fx_t30 fx) ?_
              refine WR_tI (y := nI np) (Eq.trans I_oL (Eq.trans (I_ne (fx_ne fx (by decide))) (Eq.trans I_oR (Eq.trans (I_ne (ad_dy fx (.inl (by decide)) (fx_z fx0))) (Eq.trans (I_ne (ad_dy fx (.inl (by decide)) (fx_z fx0))) (Eq.trans (nw_I (Nat.ne_of_lt ((ad_lt fx0 (.inl (by decide)))))) (Eq.trans (I_ne (fx_ne fx (by decide))) (Eq.trans (I_ne (fx_ne fx (by decide))) np3)))))))) ?_
              refine r_iadd rfl ?_
              refine WR_tI (y := nI (np + 1000)) (Eq.trans (nI_add 1000 np) (congrArg nI (by have := i_lt c8; have : (nI np).toInt = ((np : Nat) : Int) := nI_toInt (by omega); have : (60 : Int32).toInt = 60 := rfl; omega))) ?_
              refine r_iastore rfl (fx_t31 fx) (vp_ct (fx_n31 fx) (vp_in_nI (by have := i_nlt c1; have := i_rg c; have : (0 : Int32).toInt = 0 := rfl; have := i_eq ek2; have : (nI k2).toInt = ((k2 : Nat) : Int) := nI_toInt (by omega); have := i_nle c3; have : (24 : Int32).toInt = 24 := rfl; omega) (by omega))) ?_
              refine WR_h (h2 := sI (sL (sI (sR (sI (sI (nw (sI (sI h (ad 0) 6 0) (ad 0) 5 (nI (np + 1))) 4 4 4) (hZ h) 0 (nI k5)) (hZ h) 1 (nI np)) (ad 1) k2 (some (hZ h))) (ad 37) np (nI k5)) (ad 38) np 0) (ad 31) k2 (nI (np + 1000))) (congrArg (fun z => sI (sL (sI (sR (sI (sI (nw (sI (sI h (ad 0) 6 0) (ad 0) 5 (nI (np + 1))) 4 4 4) (hZ h) 0 (nI k5)) (hZ h) 1 (nI np)) (ad 1) k2 (some (hZ h))) (ad 37) np (nI k5)) (ad 38) np 0) (ad 31) z (nI (np + 1000))) ((nI_clamp (by have := i_nlt c1; have := i_rg c; have : (0 : Int32).toInt = 0 := rfl; have := i_eq ek2; have : (nI k2).toInt = ((k2 : Nat) : Int) := nI_toInt (by omega); have := i_nle c3; have : (24 : Int32).toInt = 24 := rfl; omega)) : _ = k2)) ?_
              have fx : FX n ad sa z0 (sI (sL (sI (sR (sI (sI (nw (sI (sI h (ad 0) 6 0) (ad 0) 5 (nI (np + 1))) 4 4 4) (hZ h) 0 (nI k5)) (hZ h) 1 (nI np)) (ad 1) k2 (some (hZ h))) (ad 37) np (nI k5)) (ad 38) np 0) (ad 31) k2 (nI (np + 1000))) := (FX.sI fx)
              have tz0 : hT (sI (sL (sI (sR (sI (sI (nw (sI (sI h (ad 0) 6 0) (ad 0) 5 (nI (np + 1))) 4 4 4) (hZ h) 0 (nI k5)) (hZ h) 1 (nI np)) (ad 1) k2 (some (hZ h))) (ad 37) np (nI k5)) (ad 38) np 0) (ad 31) k2 (nI (np + 1000))) (hZ h) = 4 := (Eq.trans (congrFun hT_sI _) tz0)
              refine r_aload rfl rfl ?_
              refine r_dup rfl rfl ?_
              refine r_getI rfl ⟨rfl, rfl, rfl⟩ (fx_t30 fx) ?_
              refine WR_tI (y := nI np) (Eq.trans (I_ne (fx_ne fx (by decide))) (Eq.trans I_oL (Eq.trans (I_ne (fx_ne fx (by decide))) (Eq.trans I_oR (Eq.trans (I_ne (ad_dy fx (.inl (by decide)) (fx_z fx0))) (Eq.trans (I_ne (ad_dy fx (.inl (by decide)) (fx_z fx0))) (Eq.trans (nw_I (Nat.ne_of_lt ((ad_lt fx0 (.inl (by decide)))))) (Eq.trans (I_ne (fx_ne fx (by decide))) (Eq.trans (I_ne (fx_ne fx (by decide))) np3))))))))) ?_
              refine r_ic (x := 1) rfl rfl ?_
              refine r_iadd rfl ?_
              refine WR_tI (y := nI (np + 1)) (Eq.trans (nI_add np 1) (congrArg nI (by have := i_lt c8; have : (nI np).toInt = ((np : Nat) : Int) := nI_toInt (by omega); have : (60 : Int32).toInt = 60 := rfl; omega))) ?_
              refine r_putI rfl ⟨rfl, rfl, rfl⟩ (fx_t30 fx) ?_
              have fx : FX n ad sa z0 (sI (sI (sL (sI (sR (sI (sI (nw (sI (sI h (ad 0) 6 0) (ad 0) 5 (nI (np + 1))) 4 4 4) (hZ h) 0 (nI k5)) (hZ h) 1 (nI np)) (ad 1) k2 (some (hZ h))) (ad 37) np (nI k5)) (ad 38) np 0) (ad 31) k2 (nI (np + 1000))) (ad 30) 6 (nI (np + 1))) := (FX.sI fx)
              have tz0 : hT (sI (sI (sL (sI (sR (sI (sI (nw (sI (sI h (ad 0) 6 0) (ad 0) 5 (nI (np + 1))) 4 4 4) (hZ h) 0 (nI k5)) (hZ h) 1 (nI np)) (ad 1) k2 (some (hZ h))) (ad 37) np (nI k5)) (ad 38) np 0) (ad 31) k2 (nI (np + 1000))) (ad 30) 6 (nI (np + 1))) (hZ h) = 4 := (Eq.trans (congrFun hT_sI _) tz0)
              refine r_aload rfl rfl ?_
              refine r_aload rfl rfl ?_
              refine r_getI rfl ⟨rfl, rfl, rfl⟩ (fx_t30 fx) ?_
              refine WR_tI (y := nI (np + 1)) I_eq ?_
              refine r_ic (x := 1) rfl rfl ?_
              refine r_isub rfl ?_
              refine WR_tI (y := nI np) (Eq.trans (pk_sub (a := np + 1) (b := 1) (by have := i_lt c8; have : (nI np).toInt = ((np : Nat) : Int) := nI_toInt (by omega); have : (60 : Int32).toInt = 60 := rfl; omega)) (congrArg nI (by have := i_lt c8; have : (nI np).toInt = ((np : Nat) : Int) := nI_toInt (by omega); have : (60 : Int32).toInt = 60 := rfl; omega))) ?_
              refine r_cv (y := 154) (ra := [.int (nI np)]) (rest := []) rfl ⟨⟨rfl, rfl⟩, rfl, by decide⟩ (fx_t30 fx) rfl rfl (Nat.le_of_ble_eq_true rfl) ?_
              refine in_154 (Nat.le_of_ble_eq_true rfl) ?_
              show WR _ cd_154 0 [some (.ref (ad 30)), some (.int (nI np))] [] (sI (sI (sL (sI (sR (sI (sI (nw (sI (sI h (ad 0) 6 0) (ad 0) 5 (nI (np + 1))) 4 4 4) (hZ h) 0 (nI k5)) (hZ h) 1 (nI np)) (ad 1) k2 (some (hZ h))) (ad 37) np (nI k5)) (ad 38) np 0) (ad 31) k2 (nI (np + 1000))) (ad 30) 6 (nI (np + 1))) _
              refine r_aload rfl rfl ?_
              refine r_iload rfl rfl ?_
              refine r_ic (x := (-1)) rfl rfl ?_
              refine r_icmp_ge (tg := 10) rfl rfl (fun _ => ?_) (fun q => False.elim (by have := i_lt c8; have : (nI np).toInt = ((np : Nat) : Int) := nI_toInt (by omega); have : (60 : Int32).toInt = 60 := rfl; have : (-1 : Int32).toInt = -1 := rfl; have := i_nle q; omega))
              refine r_ic (x := 0) rfl rfl ?_
              refine r_putI rfl ⟨rfl, rfl, rfl⟩ (fx_t30 fx) ?_
              have fx : FX n ad sa z0 (sI (sI (sI (sL (sI (sR (sI (sI (nw (sI (sI h (ad 0) 6 0) (ad 0) 5 (nI (np + 1))) 4 4 4) (hZ h) 0 (nI k5)) (hZ h) 1 (nI np)) (ad 1) k2 (some (hZ h))) (ad 37) np (nI k5)) (ad 38) np 0) (ad 31) k2 (nI (np + 1000))) (ad 30) 6 (nI (np + 1))) (ad 30) 11 0) := (FX.sI fx)
              have tz0 : hT (sI (sI (sI (sL (sI (sR (sI (sI (nw (sI (sI h (ad 0) 6 0) (ad 0) 5 (nI (np + 1))) 4 4 4) (hZ h) 0 (nI k5)) (hZ h) 1 (nI np)) (ad 1) k2 (some (hZ h))) (ad 37) np (nI k5)) (ad 38) np 0) (ad 31) k2 (nI (np + 1000))) (ad 30) 6 (nI (np + 1))) (ad 30) 11 0) (hZ h) = 4 := (Eq.trans (congrFun hT_sI _) tz0)
              refine r_iload rfl rfl ?_
              refine r_iret rfl ?_
              show WR _ cd_162 103 [some (.ref (ad 30)), some (.int c), some (.int k)] [.int (nI np)] (sI (sI (sI (sL (sI (sR (sI (sI (nw (sI (sI h (ad 0) 6 0) (ad 0) 5 (nI (np + 1))) 4 4 4) (hZ h) 0 (nI k5)) (hZ h) 1 (nI np)) (ad 1) k2 (some (hZ h))) (ad 37) np (nI k5)) (ad 38) np 0) (ad 31) k2 (nI (np + 1000))) (ad 30) 6 (nI (np + 1))) (ad 30) 11 0) _
              refine r_iret rfl ?_
              have rs2 : Rs ad z0 mid (u1 pa np (hZ h)) (np + 1) (sI (sI (sI (sL (sI (sR (sI (sI (nw (sI (sI h (ad 0) 6 0) (ad 0) 5 (nI (np + 1))) 4 4 4) (hZ h) 0 (nI k5)) (hZ h) 1 (nI np)) (ad 1) k2 (some (hZ h))) (ad 37) np (nI k5)) (ad 38) np 0) (ad 31) k2 (nI (np + 1000))) (ad 30) 6 (nI (np + 1))) (ad 30) 11 0) := Rs.newpart fx0 rs (c := k2) (kd := k5) (by have := i_nlt c1; have := i_rg c; have : (0 : Int32).toInt = 0 := rfl; have := i_eq ek2; have : (nI k2).toInt = ((k2 : Nat) : Int) := nI_toInt (by omega); have := i_nle c3; have : (24 : Int32).toInt = 24 := rfl; omega) (by have := i_nlt c4; have := i_rg k; have : (0 : Int32).toInt = 0 := rfl; have := i_eq ek5; have : (nI k5).toInt = ((k5 : Nat) : Int) := nI_toInt (by omega); have := i_nlt c6; have : (7 : Int32).toInt = 7 := rfl; have := i_neq c7; omega) (by have := i_lt c8; have : (nI np).toInt = ((np : Nat) : Int) := nI_toInt (by omega); have : (60 : Int32).toInt = 60 := rfl; omega) (fun a_ ha_ lt_ => ⟨(Eq.trans (congrFun hT_sI _) (Eq.trans (congrFun hT_sI _) (Eq.trans (congrFun hT_sI _) (Eq.trans (congrFun hT_sL _) (Eq.trans (congrFun hT_sI _) (Eq.trans (congrFun hT_sR _) (Eq.trans (congrFun hT_sI _) (Eq.trans (congrFun hT_sI _) (Eq.trans (nw_T (t := _) (Nat.ne_of_lt lt_)) (Eq.trans (congrFun hT_sI _) (congrFun hT_sI _))))))))))), (Eq.trans (congrFun hN_sI _) (Eq.trans (congrFun hN_sI _) (Eq.trans (congrFun hN_sI _) (Eq.trans (congrFun hN_sL _) (Eq.trans (congrFun hN_sI _) (Eq.trans (congrFun hN_sR _) (Eq.trans (congrFun hN_sI _) (Eq.trans (congrFun hN_sI _) (Eq.trans (nw_N (t := _) (Nat.ne_of_lt lt_)) (Eq.trans (congrFun hN_sI _) (congrFun hN_sI _))))))))))), funext fun j_ => (Eq.trans (I_ne (dy_ad fx (.inl (by decide)) ha_)) (Eq.trans (I_ne (dy_ad fx (.inl (by decide)) ha_)) (Eq.trans (I_ne (dy_ad fx (.inl (by decide)) ha_)) (Eq.trans I_oL (Eq.trans (I_ne (dy_ad fx (.inl (by decide)) ha_)) (Eq.trans I_oR (Eq.trans (I_ne (Nat.ne_of_lt lt_)) (Eq.trans (I_ne (Nat.ne_of_lt lt_)) (Eq.trans (nw_I (Nat.ne_of_lt (lt_))) (Eq.trans (I_ne (dy_ad fx (.inl (by decide)) ha_)) (I_ne (dy_ad fx (.inl (by decide)) ha_)))))))))))), funext fun j_ => (Eq.trans L_oI (Eq.trans L_oI (Eq.trans L_oI (Eq.trans (L_ne (dy_ad fx (.inl (by decide)) ha_)) (Eq.trans L_oI (Eq.trans L_oR (Eq.trans L_oI (Eq.trans L_oI (Eq.trans (nw_L (Nat.ne_of_lt (lt_))) (Eq.trans L_oI L_oI)))))))))), funext fun j_ => (Eq.trans R_oI (Eq.trans R_oI (Eq.trans R_oI (Eq.trans R_oL (Eq.trans R_oI (Eq.trans (R_ne (dy_ad fx (.inl (by decide)) ha_)) (Eq.trans R_oI (Eq.trans R_oI (Eq.trans (nw_R (Nat.ne_of_lt (lt_))) (Eq.trans R_oI R_oI))))))))))⟩) tz0 (Eq.trans (I_ne (dy_ad fx (.inl (by decide)) (fx_z fx0))) (Eq.trans (I_ne (dy_ad fx (.inl (by decide)) (fx_z fx0))) (Eq.trans (I_ne (dy_ad fx (.inl (by decide)) (fx_z fx0))) (Eq.trans I_oL (Eq.trans (I_ne (dy_ad fx (.inl (by decide)) (fx_z fx0))) (Eq.trans I_oR (Eq.trans (I_nk (by decide)) I_eq))))))) (Eq.trans (I_ne (dy_ad fx (.inl (by decide)) (fx_z fx0))) (Eq.trans (I_ne (dy_ad fx (.inl (by decide)) (fx_z fx0))) (Eq.trans (I_ne (dy_ad fx (.inl (by decide)) (fx_z fx0))) (Eq.trans I_oL (Eq.trans (I_ne (dy_ad fx (.inl (by decide)) (fx_z fx0))) (Eq.trans I_oR I_eq)))))) (Eq.trans L_oI (Eq.trans L_oI (Eq.trans L_oI (Eq.trans (L_ne (dy_ad fx (.inl (by decide)) (fx_z fx0))) (Eq.trans L_oI (Eq.trans L_oR (Eq.trans L_oI (Eq.trans L_oI nw_L0)))))))) (fun t_ => ⟨(Eq.trans (I_ne (fx_ne fx (by decide))) (Eq.trans (I_ne (fx_ne fx (by decide))) (Eq.trans (I_ne (fx_ne fx (by decide))) (Eq.trans I_oL (Eq.trans (I_ne (fx_ne fx (by decide))) (Eq.trans I_oR (Eq.trans (I_ne (ad_dy fx (.inl (by decide)) (fx_z fx0))) (Eq.trans (I_ne (ad_dy fx (.inl (by decide)) (fx_z fx0))) (Eq.trans (nw_I (Nat.ne_of_lt ((ad_lt fx0 (.inl (by decide)))))) (Eq.trans (I_ne (fx_ne fx (by decide))) (I_ne (fx_ne fx (by decide))))))))))))), (Eq.trans (I_ne (fx_ne fx (by decide))) (Eq.trans (I_ne (fx_ne fx (by decide))) (Eq.trans (I_ne (fx_ne fx (by decide))) (Eq.trans I_oL (Eq.trans (I_ne (fx_ne fx (by decide))) (Eq.trans I_oR (Eq.trans (I_ne (ad_dy fx (.inl (by decide)) (fx_z fx0))) (Eq.trans (I_ne (ad_dy fx (.inl (by decide)) (fx_z fx0))) (Eq.trans (nw_I (Nat.ne_of_lt ((ad_lt fx0 (.inl (by decide)))))) (Eq.trans (I_ne (fx_ne fx (by decide))) (I_ne (fx_ne fx (by decide))))))))))))), (Eq.trans (I_ne (fx_ne fx (by decide))) (Eq.trans (I_ne (fx_ne fx (by decide))) (Eq.trans (I_ne (fx_ne fx (by decide))) (Eq.trans I_oL (Eq.trans (I_ne (fx_ne fx (by decide))) (Eq.trans I_oR (Eq.trans (I_ne (ad_dy fx (.inl (by decide)) (fx_z fx0))) (Eq.trans (I_ne (ad_dy fx (.inl (by decide)) (fx_z fx0))) (Eq.trans (nw_I (Nat.ne_of_lt ((ad_lt fx0 (.inl (by decide)))))) (Eq.trans (I_ne (fx_ne fx (by decide))) (I_ne (fx_ne fx (by decide))))))))))))), fun i_ _ => (Eq.trans L_oI (Eq.trans L_oI (Eq.trans L_oI (Eq.trans (L_ne (fx_ne fx (by decide))) (Eq.trans L_oI (Eq.trans L_oR (Eq.trans L_oI (Eq.trans L_oI (Eq.trans (nw_L (Nat.ne_of_lt ((ad_lt fx0 (.inl (by decide)))))) (Eq.trans L_oI L_oI))))))))))⟩) (Eq.trans (I_ne (fx_ne fx (by decide))) (Eq.trans (I_ne (fx_ne fx (by decide))) (Eq.trans (I_ne (fx_ne fx (by decide))) (Eq.trans I_oL (Eq.trans (I_ne (fx_ne fx (by decide))) (Eq.trans I_oR (Eq.trans (I_ne (ad_dy fx (.inl (by decide)) (fx_z fx0))) (Eq.trans (I_ne (ad_dy fx (.inl (by decide)) (fx_z fx0))) (Eq.trans (nw_I (Nat.ne_of_lt ((ad_lt fx0 (.inl (by decide)))))) I_eq))))))))) (Eq.trans (I_nk (by decide)) I_eq) (fun q_ nq_ => ⟨(Eq.trans (I_ne (fx_ne fx (by decide))) (Eq.trans (I_ne (fx_ne fx (by decide))) (Eq.trans (I_ne (fx_ne fx (by decide))) (Eq.trans I_oL (Eq.trans (I_nk (by have := i_lt c8; have : (nI np).toInt = ((np : Nat) : Int) := nI_toInt (by omega); have : (60 : Int32).toInt = 60 := rfl; have := nq_; omega)) (Eq.trans I_oR (Eq.trans (I_ne (ad_dy fx (.inl (by decide)) (fx_z fx0))) (Eq.trans (I_ne (ad_dy fx (.inl (by decide)) (fx_z fx0))) (Eq.trans (nw_I (Nat.ne_of_lt ((ad_lt fx0 (.inl (by decide)))))) (Eq.trans (I_ne (fx_ne fx (by decide))) (I_ne (fx_ne fx (by decide))))))))))))), (Eq.trans L_oI (Eq.trans L_oI (Eq.trans L_oI (Eq.trans (L_nk (by have := i_lt c8; have : (nI np).toInt = ((np : Nat) : Int) := nI_toInt (by omega); have : (60 : Int32).toInt = 60 := rfl; have := nq_; omega)) (Eq.trans L_oI (Eq.trans L_oR (Eq.trans L_oI (Eq.trans L_oI (Eq.trans (nw_L (Nat.ne_of_lt ((ad_lt fx0 (.inl (by decide)))))) (Eq.trans L_oI L_oI))))))))))⟩) (Eq.trans (I_ne (fx_ne fx (by decide))) (Eq.trans (I_ne (fx_ne fx (by decide))) (Eq.trans (I_ne (fx_ne fx (by decide))) (Eq.trans I_oL I_eq)))) (Eq.trans L_oI (Eq.trans L_oI (Eq.trans L_oI L_eq))) (fun c_ nc_ => ⟨(Eq.trans (I_ne (fx_ne fx (by decide))) (Eq.trans (I_ne (fx_ne fx (by decide))) (Eq.trans (I_nk (by have := i_nlt c1; have := i_rg c; have : (0 : Int32).toInt = 0 := rfl; have := i_eq ek2; have : (nI k2).toInt = ((k2 : Nat) : Int) := nI_toInt (by omega); have := i_nle c3; have : (24 : Int32).toInt = 24 := rfl; have := nc_; omega)) (Eq.trans I_oL (Eq.trans (I_ne (fx_ne fx (by decide))) (Eq.trans I_oR (Eq.trans (I_ne (ad_dy fx (.inl (by decide)) (fx_z fx0))) (Eq.trans (I_ne (ad_dy fx (.inl (by decide)) (fx_z fx0))) (Eq.trans (nw_I (Nat.ne_of_lt ((ad_lt fx0 (.inl (by decide)))))) (Eq.trans (I_ne (fx_ne fx (by decide))) (I_ne (fx_ne fx (by decide))))))))))))), (Eq.trans R_oI (Eq.trans R_oI (Eq.trans R_oI (Eq.trans R_oL (Eq.trans R_oI (Eq.trans (R_nk (by have := i_nlt c1; have := i_rg c; have : (0 : Int32).toInt = 0 := rfl; have := i_eq ek2; have : (nI k2).toInt = ((k2 : Nat) : Int) := nI_toInt (by omega); have := i_nle c3; have : (24 : Int32).toInt = 24 := rfl; have := nc_; omega)) (Eq.trans R_oI (Eq.trans R_oI (Eq.trans (nw_R (Nat.ne_of_lt ((ad_lt fx0 (.inl (by decide)))))) (Eq.trans R_oI R_oI))))))))))⟩) (Eq.trans (Eq.trans (I_ne (fx_ne fx (by decide))) (Eq.trans (I_ne (fx_ne fx (by decide))) I_eq)) (congrArg nI (Nat.add_comm _ _))) (Eq.trans R_oI (Eq.trans R_oI (Eq.trans R_oI (Eq.trans R_oL (Eq.trans R_oI R_eq))))) (hzO.sI (hzO.sI (hzO.sI (hzO.sL (hzO.sI (hzO.sR (hzO.sI (hzO.sI hz1))))))))
              have cf : Chf n ad [(0, 6), (0, 5), (30, 6), (30, 11)] [1, 37, 38, 31] h (sI (sI (sI (sL (sI (sR (sI (sI (nw (sI (sI h (ad 0) 6 0) (ad 0) 5 (nI (np + 1))) 4 4 4) (hZ h) 0 (nI k5)) (hZ h) 1 (nI np)) (ad 1) k2 (some (hZ h))) (ad 37) np (nI k5)) (ad 38) np 0) (ad 31) k2 (nI (np + 1000))) (ad 30) 6 (nI (np + 1))) (ad 30) 11 0) := fun i_ j_ hd_ hp_ hq_ => ⟨(Eq.trans (I_nx fx0 (i := 30) (fun z => hp_ (by rw [z.1, z.2]; decide))) (Eq.trans (I_nx fx0 (i := 30) (fun z => hp_ (by rw [z.1, z.2]; decide))) (Eq.trans (I_ne (fx_ne fx0 (fun z => hq_ (by rw [z]; decide)))) (Eq.trans I_oL (Eq.trans (I_ne (fx_ne fx0 (fun z => hq_ (by rw [z]; decide)))) (Eq.trans I_oR (Eq.trans (I_ne (ad_dy fx0 hd_ (fx_z fx0))) (Eq.trans (I_ne (ad_dy fx0 hd_ (fx_z fx0))) (Eq.trans (nw_I (Nat.ne_of_lt (ad_lt fx0 hd_))) (Eq.trans (I_nx fx0 (i := 0) (fun z => hp_ (by rw [z.1, z.2]; decide))) (I_nx fx0 (i := 0) (fun z => hp_ (by rw [z.1, z.2]; decide))))))))))))), (Eq.trans L_oI (Eq.trans L_oI (Eq.trans L_oI (Eq.trans (L_ne (fx_ne fx0 (fun z => hq_ (by rw [z]; decide)))) (Eq.trans L_oI (Eq.trans L_oR (Eq.trans L_oI (Eq.trans L_oI (Eq.trans (nw_L (Nat.ne_of_lt (ad_lt fx0 hd_))) (Eq.trans L_oI L_oI)))))))))), (Eq.trans D_oI (Eq.trans D_oI (Eq.trans D_oI (Eq.trans D_oL (Eq.trans D_oI (Eq.trans D_oR (Eq.trans D_oI (Eq.trans D_oI (Eq.trans (nw_D (Nat.ne_of_lt (ad_lt fx0 hd_))) (Eq.trans D_oI D_oI)))))))))), (Eq.trans R_oI (Eq.trans R_oI (Eq.trans R_oI (Eq.trans R_oL (Eq.trans R_oI (Eq.trans (R_ne (fx_ne fx0 (fun z => hq_ (by rw [z]; decide)))) (Eq.trans R_oI (Eq.trans R_oI (Eq.trans (nw_R (Nat.ne_of_lt (ad_lt fx0 hd_))) (Eq.trans R_oI R_oI))))))))))⟩
              refine ⟨rfl, ⟨mid, u1 pa np (hZ h), np + 1, fx, Eq.trans (Eq.trans (I_ne (fx_ne fx (by decide))) (Eq.trans (I_ne (fx_ne fx (by decide))) (Eq.trans (I_ne (fx_ne fx (by decide))) (Eq.trans I_oL (Eq.trans (I_ne (fx_ne fx (by decide))) (Eq.trans I_oR (Eq.trans (I_ne (ad_dy fx (.inl (by decide)) (fx_z fx0))) (Eq.trans (I_ne (ad_dy fx (.inl (by decide)) (fx_z fx0))) (Eq.trans (nw_I (Nat.ne_of_lt ((ad_lt fx0 (.inl (by decide)))))) (Eq.trans (I_nk (by decide)) I_eq)))))))))) (Eq.symm I_eq), rt.k cf (by decide), ra.k cf (by decide), rp.k cf (by decide), rf.k cf (by decide), fun j hj i hi => Eq.trans (Eq.trans (I_ne ((fx_lt fx0 (.inl (by decide))).2.2 j hj)) (Eq.trans (I_ne ((fx_lt fx0 (.inl (by decide))).2.2 j hj)) (Eq.trans (I_ne ((fx_lt fx0 (.inl (by decide))).2.2 j hj)) (Eq.trans I_oL (Eq.trans (I_ne ((fx_lt fx0 (.inl (by decide))).2.2 j hj)) (Eq.trans I_oR (Eq.trans (I_ne (Nat.ne_of_lt (hzO.lt hz0 (by rw [(fx_st fx0 j hj).2.1]; decide)))) (Eq.trans (I_ne (Nat.ne_of_lt (hzO.lt hz0 (by rw [(fx_st fx0 j hj).2.1]; decide)))) (Eq.trans (nw_I (Nat.ne_of_lt (hzO.lt hz0 (by rw [(fx_st fx0 j hj).2.1]; decide)))) (Eq.trans (I_ne ((fx_lt fx0 (.inl (by decide))).2.2 j hj)) (I_ne ((fx_lt fx0 (.inl (by decide))).2.2 j hj)))))))))))) (rst j hj i hi), Ru.mono (Ru.k fx0 ru cf (by decide)) (Nat.le_succ _) (fun q hq => by unfold u1; rw [if_neg (by omega)]), rs2⟩, ?_, ?_⟩
              · simp only [hZ_sI, hZ_sL, hZ_sD, hZ_sR, nw_Z]; omega
              · simp only [hU_sI, hU_sL, hU_sD, hU_sR, nw_U]; omega
            · refine r_aload rfl rfl ?_
              refine r_ic (x := (-5)) rfl rfl ?_
              refine r_cv (y := 13) (ra := [.int (-5)]) (rest := []) rfl ⟨⟨rfl, rfl⟩, rfl, by decide⟩ (fx_t0 fx) rfl rfl (Nat.le_of_ble_eq_true rfl) ?_
              refine in_13 (Nat.le_of_ble_eq_true rfl) ?_
              show WR _ cd_13 0 [some (.ref (ad 0)), some (.int (-5))] [] (sI h (ad 0) 6 0) _
              refine r_aload rfl rfl ?_
              refine r_iload rfl rfl ?_
              refine r_putI rfl ⟨rfl, rfl, rfl⟩ (fx_t0 fx) ?_
              refine r_iload rfl rfl ?_
              refine r_iret rfl ?_
              show WR _ cd_21 54 [some (.ref (ad 0)), some (.int c), some (.int k), none] [.int (-5)] (sI (sI h (ad 0) 6 0) (ad 0) 6 (-5)) _
              refine r_iret rfl ?_
              show EV _ 162 [.ref (ad 30), .int c, .int k] (sI (sI h (ad 0) 6 0) (ad 0) 6 (-5)) _
              refine in_162 (Nat.le_of_ble_eq_true rfl) ?_
              show WR _ cd_162 0 [some (.ref (ad 30)), some (.int c), some (.int k)] [] (sI (sI h (ad 0) 6 0) (ad 0) 6 (-5)) _
              refine r_iload rfl rfl ?_
              refine WR_tI (y := nI k2) ek2 ?_
              refine r_cs (y := 153) (ra := [.int (nI k2)]) (rest := []) rfl ⟨⟨rfl, rfl⟩, by decide⟩ rfl rfl (Nat.le_of_ble_eq_true rfl) ?_
              refine in_153 (Nat.le_of_ble_eq_true rfl) ?_
              show WR _ cd_153 0 [some (.int (nI k2))] [] (sI (sI h (ad 0) 6 0) (ad 0) 6 (-5)) _
              refine r_iload rfl rfl ?_
              refine r_if_lt (tg := 14) rfl rfl (fun q => False.elim (by have := i_nlt c1; have := i_rg c; have : (0 : Int32).toInt = 0 := rfl; have := i_eq ek2; have : (nI k2).toInt = ((k2 : Nat) : Int) := nI_toInt (by omega); have := i_nle c3; have : (24 : Int32).toInt = 24 := rfl; have := i_lt q; omega)) (fun _ => ?_)
              refine r_iload rfl rfl ?_
              refine r_ic (x := 24) rfl rfl ?_
              refine r_icmp_ge (tg := 14) rfl rfl (fun q => False.elim (by have := i_nlt c1; have := i_rg c; have : (0 : Int32).toInt = 0 := rfl; have := i_eq ek2; have : (nI k2).toInt = ((k2 : Nat) : Int) := nI_toInt (by omega); have := i_nle c3; have : (24 : Int32).toInt = 24 := rfl; have := i_le q; omega)) (fun _ => ?_)
              refine r_ic (x := 1) rfl rfl ?_
              refine r_goto (tg := 15) rfl rfl ?_
              refine r_zret rfl (.inr rfl) ?_
              show WR _ cd_162 4 [some (.ref (ad 30)), some (.int c), some (.int k)] [.int 1] (sI (sI h (ad 0) 6 0) (ad 0) 6 (-5)) _
              refine r_if_ne (tg := 14) rfl rfl (fun _ => ?_) (fun q => absurd q (by decide))
              refine r_iload rfl rfl ?_
              refine WR_tI (y := nI k5) ek5 ?_
              refine r_i2l rfl ?_
              refine WR_tL (y := lN k5) (nI_l (by have := i_nlt c4; have := i_rg k; have : (0 : Int32).toInt = 0 := rfl; have := i_eq ek5; have : (nI k5).toInt = ((k5 : Nat) : Int) := nI_toInt (by omega); have := i_nlt c6; have : (7 : Int32).toInt = 7 := rfl; have := i_neq c7; omega)) ?_
              refine r_lc (x := 0) rfl rfl ?_
              refine r_ldc (x := .long 6) rfl rfl ?_
              refine r_cs (y := 155) (ra := [.long 6, .long 0, .long (lN k5)]) (rest := []) rfl ⟨⟨rfl, rfl⟩, by decide⟩ rfl rfl (Nat.le_of_ble_eq_true rfl) ?_
              refine in_155 (Nat.le_of_ble_eq_true rfl) ?_
              show WR _ cd_155 0 [some (.long (lN k5)), none, some (.long 0), none, some (.long 6), none] [] (sI (sI h (ad 0) 6 0) (ad 0) 6 (-5)) _
              refine r_lload rfl rfl ?_
              refine r_lload rfl rfl ?_
              refine r_lif_lt (tg := 17) rfl rfl rfl (fun q => False.elim (by have := i_nlt c4; have := i_rg k; have : (0 : Int32).toInt = 0 := rfl; have := i_eq ek5; have : (nI k5).toInt = ((k5 : Nat) : Int) := nI_toInt (by omega); have := i_nlt c6; have : (7 : Int32).toInt = 7 := rfl; have := i_neq c7; have : (lN k5).toInt = ((k5 : Nat) : Int) := lN_toInt (by omega); have : (0 : Int64).toInt = 0 := rfl; have := l_lt q; omega)) (fun _ => ?_)
              refine r_lload rfl rfl ?_
              refine r_lload rfl rfl ?_
              refine r_lif_gt (tg := 17) rfl rfl rfl (fun q => False.elim (by have := i_nlt c4; have := i_rg k; have : (0 : Int32).toInt = 0 := rfl; have := i_eq ek5; have : (nI k5).toInt = ((k5 : Nat) : Int) := nI_toInt (by omega); have := i_nlt c6; have : (7 : Int32).toInt = 7 := rfl; have := i_neq c7; have : (lN k5).toInt = ((k5 : Nat) : Int) := lN_toInt (by omega); have : (6 : Int64).toInt = 6 := rfl; have := l_lt q; omega)) (fun _ => ?_)
              refine r_ic (x := 1) rfl rfl ?_
              refine r_goto (tg := 18) rfl rfl ?_
              refine r_zret rfl (.inr rfl) ?_
              show WR _ cd_162 23 [some (.ref (ad 30)), some (.int c), some (.int k)] [.int 1] (sI (sI h (ad 0) 6 0) (ad 0) 6 (-5)) _
              refine r_if_ne (tg := 33) rfl rfl (fun _ => ?_) (fun q => absurd q (by decide))
              refine r_aload rfl rfl ?_
              refine r_getI rfl ⟨rfl, rfl, rfl⟩ (fx_t30 fx) ?_
              refine WR_tI (y := nI np) (Eq.trans (I_ne (fx_ne fx (by decide))) (Eq.trans (I_ne (fx_ne fx (by decide))) np3)) ?_
              refine r_ic (x := 60) rfl rfl ?_
              refine r_icmp_ne (tg := 49) rfl rfl (fun q => False.elim (by have := i_nlt c8; have : (nI np).toInt = ((np : Nat) : Int) := nI_toInt (by omega); have : (60 : Int32).toInt = 60 := rfl; have := i_neq q; omega)) (fun _ => ?_)
              refine r_aload rfl rfl ?_
              refine r_ic (x := (-5)) rfl rfl ?_
              refine r_cv (y := 154) (ra := [.int (-5)]) (rest := []) rfl ⟨⟨rfl, rfl⟩, rfl, by decide⟩ (fx_t30 fx) rfl rfl (Nat.le_of_ble_eq_true rfl) ?_
              refine in_154 (Nat.le_of_ble_eq_true rfl) ?_
              show WR _ cd_154 0 [some (.ref (ad 30)), some (.int (-5))] [] (sI (sI h (ad 0) 6 0) (ad 0) 6 (-5)) _
              refine r_aload rfl rfl ?_
              refine r_iload rfl rfl ?_
              refine r_ic (x := (-1)) rfl rfl ?_
              refine r_icmp_ge (tg := 10) rfl rfl (fun q => absurd q (by decide)) (fun _ => ?_)
              refine r_iload rfl rfl ?_
              refine r_goto (tg := 11) rfl rfl ?_
              refine r_putI rfl ⟨rfl, rfl, rfl⟩ (fx_t30 fx) ?_
              refine r_iload rfl rfl ?_
              refine r_iret rfl ?_
              show WR _ cd_162 48 [some (.ref (ad 30)), some (.int c), some (.int k)] [.int (-5)] (sI (sI (sI h (ad 0) 6 0) (ad 0) 6 (-5)) (ad 30) 11 (-5)) _
              refine r_iret rfl ?_
              exact ⟨rfl, Rel.why r (((Chg.rf.sI (fx_j fx) (.inl (by decide))).sI (fx_j fx) (.inl (by decide))).sI (fx_j fx) (.inl (by decide))) ⟨rfl, by decide⟩ (Eq.trans (Eq.trans (I_ne (fx_ne fx (by decide))) I_eq) (Eq.symm I_eq)), Nat.le_add_right _ _, Nat.le_add_right _ _⟩
          · refine r_aload rfl rfl ?_
            refine r_ic (x := (-3)) rfl rfl ?_
            refine r_cv (y := 13) (ra := [.int (-3)]) (rest := []) rfl ⟨⟨rfl, rfl⟩, rfl, by decide⟩ (fx_t0 fx) rfl rfl (Nat.le_of_ble_eq_true rfl) ?_
            refine in_13 (Nat.le_of_ble_eq_true rfl) ?_
            show WR _ cd_13 0 [some (.ref (ad 0)), some (.int (-3))] [] (sI h (ad 0) 6 0) _
            refine r_aload rfl rfl ?_
            refine r_iload rfl rfl ?_
            refine r_putI rfl ⟨rfl, rfl, rfl⟩ (fx_t0 fx) ?_
            refine r_iload rfl rfl ?_
            refine r_iret rfl ?_
            show WR _ cd_21 38 [some (.ref (ad 0)), some (.int c), some (.int k), none] [.int (-3)] (sI (sI h (ad 0) 6 0) (ad 0) 6 (-3)) _
            refine r_iret rfl ?_
            show EV _ 162 [.ref (ad 30), .int c, .int k] (sI (sI h (ad 0) 6 0) (ad 0) 6 (-3)) _
            refine in_162 (Nat.le_of_ble_eq_true rfl) ?_
            show WR _ cd_162 0 [some (.ref (ad 30)), some (.int c), some (.int k)] [] (sI (sI h (ad 0) 6 0) (ad 0) 6 (-3)) _
            refine r_iload rfl rfl ?_
            refine WR_tI (y := nI k2) ek2 ?_
            refine r_cs (y := 153) (ra := [.int (nI k2)]) (rest := []) rfl ⟨⟨rfl, rfl⟩, by decide⟩ rfl rfl (Nat.le_of_ble_eq_true rfl) ?_
            refine in_153 (Nat.le_of_ble_eq_true rfl) ?_
            show WR _ cd_153 0 [some (.int (nI k2))] [] (sI (sI h (ad 0) 6 0) (ad 0) 6 (-3)) _
            refine r_iload rfl rfl ?_
            refine r_if_lt (tg := 14) rfl rfl (fun q => False.elim (by have := i_nlt c1; have := i_rg c; have : (0 : Int32).toInt = 0 := rfl; have := i_eq ek2; have : (nI k2).toInt = ((k2 : Nat) : Int) := nI_toInt (by omega); have := i_nle c3; have : (24 : Int32).toInt = 24 := rfl; have := i_lt q; omega)) (fun _ => ?_)
            refine r_iload rfl rfl ?_
            refine r_ic (x := 24) rfl rfl ?_
            refine r_icmp_ge (tg := 14) rfl rfl (fun q => False.elim (by have := i_nlt c1; have := i_rg c; have : (0 : Int32).toInt = 0 := rfl; have := i_eq ek2; have : (nI k2).toInt = ((k2 : Nat) : Int) := nI_toInt (by omega); have := i_nle c3; have : (24 : Int32).toInt = 24 := rfl; have := i_le q; omega)) (fun _ => ?_)
            refine r_ic (x := 1) rfl rfl ?_
            refine r_goto (tg := 15) rfl rfl ?_
            refine r_zret rfl (.inr rfl) ?_
            show WR _ cd_162 4 [some (.ref (ad 30)), some (.int c), some (.int k)] [.int 1] (sI (sI h (ad 0) 6 0) (ad 0) 6 (-3)) _
            refine r_if_ne (tg := 14) rfl rfl (fun _ => ?_) (fun q => absurd q (by decide))
            refine r_iload rfl rfl ?_
            refine WR_tI (y := nI k5) ek5 ?_
            refine r_i2l rfl ?_
            refine WR_tL (y := lN k5) (nI_l (by have := i_nlt c4; have := i_rg k; have : (0 : Int32).toInt = 0 := rfl; have := i_eq ek5; have : (nI k5).toInt = ((k5 : Nat) : Int) := nI_toInt (by omega); have := i_nlt c6; have : (7 : Int32).toInt = 7 := rfl; have := i_eq c7; omega)) ?_
            refine r_lc (x := 0) rfl rfl ?_
            refine r_ldc (x := .long 6) rfl rfl ?_
            refine r_cs (y := 155) (ra := [.long 6, .long 0, .long (lN k5)]) (rest := []) rfl ⟨⟨rfl, rfl⟩, by decide⟩ rfl rfl (Nat.le_of_ble_eq_true rfl) ?_
            refine in_155 (Nat.le_of_ble_eq_true rfl) ?_
            show WR _ cd_155 0 [some (.long (lN k5)), none, some (.long 0), none, some (.long 6), none] [] (sI (sI h (ad 0) 6 0) (ad 0) 6 (-3)) _
            refine r_lload rfl rfl ?_
            refine r_lload rfl rfl ?_
            refine r_lif_lt (tg := 17) rfl rfl rfl (fun q => False.elim (by have := i_nlt c4; have := i_rg k; have : (0 : Int32).toInt = 0 := rfl; have := i_eq ek5; have : (nI k5).toInt = ((k5 : Nat) : Int) := nI_toInt (by omega); have := i_nlt c6; have : (7 : Int32).toInt = 7 := rfl; have := i_eq c7; have : (lN k5).toInt = ((k5 : Nat) : Int) := lN_toInt (by omega); have : (0 : Int64).toInt = 0 := rfl; have := l_lt q; omega)) (fun _ => ?_)
            refine r_lload rfl rfl ?_
            refine r_lload rfl rfl ?_
            refine r_lif_gt (tg := 17) rfl rfl rfl (fun _ => ?_) (fun q => False.elim (by have := i_nlt c4; have := i_rg k; have : (0 : Int32).toInt = 0 := rfl; have := i_eq ek5; have : (nI k5).toInt = ((k5 : Nat) : Int) := nI_toInt (by omega); have := i_nlt c6; have : (7 : Int32).toInt = 7 := rfl; have := i_eq c7; have : (lN k5).toInt = ((k5 : Nat) : Int) := lN_toInt (by omega); have : (6 : Int64).toInt = 6 := rfl; have := l_nlt q; omega))
            refine r_ic (x := 0) rfl rfl ?_
            refine r_zret rfl (.inl rfl) ?_
            show WR _ cd_162 23 [some (.ref (ad 30)), some (.int c), some (.int k)] [.int 0] (sI (sI h (ad 0) 6 0) (ad 0) 6 (-3)) _
            refine r_if_ne (tg := 33) rfl rfl (fun q => absurd q (by decide)) (fun _ => ?_)
            refine r_aload rfl rfl ?_
            refine r_ic (x := (-3)) rfl rfl ?_
            refine r_cv (y := 154) (ra := [.int (-3)]) (rest := []) rfl ⟨⟨rfl, rfl⟩, rfl, by decide⟩ (fx_t30 fx) rfl rfl (Nat.le_of_ble_eq_true rfl) ?_
            refine in_154 (Nat.le_of_ble_eq_true rfl) ?_
            show WR _ cd_154 0 [some (.ref (ad 30)), some (.int (-3))] [] (sI (sI h (ad 0) 6 0) (ad 0) 6 (-3)) _
            refine r_aload rfl rfl ?_
            refine r_iload rfl rfl ?_
            refine r_ic (x := (-1)) rfl rfl ?_
            refine r_icmp_ge (tg := 10) rfl rfl (fun q => absurd q (by decide)) (fun _ => ?_)
            refine r_iload rfl rfl ?_
            refine r_goto (tg := 11) rfl rfl ?_
            refine r_putI rfl ⟨rfl, rfl, rfl⟩ (fx_t30 fx) ?_
            refine r_iload rfl rfl ?_
            refine r_iret rfl ?_
            show WR _ cd_162 32 [some (.ref (ad 30)), some (.int c), some (.int k)] [.int (-3)] (sI (sI (sI h (ad 0) 6 0) (ad 0) 6 (-3)) (ad 30) 11 (-3)) _
            refine r_iret rfl ?_
            exact ⟨rfl, Rel.why r (((Chg.rf.sI (fx_j fx) (.inl (by decide))).sI (fx_j fx) (.inl (by decide))).sI (fx_j fx) (.inl (by decide))) ⟨rfl, by decide⟩ (Eq.trans (Eq.trans (I_ne (fx_ne fx (by decide))) I_eq) (Eq.symm I_eq)), Nat.le_add_right _ _, Nat.le_add_right _ _⟩

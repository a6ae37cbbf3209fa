/-! ===== row and cradle; printed ===== -/
theorem canL_0 (ln : Nat) : canL ln 0 := ⟨fun _ => by decide, fun _ => .inr (by first | decide | (intro e; cases e) | (intro e; nomatch e))⟩
set_option maxHeartbeats 2000000 in
theorem k_row {n : Nat} {ad sa : Nat → Nat} {z0 : Nat} {h : mH} (r : Rel n ad sa z0 h) (c : Int32) (k : Int32) (m : Int32) : AP n ad sa z0 h 11 152 [.int c, .int k, .int m] := by
  obtain ⟨mid, pa, np, fx, ry, rt, ra, rp, rf, rst, ru, rs⟩ := id r
  have fx0 := fx
  obtain ⟨np1, np2, np3, -, -⟩ := id rs.1
  have hz0 : hzO h := rs.2.2.2
  unfold AP
  refine in_11 (Nat.le_of_ble_eq_true rfl) ?_
  show WR _ cd_11 0 [some (.ref (ad 0)), some (.int c), some (.int k), some (.int m)] [] h _
  refine r_aload rfl rfl ?_
  refine r_ic (x := 0) rfl rfl ?_
  refine r_putI rfl ⟨rfl, rfl, rfl⟩ (fx_t0 fx) ?_
  refine r_iload rfl rfl ?_
  refine r_cs (y := 12) (ra := [.int c]) (rest := []) rfl ⟨⟨rfl, rfl⟩, by decide⟩ rfl rfl (Nat.le_of_ble_eq_true rfl) ?_
  refine in_12 (Nat.le_of_ble_eq_true rfl) ?_
  show WR _ cd_12 0 [some (.int c)] [] (sI h (ad 0) 6 0) _
  refine r_iload rfl rfl ?_
  refine r_if_lt (tg := 14) rfl rfl (fun c1 => ?_) (fun c1 => ?_)
  · refine r_ic (x := 0) rfl rfl ?_
    refine r_zret rfl (.inl rfl) ?_
    show WR _ cd_11 9 [some (.ref (ad 0)), some (.int c), some (.int k), some (.int m)] [.int 0] (sI h (ad 0) 6 0) _
    refine r_if_ne (tg := 19) rfl rfl (fun q => absurd q (by decide)) (fun _ => ?_)
    refine r_aload rfl rfl ?_
    refine r_ic (x := (-2)) rfl rfl ?_
    refine r_cv (y := 13) (ra := [.int (-2)]) (rest := []) rfl ⟨⟨rfl, rfl⟩, rfl, by decide⟩ (fx_t0 fx) rfl rfl (Nat.le_of_ble_eq_true rfl) ?_
    refine in_13 (Nat.le_of_ble_eq_true rfl) ?_
    show WR _ cd_13 0 [some (.ref (ad 0)), some (.int (-2))] [] (sI h (ad 0) 6 0) _
    refine r_aload rfl rfl ?_
    refine r_iload rfl rfl ?_
    refine r_putI rfl ⟨rfl, rfl, rfl⟩ (fx_t0 fx) ?_
    refine r_iload rfl rfl ?_
    refine r_iret rfl ?_
    show WR _ cd_11 18 [some (.ref (ad 0)), some (.int c), some (.int k), some (.int m)] [.int (-2)] (sI (sI h (ad 0) 6 0) (ad 0) 6 (-2)) _
    refine r_iret rfl ?_
    show EV _ 152 [.ref (ad 30), .int c, .int k, .int m] (sI (sI h (ad 0) 6 0) (ad 0) 6 (-2)) _
    refine in_152 (Nat.le_of_ble_eq_true rfl) ?_
    show WR _ cd_152 0 [some (.ref (ad 30)), some (.int c), some (.int k), some (.int m)] [] (sI (sI h (ad 0) 6 0) (ad 0) 6 (-2)) _
    refine r_iload rfl rfl ?_
    refine r_cs (y := 153) (ra := [.int c]) (rest := []) rfl ⟨⟨rfl, rfl⟩, by decide⟩ rfl rfl (Nat.le_of_ble_eq_true rfl) ?_
    refine in_153 (Nat.le_of_ble_eq_true rfl) ?_
    show WR _ cd_153 0 [some (.int c)] [] (sI (sI h (ad 0) 6 0) (ad 0) 6 (-2)) _
    refine r_iload rfl rfl ?_
    refine r_if_lt (tg := 14) rfl rfl (fun _ => ?_) (fun q => False.elim (by have := i_lt c1; have := i_rg c; have : (0 : Int32).toInt = 0 := rfl; have := i_nlt q; omega))
    refine r_ic (x := 0) rfl rfl ?_
    refine r_zret rfl (.inl rfl) ?_
    show WR _ cd_152 4 [some (.ref (ad 30)), some (.int c), some (.int k), some (.int m)] [.int 0] (sI (sI h (ad 0) 6 0) (ad 0) 6 (-2)) _
    refine r_if_ne (tg := 14) rfl rfl (fun q => absurd q (by decide)) (fun _ => ?_)
    refine r_aload rfl rfl ?_
    refine r_ic (x := (-2)) rfl rfl ?_
    refine r_cv (y := 154) (ra := [.int (-2)]) (rest := []) rfl ⟨⟨rfl, rfl⟩, rfl, by decide⟩ (fx_t30 fx) rfl rfl (Nat.le_of_ble_eq_true rfl) ?_
    refine in_154 (Nat.le_of_ble_eq_true rfl) ?_
    show WR _ cd_154 0 [some (.ref (ad 30)), some (.int (-2))] [] (sI (sI h (ad 0) 6 0) (ad 0) 6 (-2)) _
    refine r_aload rfl rfl ?_
    refine r_iload rfl rfl ?_
    refine r_ic (x := (-1)) rfl rfl ?_
    refine r_icmp_ge (tg := 10) rfl rfl (fun q => absurd q (by decide)) (fun _ => ?_)
    refine r_iload rfl rfl ?_
    refine r_goto (tg := 11) rfl rfl ?_
    refine r_putI rfl ⟨rfl, rfl, rfl⟩ (fx_t30 fx) ?_
    refine r_iload rfl rfl ?_
    refine r_iret rfl ?_
    show WR _ cd_152 13 [some (.ref (ad 30)), some (.int c), some (.int k), some (.int m)] [.int (-2)] (sI (sI (sI h (ad 0) 6 0) (ad 0) 6 (-2)) (ad 30) 11 (-2)) _
    refine r_iret rfl ?_
    exact ⟨rfl, Rel.why r (((Chg.rf.sI (fx_j fx) (.inl (by decide))).sI (fx_j fx) (.inl (by decide))).sI (fx_j fx) (.inl (by decide))) ⟨rfl, by decide⟩ (Eq.trans (Eq.trans (I_ne (fx_ne fx (by decide))) I_eq) (Eq.symm I_eq)), Nat.le_add_right _ _, Nat.le_add_right _ _⟩
  · obtain ⟨k2, hk2, ek2⟩ := ix_of (x := c) (n := 2147483648) (by have := i_nlt c1; have := i_rg c; have : (0 : Int32).toInt = 0 := rfl; omega) (by have := i_nlt c1; have := i_rg c; have : (0 : Int32).toInt = 0 := rfl; omega)
    refine r_iload rfl rfl ?_
    refine WR_tI (y := nI k2) ek2 ?_
    refine r_ic (x := 24) rfl rfl ?_
    refine r_icmp_ge (tg := 14) rfl rfl (fun c3 => ?_) (fun c3 => ?_)
    · refine r_ic (x := 0) rfl rfl ?_
      refine r_zret rfl (.inl rfl) ?_
      show WR _ cd_11 9 [some (.ref (ad 0)), some (.int c), some (.int k), some (.int m)] [.int 0] (sI h (ad 0) 6 0) _
      refine r_if_ne (tg := 19) rfl rfl (fun q => absurd q (by decide)) (fun _ => ?_)
      refine r_aload rfl rfl ?_
      refine r_ic (x := (-2)) rfl rfl ?_
      refine r_cv (y := 13) (ra := [.int (-2)]) (rest := []) rfl ⟨⟨rfl, rfl⟩, rfl, by decide⟩ (fx_t0 fx) rfl rfl (Nat.le_of_ble_eq_true rfl) ?_
      refine in_13 (Nat.le_of_ble_eq_true rfl) ?_
      show WR _ cd_13 0 [some (.ref (ad 0)), some (.int (-2))] [] (sI h (ad 0) 6 0) _
      refine r_aload rfl rfl ?_
      refine r_iload rfl rfl ?_
      refine r_putI rfl ⟨rfl, rfl, rfl⟩ (fx_t0 fx) ?_
      refine r_iload rfl rfl ?_
      refine r_iret rfl ?_
      show WR _ cd_11 18 [some (.ref (ad 0)), some (.int c), some (.int k), some (.int m)] [.int (-2)] (sI (sI h (ad 0) 6 0) (ad 0) 6 (-2)) _
      refine r_iret rfl ?_
      show EV _ 152 [.ref (ad 30), .int c, .int k, .int m] (sI (sI h (ad 0) 6 0) (ad 0) 6 (-2)) _
      refine in_152 (Nat.le_of_ble_eq_true rfl) ?_
      show WR _ cd_152 0 [some (.ref (ad 30)), some (.int c), some (.int k), some (.int m)] [] (sI (sI h (ad 0) 6 0) (ad 0) 6 (-2)) _
      refine r_iload rfl rfl ?_
      refine WR_tI (y := nI k2) ek2 ?_
      refine r_cs (y := 153) (ra := [.int (nI k2)]) (rest := []) rfl ⟨⟨rfl, rfl⟩, by decide⟩ rfl rfl (Nat.le_of_ble_eq_true rfl) ?_
      refine in_153 (Nat.le_of_ble_eq_true rfl) ?_
      show WR _ cd_153 0 [some (.int (nI k2))] [] (sI (sI h (ad 0) 6 0) (ad 0) 6 (-2)) _
      refine r_iload rfl rfl ?_
      refine r_if_lt (tg := 14) rfl rfl (fun q => False.elim (by have := i_nlt c1; have := i_rg c; have : (0 : Int32).toInt = 0 := rfl; have := i_eq ek2; have : (nI k2).toInt = ((k2 : Nat) : Int) := nI_toInt (by omega); have := i_le c3; have : (24 : Int32).toInt = 24 := rfl; have := i_lt q; omega)) (fun _ => ?_)
      refine r_iload rfl rfl ?_
      refine r_ic (x := 24) rfl rfl ?_
      refine r_icmp_ge (tg := 14) rfl rfl (fun _ => ?_) (fun q => False.elim (by have := i_nlt c1; have := i_rg c; have : (0 : Int32).toInt = 0 := rfl; have := i_eq ek2; have : (nI k2).toInt = ((k2 : Nat) : Int) := nI_toInt (by omega); have := i_le c3; have : (24 : Int32).toInt = 24 := rfl; have := i_nle q; omega))
      refine r_ic (x := 0) rfl rfl ?_
      refine r_zret rfl (.inl rfl) ?_
      show WR _ cd_152 4 [some (.ref (ad 30)), some (.int c), some (.int k), some (.int m)] [.int 0] (sI (sI h (ad 0) 6 0) (ad 0) 6 (-2)) _
      refine r_if_ne (tg := 14) rfl rfl (fun q => absurd q (by decide)) (fun _ => ?_)
      refine r_aload rfl rfl ?_
      refine r_ic (x := (-2)) rfl rfl ?_
      refine r_cv (y := 154) (ra := [.int (-2)]) (rest := []) rfl ⟨⟨rfl, rfl⟩, rfl, by decide⟩ (fx_t30 fx) rfl rfl (Nat.le_of_ble_eq_true rfl) ?_
      refine in_154 (Nat.le_of_ble_eq_true rfl) ?_
      show WR _ cd_154 0 [some (.ref (ad 30)), some (.int (-2))] [] (sI (sI h (ad 0) 6 0) (ad 0) 6 (-2)) _
      refine r_aload rfl rfl ?_
      refine r_iload rfl rfl ?_
      refine r_ic (x := (-1)) rfl rfl ?_
      refine r_icmp_ge (tg := 10) rfl rfl (fun q => absurd q (by decide)) (fun _ => ?_)
      refine r_iload rfl rfl ?_
      refine r_goto (tg := 11) rfl rfl ?_
      refine r_putI rfl ⟨rfl, rfl, rfl⟩ (fx_t30 fx) ?_
      refine r_iload rfl rfl ?_
      refine r_iret rfl ?_
      show WR _ cd_152 13 [some (.ref (ad 30)), some (.int c), some (.int k), some (.int m)] [.int (-2)] (sI (sI (sI h (ad 0) 6 0) (ad 0) 6 (-2)) (ad 30) 11 (-2)) _
      refine r_iret rfl ?_
      exact ⟨rfl, Rel.why r (((Chg.rf.sI (fx_j fx) (.inl (by decide))).sI (fx_j fx) (.inl (by decide))).sI (fx_j fx) (.inl (by decide))) ⟨rfl, by decide⟩ (Eq.trans (Eq.trans (I_ne (fx_ne fx (by decide))) I_eq) (Eq.symm I_eq)), Nat.le_add_right _ _, Nat.le_add_right _ _⟩
    · refine r_ic (x := 1) rfl rfl ?_
      refine r_goto (tg := 15) rfl rfl ?_
      refine r_zret rfl (.inr rfl) ?_
      show WR _ cd_11 9 [some (.ref (ad 0)), some (.int c), some (.int k), some (.int m)] [.int 1] (sI h (ad 0) 6 0) _
      refine r_if_ne (tg := 19) rfl rfl (fun _ => ?_) (fun q => absurd q (by decide))
      refine r_iload rfl rfl ?_
      refine r_cs (y := 14) (ra := [.int k]) (rest := []) rfl ⟨⟨rfl, rfl⟩, by decide⟩ rfl rfl (Nat.le_of_ble_eq_true rfl) ?_
      refine in_14 (Nat.le_of_ble_eq_true rfl) ?_
      show WR _ cd_14 0 [some (.int k)] [] (sI h (ad 0) 6 0) _
      refine r_iload rfl rfl ?_
      refine r_if_lt (tg := 14) rfl rfl (fun c4 => ?_) (fun c4 => ?_)
      · refine r_ic (x := 0) rfl rfl ?_
        refine r_zret rfl (.inl rfl) ?_
        show WR _ cd_11 23 [some (.ref (ad 0)), some (.int c), some (.int k), some (.int m)] [.int 0] (sI h (ad 0) 6 0) _
        refine r_if_eq (tg := 32) rfl rfl (fun _ => ?_) (fun q => absurd q (by decide))
        refine r_aload rfl rfl ?_
        refine r_ic (x := (-3)) rfl rfl ?_
        refine r_cv (y := 13) (ra := [.int (-3)]) (rest := []) rfl ⟨⟨rfl, rfl⟩, rfl, by decide⟩ (fx_t0 fx) rfl rfl (Nat.le_of_ble_eq_true rfl) ?_
        refine in_13 (Nat.le_of_ble_eq_true rfl) ?_
        show WR _ cd_13 0 [some (.ref (ad 0)), some (.int (-3))] [] (sI h (ad 0) 6 0) _
        refine r_aload rfl rfl ?_
        refine r_iload rfl rfl ?_
        refine r_putI rfl ⟨rfl, rfl, rfl⟩ (fx_t0 fx) ?_
        refine r_iload rfl rfl ?_
        refine r_iret rfl ?_
        show WR _ cd_11 38 [some (.ref (ad 0)), some (.int c), some (.int k), some (.int m)] [.int (-3)] (sI (sI h (ad 0) 6 0) (ad 0) 6 (-3)) _
        refine r_iret rfl ?_
        show EV _ 152 [.ref (ad 30), .int c, .int k, .int m] (sI (sI h (ad 0) 6 0) (ad 0) 6 (-3)) _
        refine in_152 (Nat.le_of_ble_eq_true rfl) ?_
        show WR _ cd_152 0 [some (.ref (ad 30)), some (.int c), some (.int k), some (.int m)] [] (sI (sI h (ad 0) 6 0) (ad 0) 6 (-3)) _
        refine r_iload rfl rfl ?_
        refine WR_tI (y := nI k2) ek2 ?_
        refine r_cs (y := 153) (ra := [.int (nI k2)]) (rest := []) rfl ⟨⟨rfl, rfl⟩, by decide⟩ rfl rfl (Nat.le_of_ble_eq_true rfl) ?_
        refine in_153 (Nat.le_of_ble_eq_true rfl) ?_
        show WR _ cd_153 0 [some (.int (nI k2))] [] (sI (sI h (ad 0) 6 0) (ad 0) 6 (-3)) _
        refine r_iload rfl rfl ?_
        refine r_if_lt (tg := 14) rfl rfl (fun q => False.elim (by have := i_nlt c1; have := i_rg c; have : (0 : Int32).toInt = 0 := rfl; have := i_eq ek2; have : (nI k2).toInt = ((k2 : Nat) : Int) := nI_toInt (by omega); have := i_nle c3; have : (24 : Int32).toInt = 24 := rfl; have := i_lt q; omega)) (fun _ => ?_)
        refine r_iload rfl rfl ?_
        refine r_ic (x := 24) rfl rfl ?_
        refine r_icmp_ge (tg := 14) rfl rfl (fun q => False.elim (by have := i_nlt c1; have := i_rg c; have : (0 : Int32).toInt = 0 := rfl; have := i_eq ek2; have : (nI k2).toInt = ((k2 : Nat) : Int) := nI_toInt (by omega); have := i_nle c3; have : (24 : Int32).toInt = 24 := rfl; have := i_le q; omega)) (fun _ => ?_)
        refine r_ic (x := 1) rfl rfl ?_
        refine r_goto (tg := 15) rfl rfl ?_
        refine r_zret rfl (.inr rfl) ?_
        show WR _ cd_152 4 [some (.ref (ad 30)), some (.int c), some (.int k), some (.int m)] [.int 1] (sI (sI h (ad 0) 6 0) (ad 0) 6 (-3)) _
        refine r_if_ne (tg := 14) rfl rfl (fun _ => ?_) (fun q => absurd q (by decide))
        refine r_iload rfl rfl ?_
        refine r_i2l rfl ?_
        refine r_lc (x := 0) rfl rfl ?_
        refine r_ldc (x := .long 7) rfl rfl ?_
        refine r_cs (y := 155) (ra := [.long 7, .long 0, .long k.toInt64]) (rest := []) rfl ⟨⟨rfl, rfl⟩, by decide⟩ rfl rfl (Nat.le_of_ble_eq_true rfl) ?_
        refine in_155 (Nat.le_of_ble_eq_true rfl) ?_
        show WR _ cd_155 0 [some (.long k.toInt64), none, some (.long 0), none, some (.long 7), none] [] (sI (sI h (ad 0) 6 0) (ad 0) 6 (-3)) _
        refine r_lload rfl rfl ?_
        refine r_lload rfl rfl ?_
        refine r_lif_lt (tg := 17) rfl rfl rfl (fun _ => ?_) (fun q => False.elim (by have := i_lt c4; have := i_rg k; have : (0 : Int32).toInt = 0 := rfl; have := w_t k; have : (0 : Int64).toInt = 0 := rfl; have := l_nlt q; omega))
        refine r_ic (x := 0) rfl rfl ?_
        refine r_zret rfl (.inl rfl) ?_
        show WR _ cd_152 23 [some (.ref (ad 30)), some (.int c), some (.int k), some (.int m)] [.int 0] (sI (sI h (ad 0) 6 0) (ad 0) 6 (-3)) _
        refine r_if_eq (tg := 32) rfl rfl (fun _ => ?_) (fun q => absurd q (by decide))
        refine r_aload rfl rfl ?_
        refine r_ic (x := (-3)) rfl rfl ?_
        refine r_cv (y := 154) (ra := [.int (-3)]) (rest := []) rfl ⟨⟨rfl, rfl⟩, rfl, by decide⟩ (fx_t30 fx) rfl rfl (Nat.le_of_ble_eq_true rfl) ?_
        refine in_154 (Nat.le_of_ble_eq_true rfl) ?_
        show WR _ cd_154 0 [some (.ref (ad 30)), some (.int (-3))] [] (sI (sI h (ad 0) 6 0) (ad 0) 6 (-3)) _
        refine r_aload rfl rfl ?_
        refine r_iload rfl rfl ?_
        refine r_ic (x := (-1)) rfl rfl ?_
        refine r_icmp_ge (tg := 10) rfl rfl (fun q => absurd q (by decide)) (fun _ => ?_)
        refine r_iload rfl rfl ?_
        refine r_goto (tg := 11) rfl rfl ?_
        refine r_putI rfl ⟨rfl, rfl, rfl⟩ (fx_t30 fx) ?_
        refine r_iload rfl rfl ?_
        refine r_iret rfl ?_
        show WR _ cd_152 38 [some (.ref (ad 30)), some (.int c), some (.int k), some (.int m)] [.int (-3)] (sI (sI (sI h (ad 0) 6 0) (ad 0) 6 (-3)) (ad 30) 11 (-3)) _
        refine r_iret rfl ?_
        exact ⟨rfl, Rel.why r (((Chg.rf.sI (fx_j fx) (.inl (by decide))).sI (fx_j fx) (.inl (by decide))).sI (fx_j fx) (.inl (by decide))) ⟨rfl, by decide⟩ (Eq.trans (Eq.trans (I_ne (fx_ne fx (by decide))) I_eq) (Eq.symm I_eq)), Nat.le_add_right _ _, Nat.le_add_right _ _⟩
      · obtain ⟨k5, hk5, ek5⟩ := ix_of (x := k) (n := 2147483648) (by have := i_nlt c4; have := i_rg k; have : (0 : Int32).toInt = 0 := rfl; omega) (by have := i_nlt c4; have := i_rg k; have : (0 : Int32).toInt = 0 := rfl; omega)
        refine r_iload rfl rfl ?_
        refine WR_tI (y := nI k5) ek5 ?_
        refine r_ic (x := 8) rfl rfl ?_
        refine r_icmp_ge (tg := 14) rfl rfl (fun c6 => ?_) (fun c6 => ?_)
        · refine r_ic (x := 0) rfl rfl ?_
          refine r_zret rfl (.inl rfl) ?_
          show WR _ cd_11 23 [some (.ref (ad 0)), some (.int c), some (.int k), some (.int m)] [.int 0] (sI h (ad 0) 6 0) _
          refine r_if_eq (tg := 32) rfl rfl (fun _ => ?_) (fun q => absurd q (by decide))
          refine r_aload rfl rfl ?_
          refine r_ic (x := (-3)) rfl rfl ?_
          refine r_cv (y := 13) (ra := [.int (-3)]) (rest := []) rfl ⟨⟨rfl, rfl⟩, rfl, by decide⟩ (fx_t0 fx) rfl rfl (Nat.le_of_ble_eq_true rfl) ?_
          refine in_13 (Nat.le_of_ble_eq_true rfl) ?_
          show WR _ cd_13 0 [some (.ref (ad 0)), some (.int (-3))] [] (sI h (ad 0) 6 0) _
          refine r_aload rfl rfl ?_
          refine r_iload rfl rfl ?_
          refine r_putI rfl ⟨rfl, rfl, rfl⟩ (fx_t0 fx) ?_
          refine r_iload rfl rfl ?_
          refine r_iret rfl ?_
          show WR _ cd_11 38 [some (.ref (ad 0)), some (.int c), some (.int k), some (.int m)] [.int (-3)] (sI (sI h (ad 0) 6 0) (ad 0) 6 (-3)) _
          refine r_iret rfl ?_
          show EV _ 152 [.ref (ad 30), .int c, .int k, .int m] (sI (sI h (ad 0) 6 0) (ad 0) 6 (-3)) _
          refine in_152 (Nat.le_of_ble_eq_true rfl) ?_
          show WR _ cd_152 0 [some (.ref (ad 30)), some (.int c), some (.int k), some (.int m)] [] (sI (sI h (ad 0) 6 0) (ad 0) 6 (-3)) _
          refine r_iload rfl rfl ?_
          refine WR_tI (y := nI k2) ek2 ?_
          refine r_cs (y := 153) (ra := [.int (nI k2)]) (rest := []) rfl ⟨⟨rfl, rfl⟩, by decide⟩ rfl rfl (Nat.le_of_ble_eq_true rfl) ?_
          refine in_153 (Nat.le_of_ble_eq_true rfl) ?_
          show WR _ cd_153 0 [some (.int (nI k2))] [] (sI (sI h (ad 0) 6 0) (ad 0) 6 (-3)) _
          refine r_iload rfl rfl ?_
          refine r_if_lt (tg := 14) rfl rfl (fun q => False.elim (by have := i_nlt c1; have := i_rg c; have : (0 : Int32).toInt = 0 := rfl; have := i_eq ek2; have : (nI k2).toInt = ((k2 : Nat) : Int) := nI_toInt (by omega); have := i_nle c3; have : (24 : Int32).toInt = 24 := rfl; have := i_lt q; omega)) (fun _ => ?_)
          refine r_iload rfl rfl ?_
          refine r_ic (x := 24) rfl rfl ?_
          refine r_icmp_ge (tg := 14) rfl rfl (fun q => False.elim (by have := i_nlt c1; have := i_rg c; have : (0 : Int32).toInt = 0 := rfl; have := i_eq ek2; have : (nI k2).toInt = ((k2 : Nat) : Int) := nI_toInt (by omega); have := i_nle c3; have : (24 : Int32).toInt = 24 := rfl; have := i_le q; omega)) (fun _ => ?_)
          refine r_ic (x := 1) rfl rfl ?_
          refine r_goto (tg := 15) rfl rfl ?_
          refine r_zret rfl (.inr rfl) ?_
          show WR _ cd_152 4 [some (.ref (ad 30)), some (.int c), some (.int k), some (.int m)] [.int 1] (sI (sI h (ad 0) 6 0) (ad 0) 6 (-3)) _
          refine r_if_ne (tg := 14) rfl rfl (fun _ => ?_) (fun q => absurd q (by decide))
          refine r_iload rfl rfl ?_
          refine WR_tI (y := nI k5) ek5 ?_
          refine r_i2l rfl ?_
          refine WR_tL (y := lN k5) (nI_l (by have := i_nlt c4; have := i_rg k; have : (0 : Int32).toInt = 0 := rfl; have := i_eq ek5; have : (nI k5).toInt = ((k5 : Nat) : Int) := nI_toInt (by omega); have := i_le c6; have : (8 : Int32).toInt = 8 := rfl; omega)) ?_
          refine r_lc (x := 0) rfl rfl ?_
          refine r_ldc (x := .long 7) rfl rfl ?_
          refine r_cs (y := 155) (ra := [.long 7, .long 0, .long (lN k5)]) (rest := []) rfl ⟨⟨rfl, rfl⟩, by decide⟩ rfl rfl (Nat.le_of_ble_eq_true rfl) ?_
          refine in_155 (Nat.le_of_ble_eq_true rfl) ?_
          show WR _ cd_155 0 [some (.long (lN k5)), none, some (.long 0), none, some (.long 7), none] [] (sI (sI h (ad 0) 6 0) (ad 0) 6 (-3)) _
          refine r_lload rfl rfl ?_
          refine r_lload rfl rfl ?_
          refine r_lif_lt (tg := 17) rfl rfl rfl (fun q => False.elim (by have := i_nlt c4; have := i_rg k; have : (0 : Int32).toInt = 0 := rfl; have := i_eq ek5; have : (nI k5).toInt = ((k5 : Nat) : Int) := nI_toInt (by omega); have := i_le c6; have : (8 : Int32).toInt = 8 := rfl; have : (lN k5).toInt = ((k5 : Nat) : Int) := lN_toInt (by omega); have : (0 : Int64).toInt = 0 := rfl; have := l_lt q; omega)) (fun _ => ?_)
          refine r_lload rfl rfl ?_
          refine r_lload rfl rfl ?_
          refine r_lif_gt (tg := 17) rfl rfl rfl (fun _ => ?_) (fun q => False.elim (by have := i_nlt c4; have := i_rg k; have : (0 : Int32).toInt = 0 := rfl; have := i_eq ek5; have : (nI k5).toInt = ((k5 : Nat) : Int) := nI_toInt (by omega); have := i_le c6; have : (8 : Int32).toInt = 8 := rfl; have : (lN k5).toInt = ((k5 : Nat) : Int) := lN_toInt (by omega); have : (7 : Int64).toInt = 7 := rfl; have := l_nlt q; omega))
          refine r_ic (x := 0) rfl rfl ?_
          refine r_zret rfl (.inl rfl) ?_
          show WR _ cd_152 23 [some (.ref (ad 30)), some (.int c), some (.int k), some (.int m)] [.int 0] (sI (sI h (ad 0) 6 0) (ad 0) 6 (-3)) _
          refine r_if_eq (tg := 32) rfl rfl (fun _ => ?_) (fun q => absurd q (by decide))
          refine r_aload rfl rfl ?_
          refine r_ic (x := (-3)) rfl rfl ?_
          refine r_cv (y := 154) (ra := [.int (-3)]) (rest := []) rfl ⟨⟨rfl, rfl⟩, rfl, by decide⟩ (fx_t30 fx) rfl rfl (Nat.le_of_ble_eq_true rfl) ?_
          refine in_154 (Nat.le_of_ble_eq_true rfl) ?_
          show WR _ cd_154 0 [some (.ref (ad 30)), some (.int (-3))] [] (sI (sI h (ad 0) 6 0) (ad 0) 6 (-3)) _
          refine r_aload rfl rfl ?_
          refine r_iload rfl rfl ?_
          refine r_ic (x := (-1)) rfl rfl ?_
          refine r_icmp_ge (tg := 10) rfl rfl (fun q => absurd q (by decide)) (fun _ => ?_)
          refine r_iload rfl rfl ?_
          refine r_goto (tg := 11) rfl rfl ?_
          refine r_putI rfl ⟨rfl, rfl, rfl⟩ (fx_t30 fx) ?_
          refine r_iload rfl rfl ?_
          refine r_iret rfl ?_
          show WR _ cd_152 38 [some (.ref (ad 30)), some (.int c), some (.int k), some (.int m)] [.int (-3)] (sI (sI (sI h (ad 0) 6 0) (ad 0) 6 (-3)) (ad 30) 11 (-3)) _
          refine r_iret rfl ?_
          exact ⟨rfl, Rel.why r (((Chg.rf.sI (fx_j fx) (.inl (by decide))).sI (fx_j fx) (.inl (by decide))).sI (fx_j fx) (.inl (by decide))) ⟨rfl, by decide⟩ (Eq.trans (Eq.trans (I_ne (fx_ne fx (by decide))) I_eq) (Eq.symm I_eq)), Nat.le_add_right _ _, Nat.le_add_right _ _⟩
        · refine r_ic (x := 1) rfl rfl ?_
          refine r_goto (tg := 15) rfl rfl ?_
          refine r_zret rfl (.inr rfl) ?_
          show WR _ cd_11 23 [some (.ref (ad 0)), some (.int c), some (.int k), some (.int m)] [.int 1] (sI h (ad 0) 6 0) _
          refine r_if_eq (tg := 32) rfl rfl (fun q => absurd q (by decide)) (fun _ => ?_)
          refine r_iload rfl rfl ?_
          refine r_ic (x := 30) rfl rfl ?_
          refine r_icmp_le (tg := 39) rfl rfl (fun c7 => ?_) (fun c7 => ?_)
          · refine r_iload rfl rfl ?_
            refine r_if_ge (tg := 50) rfl rfl (fun c8 => ?_) (fun c8 => ?_)
            · refine r_aload rfl rfl ?_
              refine r_getA (b := ad 1) rfl ⟨rfl, rfl, rfl⟩ (fx_t0 fx) (fx_r0_0 fx) ?_
              refine r_iload rfl rfl ?_
              refine WR_tI (y := nI k2) ek2 ?_
              refine r_new (m := 2) rfl rfl ?_
              show WR _ cd_11 58 [some (.ref (ad 0)), some (.int c), some (.int k), some (.int m)] [.ref (hZ h), .int (nI k2), .ref (ad 1)] (nw (sI h (ad 0) 6 0) 5 2 2) _
              have fx : FX n ad sa z0 (nw (sI h (ad 0) 6 0) 5 2 2) := FX.nw (h := sI h (ad 0) 6 0) (FX.sI fx) (hzO.sI hz0)
              have hz1 : hzO (nw (sI h (ad 0) 6 0) 5 2 2) := hzO.nw (h := sI h (ad 0) 6 0) (hzO.sI hz0)
              have tz0 : hT (nw (sI h (ad 0) 6 0) 5 2 2) (hZ h) = 5 := nw_T0 (h := sI h (ad 0) 6 0) (t := 5) (k := 2) (m := 2)
              refine r_dup rfl rfl ?_
              refine r_iload rfl rfl ?_
              refine WR_tI (y := nI k5) ek5 ?_
              obtain ⟨k9, hk9, ek9⟩ := ix_of (x := m) (n := 2147483648) (by have := i_le c7; have := i_rg m; have : (30 : Int32).toInt = 30 := rfl; have := i_le c8; have : (0 : Int32).toInt = 0 := rfl; omega) (by have := i_le c7; have := i_rg m; have : (30 : Int32).toInt = 30 := rfl; have := i_le c8; have : (0 : Int32).toInt = 0 := rfl; omega)
              refine r_iload rfl rfl ?_
              refine WR_tI (y := nI k9) ek9 ?_
              refine r_cp (y := 15) (ra := [.int (nI k9), .int (nI k5)]) (rest := [.ref (hZ h), .int (nI k2), .ref (ad 1)]) rfl ⟨⟨rfl, rfl⟩, by decide⟩ rfl rfl (Nat.le_of_ble_eq_true rfl) ?_
              refine in_15 (Nat.le_of_ble_eq_true rfl) ?_
              show WR _ cd_15 0 [some (.ref (hZ h)), some (.int (nI k5)), some (.int (nI k9))] [] (nw (sI h (ad 0) 6 0) 5 2 2) _
              refine r_aload rfl rfl ?_
              refine r_cp (y := 16) (ra := []) (rest := []) rfl ⟨⟨rfl, rfl⟩, by decide⟩ rfl rfl (Nat.le_of_ble_eq_true rfl) ?_
              refine in_16 (Nat.le_of_ble_eq_true rfl) ?_
              show WR _ cd_16 0 [some (.ref (hZ h))] [] (nw (sI h (ad 0) 6 0) 5 2 2) _
              refine r_aload rfl rfl ?_
              refine r_obj rfl (Nat.le_of_ble_eq_true rfl) ?_
              refine r_vret rfl ?_
              show WR _ cd_15 4 [some (.ref (hZ h)), some (.int (nI k5)), some (.int (nI k9))] [] (nw (sI h (ad 0) 6 0) 5 2 2) _
              refine r_aload rfl rfl ?_
              refine r_iload rfl rfl ?_
              refine r_putI rfl ⟨rfl, rfl, rfl⟩ tz0 ?_
              have fx : FX n ad sa z0 (sI (nw (sI h (ad 0) 6 0) 5 2 2) (hZ h) 0 (nI k5)) := (FX.sI fx)
              have tz0 : hT (sI (nw (sI h (ad 0) 6 0) 5 2 2) (hZ h) 0 (nI k5)) (hZ h) = 5 := (Eq.trans (congrFun hT_sI _) tz0)
              refine r_aload rfl rfl ?_
              refine r_iload rfl rfl ?_
              refine r_newarray rfl ⟨by decide, nI_pos (by have := i_le c7; have := i_rg m; have : (30 : Int32).toInt = 30 := rfl; have := i_le c8; have : (0 : Int32).toInt = 0 := rfl; have := i_eq ek9; have : (nI k9).toInt = ((k9 : Nat) : Int) := nI_toInt (by omega); omega), by rw [nI_clamp (by have := i_le c7; have := i_rg m; have : (30 : Int32).toInt = 30 := rfl; have := i_le c8; have : (0 : Int32).toInt = 0 := rfl; have := i_eq ek9; have : (nI k9).toInt = ((k9 : Nat) : Int) := nI_toInt (by omega); omega)]; exact (by have := i_le c7; have := i_rg m; have : (30 : Int32).toInt = 30 := rfl; have := i_le c8; have : (0 : Int32).toInt = 0 := rfl; have := i_eq ek9; have : (nI k9).toInt = ((k9 : Nat) : Int) := nI_toInt (by omega); omega)⟩ ?_
              refine WR_h (h2 := nw (sI (nw (sI h (ad 0) 6 0) 5 2 2) (hZ h) 0 (nI k5)) 21 k9 k9) (by rw [nI_clamp (by have := i_le c7; have := i_rg m; have : (30 : Int32).toInt = 30 := rfl; have := i_le c8; have : (0 : Int32).toInt = 0 := rfl; have := i_eq ek9; have : (nI k9).toInt = ((k9 : Nat) : Int) := nI_toInt (by omega); omega)] <;> rfl) ?_
              show WR _ cd_15 13 [some (.ref (hZ h)), some (.int (nI k5)), some (.int (nI k9))] [.ref (hZ h + 1), .ref (hZ h)] (nw (sI (nw (sI h (ad 0) 6 0) 5 2 2) (hZ h) 0 (nI k5)) 21 k9 k9) _
              have fx : FX n ad sa z0 (nw (sI (nw (sI h (ad 0) 6 0) 5 2 2) (hZ h) 0 (nI k5)) 21 k9 k9) := FX.nw (h := sI (nw (sI h (ad 0) 6 0) 5 2 2) (hZ h) 0 (nI k5)) fx (hzO.sI hz1)
              have hz2 : hzO (nw (sI (nw (sI h (ad 0) 6 0) 5 2 2) (hZ h) 0 (nI k5)) 21 k9 k9) := hzO.nw (h := sI (nw (sI h (ad 0) 6 0) 5 2 2) (hZ h) 0 (nI k5)) (hzO.sI hz1)
              have tz1 : hT (nw (sI (nw (sI h (ad 0) 6 0) 5 2 2) (hZ h) 0 (nI k5)) 21 k9 k9) (hZ h + 1) = 21 := nw_T0 (h := sI (nw (sI h (ad 0) 6 0) 5 2 2) (hZ h) 0 (nI k5)) (t := 21) (k := k9) (m := k9)
              refine r_putA rfl ⟨rfl, rfl, rfl⟩ (Eq.trans (nw_T (Nat.ne_of_lt (Nat.lt_succ_self _))) tz0) ?_
              have fx : FX n ad sa z0 (sR (nw (sI (nw (sI h (ad 0) 6 0) 5 2 2) (hZ h) 0 (nI k5)) 21 k9 k9) (hZ h) 1 (some (hZ h + 1))) := FX.dyR fx (fx_z fx0)
              have tz0 : hT (sR (nw (sI (nw (sI h (ad 0) 6 0) 5 2 2) (hZ h) 0 (nI k5)) 21 k9 k9) (hZ h) 1 (some (hZ h + 1))) (hZ h) = 5 := (Eq.trans (congrFun hT_sR _) (Eq.trans (nw_T (Nat.ne_of_lt (Nat.lt_succ_self _))) tz0))
              have tz1 : hT (sR (nw (sI (nw (sI h (ad 0) 6 0) 5 2 2) (hZ h) 0 (nI k5)) 21 k9 k9) (hZ h) 1 (some (hZ h + 1))) (hZ h + 1) = 21 := (Eq.trans (congrFun hT_sR _) tz1)
              refine r_vret rfl ?_
              show WR _ cd_11 64 [some (.ref (ad 0)), some (.int c), some (.int k), some (.int m)] [.ref (hZ h), .int (nI k2), .ref (ad 1)] (sR (nw (sI (nw (sI h (ad 0) 6 0) 5 2 2) (hZ h) 0 (nI k5)) 21 k9 k9) (hZ h) 1 (some (hZ h + 1))) _
              refine r_aastoreA rfl (isQ_of (fx_t1 fx) (by decide)) (vp_ct (fx_n1 fx) (vp_in_nI (by have := i_nlt c1; have := i_rg c; have : (0 : Int32).toInt = 0 := rfl; have := i_eq ek2; have : (nI k2).toInt = ((k2 : Nat) : Int) := nI_toInt (by omega); have := i_nle c3; have : (24 : Int32).toInt = 24 := rfl; omega) (by omega))) (okR_of (fx_t1 fx) tz0 (by decide)) ?_
              refine WR_h (h2 := sR (sR (nw (sI (nw (sI h (ad 0) 6 0) 5 2 2) (hZ h) 0 (nI k5)) 21 k9 k9) (hZ h) 1 (some (hZ h + 1))) (ad 1) k2 (some (hZ h))) (congrArg (fun z => sR (sR (nw (sI (nw (sI h (ad 0) 6 0) 5 2 2) (hZ h) 0 (nI k5)) 21 k9 k9) (hZ h) 1 (some (hZ h + 1))) (ad 1) z (some (hZ h))) ((nI_clamp (by have := i_nlt c1; have := i_rg c; have : (0 : Int32).toInt = 0 := rfl; have := i_eq ek2; have : (nI k2).toInt = ((k2 : Nat) : Int) := nI_toInt (by omega); have := i_nle c3; have : (24 : Int32).toInt = 24 := rfl; omega)) : _ = k2)) ?_
              have fx : FX n ad sa z0 (sR (sR (nw (sI (nw (sI h (ad 0) 6 0) 5 2 2) (hZ h) 0 (nI k5)) 21 k9 k9) (hZ h) 1 (some (hZ h + 1))) (ad 1) k2 (some (hZ h))) := FX.sRA (i := 1) fx (.inl (by decide)) (by decide)
              have tz0 : hT (sR (sR (nw (sI (nw (sI h (ad 0) 6 0) 5 2 2) (hZ h) 0 (nI k5)) 21 k9 k9) (hZ h) 1 (some (hZ h + 1))) (ad 1) k2 (some (hZ h))) (hZ h) = 5 := (Eq.trans (congrFun hT_sR _) tz0)
              have tz1 : hT (sR (sR (nw (sI (nw (sI h (ad 0) 6 0) 5 2 2) (hZ h) 0 (nI k5)) 21 k9 k9) (hZ h) 1 (some (hZ h + 1))) (ad 1) k2 (some (hZ h))) (hZ h + 1) = 21 := (Eq.trans (congrFun hT_sR _) tz1)
              refine r_iload rfl rfl ?_
              refine WR_tI (y := nI k9) ek9 ?_
              refine r_iret rfl ?_
              show EV _ 152 [.ref (ad 30), .int c, .int k, .int m] (sR (sR (nw (sI (nw (sI h (ad 0) 6 0) 5 2 2) (hZ h) 0 (nI k5)) 21 k9 k9) (hZ h) 1 (some (hZ h + 1))) (ad 1) k2 (some (hZ h))) _
              refine in_152 (Nat.le_of_ble_eq_true rfl) ?_
              show WR _ cd_152 0 [some (.ref (ad 30)), some (.int c), some (.int k), some (.int m)] [] (sR (sR (nw (sI (nw (sI h (ad 0) 6 0) 5 2 2) (hZ h) 0 (nI k5)) 21 k9 k9) (hZ h) 1 (some (hZ h + 1))) (ad 1) k2 (some (hZ h))) _
              refine r_iload rfl rfl ?_
              refine WR_tI (y := nI k2) ek2 ?_
              refine r_cs (y := 153) (ra := [.int (nI k2)]) (rest := []) rfl ⟨⟨rfl, rfl⟩, by decide⟩ rfl rfl (Nat.le_of_ble_eq_true rfl) ?_
              refine in_153 (Nat.le_of_ble_eq_true rfl) ?_
              show WR _ cd_153 0 [some (.int (nI k2))] [] (sR (sR (nw (sI (nw (sI h (ad 0) 6 0) 5 2 2) (hZ h) 0 (nI k5)) 21 k9 k9) (hZ h) 1 (some (hZ h + 1))) (ad 1) k2 (some (hZ h))) _
              refine r_iload rfl rfl ?_
              refine r_if_lt (tg := 14) rfl rfl (fun q => False.elim (by have := i_nlt c1; have := i_rg c; have : (0 : Int32).toInt = 0 := rfl; have := i_eq ek2; have : (nI k2).toInt = ((k2 : Nat) : Int) := nI_toInt (by omega); have := i_nle c3; have : (24 : Int32).toInt = 24 := rfl; have := i_lt q; omega)) (fun _ => ?_)
              refine r_iload rfl rfl ?_
              refine r_ic (x := 24) rfl rfl ?_
              refine r_icmp_ge (tg := 14) rfl rfl (fun q => False.elim (by have := i_nlt c1; have := i_rg c; have : (0 : Int32).toInt = 0 := rfl; have := i_eq ek2; have : (nI k2).toInt = ((k2 : Nat) : Int) := nI_toInt (by omega); have := i_nle c3; have : (24 : Int32).toInt = 24 := rfl; have := i_le q; omega)) (fun _ => ?_)
              refine r_ic (x := 1) rfl rfl ?_
              refine r_goto (tg := 15) rfl rfl ?_
              refine r_zret rfl (.inr rfl) ?_
              show WR _ cd_152 4 [some (.ref (ad 30)), some (.int c), some (.int k), some (.int m)] [.int 1] (sR (sR (nw (sI (nw (sI h (ad 0) 6 0) 5 2 2) (hZ h) 0 (nI k5)) 21 k9 k9) (hZ h) 1 (some (hZ h + 1))) (ad 1) k2 (some (hZ h))) _
              refine r_if_ne (tg := 14) rfl rfl (fun _ => ?_) (fun q => absurd q (by decide))
              refine r_iload rfl rfl ?_
              refine WR_tI (y := nI k5) ek5 ?_
              refine r_i2l rfl ?_
              refine WR_tL (y := lN k5) (nI_l (by have := i_nlt c4; have := i_rg k; have : (0 : Int32).toInt = 0 := rfl; have := i_eq ek5; have : (nI k5).toInt = ((k5 : Nat) : Int) := nI_toInt (by omega); have := i_nle c6; have : (8 : Int32).toInt = 8 := rfl; omega)) ?_
              refine r_lc (x := 0) rfl rfl ?_
              refine r_ldc (x := .long 7) rfl rfl ?_
              refine r_cs (y := 155) (ra := [.long 7, .long 0, .long (lN k5)]) (rest := []) rfl ⟨⟨rfl, rfl⟩, by decide⟩ rfl rfl (Nat.le_of_ble_eq_true rfl) ?_
              refine in_155 (Nat.le_of_ble_eq_true rfl) ?_
              show WR _ cd_155 0 [some (.long (lN k5)), none, some (.long 0), none, some (.long 7), none] [] (sR (sR (nw (sI (nw (sI h (ad 0) 6 0) 5 2 2) (hZ h) 0 (nI k5)) 21 k9 k9) (hZ h) 1 (some (hZ h + 1))) (ad 1) k2 (some (hZ h))) _
              refine r_lload rfl rfl ?_
              refine r_lload rfl rfl ?_
              refine r_lif_lt (tg := 17) rfl rfl rfl (fun q => False.elim (by have := i_nlt c4; have := i_rg k; have : (0 : Int32).toInt = 0 := rfl; have := i_eq ek5; have : (nI k5).toInt = ((k5 : Nat) : Int) := nI_toInt (by omega); have := i_nle c6; have : (8 : Int32).toInt = 8 := rfl; have : (lN k5).toInt = ((k5 : Nat) : Int) := lN_toInt (by omega); have : (0 : Int64).toInt = 0 := rfl; have := l_lt q; omega)) (fun _ => ?_)
              refine r_lload rfl rfl ?_
              refine r_lload rfl rfl ?_
              refine r_lif_gt (tg := 17) rfl rfl rfl (fun q => False.elim (by have := i_nlt c4; have := i_rg k; have : (0 : Int32).toInt = 0 := rfl; have := i_eq ek5; have : (nI k5).toInt = ((k5 : Nat) : Int) := nI_toInt (by omega); have := i_nle c6; have : (8 : Int32).toInt = 8 := rfl; have : (lN k5).toInt = ((k5 : Nat) : Int) := lN_toInt (by omega); have : (7 : Int64).toInt = 7 := rfl; have := l_lt q; omega)) (fun _ => ?_)
              refine r_ic (x := 1) rfl rfl ?_
              refine r_goto (tg := 18) rfl rfl ?_
              refine r_zret rfl (.inr rfl) ?_
              show WR _ cd_152 23 [some (.ref (ad 30)), some (.int c), some (.int k), some (.int m)] [.int 1] (sR (sR (nw (sI (nw (sI h (ad 0) 6 0) 5 2 2) (hZ h) 0 (nI k5)) 21 k9 k9) (hZ h) 1 (some (hZ h + 1))) (ad 1) k2 (some (hZ h))) _
              refine r_if_eq (tg := 32) rfl rfl (fun q => absurd q (by decide)) (fun _ => ?_)
              refine r_iload rfl rfl ?_
              refine WR_tI (y := nI k9) ek9 ?_
              refine r_ic (x := 30) rfl rfl ?_
              refine r_icmp_le (tg := 39) rfl rfl (fun _ => ?_) (fun q => False.elim (by have := i_le c7; have := i_rg m; have : (30 : Int32).toInt = 30 := rfl; have := i_le c8; have : (0 : Int32).toInt = 0 := rfl; have := i_eq ek9; have : (nI k9).toInt = ((k9 : Nat) : Int) := nI_toInt (by omega); have := i_nle q; omega))
              refine r_iload rfl rfl ?_
              refine WR_tI (y := nI k9) ek9 ?_
              refine r_if_ge (tg := 49) rfl rfl (fun _ => ?_) (fun q => False.elim (by have := i_le c7; have := i_rg m; have : (30 : Int32).toInt = 30 := rfl; have := i_le c8; have : (0 : Int32).toInt = 0 := rfl; have := i_eq ek9; have : (nI k9).toInt = ((k9 : Nat) : Int) := nI_toInt (by omega); have := i_nle q; omega))
              have b0 : k2 ≤ 23 := (by have := i_nlt c1; have := i_rg c; have : (0 : Int32).toInt = 0 := rfl; have := i_eq ek2; have : (nI k2).toInt = ((k2 : Nat) : Int) := nI_toInt (by omega); have := i_nle c3; have : (24 : Int32).toInt = 24 := rfl; omega)
              have b1 : k5 ≤ 7 := (by have := i_nlt c4; have := i_rg k; have : (0 : Int32).toInt = 0 := rfl; have := i_eq ek5; have : (nI k5).toInt = ((k5 : Nat) : Int) := nI_toInt (by omega); have := i_nle c6; have : (8 : Int32).toInt = 8 := rfl; omega)
              have b2 : k9 ≤ 30 := (by have := i_le c7; have := i_rg m; have : (30 : Int32).toInt = 30 := rfl; have := i_le c8; have : (0 : Int32).toInt = 0 := rfl; have := i_eq ek9; have : (nI k9).toInt = ((k9 : Nat) : Int) := nI_toInt (by omega); omega)
              subst ek2
              subst ek5
              subst ek9
              have nc := NC.of (T1 := 5) (T2 := 21) (x := nI k5) (ln := k9) (kc := k2) fx0 hz0
              refine t_row fx (NC.wf fx0 nc rs) (by omega) b2 (fun t H1 H2 ht nl e1 e2 => ?_)
              obtain ⟨x1, x2, x3⟩ := Rel.newthing r nc (by omega) fx e1 e2 ht nl (fun q => by have := (nI_eq (a := k5) (b := 8) (by omega) (by decide)).mp q; omega) (fun mid pa np => nt_row fx0 nc (by omega) b2 e1 e2 mid pa np (canL_0 _))
              exact ⟨rfl, x1, x2, x3⟩
            · refine r_aload rfl rfl ?_
              refine r_ic (x := (-13)) rfl rfl ?_
              refine r_cv (y := 13) (ra := [.int (-13)]) (rest := []) rfl ⟨⟨rfl, rfl⟩, rfl, by decide⟩ (fx_t0 fx) rfl rfl (Nat.le_of_ble_eq_true rfl) ?_
              refine in_13 (Nat.le_of_ble_eq_true rfl) ?_
              show WR _ cd_13 0 [some (.ref (ad 0)), some (.int (-13))] [] (sI h (ad 0) 6 0) _
              refine r_aload rfl rfl ?_
              refine r_iload rfl rfl ?_
              refine r_putI rfl ⟨rfl, rfl, rfl⟩ (fx_t0 fx) ?_
              refine r_iload rfl rfl ?_
              refine r_iret rfl ?_
              show WR _ cd_11 49 [some (.ref (ad 0)), some (.int c), some (.int k), some (.int m)] [.int (-13)] (sI (sI h (ad 0) 6 0) (ad 0) 6 (-13)) _
              refine r_iret rfl ?_
              show EV _ 152 [.ref (ad 30), .int c, .int k, .int m] (sI (sI h (ad 0) 6 0) (ad 0) 6 (-13)) _
              refine in_152 (Nat.le_of_ble_eq_true rfl) ?_
              show WR _ cd_152 0 [some (.ref (ad 30)), some (.int c), some (.int k), some (.int m)] [] (sI (sI h (ad 0) 6 0) (ad 0) 6 (-13)) _
              refine r_iload rfl rfl ?_
              refine WR_tI (y := nI k2) ek2 ?_
              refine r_cs (y := 153) (ra := [.int (nI k2)]) (rest := []) rfl ⟨⟨rfl, rfl⟩, by decide⟩ rfl rfl (Nat.le_of_ble_eq_true rfl) ?_
              refine in_153 (Nat.le_of_ble_eq_true rfl) ?_
              show WR _ cd_153 0 [some (.int (nI k2))] [] (sI (sI h (ad 0) 6 0) (ad 0) 6 (-13)) _
              refine r_iload rfl rfl ?_
              refine r_if_lt (tg := 14) rfl rfl (fun q => False.elim (by have := i_nlt c1; have := i_rg c; have : (0 : Int32).toInt = 0 := rfl; have := i_eq ek2; have : (nI k2).toInt = ((k2 : Nat) : Int) := nI_toInt (by omega); have := i_nle c3; have : (24 : Int32).toInt = 24 := rfl; have := i_lt q; omega)) (fun _ => ?_)
              refine r_iload rfl rfl ?_
              refine r_ic (x := 24) rfl rfl ?_
              refine r_icmp_ge (tg := 14) rfl rfl (fun q => False.elim (by have := i_nlt c1; have := i_rg c; have : (0 : Int32).toInt = 0 := rfl; have := i_eq ek2; have : (nI k2).toInt = ((k2 : Nat) : Int) := nI_toInt (by omega); have := i_nle c3; have : (24 : Int32).toInt = 24 := rfl; have := i_le q; omega)) (fun _ => ?_)
              refine r_ic (x := 1) rfl rfl ?_
              refine r_goto (tg := 15) rfl rfl ?_
              refine r_zret rfl (.inr rfl) ?_
              show WR _ cd_152 4 [some (.ref (ad 30)), some (.int c), some (.int k), some (.int m)] [.int 1] (sI (sI h (ad 0) 6 0) (ad 0) 6 (-13)) _
              refine r_if_ne (tg := 14) rfl rfl (fun _ => ?_) (fun q => absurd q (by decide))
              refine r_iload rfl rfl ?_
              refine WR_tI (y := nI k5) ek5 ?_
              refine r_i2l rfl ?_
              refine WR_tL (y := lN k5) (nI_l (by have := i_nlt c4; have := i_rg k; have : (0 : Int32).toInt = 0 := rfl; have := i_eq ek5; have : (nI k5).toInt = ((k5 : Nat) : Int) := nI_toInt (by omega); have := i_nle c6; have : (8 : Int32).toInt = 8 := rfl; omega)) ?_
              refine r_lc (x := 0) rfl rfl ?_
              refine r_ldc (x := .long 7) rfl rfl ?_
              refine r_cs (y := 155) (ra := [.long 7, .long 0, .long (lN k5)]) (rest := []) rfl ⟨⟨rfl, rfl⟩, by decide⟩ rfl rfl (Nat.le_of_ble_eq_true rfl) ?_
              refine in_155 (Nat.le_of_ble_eq_true rfl) ?_
              show WR _ cd_155 0 [some (.long (lN k5)), none, some (.long 0), none, some (.long 7), none] [] (sI (sI h (ad 0) 6 0) (ad 0) 6 (-13)) _
              refine r_lload rfl rfl ?_
              refine r_lload rfl rfl ?_
              refine r_lif_lt (tg := 17) rfl rfl rfl (fun q => False.elim (by have := i_nlt c4; have := i_rg k; have : (0 : Int32).toInt = 0 := rfl; have := i_eq ek5; have : (nI k5).toInt = ((k5 : Nat) : Int) := nI_toInt (by omega); have := i_nle c6; have : (8 : Int32).toInt = 8 := rfl; have : (lN k5).toInt = ((k5 : Nat) : Int) := lN_toInt (by omega); have : (0 : Int64).toInt = 0 := rfl; have := l_lt q; omega)) (fun _ => ?_)
              refine r_lload rfl rfl ?_
              refine r_lload rfl rfl ?_
              refine r_lif_gt (tg := 17) rfl rfl rfl (fun q => False.elim (by have := i_nlt c4; have := i_rg k; have : (0 : Int32).toInt = 0 := rfl; have := i_eq ek5; have : (nI k5).toInt = ((k5 : Nat) : Int) := nI_toInt (by omega); have := i_nle c6; have : (8 : Int32).toInt = 8 := rfl; have : (lN k5).toInt = ((k5 : Nat) : Int) := lN_toInt (by omega); have : (7 : Int64).toInt = 7 := rfl; have := l_lt q; omega)) (fun _ => ?_)
              refine r_ic (x := 1) rfl rfl ?_
              refine r_goto (tg := 18) rfl rfl ?_
              refine r_zret rfl (.inr rfl) ?_
              show WR _ cd_152 23 [some (.ref (ad 30)), some (.int c), some (.int k), some (.int m)] [.int 1] (sI (sI h (ad 0) 6 0) (ad 0) 6 (-13)) _
              refine r_if_eq (tg := 32) rfl rfl (fun q => absurd q (by decide)) (fun _ => ?_)
              refine r_iload rfl rfl ?_
              refine r_ic (x := 30) rfl rfl ?_
              refine r_icmp_le (tg := 39) rfl rfl (fun _ => ?_) (fun q => False.elim (by have := i_le c7; have := i_rg m; have : (30 : Int32).toInt = 30 := rfl; have := i_nle c8; have : (0 : Int32).toInt = 0 := rfl; have := i_nle q; omega))
              refine r_iload rfl rfl ?_
              refine r_if_ge (tg := 49) rfl rfl (fun q => False.elim (by have := i_le c7; have := i_rg m; have : (30 : Int32).toInt = 30 := rfl; have := i_nle c8; have : (0 : Int32).toInt = 0 := rfl; have := i_le q; omega)) (fun _ => ?_)
              refine r_aload rfl rfl ?_
              refine r_ic (x := 3) rfl rfl ?_
              refine r_cv (y := 156) (ra := [.int 3]) (rest := []) rfl ⟨⟨rfl, rfl⟩, rfl, by decide⟩ (fx_t30 fx) rfl rfl (Nat.le_of_ble_eq_true rfl) ?_
              refine in_156 (Nat.le_of_ble_eq_true rfl) ?_
              show WR _ cd_156 0 [some (.ref (ad 30)), some (.int 3)] [] (sI (sI h (ad 0) 6 0) (ad 0) 6 (-13)) _
              refine r_aload rfl rfl ?_
              refine r_ic (x := (-10)) rfl rfl ?_
              refine r_iload rfl rfl ?_
              refine r_isub rfl ?_
              refine WR_tI (y := (-13)) rfl ?_
              refine r_cv (y := 154) (ra := [.int (-13)]) (rest := []) rfl ⟨⟨rfl, rfl⟩, rfl, by decide⟩ (fx_t30 fx) rfl rfl (Nat.le_of_ble_eq_true rfl) ?_
              refine in_154 (Nat.le_of_ble_eq_true rfl) ?_
              show WR _ cd_154 0 [some (.ref (ad 30)), some (.int (-13))] [] (sI (sI h (ad 0) 6 0) (ad 0) 6 (-13)) _
              refine r_aload rfl rfl ?_
              refine r_iload rfl rfl ?_
              refine r_ic (x := (-1)) rfl rfl ?_
              refine r_icmp_ge (tg := 10) rfl rfl (fun q => absurd q (by decide)) (fun _ => ?_)
              refine r_iload rfl rfl ?_
              refine r_goto (tg := 11) rfl rfl ?_
              refine r_putI rfl ⟨rfl, rfl, rfl⟩ (fx_t30 fx) ?_
              refine r_iload rfl rfl ?_
              refine r_iret rfl ?_
              show WR _ cd_156 8 [some (.ref (ad 30)), some (.int 3)] [.int (-13)] (sI (sI (sI h (ad 0) 6 0) (ad 0) 6 (-13)) (ad 30) 11 (-13)) _
              refine r_iret rfl ?_
              show WR _ cd_152 48 [some (.ref (ad 30)), some (.int c), some (.int k), some (.int m)] [.int (-13)] (sI (sI (sI h (ad 0) 6 0) (ad 0) 6 (-13)) (ad 30) 11 (-13)) _
              refine r_iret rfl ?_
              exact ⟨rfl, Rel.why r (((Chg.rf.sI (fx_j fx) (.inl (by decide))).sI (fx_j fx) (.inl (by decide))).sI (fx_j fx) (.inl (by decide))) ⟨rfl, by decide⟩ (Eq.trans (Eq.trans (I_ne (fx_ne fx (by decide))) I_eq) (Eq.symm I_eq)), Nat.le_add_right _ _, Nat.le_add_right _ _⟩
          · refine r_aload rfl rfl ?_
            refine r_ic (x := (-3)) rfl rfl ?_
            refine r_cv (y := 13) (ra := [.int (-3)]) (rest := []) rfl ⟨⟨rfl, rfl⟩, rfl, by decide⟩ (fx_t0 fx) rfl rfl (Nat.le_of_ble_eq_true rfl) ?_
            refine in_13 (Nat.le_of_ble_eq_true rfl) ?_
            show WR _ cd_13 0 [some (.ref (ad 0)), some (.int (-3))] [] (sI h (ad 0) 6 0) _
            refine r_aload rfl rfl ?_
            refine r_iload rfl rfl ?_
            refine r_putI rfl ⟨rfl, rfl, rfl⟩ (fx_t0 fx) ?_
            refine r_iload rfl rfl ?_
            refine r_iret rfl ?_
            show WR _ cd_11 38 [some (.ref (ad 0)), some (.int c), some (.int k), some (.int m)] [.int (-3)] (sI (sI h (ad 0) 6 0) (ad 0) 6 (-3)) _
            refine r_iret rfl ?_
            show EV _ 152 [.ref (ad 30), .int c, .int k, .int m] (sI (sI h (ad 0) 6 0) (ad 0) 6 (-3)) _
            refine in_152 (Nat.le_of_ble_eq_true rfl) ?_
            show WR _ cd_152 0 [some (.ref (ad 30)), some (.int c), some (.int k), some (.int m)] [] (sI (sI h (ad 0) 6 0) (ad 0) 6 (-3)) _
            refine r_iload rfl rfl ?_
            refine WR_tI (y := nI k2) ek2 ?_
            refine r_cs (y := 153) (ra := [.int (nI k2)]) (rest := []) rfl ⟨⟨rfl, rfl⟩, by decide⟩ rfl rfl (Nat.le_of_ble_eq_true rfl) ?_
            refine in_153 (Nat.le_of_ble_eq_true rfl) ?_
            show WR _ cd_153 0 [some (.int (nI k2))] [] (sI (sI h (ad 0) 6 0) (ad 0) 6 (-3)) _
            refine r_iload rfl rfl ?_
            refine r_if_lt (tg := 14) rfl rfl (fun q => False.elim (by have := i_nlt c1; have := i_rg c; have : (0 : Int32).toInt = 0 := rfl; have := i_eq ek2; have : (nI k2).toInt = ((k2 : Nat) : Int) := nI_toInt (by omega); have := i_nle c3; have : (24 : Int32).toInt = 24 := rfl; have := i_lt q; omega)) (fun _ => ?_)
            refine r_iload rfl rfl ?_
            refine r_ic (x := 24) rfl rfl ?_
            refine r_icmp_ge (tg := 14) rfl rfl (fun q => False.elim (by have := i_nlt c1; have := i_rg c; have : (0 : Int32).toInt = 0 := rfl; have := i_eq ek2; have : (nI k2).toInt = ((k2 : Nat) : Int) := nI_toInt (by omega); have := i_nle c3; have : (24 : Int32).toInt = 24 := rfl; have := i_le q; omega)) (fun _ => ?_)
            refine r_ic (x := 1) rfl rfl ?_
            refine r_goto (tg := 15) rfl rfl ?_
            refine r_zret rfl (.inr rfl) ?_
            show WR _ cd_152 4 [some (.ref (ad 30)), some (.int c), some (.int k), some (.int m)] [.int 1] (sI (sI h (ad 0) 6 0) (ad 0) 6 (-3)) _
            refine r_if_ne (tg := 14) rfl rfl (fun _ => ?_) (fun q => absurd q (by decide))
            refine r_iload rfl rfl ?_
            refine WR_tI (y := nI k5) ek5 ?_
            refine r_i2l rfl ?_
            refine WR_tL (y := lN k5) (nI_l (by have := i_nlt c4; have := i_rg k; have : (0 : Int32).toInt = 0 := rfl; have := i_eq ek5; have : (nI k5).toInt = ((k5 : Nat) : Int) := nI_toInt (by omega); have := i_nle c6; have : (8 : Int32).toInt = 8 := rfl; omega)) ?_
            refine r_lc (x := 0) rfl rfl ?_
            refine r_ldc (x := .long 7) rfl rfl ?_
            refine r_cs (y := 155) (ra := [.long 7, .long 0, .long (lN k5)]) (rest := []) rfl ⟨⟨rfl, rfl⟩, by decide⟩ rfl rfl (Nat.le_of_ble_eq_true rfl) ?_
            refine in_155 (Nat.le_of_ble_eq_true rfl) ?_
            show WR _ cd_155 0 [some (.long (lN k5)), none, some (.long 0), none, some (.long 7), none] [] (sI (sI h (ad 0) 6 0) (ad 0) 6 (-3)) _
            refine r_lload rfl rfl ?_
            refine r_lload rfl rfl ?_
            refine r_lif_lt (tg := 17) rfl rfl rfl (fun q => False.elim (by have := i_nlt c4; have := i_rg k; have : (0 : Int32).toInt = 0 := rfl; have := i_eq ek5; have : (nI k5).toInt = ((k5 : Nat) : Int) := nI_toInt (by omega); have := i_nle c6; have : (8 : Int32).toInt = 8 := rfl; have : (lN k5).toInt = ((k5 : Nat) : Int) := lN_toInt (by omega); have : (0 : Int64).toInt = 0 := rfl; have := l_lt q; omega)) (fun _ => ?_)
            refine r_lload rfl rfl ?_
            refine r_lload rfl rfl ?_
            refine r_lif_gt (tg := 17) rfl rfl rfl (fun q => False.elim (by have := i_nlt c4; have := i_rg k; have : (0 : Int32).toInt = 0 := rfl; have := i_eq ek5; have : (nI k5).toInt = ((k5 : Nat) : Int) := nI_toInt (by omega); have := i_nle c6; have : (8 : Int32).toInt = 8 := rfl; have : (lN k5).toInt = ((k5 : Nat) : Int) := lN_toInt (by omega); have : (7 : Int64).toInt = 7 := rfl; have := l_lt q; omega)) (fun _ => ?_)
            refine r_ic (x := 1) rfl rfl ?_
            refine r_goto (tg := 18) rfl rfl ?_
            refine r_zret rfl (.inr rfl) ?_
            show WR _ cd_152 23 [some (.ref (ad 30)), some (.int c), some (.int k), some (.int m)] [.int 1] (sI (sI h (ad 0) 6 0) (ad 0) 6 (-3)) _
            refine r_if_eq (tg := 32) rfl rfl (fun q => absurd q (by decide)) (fun _ => ?_)
            obtain ⟨k10, hk10, ek10⟩ := ix_of (x := m) (n := 2147483648) (by have := i_nle c7; have := i_rg m; have : (30 : Int32).toInt = 30 := rfl; omega) (by have := i_nle c7; have := i_rg m; have : (30 : Int32).toInt = 30 := rfl; omega)
            refine r_iload rfl rfl ?_
            refine WR_tI (y := nI k10) ek10 ?_
            refine r_ic (x := 30) rfl rfl ?_
            refine r_icmp_le (tg := 39) rfl rfl (fun q => False.elim (by have := i_nle c7; have := i_rg m; have : (30 : Int32).toInt = 30 := rfl; have := i_eq ek10; have : (nI k10).toInt = ((k10 : Nat) : Int) := nI_toInt (by omega); have := i_le q; omega)) (fun _ => ?_)
            refine r_aload rfl rfl ?_
            refine r_ic (x := (-3)) rfl rfl ?_
            refine r_cv (y := 154) (ra := [.int (-3)]) (rest := []) rfl ⟨⟨rfl, rfl⟩, rfl, by decide⟩ (fx_t30 fx) rfl rfl (Nat.le_of_ble_eq_true rfl) ?_
            refine in_154 (Nat.le_of_ble_eq_true rfl) ?_
            show WR _ cd_154 0 [some (.ref (ad 30)), some (.int (-3))] [] (sI (sI h (ad 0) 6 0) (ad 0) 6 (-3)) _
            refine r_aload rfl rfl ?_
            refine r_iload rfl rfl ?_
            refine r_ic (x := (-1)) rfl rfl ?_
            refine r_icmp_ge (tg := 10) rfl rfl (fun q => absurd q (by decide)) (fun _ => ?_)
            refine r_iload rfl rfl ?_
            refine r_goto (tg := 11) rfl rfl ?_
            refine r_putI rfl ⟨rfl, rfl, rfl⟩ (fx_t30 fx) ?_
            refine r_iload rfl rfl ?_
            refine r_iret rfl ?_
            show WR _ cd_152 38 [some (.ref (ad 30)), some (.int c), some (.int k), some (.int m)] [.int (-3)] (sI (sI (sI h (ad 0) 6 0) (ad 0) 6 (-3)) (ad 30) 11 (-3)) _
            refine r_iret rfl ?_
            exact ⟨rfl, Rel.why r (((Chg.rf.sI (fx_j fx) (.inl (by decide))).sI (fx_j fx) (.inl (by decide))).sI (fx_j fx) (.inl (by decide))) ⟨rfl, by decide⟩ (Eq.trans (Eq.trans (I_ne (fx_ne fx (by decide))) I_eq) (Eq.symm I_eq)), Nat.le_add_right _ _, Nat.le_add_right _ _⟩

set_option maxHeartbeats 2000000 in
theorem k_cradle {n : Nat} {ad sa : Nat → Nat} {z0 : Nat} {h : mH} (r : Rel n ad sa z0 h) (c : Int32) (k : Int32) (m : Int32) : AP n ad sa z0 h 19 161 [.int c, .int k, .int m] := by
  obtain ⟨mid, pa, np, fx, ry, rt, ra, rp, rf, rst, ru, rs⟩ := id r
  have fx0 := fx
  obtain ⟨np1, np2, np3, -, -⟩ := id rs.1
  have hz0 : hzO h := rs.2.2.2
  unfold AP
  refine in_19 (Nat.le_of_ble_eq_true rfl) ?_
  show WR _ cd_19 0 [some (.ref (ad 0)), some (.int c), some (.int k), some (.int m)] [] h _
  refine r_aload rfl rfl ?_
  refine r_ic (x := 0) rfl rfl ?_
  refine r_putI rfl ⟨rfl, rfl, rfl⟩ (fx_t0 fx) ?_
  refine r_iload rfl rfl ?_
  refine r_cs (y := 12) (ra := [.int c]) (rest := []) rfl ⟨⟨rfl, rfl⟩, by decide⟩ rfl rfl (Nat.le_of_ble_eq_true rfl) ?_
  refine in_12 (Nat.le_of_ble_eq_true rfl) ?_
  show WR _ cd_12 0 [some (.int c)] [] (sI h (ad 0) 6 0) _
  refine r_iload rfl rfl ?_
  refine r_if_lt (tg := 14) rfl rfl (fun c1 => ?_) (fun c1 => ?_)
  · refine r_ic (x := 0) rfl rfl ?_
    refine r_zret rfl (.inl rfl) ?_
    show WR _ cd_19 9 [some (.ref (ad 0)), some (.int c), some (.int k), some (.int m)] [.int 0] (sI h (ad 0) 6 0) _
    refine r_if_ne (tg := 19) rfl rfl (fun q => absurd q (by decide)) (fun _ => ?_)
    refine r_aload rfl rfl ?_
    refine r_ic (x := (-2)) rfl rfl ?_
    refine r_cv (y := 13) (ra := [.int (-2)]) (rest := []) rfl ⟨⟨rfl, rfl⟩, rfl, by decide⟩ (fx_t0 fx) rfl rfl (Nat.le_of_ble_eq_true rfl) ?_
    refine in_13 (Nat.le_of_ble_eq_true rfl) ?_
    show WR _ cd_13 0 [some (.ref (ad 0)), some (.int (-2))] [] (sI h (ad 0) 6 0) _
    refine r_aload rfl rfl ?_
    refine r_iload rfl rfl ?_
    refine r_putI rfl ⟨rfl, rfl, rfl⟩ (fx_t0 fx) ?_
    refine r_iload rfl rfl ?_
    refine r_iret rfl ?_
    show WR _ cd_19 18 [some (.ref (ad 0)), some (.int c), some (.int k), some (.int m)] [.int (-2)] (sI (sI h (ad 0) 6 0) (ad 0) 6 (-2)) _
    refine r_iret rfl ?_
    show EV _ 161 [.ref (ad 30), .int c, .int k, .int m] (sI (sI h (ad 0) 6 0) (ad 0) 6 (-2)) _
    refine in_161 (Nat.le_of_ble_eq_true rfl) ?_
    show WR _ cd_161 0 [some (.ref (ad 30)), some (.int c), some (.int k), some (.int m)] [] (sI (sI h (ad 0) 6 0) (ad 0) 6 (-2)) _
    refine r_iload rfl rfl ?_
    refine r_cs (y := 153) (ra := [.int c]) (rest := []) rfl ⟨⟨rfl, rfl⟩, by decide⟩ rfl rfl (Nat.le_of_ble_eq_true rfl) ?_
    refine in_153 (Nat.le_of_ble_eq_true rfl) ?_
    show WR _ cd_153 0 [some (.int c)] [] (sI (sI h (ad 0) 6 0) (ad 0) 6 (-2)) _
    refine r_iload rfl rfl ?_
    refine r_if_lt (tg := 14) rfl rfl (fun _ => ?_) (fun q => False.elim (by have := i_lt c1; have := i_rg c; have : (0 : Int32).toInt = 0 := rfl; have := i_nlt q; omega))
    refine r_ic (x := 0) rfl rfl ?_
    refine r_zret rfl (.inl rfl) ?_
    show WR _ cd_161 4 [some (.ref (ad 30)), some (.int c), some (.int k), some (.int m)] [.int 0] (sI (sI h (ad 0) 6 0) (ad 0) 6 (-2)) _
    refine r_if_ne (tg := 14) rfl rfl (fun q => absurd q (by decide)) (fun _ => ?_)
    refine r_aload rfl rfl ?_
    refine r_ic (x := (-2)) rfl rfl ?_
    refine r_cv (y := 154) (ra := [.int (-2)]) (rest := []) rfl ⟨⟨rfl, rfl⟩, rfl, by decide⟩ (fx_t30 fx) rfl rfl (Nat.le_of_ble_eq_true rfl) ?_
    refine in_154 (Nat.le_of_ble_eq_true rfl) ?_
    show WR _ cd_154 0 [some (.ref (ad 30)), some (.int (-2))] [] (sI (sI h (ad 0) 6 0) (ad 0) 6 (-2)) _
    refine r_aload rfl rfl ?_
    refine r_iload rfl rfl ?_
    refine r_ic (x := (-1)) rfl rfl ?_
    refine r_icmp_ge (tg := 10) rfl rfl (fun q => absurd q (by decide)) (fun _ => ?_)
    refine r_iload rfl rfl ?_
    refine r_goto (tg := 11) rfl rfl ?_
    refine r_putI rfl ⟨rfl, rfl, rfl⟩ (fx_t30 fx) ?_
    refine r_iload rfl rfl ?_
    refine r_iret rfl ?_
    show WR _ cd_161 13 [some (.ref (ad 30)), some (.int c), some (.int k), some (.int m)] [.int (-2)] (sI (sI (sI h (ad 0) 6 0) (ad 0) 6 (-2)) (ad 30) 11 (-2)) _
    refine r_iret rfl ?_
    exact ⟨rfl, Rel.why r (((Chg.rf.sI (fx_j fx) (.inl (by decide))).sI (fx_j fx) (.inl (by decide))).sI (fx_j fx) (.inl (by decide))) ⟨rfl, by decide⟩ (Eq.trans (Eq.trans (I_ne (fx_ne fx (by decide))) I_eq) (Eq.symm I_eq)), Nat.le_add_right _ _, Nat.le_add_right _ _⟩
  · obtain ⟨k2, hk2, ek2⟩ := ix_of (x := c) (n := 2147483648) (by have := i_nlt c1; have := i_rg c; have : (0 : Int32).toInt = 0 := rfl; omega) (by have := i_nlt c1; have := i_rg c; have : (0 : Int32).toInt = 0 := rfl; omega)
    refine r_iload rfl rfl ?_
    refine WR_tI (y := nI k2) ek2 ?_
    refine r_ic (x := 24) rfl rfl ?_
    refine r_icmp_ge (tg := 14) rfl rfl (fun c3 => ?_) (fun c3 => ?_)
    · refine r_ic (x := 0) rfl rfl ?_
      refine r_zret rfl (.inl rfl) ?_
      show WR _ cd_19 9 [some (.ref (ad 0)), some (.int c), some (.int k), some (.int m)] [.int 0] (sI h (ad 0) 6 0) _
      refine r_if_ne (tg := 19) rfl rfl (fun q => absurd q (by decide)) (fun _ => ?_)
      refine r_aload rfl rfl ?_
      refine r_ic (x := (-2)) rfl rfl ?_
      refine r_cv (y := 13) (ra := [.int (-2)]) (rest := []) rfl ⟨⟨rfl, rfl⟩, rfl, by decide⟩ (fx_t0 fx) rfl rfl (Nat.le_of_ble_eq_true rfl) ?_
      refine in_13 (Nat.le_of_ble_eq_true rfl) ?_
      show WR _ cd_13 0 [some (.ref (ad 0)), some (.int (-2))] [] (sI h (ad 0) 6 0) _
      refine r_aload rfl rfl ?_
      refine r_iload rfl rfl ?_
      refine r_putI rfl ⟨rfl, rfl, rfl⟩ (fx_t0 fx) ?_
      refine r_iload rfl rfl ?_
      refine r_iret rfl ?_
      show WR _ cd_19 18 [some (.ref (ad 0)), some (.int c), some (.int k), some (.int m)] [.int (-2)] (sI (sI h (ad 0) 6 0) (ad 0) 6 (-2)) _
      refine r_iret rfl ?_
      show EV _ 161 [.ref (ad 30), .int c, .int k, .int m] (sI (sI h (ad 0) 6 0) (ad 0) 6 (-2)) _
      refine in_161 (Nat.le_of_ble_eq_true rfl) ?_
      show WR _ cd_161 0 [some (.ref (ad 30)), some (.int c), some (.int k), some (.int m)] [] (sI (sI h (ad 0) 6 0) (ad 0) 6 (-2)) _
      refine r_iload rfl rfl ?_
      refine WR_tI (y := nI k2) ek2 ?_
      refine r_cs (y := 153) (ra := [.int (nI k2)]) (rest := []) rfl ⟨⟨rfl, rfl⟩, by decide⟩ rfl rfl (Nat.le_of_ble_eq_true rfl) ?_
      refine in_153 (Nat.le_of_ble_eq_true rfl) ?_
      show WR _ cd_153 0 [some (.int (nI k2))] [] (sI (sI h (ad 0) 6 0) (ad 0) 6 (-2)) _
      refine r_iload rfl rfl ?_
      refine r_if_lt (tg := 14) rfl rfl (fun q => False.elim (by have := i_nlt c1; have := i_rg c; have : (0 : Int32).toInt = 0 := rfl; have := i_eq ek2; have : (nI k2).toInt = ((k2 : Nat) : Int) := nI_toInt (by omega); have := i_le c3; have : (24 : Int32).toInt = 24 := rfl; have := i_lt q; omega)) (fun _ => ?_)
      refine r_iload rfl rfl ?_
      refine r_ic (x := 24) rfl rfl ?_
      refine r_icmp_ge (tg := 14) rfl rfl (fun _ => ?_) (fun q => False.elim (by have := i_nlt c1; have := i_rg c; have : (0 : Int32).toInt = 0 := rfl; have := i_eq ek2; have : (nI k2).toInt = ((k2 : Nat) : Int) := nI_toInt (by omega); have := i_le c3; have : (24 : Int32).toInt = 24 := rfl; have := i_nle q; omega))
      refine r_ic (x := 0) rfl rfl ?_
      refine r_zret rfl (.inl rfl) ?_
      show WR _ cd_161 4 [some (.ref (ad 30)), some (.int c), some (.int k), some (.int m)] [.int 0] (sI (sI h (ad 0) 6 0) (ad 0) 6 (-2)) _
      refine r_if_ne (tg := 14) rfl rfl (fun q => absurd q (by decide)) (fun _ => ?_)
      refine r_aload rfl rfl ?_
      refine r_ic (x := (-2)) rfl rfl ?_
      refine r_cv (y := 154) (ra := [.int (-2)]) (rest := []) rfl ⟨⟨rfl, rfl⟩, rfl, by decide⟩ (fx_t30 fx) rfl rfl (Nat.le_of_ble_eq_true rfl) ?_
      refine in_154 (Nat.le_of_ble_eq_true rfl) ?_
      show WR _ cd_154 0 [some (.ref (ad 30)), some (.int (-2))] [] (sI (sI h (ad 0) 6 0) (ad 0) 6 (-2)) _
      refine r_aload rfl rfl ?_
      refine r_iload rfl rfl ?_
      refine r_ic (x := (-1)) rfl rfl ?_
      refine r_icmp_ge (tg := 10) rfl rfl (fun q => absurd q (by decide)) (fun _ => ?_)
      refine r_iload rfl rfl ?_
      refine r_goto (tg := 11) rfl rfl ?_
      refine r_putI rfl ⟨rfl, rfl, rfl⟩ (fx_t30 fx) ?_
      refine r_iload rfl rfl ?_
      refine r_iret rfl ?_
      show WR _ cd_161 13 [some (.ref (ad 30)), some (.int c), some (.int k), some (.int m)] [.int (-2)] (sI (sI (sI h (ad 0) 6 0) (ad 0) 6 (-2)) (ad 30) 11 (-2)) _
      refine r_iret rfl ?_
      exact ⟨rfl, Rel.why r (((Chg.rf.sI (fx_j fx) (.inl (by decide))).sI (fx_j fx) (.inl (by decide))).sI (fx_j fx) (.inl (by decide))) ⟨rfl, by decide⟩ (Eq.trans (Eq.trans (I_ne (fx_ne fx (by decide))) I_eq) (Eq.symm I_eq)), Nat.le_add_right _ _, Nat.le_add_right _ _⟩
    · refine r_ic (x := 1) rfl rfl ?_
      refine r_goto (tg := 15) rfl rfl ?_
      refine r_zret rfl (.inr rfl) ?_
      show WR _ cd_19 9 [some (.ref (ad 0)), some (.int c), some (.int k), some (.int m)] [.int 1] (sI h (ad 0) 6 0) _
      refine r_if_ne (tg := 19) rfl rfl (fun _ => ?_) (fun q => absurd q (by decide))
      refine r_iload rfl rfl ?_
      refine r_cs (y := 20) (ra := [.int k]) (rest := []) rfl ⟨⟨rfl, rfl⟩, by decide⟩ rfl rfl (Nat.le_of_ble_eq_true rfl) ?_
      refine in_20 (Nat.le_of_ble_eq_true rfl) ?_
      show WR _ cd_20 0 [some (.int k)] [] (sI h (ad 0) 6 0) _
      refine r_iload rfl rfl ?_
      refine r_if_lt (tg := 14) rfl rfl (fun c4 => ?_) (fun c4 => ?_)
      · refine r_ic (x := 0) rfl rfl ?_
        refine r_zret rfl (.inl rfl) ?_
        show WR _ cd_19 23 [some (.ref (ad 0)), some (.int c), some (.int k), some (.int m)] [.int 0] (sI h (ad 0) 6 0) _
        refine r_if_eq (tg := 32) rfl rfl (fun _ => ?_) (fun q => absurd q (by decide))
        refine r_aload rfl rfl ?_
        refine r_ic (x := (-3)) rfl rfl ?_
        refine r_cv (y := 13) (ra := [.int (-3)]) (rest := []) rfl ⟨⟨rfl, rfl⟩, rfl, by decide⟩ (fx_t0 fx) rfl rfl (Nat.le_of_ble_eq_true rfl) ?_
        refine in_13 (Nat.le_of_ble_eq_true rfl) ?_
        show WR _ cd_13 0 [some (.ref (ad 0)), some (.int (-3))] [] (sI h (ad 0) 6 0) _
        refine r_aload rfl rfl ?_
        refine r_iload rfl rfl ?_
        refine r_putI rfl ⟨rfl, rfl, rfl⟩ (fx_t0 fx) ?_
        refine r_iload rfl rfl ?_
        refine r_iret rfl ?_
        show WR _ cd_19 38 [some (.ref (ad 0)), some (.int c), some (.int k), some (.int m)] [.int (-3)] (sI (sI h (ad 0) 6 0) (ad 0) 6 (-3)) _
        refine r_iret rfl ?_
        show EV _ 161 [.ref (ad 30), .int c, .int k, .int m] (sI (sI h (ad 0) 6 0) (ad 0) 6 (-3)) _
        refine in_161 (Nat.le_of_ble_eq_true rfl) ?_
        show WR _ cd_161 0 [some (.ref (ad 30)), some (.int c), some (.int k), some (.int m)] [] (sI (sI h (ad 0) 6 0) (ad 0) 6 (-3)) _
        refine r_iload rfl rfl ?_
        refine WR_tI (y := nI k2) ek2 ?_
        refine r_cs (y := 153) (ra := [.int (nI k2)]) (rest := []) rfl ⟨⟨rfl, rfl⟩, by decide⟩ rfl rfl (Nat.le_of_ble_eq_true rfl) ?_
        refine in_153 (Nat.le_of_ble_eq_true rfl) ?_
        show WR _ cd_153 0 [some (.int (nI k2))] [] (sI (sI h (ad 0) 6 0) (ad 0) 6 (-3)) _
        refine r_iload rfl rfl ?_
        refine r_if_lt (tg := 14) rfl rfl (fun q => False.elim (by have := i_nlt c1; have := i_rg c; have : (0 : Int32).toInt = 0 := rfl; have := i_eq ek2; have : (nI k2).toInt = ((k2 : Nat) : Int) := nI_toInt (by omega); have := i_nle c3; have : (24 : Int32).toInt = 24 := rfl; have := i_lt q; omega)) (fun _ => ?_)
        refine r_iload rfl rfl ?_
        refine r_ic (x := 24) rfl rfl ?_
        refine r_icmp_ge (tg := 14) rfl rfl (fun q => False.elim (by have := i_nlt c1; have := i_rg c; have : (0 : Int32).toInt = 0 := rfl; have := i_eq ek2; have : (nI k2).toInt = ((k2 : Nat) : Int) := nI_toInt (by omega); have := i_nle c3; have : (24 : Int32).toInt = 24 := rfl; have := i_le q; omega)) (fun _ => ?_)
        refine r_ic (x := 1) rfl rfl ?_
        refine r_goto (tg := 15) rfl rfl ?_
        refine r_zret rfl (.inr rfl) ?_
        show WR _ cd_161 4 [some (.ref (ad 30)), some (.int c), some (.int k), some (.int m)] [.int 1] (sI (sI h (ad 0) 6 0) (ad 0) 6 (-3)) _
        refine r_if_ne (tg := 14) rfl rfl (fun _ => ?_) (fun q => absurd q (by decide))
        refine r_iload rfl rfl ?_
        refine r_i2l rfl ?_
        refine r_lc (x := 0) rfl rfl ?_
        refine r_ldc (x := .long 7) rfl rfl ?_
        refine r_cs (y := 155) (ra := [.long 7, .long 0, .long k.toInt64]) (rest := []) rfl ⟨⟨rfl, rfl⟩, by decide⟩ rfl rfl (Nat.le_of_ble_eq_true rfl) ?_
        refine in_155 (Nat.le_of_ble_eq_true rfl) ?_
        show WR _ cd_155 0 [some (.long k.toInt64), none, some (.long 0), none, some (.long 7), none] [] (sI (sI h (ad 0) 6 0) (ad 0) 6 (-3)) _
        refine r_lload rfl rfl ?_
        refine r_lload rfl rfl ?_
        refine r_lif_lt (tg := 17) rfl rfl rfl (fun _ => ?_) (fun q => False.elim (by have := i_lt c4; have := i_rg k; have : (0 : Int32).toInt = 0 := rfl; have := w_t k; have : (0 : Int64).toInt = 0 := rfl; have := l_nlt q; omega))
        refine r_ic (x := 0) rfl rfl ?_
        refine r_zret rfl (.inl rfl) ?_
        show WR _ cd_161 23 [some (.ref (ad 30)), some (.int c), some (.int k), some (.int m)] [.int 0] (sI (sI h (ad 0) 6 0) (ad 0) 6 (-3)) _
        refine r_if_eq (tg := 32) rfl rfl (fun _ => ?_) (fun q => absurd q (by decide))
        refine r_aload rfl rfl ?_
        refine r_ic (x := (-3)) rfl rfl ?_
        refine r_cv (y := 154) (ra := [.int (-3)]) (rest := []) rfl ⟨⟨rfl, rfl⟩, rfl, by decide⟩ (fx_t30 fx) rfl rfl (Nat.le_of_ble_eq_true rfl) ?_
        refine in_154 (Nat.le_of_ble_eq_true rfl) ?_
        show WR _ cd_154 0 [some (.ref (ad 30)), some (.int (-3))] [] (sI (sI h (ad 0) 6 0) (ad 0) 6 (-3)) _
        refine r_aload rfl rfl ?_
        refine r_iload rfl rfl ?_
        refine r_ic (x := (-1)) rfl rfl ?_
        refine r_icmp_ge (tg := 10) rfl rfl (fun q => absurd q (by decide)) (fun _ => ?_)
        refine r_iload rfl rfl ?_
        refine r_goto (tg := 11) rfl rfl ?_
        refine r_putI rfl ⟨rfl, rfl, rfl⟩ (fx_t30 fx) ?_
        refine r_iload rfl rfl ?_
        refine r_iret rfl ?_
        show WR _ cd_161 38 [some (.ref (ad 30)), some (.int c), some (.int k), some (.int m)] [.int (-3)] (sI (sI (sI h (ad 0) 6 0) (ad 0) 6 (-3)) (ad 30) 11 (-3)) _
        refine r_iret rfl ?_
        exact ⟨rfl, Rel.why r (((Chg.rf.sI (fx_j fx) (.inl (by decide))).sI (fx_j fx) (.inl (by decide))).sI (fx_j fx) (.inl (by decide))) ⟨rfl, by decide⟩ (Eq.trans (Eq.trans (I_ne (fx_ne fx (by decide))) I_eq) (Eq.symm I_eq)), Nat.le_add_right _ _, Nat.le_add_right _ _⟩
      · obtain ⟨k5, hk5, ek5⟩ := ix_of (x := k) (n := 2147483648) (by have := i_nlt c4; have := i_rg k; have : (0 : Int32).toInt = 0 := rfl; omega) (by have := i_nlt c4; have := i_rg k; have : (0 : Int32).toInt = 0 := rfl; omega)
        refine r_iload rfl rfl ?_
        refine WR_tI (y := nI k5) ek5 ?_
        refine r_ic (x := 7) rfl rfl ?_
        refine r_icmp_gt (tg := 14) rfl rfl (fun c6 => ?_) (fun c6 => ?_)
        · refine r_ic (x := 0) rfl rfl ?_
          refine r_zret rfl (.inl rfl) ?_
          show WR _ cd_19 23 [some (.ref (ad 0)), some (.int c), some (.int k), some (.int m)] [.int 0] (sI h (ad 0) 6 0) _
          refine r_if_eq (tg := 32) rfl rfl (fun _ => ?_) (fun q => absurd q (by decide))
          refine r_aload rfl rfl ?_
          refine r_ic (x := (-3)) rfl rfl ?_
          refine r_cv (y := 13) (ra := [.int (-3)]) (rest := []) rfl ⟨⟨rfl, rfl⟩, rfl, by decide⟩ (fx_t0 fx) rfl rfl (Nat.le_of_ble_eq_true rfl) ?_
          refine in_13 (Nat.le_of_ble_eq_true rfl) ?_
          show WR _ cd_13 0 [some (.ref (ad 0)), some (.int (-3))] [] (sI h (ad 0) 6 0) _
          refine r_aload rfl rfl ?_
          refine r_iload rfl rfl ?_
          refine r_putI rfl ⟨rfl, rfl, rfl⟩ (fx_t0 fx) ?_
          refine r_iload rfl rfl ?_
          refine r_iret rfl ?_
          show WR _ cd_19 38 [some (.ref (ad 0)), some (.int c), some (.int k), some (.int m)] [.int (-3)] (sI (sI h (ad 0) 6 0) (ad 0) 6 (-3)) _
          refine r_iret rfl ?_
          show EV _ 161 [.ref (ad 30), .int c, .int k, .int m] (sI (sI h (ad 0) 6 0) (ad 0) 6 (-3)) _
          refine in_161 (Nat.le_of_ble_eq_true rfl) ?_
          show WR _ cd_161 0 [some (.ref (ad 30)), some (.int c), some (.int k), some (.int m)] [] (sI (sI h (ad 0) 6 0) (ad 0) 6 (-3)) _
          refine r_iload rfl rfl ?_
          refine WR_tI (y := nI k2) ek2 ?_
          refine r_cs (y := 153) (ra := [.int (nI k2)]) (rest := []) rfl ⟨⟨rfl, rfl⟩, by decide⟩ rfl rfl (Nat.le_of_ble_eq_true rfl) ?_
          refine in_153 (Nat.le_of_ble_eq_true rfl) ?_
          show WR _ cd_153 0 [some (.int (nI k2))] [] (sI (sI h (ad 0) 6 0) (ad 0) 6 (-3)) _
          refine r_iload rfl rfl ?_
          refine r_if_lt (tg := 14) rfl rfl (fun q => False.elim (by have := i_nlt c1; have := i_rg c; have : (0 : Int32).toInt = 0 := rfl; have := i_eq ek2; have : (nI k2).toInt = ((k2 : Nat) : Int) := nI_toInt (by omega); have := i_nle c3; have : (24 : Int32).toInt = 24 := rfl; have := i_lt q; omega)) (fun _ => ?_)
          refine r_iload rfl rfl ?_
          refine r_ic (x := 24) rfl rfl ?_
          refine r_icmp_ge (tg := 14) rfl rfl (fun q => False.elim (by have := i_nlt c1; have := i_rg c; have : (0 : Int32).toInt = 0 := rfl; have := i_eq ek2; have : (nI k2).toInt = ((k2 : Nat) : Int) := nI_toInt (by omega); have := i_nle c3; have : (24 : Int32).toInt = 24 := rfl; have := i_le q; omega)) (fun _ => ?_)
          refine r_ic (x := 1) rfl rfl ?_
          refine r_goto (tg := 15) rfl rfl ?_
          refine r_zret rfl (.inr rfl) ?_
          show WR _ cd_161 4 [some (.ref (ad 30)), some (.int c), some (.int k), some (.int m)] [.int 1] (sI (sI h (ad 0) 6 0) (ad 0) 6 (-3)) _
          refine r_if_ne (tg := 14) rfl rfl (fun _ => ?_) (fun q => absurd q (by decide))
          refine r_iload rfl rfl ?_
          refine WR_tI (y := nI k5) ek5 ?_
          refine r_i2l rfl ?_
          refine WR_tL (y := lN k5) (nI_l (by have := i_nlt c4; have := i_rg k; have : (0 : Int32).toInt = 0 := rfl; have := i_eq ek5; have : (nI k5).toInt = ((k5 : Nat) : Int) := nI_toInt (by omega); have := i_lt c6; have : (7 : Int32).toInt = 7 := rfl; omega)) ?_
          refine r_lc (x := 0) rfl rfl ?_
          refine r_ldc (x := .long 7) rfl rfl ?_
          refine r_cs (y := 155) (ra := [.long 7, .long 0, .long (lN k5)]) (rest := []) rfl ⟨⟨rfl, rfl⟩, by decide⟩ rfl rfl (Nat.le_of_ble_eq_true rfl) ?_
          refine in_155 (Nat.le_of_ble_eq_true rfl) ?_
          show WR _ cd_155 0 [some (.long (lN k5)), none, some (.long 0), none, some (.long 7), none] [] (sI (sI h (ad 0) 6 0) (ad 0) 6 (-3)) _
          refine r_lload rfl rfl ?_
          refine r_lload rfl rfl ?_
          refine r_lif_lt (tg := 17) rfl rfl rfl (fun q => False.elim (by have := i_nlt c4; have := i_rg k; have : (0 : Int32).toInt = 0 := rfl; have := i_eq ek5; have : (nI k5).toInt = ((k5 : Nat) : Int) := nI_toInt (by omega); have := i_lt c6; have : (7 : Int32).toInt = 7 := rfl; have : (lN k5).toInt = ((k5 : Nat) : Int) := lN_toInt (by omega); have : (0 : Int64).toInt = 0 := rfl; have := l_lt q; omega)) (fun _ => ?_)
          refine r_lload rfl rfl ?_
          refine r_lload rfl rfl ?_
          refine r_lif_gt (tg := 17) rfl rfl rfl (fun _ => ?_) (fun q => False.elim (by have := i_nlt c4; have := i_rg k; have : (0 : Int32).toInt = 0 := rfl; have := i_eq ek5; have : (nI k5).toInt = ((k5 : Nat) : Int) := nI_toInt (by omega); have := i_lt c6; have : (7 : Int32).toInt = 7 := rfl; have : (lN k5).toInt = ((k5 : Nat) : Int) := lN_toInt (by omega); have : (7 : Int64).toInt = 7 := rfl; have := l_nlt q; omega))
          refine r_ic (x := 0) rfl rfl ?_
          refine r_zret rfl (.inl rfl) ?_
          show WR _ cd_161 23 [some (.ref (ad 30)), some (.int c), some (.int k), some (.int m)] [.int 0] (sI (sI h (ad 0) 6 0) (ad 0) 6 (-3)) _
          refine r_if_eq (tg := 32) rfl rfl (fun _ => ?_) (fun q => absurd q (by decide))
          refine r_aload rfl rfl ?_
          refine r_ic (x := (-3)) rfl rfl ?_
          refine r_cv (y := 154) (ra := [.int (-3)]) (rest := []) rfl ⟨⟨rfl, rfl⟩, rfl, by decide⟩ (fx_t30 fx) rfl rfl (Nat.le_of_ble_eq_true rfl) ?_
          refine in_154 (Nat.le_of_ble_eq_true rfl) ?_
          show WR _ cd_154 0 [some (.ref (ad 30)), some (.int (-3))] [] (sI (sI h (ad 0) 6 0) (ad 0) 6 (-3)) _
          refine r_aload rfl rfl ?_
          refine r_iload rfl rfl ?_
          refine r_ic (x := (-1)) rfl rfl ?_
          refine r_icmp_ge (tg := 10) rfl rfl (fun q => absurd q (by decide)) (fun _ => ?_)
          refine r_iload rfl rfl ?_
          refine r_goto (tg := 11) rfl rfl ?_
          refine r_putI rfl ⟨rfl, rfl, rfl⟩ (fx_t30 fx) ?_
          refine r_iload rfl rfl ?_
          refine r_iret rfl ?_
          show WR _ cd_161 38 [some (.ref (ad 30)), some (.int c), some (.int k), some (.int m)] [.int (-3)] (sI (sI (sI h (ad 0) 6 0) (ad 0) 6 (-3)) (ad 30) 11 (-3)) _
          refine r_iret rfl ?_
          exact ⟨rfl, Rel.why r (((Chg.rf.sI (fx_j fx) (.inl (by decide))).sI (fx_j fx) (.inl (by decide))).sI (fx_j fx) (.inl (by decide))) ⟨rfl, by decide⟩ (Eq.trans (Eq.trans (I_ne (fx_ne fx (by decide))) I_eq) (Eq.symm I_eq)), Nat.le_add_right _ _, Nat.le_add_right _ _⟩
        · refine r_ic (x := 1) rfl rfl ?_
          refine r_goto (tg := 15) rfl rfl ?_
          refine r_zret rfl (.inr rfl) ?_
          show WR _ cd_19 23 [some (.ref (ad 0)), some (.int c), some (.int k), some (.int m)] [.int 1] (sI h (ad 0) 6 0) _
          refine r_if_eq (tg := 32) rfl rfl (fun q => absurd q (by decide)) (fun _ => ?_)
          refine r_iload rfl rfl ?_
          refine r_ic (x := 8) rfl rfl ?_
          refine r_icmp_le (tg := 39) rfl rfl (fun c7 => ?_) (fun c7 => ?_)
          · refine r_iload rfl rfl ?_
            refine r_if_ge (tg := 50) rfl rfl (fun c8 => ?_) (fun c8 => ?_)
            · refine r_aload rfl rfl ?_
              refine r_getA (b := ad 1) rfl ⟨rfl, rfl, rfl⟩ (fx_t0 fx) (fx_r0_0 fx) ?_
              refine r_iload rfl rfl ?_
              refine WR_tI (y := nI k2) ek2 ?_
              refine r_new (m := 2) rfl rfl ?_
              show WR _ cd_19 58 [some (.ref (ad 0)), some (.int c), some (.int k), some (.int m)] [.ref (hZ h), .int (nI k2), .ref (ad 1)] (nw (sI h (ad 0) 6 0) 6 2 2) _
              have fx : FX n ad sa z0 (nw (sI h (ad 0) 6 0) 6 2 2) := FX.nw (h := sI h (ad 0) 6 0) (FX.sI fx) (hzO.sI hz0)
              have hz1 : hzO (nw (sI h (ad 0) 6 0) 6 2 2) := hzO.nw (h := sI h (ad 0) 6 0) (hzO.sI hz0)
              have tz0 : hT (nw (sI h (ad 0) 6 0) 6 2 2) (hZ h) = 6 := nw_T0 (h := sI h (ad 0) 6 0) (t := 6) (k := 2) (m := 2)
              refine r_dup rfl rfl ?_
              refine r_iload rfl rfl ?_
              refine WR_tI (y := nI k5) ek5 ?_
              obtain ⟨k9, hk9, ek9⟩ := ix_of (x := m) (n := 2147483648) (by have := i_le c7; have := i_rg m; have : (8 : Int32).toInt = 8 := rfl; have := i_le c8; have : (0 : Int32).toInt = 0 := rfl; omega) (by have := i_le c7; have := i_rg m; have : (8 : Int32).toInt = 8 := rfl; have := i_le c8; have : (0 : Int32).toInt = 0 := rfl; omega)
              refine r_iload rfl rfl ?_
              refine WR_tI (y := nI k9) ek9 ?_
              refine r_cp (y := 18) (ra := [.int (nI k9), .int (nI k5)]) (rest := [.ref (hZ h), .int (nI k2), .ref (ad 1)]) rfl ⟨⟨rfl, rfl⟩, by decide⟩ rfl rfl (Nat.le_of_ble_eq_true rfl) ?_
              refine in_18 (Nat.le_of_ble_eq_true rfl) ?_
              show WR _ cd_18 0 [some (.ref (hZ h)), some (.int (nI k5)), some (.int (nI k9))] [] (nw (sI h (ad 0) 6 0) 6 2 2) _
              refine r_aload rfl rfl ?_
              refine r_cp (y := 16) (ra := []) (rest := []) rfl ⟨⟨rfl, rfl⟩, by decide⟩ rfl rfl (Nat.le_of_ble_eq_true rfl) ?_
              refine in_16 (Nat.le_of_ble_eq_true rfl) ?_
              show WR _ cd_16 0 [some (.ref (hZ h))] [] (nw (sI h (ad 0) 6 0) 6 2 2) _
              refine r_aload rfl rfl ?_
              refine r_obj rfl (Nat.le_of_ble_eq_true rfl) ?_
              refine r_vret rfl ?_
              show WR _ cd_18 4 [some (.ref (hZ h)), some (.int (nI k5)), some (.int (nI k9))] [] (nw (sI h (ad 0) 6 0) 6 2 2) _
              refine r_aload rfl rfl ?_
              refine r_iload rfl rfl ?_
              refine r_putI rfl ⟨rfl, rfl, rfl⟩ tz0 ?_
              have fx : FX n ad sa z0 (sI (nw (sI h (ad 0) 6 0) 6 2 2) (hZ h) 0 (nI k5)) := (FX.sI fx)
              have tz0 : hT (sI (nw (sI h (ad 0) 6 0) 6 2 2) (hZ h) 0 (nI k5)) (hZ h) = 6 := (Eq.trans (congrFun hT_sI _) tz0)
              refine r_aload rfl rfl ?_
              refine r_iload rfl rfl ?_
              refine r_anewarray rfl ⟨nI_pos (by have := i_le c7; have := i_rg m; have : (8 : Int32).toInt = 8 := rfl; have := i_le c8; have : (0 : Int32).toInt = 0 := rfl; have := i_eq ek9; have : (nI k9).toInt = ((k9 : Nat) : Int) := nI_toInt (by omega); omega), by rw [nI_clamp (by have := i_le c7; have := i_rg m; have : (8 : Int32).toInt = 8 := rfl; have := i_le c8; have : (0 : Int32).toInt = 0 := rfl; have := i_eq ek9; have : (nI k9).toInt = ((k9 : Nat) : Int) := nI_toInt (by omega); omega)]; exact (by have := i_le c7; have := i_rg m; have : (8 : Int32).toInt = 8 := rfl; have := i_le c8; have : (0 : Int32).toInt = 0 := rfl; have := i_eq ek9; have : (nI k9).toInt = ((k9 : Nat) : Int) := nI_toInt (by omega); omega)⟩ ?_
              refine WR_h (h2 := nw (sI (nw (sI h (ad 0) 6 0) 6 2 2) (hZ h) 0 (nI k5)) 24 k9 k9) (by rw [nI_clamp (by have := i_le c7; have := i_rg m; have : (8 : Int32).toInt = 8 := rfl; have := i_le c8; have : (0 : Int32).toInt = 0 := rfl; have := i_eq ek9; have : (nI k9).toInt = ((k9 : Nat) : Int) := nI_toInt (by omega); omega)] <;> rfl) ?_
              show WR _ cd_18 14 [some (.ref (hZ h)), some (.int (nI k5)), some (.int (nI k9))] [.ref (hZ h + 1), .ref (hZ h)] (nw (sI (nw (sI h (ad 0) 6 0) 6 2 2) (hZ h) 0 (nI k5)) 24 k9 k9) _
              have fx : FX n ad sa z0 (nw (sI (nw (sI h (ad 0) 6 0) 6 2 2) (hZ h) 0 (nI k5)) 24 k9 k9) := FX.nw (h := sI (nw (sI h (ad 0) 6 0) 6 2 2) (hZ h) 0 (nI k5)) fx (hzO.sI hz1)
              have hz2 : hzO (nw (sI (nw (sI h (ad 0) 6 0) 6 2 2) (hZ h) 0 (nI k5)) 24 k9 k9) := hzO.nw (h := sI (nw (sI h (ad 0) 6 0) 6 2 2) (hZ h) 0 (nI k5)) (hzO.sI hz1)
              have tz1 : hT (nw (sI (nw (sI h (ad 0) 6 0) 6 2 2) (hZ h) 0 (nI k5)) 24 k9 k9) (hZ h + 1) = 24 := nw_T0 (h := sI (nw (sI h (ad 0) 6 0) 6 2 2) (hZ h) 0 (nI k5)) (t := 24) (k := k9) (m := k9)
              refine r_putA rfl ⟨rfl, rfl, rfl⟩ (Eq.trans (nw_T (Nat.ne_of_lt (Nat.lt_succ_self _))) tz0) ?_
              have fx : FX n ad sa z0 (sR (nw (sI (nw (sI h (ad 0) 6 0) 6 2 2) (hZ h) 0 (nI k5)) 24 k9 k9) (hZ h) 1 (some (hZ h + 1))) := FX.dyR fx (fx_z fx0)
              have tz0 : hT (sR (nw (sI (nw (sI h (ad 0) 6 0) 6 2 2) (hZ h) 0 (nI k5)) 24 k9 k9) (hZ h) 1 (some (hZ h + 1))) (hZ h) = 6 := (Eq.trans (congrFun hT_sR _) (Eq.trans (nw_T (Nat.ne_of_lt (Nat.lt_succ_self _))) tz0))
              have tz1 : hT (sR (nw (sI (nw (sI h (ad 0) 6 0) 6 2 2) (hZ h) 0 (nI k5)) 24 k9 k9) (hZ h) 1 (some (hZ h + 1))) (hZ h + 1) = 24 := (Eq.trans (congrFun hT_sR _) tz1)
              refine r_vret rfl ?_
              show WR _ cd_19 64 [some (.ref (ad 0)), some (.int c), some (.int k), some (.int m)] [.ref (hZ h), .int (nI k2), .ref (ad 1)] (sR (nw (sI (nw (sI h (ad 0) 6 0) 6 2 2) (hZ h) 0 (nI k5)) 24 k9 k9) (hZ h) 1 (some (hZ h + 1))) _
              refine r_aastoreA rfl (isQ_of (fx_t1 fx) (by decide)) (vp_ct (fx_n1 fx) (vp_in_nI (by have := i_nlt c1; have := i_rg c; have : (0 : Int32).toInt = 0 := rfl; have := i_eq ek2; have : (nI k2).toInt = ((k2 : Nat) : Int) := nI_toInt (by omega); have := i_nle c3; have : (24 : Int32).toInt = 24 := rfl; omega) (by omega))) (okR_of (fx_t1 fx) tz0 (by decide)) ?_
              refine WR_h (h2 := sR (sR (nw (sI (nw (sI h (ad 0) 6 0) 6 2 2) (hZ h) 0 (nI k5)) 24 k9 k9) (hZ h) 1 (some (hZ h + 1))) (ad 1) k2 (some (hZ h))) (congrArg (fun z => sR (sR (nw (sI (nw (sI h (ad 0) 6 0) 6 2 2) (hZ h) 0 (nI k5)) 24 k9 k9) (hZ h) 1 (some (hZ h + 1))) (ad 1) z (some (hZ h))) ((nI_clamp (by have := i_nlt c1; have := i_rg c; have : (0 : Int32).toInt = 0 := rfl; have := i_eq ek2; have : (nI k2).toInt = ((k2 : Nat) : Int) := nI_toInt (by omega); have := i_nle c3; have : (24 : Int32).toInt = 24 := rfl; omega)) : _ = k2)) ?_
              have fx : FX n ad sa z0 (sR (sR (nw (sI (nw (sI h (ad 0) 6 0) 6 2 2) (hZ h) 0 (nI k5)) 24 k9 k9) (hZ h) 1 (some (hZ h + 1))) (ad 1) k2 (some (hZ h))) := FX.sRA (i := 1) fx (.inl (by decide)) (by decide)
              have tz0 : hT (sR (sR (nw (sI (nw (sI h (ad 0) 6 0) 6 2 2) (hZ h) 0 (nI k5)) 24 k9 k9) (hZ h) 1 (some (hZ h + 1))) (ad 1) k2 (some (hZ h))) (hZ h) = 6 := (Eq.trans (congrFun hT_sR _) tz0)
              have tz1 : hT (sR (sR (nw (sI (nw (sI h (ad 0) 6 0) 6 2 2) (hZ h) 0 (nI k5)) 24 k9 k9) (hZ h) 1 (some (hZ h + 1))) (ad 1) k2 (some (hZ h))) (hZ h + 1) = 24 := (Eq.trans (congrFun hT_sR _) tz1)
              refine r_iload rfl rfl ?_
              refine WR_tI (y := nI k9) ek9 ?_
              refine r_iret rfl ?_
              show EV _ 161 [.ref (ad 30), .int c, .int k, .int m] (sR (sR (nw (sI (nw (sI h (ad 0) 6 0) 6 2 2) (hZ h) 0 (nI k5)) 24 k9 k9) (hZ h) 1 (some (hZ h + 1))) (ad 1) k2 (some (hZ h))) _
              refine in_161 (Nat.le_of_ble_eq_true rfl) ?_
              show WR _ cd_161 0 [some (.ref (ad 30)), some (.int c), some (.int k), some (.int m)] [] (sR (sR (nw (sI (nw (sI h (ad 0) 6 0) 6 2 2) (hZ h) 0 (nI k5)) 24 k9 k9) (hZ h) 1 (some (hZ h + 1))) (ad 1) k2 (some (hZ h))) _
              refine r_iload rfl rfl ?_
              refine WR_tI (y := nI k2) ek2 ?_
              refine r_cs (y := 153) (ra := [.int (nI k2)]) (rest := []) rfl ⟨⟨rfl, rfl⟩, by decide⟩ rfl rfl (Nat.le_of_ble_eq_true rfl) ?_
              refine in_153 (Nat.le_of_ble_eq_true rfl) ?_
              show WR _ cd_153 0 [some (.int (nI k2))] [] (sR (sR (nw (sI (nw (sI h (ad 0) 6 0) 6 2 2) (hZ h) 0 (nI k5)) 24 k9 k9) (hZ h) 1 (some (hZ h + 1))) (ad 1) k2 (some (hZ h))) _
              refine r_iload rfl rfl ?_
              refine r_if_lt (tg := 14) rfl rfl (fun q => False.elim (by have := i_nlt c1; have := i_rg c; have : (0 : Int32).toInt = 0 := rfl; have := i_eq ek2; have : (nI k2).toInt = ((k2 : Nat) : Int) := nI_toInt (by omega); have := i_nle c3; have : (24 : Int32).toInt = 24 := rfl; have := i_lt q; omega)) (fun _ => ?_)
              refine r_iload rfl rfl ?_
              refine r_ic (x := 24) rfl rfl ?_
              refine r_icmp_ge (tg := 14) rfl rfl (fun q => False.elim (by have := i_nlt c1; have := i_rg c; have : (0 : Int32).toInt = 0 := rfl; have := i_eq ek2; have : (nI k2).toInt = ((k2 : Nat) : Int) := nI_toInt (by omega); have := i_nle c3; have : (24 : Int32).toInt = 24 := rfl; have := i_le q; omega)) (fun _ => ?_)
              refine r_ic (x := 1) rfl rfl ?_
              refine r_goto (tg := 15) rfl rfl ?_
              refine r_zret rfl (.inr rfl) ?_
              show WR _ cd_161 4 [some (.ref (ad 30)), some (.int c), some (.int k), some (.int m)] [.int 1] (sR (sR (nw (sI (nw (sI h (ad 0) 6 0) 6 2 2) (hZ h) 0 (nI k5)) 24 k9 k9) (hZ h) 1 (some (hZ h + 1))) (ad 1) k2 (some (hZ h))) _
              refine r_if_ne (tg := 14) rfl rfl (fun _ => ?_) (fun q => absurd q (by decide))
              refine r_iload rfl rfl ?_
              refine WR_tI (y := nI k5) ek5 ?_
              refine r_i2l rfl ?_
              refine WR_tL (y := lN k5) (nI_l (by have := i_nlt c4; have := i_rg k; have : (0 : Int32).toInt = 0 := rfl; have := i_eq ek5; have : (nI k5).toInt = ((k5 : Nat) : Int) := nI_toInt (by omega); have := i_nlt c6; have : (7 : Int32).toInt = 7 := rfl; omega)) ?_
              refine r_lc (x := 0) rfl rfl ?_
              refine r_ldc (x := .long 7) rfl rfl ?_
              refine r_cs (y := 155) (ra := [.long 7, .long 0, .long (lN k5)]) (rest := []) rfl ⟨⟨rfl, rfl⟩, by decide⟩ rfl rfl (Nat.le_of_ble_eq_true rfl) ?_
              refine in_155 (Nat.le_of_ble_eq_true rfl) ?_
              show WR _ cd_155 0 [some (.long (lN k5)), none, some (.long 0), none, some (.long 7), none] [] (sR (sR (nw (sI (nw (sI h (ad 0) 6 0) 6 2 2) (hZ h) 0 (nI k5)) 24 k9 k9) (hZ h) 1 (some (hZ h + 1))) (ad 1) k2 (some (hZ h))) _
              refine r_lload rfl rfl ?_
              refine r_lload rfl rfl ?_
              refine r_lif_lt (tg := 17) rfl rfl rfl (fun q => False.elim (by have := i_nlt c4; have := i_rg k; have : (0 : Int32).toInt = 0 := rfl; have := i_eq ek5; have : (nI k5).toInt = ((k5 : Nat) : Int) := nI_toInt (by omega); have := i_nlt c6; have : (7 : Int32).toInt = 7 := rfl; have : (lN k5).toInt = ((k5 : Nat) : Int) := lN_toInt (by omega); have : (0 : Int64).toInt = 0 := rfl; have := l_lt q; omega)) (fun _ => ?_)
              refine r_lload rfl rfl ?_
              refine r_lload rfl rfl ?_
              refine r_lif_gt (tg := 17) rfl rfl rfl (fun q => False.elim (by have := i_nlt c4; have := i_rg k; have : (0 : Int32).toInt = 0 := rfl; have := i_eq ek5; have : (nI k5).toInt = ((k5 : Nat) : Int) := nI_toInt (by omega); have := i_nlt c6; have : (7 : Int32).toInt = 7 := rfl; have : (lN k5).toInt = ((k5 : Nat) : Int) := lN_toInt (by omega); have : (7 : Int64).toInt = 7 := rfl; have := l_lt q; omega)) (fun _ => ?_)
              refine r_ic (x := 1) rfl rfl ?_
              refine r_goto (tg := 18) rfl rfl ?_
              refine r_zret rfl (.inr rfl) ?_
              show WR _ cd_161 23 [some (.ref (ad 30)), some (.int c), some (.int k), some (.int m)] [.int 1] (sR (sR (nw (sI (nw (sI h (ad 0) 6 0) 6 2 2) (hZ h) 0 (nI k5)) 24 k9 k9) (hZ h) 1 (some (hZ h + 1))) (ad 1) k2 (some (hZ h))) _
              refine r_if_eq (tg := 32) rfl rfl (fun q => absurd q (by decide)) (fun _ => ?_)
              refine r_iload rfl rfl ?_
              refine WR_tI (y := nI k9) ek9 ?_
              refine r_ic (x := 8) rfl rfl ?_
              refine r_icmp_le (tg := 39) rfl rfl (fun _ => ?_) (fun q => False.elim (by have := i_le c7; have := i_rg m; have : (8 : Int32).toInt = 8 := rfl; have := i_le c8; have : (0 : Int32).toInt = 0 := rfl; have := i_eq ek9; have : (nI k9).toInt = ((k9 : Nat) : Int) := nI_toInt (by omega); have := i_nle q; omega))
              refine r_iload rfl rfl ?_
              refine WR_tI (y := nI k9) ek9 ?_
              refine r_if_ge (tg := 49) rfl rfl (fun _ => ?_) (fun q => False.elim (by have := i_le c7; have := i_rg m; have : (8 : Int32).toInt = 8 := rfl; have := i_le c8; have : (0 : Int32).toInt = 0 := rfl; have := i_eq ek9; have : (nI k9).toInt = ((k9 : Nat) : Int) := nI_toInt (by omega); have := i_nle q; omega))
              have b0 : k2 ≤ 23 := (by have := i_nlt c1; have := i_rg c; have : (0 : Int32).toInt = 0 := rfl; have := i_eq ek2; have : (nI k2).toInt = ((k2 : Nat) : Int) := nI_toInt (by omega); have := i_nle c3; have : (24 : Int32).toInt = 24 := rfl; omega)
              have b1 : k5 ≤ 7 := (by have := i_nlt c4; have := i_rg k; have : (0 : Int32).toInt = 0 := rfl; have := i_eq ek5; have : (nI k5).toInt = ((k5 : Nat) : Int) := nI_toInt (by omega); have := i_nlt c6; have : (7 : Int32).toInt = 7 := rfl; omega)
              have b2 : k9 ≤ 8 := (by have := i_le c7; have := i_rg m; have : (8 : Int32).toInt = 8 := rfl; have := i_le c8; have : (0 : Int32).toInt = 0 := rfl; have := i_eq ek9; have : (nI k9).toInt = ((k9 : Nat) : Int) := nI_toInt (by omega); omega)
              subst ek2
              subst ek5
              subst ek9
              have nc := NC.of (T1 := 6) (T2 := 24) (x := nI k5) (ln := k9) (kc := k2) fx0 hz0
              refine t_cra fx (NC.wf fx0 nc rs) (by omega) b2 (fun t H1 H2 ht nl e1 e2 => ?_)
              obtain ⟨x1, x2, x3⟩ := Rel.newthing r nc (by omega) fx e1 e2 ht nl (by decide) (fun mid pa np => nt_cra fx0 nc (by omega) b2 e1 e2 mid pa np)
              exact ⟨rfl, x1, x2, x3⟩
            · refine r_aload rfl rfl ?_
              refine r_ic (x := (-13)) rfl rfl ?_
              refine r_cv (y := 13) (ra := [.int (-13)]) (rest := []) rfl ⟨⟨rfl, rfl⟩, rfl, by decide⟩ (fx_t0 fx) rfl rfl (Nat.le_of_ble_eq_true rfl) ?_
              refine in_13 (Nat.le_of_ble_eq_true rfl) ?_
              show WR _ cd_13 0 [some (.ref (ad 0)), some (.int (-13))] [] (sI h (ad 0) 6 0) _
              refine r_aload rfl rfl ?_
              refine r_iload rfl rfl ?_
              refine r_putI rfl ⟨rfl, rfl, rfl⟩ (fx_t0 fx) ?_
              refine r_iload rfl rfl ?_
              refine r_iret rfl ?_
              show WR _ cd_19 49 [some (.ref (ad 0)), some (.int c), some (.int k), some (.int m)] [.int (-13)] (sI (sI h (ad 0) 6 0) (ad 0) 6 (-13)) _
              refine r_iret rfl ?_
              show EV _ 161 [.ref (ad 30), .int c, .int k, .int m] (sI (sI h (ad 0) 6 0) (ad 0) 6 (-13)) _
              refine in_161 (Nat.le_of_ble_eq_true rfl) ?_
              show WR _ cd_161 0 [some (.ref (ad 30)), some (.int c), some (.int k), some (.int m)] [] (sI (sI h (ad 0) 6 0) (ad 0) 6 (-13)) _
              refine r_iload rfl rfl ?_
              refine WR_tI (y := nI k2) ek2 ?_
              refine r_cs (y := 153) (ra := [.int (nI k2)]) (rest := []) rfl ⟨⟨rfl, rfl⟩, by decide⟩ rfl rfl (Nat.le_of_ble_eq_true rfl) ?_
              refine in_153 (Nat.le_of_ble_eq_true rfl) ?_
              show WR _ cd_153 0 [some (.int (nI k2))] [] (sI (sI h (ad 0) 6 0) (ad 0) 6 (-13)) _
              refine r_iload rfl rfl ?_
              refine r_if_lt (tg := 14) rfl rfl (fun q => False.elim (by have := i_nlt c1; have := i_rg c; have : (0 : Int32).toInt = 0 := rfl; have := i_eq ek2; have : (nI k2).toInt = ((k2 : Nat) : Int) := nI_toInt (by omega); have := i_nle c3; have : (24 : Int32).toInt = 24 := rfl; have := i_lt q; omega)) (fun _ => ?_)
              refine r_iload rfl rfl ?_
              refine r_ic (x := 24) rfl rfl ?_
              refine r_icmp_ge (tg := 14) rfl rfl (fun q => False.elim (by have := i_nlt c1; have := i_rg c; have : (0 : Int32).toInt = 0 := rfl; have := i_eq ek2; have : (nI k2).toInt = ((k2 : Nat) : Int) := nI_toInt (by omega); have := i_nle c3; have : (24 : Int32).toInt = 24 := rfl; have := i_le q; omega)) (fun _ => ?_)
              refine r_ic (x := 1) rfl rfl ?_
              refine r_goto (tg := 15) rfl rfl ?_
              refine r_zret rfl (.inr rfl) ?_
              show WR _ cd_161 4 [some (.ref (ad 30)), some (.int c), some (.int k), some (.int m)] [.int 1] (sI (sI h (ad 0) 6 0) (ad 0) 6 (-13)) _
              refine r_if_ne (tg := 14) rfl rfl (fun _ => ?_) (fun q => absurd q (by decide))
              refine r_iload rfl rfl ?_
              refine WR_tI (y := nI k5) ek5 ?_
              refine r_i2l rfl ?_
              refine WR_tL (y := lN k5) (nI_l (by have := i_nlt c4; have := i_rg k; have : (0 : Int32).toInt = 0 := rfl; have := i_eq ek5; have : (nI k5).toInt = ((k5 : Nat) : Int) := nI_toInt (by omega); have := i_nlt c6; have : (7 : Int32).toInt = 7 := rfl; omega)) ?_
              refine r_lc (x := 0) rfl rfl ?_
              refine r_ldc (x := .long 7) rfl rfl ?_
              refine r_cs (y := 155) (ra := [.long 7, .long 0, .long (lN k5)]) (rest := []) rfl ⟨⟨rfl, rfl⟩, by decide⟩ rfl rfl (Nat.le_of_ble_eq_true rfl) ?_
              refine in_155 (Nat.le_of_ble_eq_true rfl) ?_
              show WR _ cd_155 0 [some (.long (lN k5)), none, some (.long 0), none, some (.long 7), none] [] (sI (sI h (ad 0) 6 0) (ad 0) 6 (-13)) _
              refine r_lload rfl rfl ?_
              refine r_lload rfl rfl ?_
              refine r_lif_lt (tg := 17) rfl rfl rfl (fun q => False.elim (by have := i_nlt c4; have := i_rg k; have : (0 : Int32).toInt = 0 := rfl; have := i_eq ek5; have : (nI k5).toInt = ((k5 : Nat) : Int) := nI_toInt (by omega); have := i_nlt c6; have : (7 : Int32).toInt = 7 := rfl; have : (lN k5).toInt = ((k5 : Nat) : Int) := lN_toInt (by omega); have : (0 : Int64).toInt = 0 := rfl; have := l_lt q; omega)) (fun _ => ?_)
              refine r_lload rfl rfl ?_
              refine r_lload rfl rfl ?_
              refine r_lif_gt (tg := 17) rfl rfl rfl (fun q => False.elim (by have := i_nlt c4; have := i_rg k; have : (0 : Int32).toInt = 0 := rfl; have := i_eq ek5; have : (nI k5).toInt = ((k5 : Nat) : Int) := nI_toInt (by omega); have := i_nlt c6; have : (7 : Int32).toInt = 7 := rfl; have : (lN k5).toInt = ((k5 : Nat) : Int) := lN_toInt (by omega); have : (7 : Int64).toInt = 7 := rfl; have := l_lt q; omega)) (fun _ => ?_)
              refine r_ic (x := 1) rfl rfl ?_
              refine r_goto (tg := 18) rfl rfl ?_
              refine r_zret rfl (.inr rfl) ?_
              show WR _ cd_161 23 [some (.ref (ad 30)), some (.int c), some (.int k), some (.int m)] [.int 1] (sI (sI h (ad 0) 6 0) (ad 0) 6 (-13)) _
              refine r_if_eq (tg := 32) rfl rfl (fun q => absurd q (by decide)) (fun _ => ?_)
              refine r_iload rfl rfl ?_
              refine r_ic (x := 8) rfl rfl ?_
              refine r_icmp_le (tg := 39) rfl rfl (fun _ => ?_) (fun q => False.elim (by have := i_le c7; have := i_rg m; have : (8 : Int32).toInt = 8 := rfl; have := i_nle c8; have : (0 : Int32).toInt = 0 := rfl; have := i_nle q; omega))
              refine r_iload rfl rfl ?_
              refine r_if_ge (tg := 49) rfl rfl (fun q => False.elim (by have := i_le c7; have := i_rg m; have : (8 : Int32).toInt = 8 := rfl; have := i_nle c8; have : (0 : Int32).toInt = 0 := rfl; have := i_le q; omega)) (fun _ => ?_)
              refine r_aload rfl rfl ?_
              refine r_ic (x := 3) rfl rfl ?_
              refine r_cv (y := 156) (ra := [.int 3]) (rest := []) rfl ⟨⟨rfl, rfl⟩, rfl, by decide⟩ (fx_t30 fx) rfl rfl (Nat.le_of_ble_eq_true rfl) ?_
              refine in_156 (Nat.le_of_ble_eq_true rfl) ?_
              show WR _ cd_156 0 [some (.ref (ad 30)), some (.int 3)] [] (sI (sI h (ad 0) 6 0) (ad 0) 6 (-13)) _
              refine r_aload rfl rfl ?_
              refine r_ic (x := (-10)) rfl rfl ?_
              refine r_iload rfl rfl ?_
              refine r_isub rfl ?_
              refine WR_tI (y := (-13)) rfl ?_
              refine r_cv (y := 154) (ra := [.int (-13)]) (rest := []) rfl ⟨⟨rfl, rfl⟩, rfl, by decide⟩ (fx_t30 fx) rfl rfl (Nat.le_of_ble_eq_true rfl) ?_
              refine in_154 (Nat.le_of_ble_eq_true rfl) ?_
              show WR _ cd_154 0 [some (.ref (ad 30)), some (.int (-13))] [] (sI (sI h (ad 0) 6 0) (ad 0) 6 (-13)) _
              refine r_aload rfl rfl ?_
              refine r_iload rfl rfl ?_
              refine r_ic (x := (-1)) rfl rfl ?_
              refine r_icmp_ge (tg := 10) rfl rfl (fun q => absurd q (by decide)) (fun _ => ?_)
              refine r_iload rfl rfl ?_
              refine r_goto (tg := 11) rfl rfl ?_
              refine r_putI rfl ⟨rfl, rfl, rfl⟩ (fx_t30 fx) ?_
              refine r_iload rfl rfl ?_
              refine r_iret rfl ?_
              show WR _ cd_156 8 [some (.ref (ad 30)), some (.int 3)] [.int (-13)] (sI (sI (sI h (ad 0) 6 0) (ad 0) 6 (-13)) (ad 30) 11 (-13)) _
              refine r_iret rfl ?_
              show WR _ cd_161 48 [some (.ref (ad 30)), some (.int c), some (.int k), some (.int m)] [.int (-13)] (sI (sI (sI h (ad 0) 6 0) (ad 0) 6 (-13)) (ad 30) 11 (-13)) _
              refine r_iret rfl ?_
              exact ⟨rfl, Rel.why r (((Chg.rf.sI (fx_j fx) (.inl (by decide))).sI (fx_j fx) (.inl (by decide))).sI (fx_j fx) (.inl (by decide))) ⟨rfl, by decide⟩ (Eq.trans (Eq.trans (I_ne (fx_ne fx (by decide))) I_eq) (Eq.symm I_eq)), Nat.le_add_right _ _, Nat.le_add_right _ _⟩
          · refine r_aload rfl rfl ?_
            refine r_ic (x := (-3)) rfl rfl ?_
            refine r_cv (y := 13) (ra := [.int (-3)]) (rest := []) rfl ⟨⟨rfl, rfl⟩, rfl, by decide⟩ (fx_t0 fx) rfl rfl (Nat.le_of_ble_eq_true rfl) ?_
            refine in_13 (Nat.le_of_ble_eq_true rfl) ?_
            show WR _ cd_13 0 [some (.ref (ad 0)), some (.int (-3))] [] (sI h (ad 0) 6 0) _
            refine r_aload rfl rfl ?_
            refine r_iload rfl rfl ?_
            refine r_putI rfl ⟨rfl, rfl, rfl⟩ (fx_t0 fx) ?_
            refine r_iload rfl rfl ?_
            refine r_iret rfl ?_
            show WR _ cd_19 38 [some (.ref (ad 0)), some (.int c), some (.int k), some (.int m)] [.int (-3)] (sI (sI h (ad 0) 6 0) (ad 0) 6 (-3)) _
            refine r_iret rfl ?_
            show EV _ 161 [.ref (ad 30), .int c, .int k, .int m] (sI (sI h (ad 0) 6 0) (ad 0) 6 (-3)) _
            refine in_161 (Nat.le_of_ble_eq_true rfl) ?_
            show WR _ cd_161 0 [some (.ref (ad 30)), some (.int c), some (.int k), some (.int m)] [] (sI (sI h (ad 0) 6 0) (ad 0) 6 (-3)) _
            refine r_iload rfl rfl ?_
            refine WR_tI (y := nI k2) ek2 ?_
            refine r_cs (y := 153) (ra := [.int (nI k2)]) (rest := []) rfl ⟨⟨rfl, rfl⟩, by decide⟩ rfl rfl (Nat.le_of_ble_eq_true rfl) ?_
            refine in_153 (Nat.le_of_ble_eq_true rfl) ?_
            show WR _ cd_153 0 [some (.int (nI k2))] [] (sI (sI h (ad 0) 6 0) (ad 0) 6 (-3)) _
            refine r_iload rfl rfl ?_
            refine r_if_lt (tg := 14) rfl rfl (fun q => False.elim (by have := i_nlt c1; have := i_rg c; have : (0 : Int32).toInt = 0 := rfl; have := i_eq ek2; have : (nI k2).toInt = ((k2 : Nat) : Int) := nI_toInt (by omega); have := i_nle c3; have : (24 : Int32).toInt = 24 := rfl; have := i_lt q; omega)) (fun _ => ?_)
            refine r_iload rfl rfl ?_
            refine r_ic (x := 24) rfl rfl ?_
            refine r_icmp_ge (tg := 14) rfl rfl (fun q => False.elim (by have := i_nlt c1; have := i_rg c; have : (0 : Int32).toInt = 0 := rfl; have := i_eq ek2; have : (nI k2).toInt = ((k2 : Nat) : Int) := nI_toInt (by omega); have := i_nle c3; have : (24 : Int32).toInt = 24 := rfl; have := i_le q; omega)) (fun _ => ?_)
            refine r_ic (x := 1) rfl rfl ?_
            refine r_goto (tg := 15) rfl rfl ?_
            refine r_zret rfl (.inr rfl) ?_
            show WR _ cd_161 4 [some (.ref (ad 30)), some (.int c), some (.int k), some (.int m)] [.int 1] (sI (sI h (ad 0) 6 0) (ad 0) 6 (-3)) _
            refine r_if_ne (tg := 14) rfl rfl (fun _ => ?_) (fun q => absurd q (by decide))
            refine r_iload rfl rfl ?_
            refine WR_tI (y := nI k5) ek5 ?_
            refine r_i2l rfl ?_
            refine WR_tL (y := lN k5) (nI_l (by have := i_nlt c4; have := i_rg k; have : (0 : Int32).toInt = 0 := rfl; have := i_eq ek5; have : (nI k5).toInt = ((k5 : Nat) : Int) := nI_toInt (by omega); have := i_nlt c6; have : (7 : Int32).toInt = 7 := rfl; omega)) ?_
            refine r_lc (x := 0) rfl rfl ?_
            refine r_ldc (x := .long 7) rfl rfl ?_
            refine r_cs (y := 155) (ra := [.long 7, .long 0, .long (lN k5)]) (rest := []) rfl ⟨⟨rfl, rfl⟩, by decide⟩ rfl rfl (Nat.le_of_ble_eq_true rfl) ?_
            refine in_155 (Nat.le_of_ble_eq_true rfl) ?_
            show WR _ cd_155 0 [some (.long (lN k5)), none, some (.long 0), none, some (.long 7), none] [] (sI (sI h (ad 0) 6 0) (ad 0) 6 (-3)) _
            refine r_lload rfl rfl ?_
            refine r_lload rfl rfl ?_
            refine r_lif_lt (tg := 17) rfl rfl rfl (fun q => False.elim (by have := i_nlt c4; have := i_rg k; have : (0 : Int32).toInt = 0 := rfl; have := i_eq ek5; have : (nI k5).toInt = ((k5 : Nat) : Int) := nI_toInt (by omega); have := i_nlt c6; have : (7 : Int32).toInt = 7 := rfl; have : (lN k5).toInt = ((k5 : Nat) : Int) := lN_toInt (by omega); have : (0 : Int64).toInt = 0 := rfl; have := l_lt q; omega)) (fun _ => ?_)
            refine r_lload rfl rfl ?_
            refine r_lload rfl rfl ?_
            refine r_lif_gt (tg := 17) rfl rfl rfl (fun q => False.elim (by have := i_nlt c4; have := i_rg k; have : (0 : Int32).toInt = 0 := rfl; have := i_eq ek5; have : (nI k5).toInt = ((k5 : Nat) : Int) := nI_toInt (by omega); have := i_nlt c6; have : (7 : Int32).toInt = 7 := rfl; have : (lN k5).toInt = ((k5 : Nat) : Int) := lN_toInt (by omega); have : (7 : Int64).toInt = 7 := rfl; have := l_lt q; omega)) (fun _ => ?_)
            refine r_ic (x := 1) rfl rfl ?_
            refine r_goto (tg := 18) rfl rfl ?_
            refine r_zret rfl (.inr rfl) ?_
            show WR _ cd_161 23 [some (.ref (ad 30)), some (.int c), some (.int k), some (.int m)] [.int 1] (sI (sI h (ad 0) 6 0) (ad 0) 6 (-3)) _
            refine r_if_eq (tg := 32) rfl rfl (fun q => absurd q (by decide)) (fun _ => ?_)
            obtain ⟨k10, hk10, ek10⟩ := ix_of (x := m) (n := 2147483648) (by have := i_nle c7; have := i_rg m; have : (8 : Int32).toInt = 8 := rfl; omega) (by have := i_nle c7; have := i_rg m; have : (8 : Int32).toInt = 8 := rfl; omega)
            refine r_iload rfl rfl ?_
            refine WR_tI (y := nI k10) ek10 ?_
            refine r_ic (x := 8) rfl rfl ?_
            refine r_icmp_le (tg := 39) rfl rfl (fun q => False.elim (by have := i_nle c7; have := i_rg m; have : (8 : Int32).toInt = 8 := rfl; have := i_eq ek10; have : (nI k10).toInt = ((k10 : Nat) : Int) := nI_toInt (by omega); have := i_le q; omega)) (fun _ => ?_)
            refine r_aload rfl rfl ?_
            refine r_ic (x := (-3)) rfl rfl ?_
            refine r_cv (y := 154) (ra := [.int (-3)]) (rest := []) rfl ⟨⟨rfl, rfl⟩, rfl, by decide⟩ (fx_t30 fx) rfl rfl (Nat.le_of_ble_eq_true rfl) ?_
            refine in_154 (Nat.le_of_ble_eq_true rfl) ?_
            show WR _ cd_154 0 [some (.ref (ad 30)), some (.int (-3))] [] (sI (sI h (ad 0) 6 0) (ad 0) 6 (-3)) _
            refine r_aload rfl rfl ?_
            refine r_iload rfl rfl ?_
            refine r_ic (x := (-1)) rfl rfl ?_
            refine r_icmp_ge (tg := 10) rfl rfl (fun q => absurd q (by decide)) (fun _ => ?_)
            refine r_iload rfl rfl ?_
            refine r_goto (tg := 11) rfl rfl ?_
            refine r_putI rfl ⟨rfl, rfl, rfl⟩ (fx_t30 fx) ?_
            refine r_iload rfl rfl ?_
            refine r_iret rfl ?_
            show WR _ cd_161 38 [some (.ref (ad 30)), some (.int c), some (.int k), some (.int m)] [.int (-3)] (sI (sI (sI h (ad 0) 6 0) (ad 0) 6 (-3)) (ad 30) 11 (-3)) _
            refine r_iret rfl ?_
            exact ⟨rfl, Rel.why r (((Chg.rf.sI (fx_j fx) (.inl (by decide))).sI (fx_j fx) (.inl (by decide))).sI (fx_j fx) (.inl (by decide))) ⟨rfl, by decide⟩ (Eq.trans (Eq.trans (I_ne (fx_ne fx (by decide))) I_eq) (Eq.symm I_eq)), Nat.le_add_right _ _, Nat.le_add_right _ _⟩


/-! ===== ask; printed ===== -/
set_option maxHeartbeats 2000000 in
theorem k_ask {n : Nat} {ad sa : Nat → Nat} {z0 : Nat} {h : mH} (r : Rel n ad sa z0 h) (c : Int32) (m : Int32) (l : Int32) : AP n ad sa z0 h 64 184 [.int c, .int m, .int l] := by
  obtain ⟨mid, pa, np, fx, ry, rt, ra, rp, rf, rst, ru, rs⟩ := id r
  have fx0 := fx
  obtain ⟨kt, hkt, t1, t2, t3⟩ := id rt
  unfold AP
  refine in_64 (Nat.le_of_ble_eq_true rfl) ?_
  show WR _ cd_64 0 [some (.ref (ad 0)), some (.int c), some (.int m), some (.int l), none, none] [] h _
  refine r_aload rfl rfl ?_
  refine r_ic (x := 0) rfl rfl ?_
  refine r_putI rfl ⟨rfl, rfl, rfl⟩ (fx_t0 fx) ?_
  refine r_iload rfl rfl ?_
  refine r_cs (y := 12) (ra := [.int c]) (rest := []) rfl ⟨⟨rfl, rfl⟩, by decide⟩ rfl rfl (Nat.le_of_ble_eq_true rfl) ?_
  refine in_12 (Nat.le_of_ble_eq_true rfl) ?_
  show WR _ cd_12 0 [some (.int c)] [] (sI h (ad 0) 6 0) _
  refine r_iload rfl rfl ?_
  refine r_if_lt (tg := 14) rfl rfl (fun c1 => ?_) (fun c1 => ?_)
  · refine r_ic (x := 0) rfl rfl ?_
    refine r_zret rfl (.inl rfl) ?_
    show WR _ cd_64 9 [some (.ref (ad 0)), some (.int c), some (.int m), some (.int l), none, none] [.int 0] (sI h (ad 0) 6 0) _
    refine r_if_ne (tg := 19) rfl rfl (fun q => absurd q (by decide)) (fun _ => ?_)
    refine r_aload rfl rfl ?_
    refine r_ic (x := (-2)) rfl rfl ?_
    refine r_cv (y := 65) (ra := [.int (-2)]) (rest := []) rfl ⟨⟨rfl, rfl⟩, rfl, by decide⟩ (fx_t0 fx) rfl rfl (Nat.le_of_ble_eq_true rfl) ?_
    refine in_65 (Nat.le_of_ble_eq_true rfl) ?_
    show WR _ cd_65 0 [some (.ref (ad 0)), some (.int (-2))] [] (sI h (ad 0) 6 0) _
    refine r_aload rfl rfl ?_
    refine r_iload rfl rfl ?_
    refine r_putI rfl ⟨rfl, rfl, rfl⟩ (fx_t0 fx) ?_
    refine r_lc (x := 0) rfl rfl ?_
    refine r_lret rfl ?_
    show WR _ cd_64 18 [some (.ref (ad 0)), some (.int c), some (.int m), some (.int l), none, none] [.long 0] (sI (sI h (ad 0) 6 0) (ad 0) 6 (-2)) _
    refine r_lret rfl ?_
    show EV _ 184 [.ref (ad 30), .int c, .int m, .int l] (sI (sI h (ad 0) 6 0) (ad 0) 6 (-2)) _
    refine in_184 (Nat.le_of_ble_eq_true rfl) ?_
    show WR _ cd_184 0 [some (.ref (ad 30)), some (.int c), some (.int m), some (.int l), none, none] [] (sI (sI h (ad 0) 6 0) (ad 0) 6 (-2)) _
    refine r_iload rfl rfl ?_
    refine r_cs (y := 153) (ra := [.int c]) (rest := []) rfl ⟨⟨rfl, rfl⟩, by decide⟩ rfl rfl (Nat.le_of_ble_eq_true rfl) ?_
    refine in_153 (Nat.le_of_ble_eq_true rfl) ?_
    show WR _ cd_153 0 [some (.int c)] [] (sI (sI h (ad 0) 6 0) (ad 0) 6 (-2)) _
    refine r_iload rfl rfl ?_
    refine r_if_lt (tg := 14) rfl rfl (fun _ => ?_) (fun q => False.elim (by have := i_lt c1; have := i_rg c; have : (0 : Int32).toInt = 0 := rfl; have := i_nlt q; omega))
    refine r_ic (x := 0) rfl rfl ?_
    refine r_zret rfl (.inl rfl) ?_
    show WR _ cd_184 4 [some (.ref (ad 30)), some (.int c), some (.int m), some (.int l), none, none] [.int 0] (sI (sI h (ad 0) 6 0) (ad 0) 6 (-2)) _
    refine r_if_ne (tg := 14) rfl rfl (fun q => absurd q (by decide)) (fun _ => ?_)
    refine r_aload rfl rfl ?_
    refine r_ic (x := (-2)) rfl rfl ?_
    refine r_cv (y := 171) (ra := [.int (-2)]) (rest := []) rfl ⟨⟨rfl, rfl⟩, rfl, by decide⟩ (fx_t30 fx) rfl rfl (Nat.le_of_ble_eq_true rfl) ?_
    refine in_171 (Nat.le_of_ble_eq_true rfl) ?_
    show WR _ cd_171 0 [some (.ref (ad 30)), some (.int (-2))] [] (sI (sI h (ad 0) 6 0) (ad 0) 6 (-2)) _
    refine r_aload rfl rfl ?_
    refine r_iload rfl rfl ?_
    refine r_putI rfl ⟨rfl, rfl, rfl⟩ (fx_t30 fx) ?_
    refine r_lc (x := 0) rfl rfl ?_
    refine r_lret rfl ?_
    show WR _ cd_184 13 [some (.ref (ad 30)), some (.int c), some (.int m), some (.int l), none, none] [.long 0] (sI (sI (sI h (ad 0) 6 0) (ad 0) 6 (-2)) (ad 30) 11 (-2)) _
    refine r_lret rfl ?_
    exact ⟨rfl, Rel.why r (((Chg.rf.sI (fx_j fx) (.inl (by decide))).sI (fx_j fx) (.inl (by decide))).sI (fx_j fx) (.inl (by decide))) ⟨rfl, by decide⟩ (Eq.trans (Eq.trans (I_ne (fx_ne fx (by decide))) I_eq) (Eq.symm I_eq)), Nat.le_add_right _ _, Nat.le_add_right _ _⟩
  · obtain ⟨k2, hk2, ek2⟩ := ix_of (x := c) (n := 2147483648) (by have := i_nlt c1; have := i_rg c; have : (0 : Int32).toInt = 0 := rfl; omega) (by have := i_nlt c1; have := i_rg c; have : (0 : Int32).toInt = 0 := rfl; omega)
    refine r_iload rfl rfl ?_
    refine WR_tI (y := nI k2) ek2 ?_
    refine r_ic (x := 24) rfl rfl ?_
    refine r_icmp_ge (tg := 14) rfl rfl (fun c3 => ?_) (fun c3 => ?_)
    · refine r_ic (x := 0) rfl rfl ?_
      refine r_zret rfl (.inl rfl) ?_
      show WR _ cd_64 9 [some (.ref (ad 0)), some (.int c), some (.int m), some (.int l), none, none] [.int 0] (sI h (ad 0) 6 0) _
      refine r_if_ne (tg := 19) rfl rfl (fun q => absurd q (by decide)) (fun _ => ?_)
      refine r_aload rfl rfl ?_
      refine r_ic (x := (-2)) rfl rfl ?_
      refine r_cv (y := 65) (ra := [.int (-2)]) (rest := []) rfl ⟨⟨rfl, rfl⟩, rfl, by decide⟩ (fx_t0 fx) rfl rfl (Nat.le_of_ble_eq_true rfl) ?_
      refine in_65 (Nat.le_of_ble_eq_true rfl) ?_
      show WR _ cd_65 0 [some (.ref (ad 0)), some (.int (-2))] [] (sI h (ad 0) 6 0) _
      refine r_aload rfl rfl ?_
      refine r_iload rfl rfl ?_
      refine r_putI rfl ⟨rfl, rfl, rfl⟩ (fx_t0 fx) ?_
      refine r_lc (x := 0) rfl rfl ?_
      refine r_lret rfl ?_
      show WR _ cd_64 18 [some (.ref (ad 0)), some (.int c), some (.int m), some (.int l), none, none] [.long 0] (sI (sI h (ad 0) 6 0) (ad 0) 6 (-2)) _
      refine r_lret rfl ?_
      show EV _ 184 [.ref (ad 30), .int c, .int m, .int l] (sI (sI h (ad 0) 6 0) (ad 0) 6 (-2)) _
      refine in_184 (Nat.le_of_ble_eq_true rfl) ?_
      show WR _ cd_184 0 [some (.ref (ad 30)), some (.int c), some (.int m), some (.int l), none, none] [] (sI (sI h (ad 0) 6 0) (ad 0) 6 (-2)) _
      refine r_iload rfl rfl ?_
      refine WR_tI (y := nI k2) ek2 ?_
      refine r_cs (y := 153) (ra := [.int (nI k2)]) (rest := []) rfl ⟨⟨rfl, rfl⟩, by decide⟩ rfl rfl (Nat.le_of_ble_eq_true rfl) ?_
      refine in_153 (Nat.le_of_ble_eq_true rfl) ?_
      show WR _ cd_153 0 [some (.int (nI k2))] [] (sI (sI h (ad 0) 6 0) (ad 0) 6 (-2)) _
      refine r_iload rfl rfl ?_
      refine r_if_lt (tg := 14) rfl rfl (fun q => False.elim (by have := i_nlt c1; have := i_rg c; have : (0 : Int32).toInt = 0 := rfl; have := i_eq ek2; have : (nI k2).toInt = ((k2 : Nat) : Int) := nI_toInt (by omega); have := i_le c3; have : (24 : Int32).toInt = 24 := rfl; have := i_lt q; omega)) (fun _ => ?_)
      refine r_iload rfl rfl ?_
      refine r_ic (x := 24) rfl rfl ?_
      refine r_icmp_ge (tg := 14) rfl rfl (fun _ => ?_) (fun q => False.elim (by have := i_nlt c1; have := i_rg c; have : (0 : Int32).toInt = 0 := rfl; have := i_eq ek2; have : (nI k2).toInt = ((k2 : Nat) : Int) := nI_toInt (by omega); have := i_le c3; have : (24 : Int32).toInt = 24 := rfl; have := i_nle q; omega))
      refine r_ic (x := 0) rfl rfl ?_
      refine r_zret rfl (.inl rfl) ?_
      show WR _ cd_184 4 [some (.ref (ad 30)), some (.int c), some (.int m), some (.int l), none, none] [.int 0] (sI (sI h (ad 0) 6 0) (ad 0) 6 (-2)) _
      refine r_if_ne (tg := 14) rfl rfl (fun q => absurd q (by decide)) (fun _ => ?_)
      refine r_aload rfl rfl ?_
      refine r_ic (x := (-2)) rfl rfl ?_
      refine r_cv (y := 171) (ra := [.int (-2)]) (rest := []) rfl ⟨⟨rfl, rfl⟩, rfl, by decide⟩ (fx_t30 fx) rfl rfl (Nat.le_of_ble_eq_true rfl) ?_
      refine in_171 (Nat.le_of_ble_eq_true rfl) ?_
      show WR _ cd_171 0 [some (.ref (ad 30)), some (.int (-2))] [] (sI (sI h (ad 0) 6 0) (ad 0) 6 (-2)) _
      refine r_aload rfl rfl ?_
      refine r_iload rfl rfl ?_
      refine r_putI rfl ⟨rfl, rfl, rfl⟩ (fx_t30 fx) ?_
      refine r_lc (x := 0) rfl rfl ?_
      refine r_lret rfl ?_
      show WR _ cd_184 13 [some (.ref (ad 30)), some (.int c), some (.int m), some (.int l), none, none] [.long 0] (sI (sI (sI h (ad 0) 6 0) (ad 0) 6 (-2)) (ad 30) 11 (-2)) _
      refine r_lret rfl ?_
      exact ⟨rfl, Rel.why r (((Chg.rf.sI (fx_j fx) (.inl (by decide))).sI (fx_j fx) (.inl (by decide))).sI (fx_j fx) (.inl (by decide))) ⟨rfl, by decide⟩ (Eq.trans (Eq.trans (I_ne (fx_ne fx (by decide))) I_eq) (Eq.symm I_eq)), Nat.le_add_right _ _, Nat.le_add_right _ _⟩
    · refine r_ic (x := 1) rfl rfl ?_
      refine r_goto (tg := 15) rfl rfl ?_
      refine r_zret rfl (.inr rfl) ?_
      show WR _ cd_64 9 [some (.ref (ad 0)), some (.int c), some (.int m), some (.int l), none, none] [.int 1] (sI h (ad 0) 6 0) _
      refine r_if_ne (tg := 19) rfl rfl (fun _ => ?_) (fun q => absurd q (by decide))
      refine r_iload rfl rfl ?_
      refine r_if_lt (tg := 39) rfl rfl (fun c4 => ?_) (fun c4 => ?_)
      · refine r_aload rfl rfl ?_
        refine r_ic (x := (-3)) rfl rfl ?_
        refine r_cv (y := 65) (ra := [.int (-3)]) (rest := []) rfl ⟨⟨rfl, rfl⟩, rfl, by decide⟩ (fx_t0 fx) rfl rfl (Nat.le_of_ble_eq_true rfl) ?_
        refine in_65 (Nat.le_of_ble_eq_true rfl) ?_
        show WR _ cd_65 0 [some (.ref (ad 0)), some (.int (-3))] [] (sI h (ad 0) 6 0) _
        refine r_aload rfl rfl ?_
        refine r_iload rfl rfl ?_
        refine r_putI rfl ⟨rfl, rfl, rfl⟩ (fx_t0 fx) ?_
        refine r_lc (x := 0) rfl rfl ?_
        refine r_lret rfl ?_
        show WR _ cd_64 45 [some (.ref (ad 0)), some (.int c), some (.int m), some (.int l), none, none] [.long 0] (sI (sI h (ad 0) 6 0) (ad 0) 6 (-3)) _
        refine r_lret rfl ?_
        show EV _ 184 [.ref (ad 30), .int c, .int m, .int l] (sI (sI h (ad 0) 6 0) (ad 0) 6 (-3)) _
        refine in_184 (Nat.le_of_ble_eq_true rfl) ?_
        show WR _ cd_184 0 [some (.ref (ad 30)), some (.int c), some (.int m), some (.int l), none, none] [] (sI (sI h (ad 0) 6 0) (ad 0) 6 (-3)) _
        refine r_iload rfl rfl ?_
        refine WR_tI (y := nI k2) ek2 ?_
        refine r_cs (y := 153) (ra := [.int (nI k2)]) (rest := []) rfl ⟨⟨rfl, rfl⟩, by decide⟩ rfl rfl (Nat.le_of_ble_eq_true rfl) ?_
        refine in_153 (Nat.le_of_ble_eq_true rfl) ?_
        show WR _ cd_153 0 [some (.int (nI k2))] [] (sI (sI h (ad 0) 6 0) (ad 0) 6 (-3)) _
        refine r_iload rfl rfl ?_
        refine r_if_lt (tg := 14) rfl rfl (fun q => False.elim (by have := i_nlt c1; have := i_rg c; have : (0 : Int32).toInt = 0 := rfl; have := i_eq ek2; have : (nI k2).toInt = ((k2 : Nat) : Int) := nI_toInt (by omega); have := i_nle c3; have : (24 : Int32).toInt = 24 := rfl; have := i_lt q; omega)) (fun _ => ?_)
        refine r_iload rfl rfl ?_
        refine r_ic (x := 24) rfl rfl ?_
        refine r_icmp_ge (tg := 14) rfl rfl (fun q => False.elim (by have := i_nlt c1; have := i_rg c; have : (0 : Int32).toInt = 0 := rfl; have := i_eq ek2; have : (nI k2).toInt = ((k2 : Nat) : Int) := nI_toInt (by omega); have := i_nle c3; have : (24 : Int32).toInt = 24 := rfl; have := i_le q; omega)) (fun _ => ?_)
        refine r_ic (x := 1) rfl rfl ?_
        refine r_goto (tg := 15) rfl rfl ?_
        refine r_zret rfl (.inr rfl) ?_
        show WR _ cd_184 4 [some (.ref (ad 30)), some (.int c), some (.int m), some (.int l), none, none] [.int 1] (sI (sI h (ad 0) 6 0) (ad 0) 6 (-3)) _
        refine r_if_ne (tg := 14) rfl rfl (fun _ => ?_) (fun q => absurd q (by decide))
        refine r_iload rfl rfl ?_
        refine r_i2l rfl ?_
        refine r_lc (x := 0) rfl rfl ?_
        refine r_ldc (x := .long 2) rfl rfl ?_
        refine r_cs (y := 155) (ra := [.long 2, .long 0, .long m.toInt64]) (rest := []) rfl ⟨⟨rfl, rfl⟩, by decide⟩ rfl rfl (Nat.le_of_ble_eq_true rfl) ?_
        refine in_155 (Nat.le_of_ble_eq_true rfl) ?_
        show WR _ cd_155 0 [some (.long m.toInt64), none, some (.long 0), none, some (.long 2), none] [] (sI (sI h (ad 0) 6 0) (ad 0) 6 (-3)) _
        refine r_lload rfl rfl ?_
        refine r_lload rfl rfl ?_
        refine r_lif_lt (tg := 17) rfl rfl rfl (fun _ => ?_) (fun q => False.elim (by have := i_lt c4; have := i_rg m; have : (0 : Int32).toInt = 0 := rfl; have := w_t m; have : (0 : Int64).toInt = 0 := rfl; have := l_nlt q; omega))
        refine r_ic (x := 0) rfl rfl ?_
        refine r_zret rfl (.inl rfl) ?_
        show WR _ cd_184 23 [some (.ref (ad 30)), some (.int c), some (.int m), some (.int l), none, none] [.int 0] (sI (sI h (ad 0) 6 0) (ad 0) 6 (-3)) _
        refine r_if_eq (tg := 38) rfl rfl (fun _ => ?_) (fun q => absurd q (by decide))
        refine r_aload rfl rfl ?_
        refine r_ic (x := (-3)) rfl rfl ?_
        refine r_cv (y := 171) (ra := [.int (-3)]) (rest := []) rfl ⟨⟨rfl, rfl⟩, rfl, by decide⟩ (fx_t30 fx) rfl rfl (Nat.le_of_ble_eq_true rfl) ?_
        refine in_171 (Nat.le_of_ble_eq_true rfl) ?_
        show WR _ cd_171 0 [some (.ref (ad 30)), some (.int (-3))] [] (sI (sI h (ad 0) 6 0) (ad 0) 6 (-3)) _
        refine r_aload rfl rfl ?_
        refine r_iload rfl rfl ?_
        refine r_putI rfl ⟨rfl, rfl, rfl⟩ (fx_t30 fx) ?_
        refine r_lc (x := 0) rfl rfl ?_
        refine r_lret rfl ?_
        show WR _ cd_184 44 [some (.ref (ad 30)), some (.int c), some (.int m), some (.int l), none, none] [.long 0] (sI (sI (sI h (ad 0) 6 0) (ad 0) 6 (-3)) (ad 30) 11 (-3)) _
        refine r_lret rfl ?_
        exact ⟨rfl, Rel.why r (((Chg.rf.sI (fx_j fx) (.inl (by decide))).sI (fx_j fx) (.inl (by decide))).sI (fx_j fx) (.inl (by decide))) ⟨rfl, by decide⟩ (Eq.trans (Eq.trans (I_ne (fx_ne fx (by decide))) I_eq) (Eq.symm I_eq)), Nat.le_add_right _ _, Nat.le_add_right _ _⟩
      · obtain ⟨k5, hk5, ek5⟩ := ix_of (x := m) (n := 2147483648) (by have := i_nlt c4; have := i_rg m; have : (0 : Int32).toInt = 0 := rfl; omega) (by have := i_nlt c4; have := i_rg m; have : (0 : Int32).toInt = 0 := rfl; omega)
        refine r_iload rfl rfl ?_
        refine WR_tI (y := nI k5) ek5 ?_
        refine r_ic (x := 2) rfl rfl ?_
        refine r_icmp_gt (tg := 39) rfl rfl (fun c6 => ?_) (fun c6 => ?_)
        · refine r_aload rfl rfl ?_
          refine r_ic (x := (-3)) rfl rfl ?_
          refine r_cv (y := 65) (ra := [.int (-3)]) (rest := []) rfl ⟨⟨rfl, rfl⟩, rfl, by decide⟩ (fx_t0 fx) rfl rfl (Nat.le_of_ble_eq_true rfl) ?_
          refine in_65 (Nat.le_of_ble_eq_true rfl) ?_
          show WR _ cd_65 0 [some (.ref (ad 0)), some (.int (-3))] [] (sI h (ad 0) 6 0) _
          refine r_aload rfl rfl ?_
          refine r_iload rfl rfl ?_
          refine r_putI rfl ⟨rfl, rfl, rfl⟩ (fx_t0 fx) ?_
          refine r_lc (x := 0) rfl rfl ?_
          refine r_lret rfl ?_
          show WR _ cd_64 45 [some (.ref (ad 0)), some (.int c), some (.int m), some (.int l), none, none] [.long 0] (sI (sI h (ad 0) 6 0) (ad 0) 6 (-3)) _
          refine r_lret rfl ?_
          show EV _ 184 [.ref (ad 30), .int c, .int m, .int l] (sI (sI h (ad 0) 6 0) (ad 0) 6 (-3)) _
          refine in_184 (Nat.le_of_ble_eq_true rfl) ?_
          show WR _ cd_184 0 [some (.ref (ad 30)), some (.int c), some (.int m), some (.int l), none, none] [] (sI (sI h (ad 0) 6 0) (ad 0) 6 (-3)) _
          refine r_iload rfl rfl ?_
          refine WR_tI (y := nI k2) ek2 ?_
          refine r_cs (y := 153) (ra := [.int (nI k2)]) (rest := []) rfl ⟨⟨rfl, rfl⟩, by decide⟩ rfl rfl (Nat.le_of_ble_eq_true rfl) ?_
          refine in_153 (Nat.le_of_ble_eq_true rfl) ?_
          show WR _ cd_153 0 [some (.int (nI k2))] [] (sI (sI h (ad 0) 6 0) (ad 0) 6 (-3)) _
          refine r_iload rfl rfl ?_
          refine r_if_lt (tg := 14) rfl rfl (fun q => False.elim (by have := i_nlt c1; have := i_rg c; have : (0 : Int32).toInt = 0 := rfl; have := i_eq ek2; have : (nI k2).toInt = ((k2 : Nat) : Int) := nI_toInt (by omega); have := i_nle c3; have : (24 : Int32).toInt = 24 := rfl; have := i_lt q; omega)) (fun _ => ?_)
          refine r_iload rfl rfl ?_
          refine r_ic (x := 24) rfl rfl ?_
          refine r_icmp_ge (tg := 14) rfl rfl (fun q => False.elim (by have := i_nlt c1; have := i_rg c; have : (0 : Int32).toInt = 0 := rfl; have := i_eq ek2; have : (nI k2).toInt = ((k2 : Nat) : Int) := nI_toInt (by omega); have := i_nle c3; have : (24 : Int32).toInt = 24 := rfl; have := i_le q; omega)) (fun _ => ?_)
          refine r_ic (x := 1) rfl rfl ?_
          refine r_goto (tg := 15) rfl rfl ?_
          refine r_zret rfl (.inr rfl) ?_
          show WR _ cd_184 4 [some (.ref (ad 30)), some (.int c), some (.int m), some (.int l), none, none] [.int 1] (sI (sI h (ad 0) 6 0) (ad 0) 6 (-3)) _
          refine r_if_ne (tg := 14) rfl rfl (fun _ => ?_) (fun q => absurd q (by decide))
          refine r_iload rfl rfl ?_
          refine WR_tI (y := nI k5) ek5 ?_
          refine r_i2l rfl ?_
          refine WR_tL (y := lN k5) (nI_l (by have := i_nlt c4; have := i_rg m; have : (0 : Int32).toInt = 0 := rfl; have := i_eq ek5; have : (nI k5).toInt = ((k5 : Nat) : Int) := nI_toInt (by omega); have := i_lt c6; have : (2 : Int32).toInt = 2 := rfl; omega)) ?_
          refine r_lc (x := 0) rfl rfl ?_
          refine r_ldc (x := .long 2) rfl rfl ?_
          refine r_cs (y := 155) (ra := [.long 2, .long 0, .long (lN k5)]) (rest := []) rfl ⟨⟨rfl, rfl⟩, by decide⟩ rfl rfl (Nat.le_of_ble_eq_true rfl) ?_
          refine in_155 (Nat.le_of_ble_eq_true rfl) ?_
          show WR _ cd_155 0 [some (.long (lN k5)), none, some (.long 0), none, some (.long 2), none] [] (sI (sI h (ad 0) 6 0) (ad 0) 6 (-3)) _
          refine r_lload rfl rfl ?_
          refine r_lload rfl rfl ?_
          refine r_lif_lt (tg := 17) rfl rfl rfl (fun q => False.elim (by have := i_nlt c4; have := i_rg m; have : (0 : Int32).toInt = 0 := rfl; have := i_eq ek5; have : (nI k5).toInt = ((k5 : Nat) : Int) := nI_toInt (by omega); have := i_lt c6; have : (2 : Int32).toInt = 2 := rfl; have : (lN k5).toInt = ((k5 : Nat) : Int) := lN_toInt (by omega); have : (0 : Int64).toInt = 0 := rfl; have := l_lt q; omega)) (fun _ => ?_)
          refine r_lload rfl rfl ?_
          refine r_lload rfl rfl ?_
          refine r_lif_gt (tg := 17) rfl rfl rfl (fun _ => ?_) (fun q => False.elim (by have := i_nlt c4; have := i_rg m; have : (0 : Int32).toInt = 0 := rfl; have := i_eq ek5; have : (nI k5).toInt = ((k5 : Nat) : Int) := nI_toInt (by omega); have := i_lt c6; have : (2 : Int32).toInt = 2 := rfl; have : (lN k5).toInt = ((k5 : Nat) : Int) := lN_toInt (by omega); have : (2 : Int64).toInt = 2 := rfl; have := l_nlt q; omega))
          refine r_ic (x := 0) rfl rfl ?_
          refine r_zret rfl (.inl rfl) ?_
          show WR _ cd_184 23 [some (.ref (ad 30)), some (.int c), some (.int m), some (.int l), none, none] [.int 0] (sI (sI h (ad 0) 6 0) (ad 0) 6 (-3)) _
          refine r_if_eq (tg := 38) rfl rfl (fun _ => ?_) (fun q => absurd q (by decide))
          refine r_aload rfl rfl ?_
          refine r_ic (x := (-3)) rfl rfl ?_
          refine r_cv (y := 171) (ra := [.int (-3)]) (rest := []) rfl ⟨⟨rfl, rfl⟩, rfl, by decide⟩ (fx_t30 fx) rfl rfl (Nat.le_of_ble_eq_true rfl) ?_
          refine in_171 (Nat.le_of_ble_eq_true rfl) ?_
          show WR _ cd_171 0 [some (.ref (ad 30)), some (.int (-3))] [] (sI (sI h (ad 0) 6 0) (ad 0) 6 (-3)) _
          refine r_aload rfl rfl ?_
          refine r_iload rfl rfl ?_
          refine r_putI rfl ⟨rfl, rfl, rfl⟩ (fx_t30 fx) ?_
          refine r_lc (x := 0) rfl rfl ?_
          refine r_lret rfl ?_
          show WR _ cd_184 44 [some (.ref (ad 30)), some (.int c), some (.int m), some (.int l), none, none] [.long 0] (sI (sI (sI h (ad 0) 6 0) (ad 0) 6 (-3)) (ad 30) 11 (-3)) _
          refine r_lret rfl ?_
          exact ⟨rfl, Rel.why r (((Chg.rf.sI (fx_j fx) (.inl (by decide))).sI (fx_j fx) (.inl (by decide))).sI (fx_j fx) (.inl (by decide))) ⟨rfl, by decide⟩ (Eq.trans (Eq.trans (I_ne (fx_ne fx (by decide))) I_eq) (Eq.symm I_eq)), Nat.le_add_right _ _, Nat.le_add_right _ _⟩
        · refine r_iload rfl rfl ?_
          refine r_if_lt (tg := 39) rfl rfl (fun c7 => ?_) (fun c7 => ?_)
          · refine r_aload rfl rfl ?_
            refine r_ic (x := (-3)) rfl rfl ?_
            refine r_cv (y := 65) (ra := [.int (-3)]) (rest := []) rfl ⟨⟨rfl, rfl⟩, rfl, by decide⟩ (fx_t0 fx) rfl rfl (Nat.le_of_ble_eq_true rfl) ?_
            refine in_65 (Nat.le_of_ble_eq_true rfl) ?_
            show WR _ cd_65 0 [some (.ref (ad 0)), some (.int (-3))] [] (sI h (ad 0) 6 0) _
            refine r_aload rfl rfl ?_
            refine r_iload rfl rfl ?_
            refine r_putI rfl ⟨rfl, rfl, rfl⟩ (fx_t0 fx) ?_
            refine r_lc (x := 0) rfl rfl ?_
            refine r_lret rfl ?_
            show WR _ cd_64 45 [some (.ref (ad 0)), some (.int c), some (.int m), some (.int l), none, none] [.long 0] (sI (sI h (ad 0) 6 0) (ad 0) 6 (-3)) _
            refine r_lret rfl ?_
            show EV _ 184 [.ref (ad 30), .int c, .int m, .int l] (sI (sI h (ad 0) 6 0) (ad 0) 6 (-3)) _
            refine in_184 (Nat.le_of_ble_eq_true rfl) ?_
            show WR _ cd_184 0 [some (.ref (ad 30)), some (.int c), some (.int m), some (.int l), none, none] [] (sI (sI h (ad 0) 6 0) (ad 0) 6 (-3)) _
            refine r_iload rfl rfl ?_
            refine WR_tI (y := nI k2) ek2 ?_
            refine r_cs (y := 153) (ra := [.int (nI k2)]) (rest := []) rfl ⟨⟨rfl, rfl⟩, by decide⟩ rfl rfl (Nat.le_of_ble_eq_true rfl) ?_
            refine in_153 (Nat.le_of_ble_eq_true rfl) ?_
            show WR _ cd_153 0 [some (.int (nI k2))] [] (sI (sI h (ad 0) 6 0) (ad 0) 6 (-3)) _
            refine r_iload rfl rfl ?_
            refine r_if_lt (tg := 14) rfl rfl (fun q => False.elim (by have := i_nlt c1; have := i_rg c; have : (0 : Int32).toInt = 0 := rfl; have := i_eq ek2; have : (nI k2).toInt = ((k2 : Nat) : Int) := nI_toInt (by omega); have := i_nle c3; have : (24 : Int32).toInt = 24 := rfl; have := i_lt q; omega)) (fun _ => ?_)
            refine r_iload rfl rfl ?_
            refine r_ic (x := 24) rfl rfl ?_
            refine r_icmp_ge (tg := 14) rfl rfl (fun q => False.elim (by have := i_nlt c1; have := i_rg c; have : (0 : Int32).toInt = 0 := rfl; have := i_eq ek2; have : (nI k2).toInt = ((k2 : Nat) : Int) := nI_toInt (by omega); have := i_nle c3; have : (24 : Int32).toInt = 24 := rfl; have := i_le q; omega)) (fun _ => ?_)
            refine r_ic (x := 1) rfl rfl ?_
            refine r_goto (tg := 15) rfl rfl ?_
            refine r_zret rfl (.inr rfl) ?_
            show WR _ cd_184 4 [some (.ref (ad 30)), some (.int c), some (.int m), some (.int l), none, none] [.int 1] (sI (sI h (ad 0) 6 0) (ad 0) 6 (-3)) _
            refine r_if_ne (tg := 14) rfl rfl (fun _ => ?_) (fun q => absurd q (by decide))
            refine r_iload rfl rfl ?_
            refine WR_tI (y := nI k5) ek5 ?_
            refine r_i2l rfl ?_
            refine WR_tL (y := lN k5) (nI_l (by have := i_nlt c4; have := i_rg m; have : (0 : Int32).toInt = 0 := rfl; have := i_eq ek5; have : (nI k5).toInt = ((k5 : Nat) : Int) := nI_toInt (by omega); have := i_nlt c6; have : (2 : Int32).toInt = 2 := rfl; omega)) ?_
            refine r_lc (x := 0) rfl rfl ?_
            refine r_ldc (x := .long 2) rfl rfl ?_
            refine r_cs (y := 155) (ra := [.long 2, .long 0, .long (lN k5)]) (rest := []) rfl ⟨⟨rfl, rfl⟩, by decide⟩ rfl rfl (Nat.le_of_ble_eq_true rfl) ?_
            refine in_155 (Nat.le_of_ble_eq_true rfl) ?_
            show WR _ cd_155 0 [some (.long (lN k5)), none, some (.long 0), none, some (.long 2), none] [] (sI (sI h (ad 0) 6 0) (ad 0) 6 (-3)) _
            refine r_lload rfl rfl ?_
            refine r_lload rfl rfl ?_
            refine r_lif_lt (tg := 17) rfl rfl rfl (fun q => False.elim (by have := i_nlt c4; have := i_rg m; have : (0 : Int32).toInt = 0 := rfl; have := i_eq ek5; have : (nI k5).toInt = ((k5 : Nat) : Int) := nI_toInt (by omega); have := i_nlt c6; have : (2 : Int32).toInt = 2 := rfl; have : (lN k5).toInt = ((k5 : Nat) : Int) := lN_toInt (by omega); have : (0 : Int64).toInt = 0 := rfl; have := l_lt q; omega)) (fun _ => ?_)
            refine r_lload rfl rfl ?_
            refine r_lload rfl rfl ?_
            refine r_lif_gt (tg := 17) rfl rfl rfl (fun q => False.elim (by have := i_nlt c4; have := i_rg m; have : (0 : Int32).toInt = 0 := rfl; have := i_eq ek5; have : (nI k5).toInt = ((k5 : Nat) : Int) := nI_toInt (by omega); have := i_nlt c6; have : (2 : Int32).toInt = 2 := rfl; have : (lN k5).toInt = ((k5 : Nat) : Int) := lN_toInt (by omega); have : (2 : Int64).toInt = 2 := rfl; have := l_lt q; omega)) (fun _ => ?_)
            refine r_ic (x := 1) rfl rfl ?_
            refine r_goto (tg := 18) rfl rfl ?_
            refine r_zret rfl (.inr rfl) ?_
            show WR _ cd_184 23 [some (.ref (ad 30)), some (.int c), some (.int m), some (.int l), none, none] [.int 1] (sI (sI h (ad 0) 6 0) (ad 0) 6 (-3)) _
            refine r_if_eq (tg := 38) rfl rfl (fun q => absurd q (by decide)) (fun _ => ?_)
            refine r_iload rfl rfl ?_
            refine r_i2l rfl ?_
            refine r_lc (x := 0) rfl rfl ?_
            refine r_ldc (x := .long 10000) rfl rfl ?_
            refine r_cs (y := 155) (ra := [.long 10000, .long 0, .long l.toInt64]) (rest := []) rfl ⟨⟨rfl, rfl⟩, by decide⟩ rfl rfl (Nat.le_of_ble_eq_true rfl) ?_
            refine in_155 (Nat.le_of_ble_eq_true rfl) ?_
            show WR _ cd_155 0 [some (.long l.toInt64), none, some (.long 0), none, some (.long 10000), none] [] (sI (sI h (ad 0) 6 0) (ad 0) 6 (-3)) _
            refine r_lload rfl rfl ?_
            refine r_lload rfl rfl ?_
            refine r_lif_lt (tg := 17) rfl rfl rfl (fun _ => ?_) (fun q => False.elim (by have := i_lt c7; have := i_rg l; have : (0 : Int32).toInt = 0 := rfl; have := w_t l; have : (0 : Int64).toInt = 0 := rfl; have := l_nlt q; omega))
            refine r_ic (x := 0) rfl rfl ?_
            refine r_zret rfl (.inl rfl) ?_
            show WR _ cd_184 35 [some (.ref (ad 30)), some (.int c), some (.int m), some (.int l), none, none] [.int 0] (sI (sI h (ad 0) 6 0) (ad 0) 6 (-3)) _
            refine r_if_ne (tg := 45) rfl rfl (fun q => absurd q (by decide)) (fun _ => ?_)
            refine r_aload rfl rfl ?_
            refine r_ic (x := (-3)) rfl rfl ?_
            refine r_cv (y := 171) (ra := [.int (-3)]) (rest := []) rfl ⟨⟨rfl, rfl⟩, rfl, by decide⟩ (fx_t30 fx) rfl rfl (Nat.le_of_ble_eq_true rfl) ?_
            refine in_171 (Nat.le_of_ble_eq_true rfl) ?_
            show WR _ cd_171 0 [some (.ref (ad 30)), some (.int (-3))] [] (sI (sI h (ad 0) 6 0) (ad 0) 6 (-3)) _
            refine r_aload rfl rfl ?_
            refine r_iload rfl rfl ?_
            refine r_putI rfl ⟨rfl, rfl, rfl⟩ (fx_t30 fx) ?_
            refine r_lc (x := 0) rfl rfl ?_
            refine r_lret rfl ?_
            show WR _ cd_184 44 [some (.ref (ad 30)), some (.int c), some (.int m), some (.int l), none, none] [.long 0] (sI (sI (sI h (ad 0) 6 0) (ad 0) 6 (-3)) (ad 30) 11 (-3)) _
            refine r_lret rfl ?_
            exact ⟨rfl, Rel.why r (((Chg.rf.sI (fx_j fx) (.inl (by decide))).sI (fx_j fx) (.inl (by decide))).sI (fx_j fx) (.inl (by decide))) ⟨rfl, by decide⟩ (Eq.trans (Eq.trans (I_ne (fx_ne fx (by decide))) I_eq) (Eq.symm I_eq)), Nat.le_add_right _ _, Nat.le_add_right _ _⟩
          · obtain ⟨k8, hk8, ek8⟩ := ix_of (x := l) (n := 2147483648) (by have := i_nlt c7; have := i_rg l; have : (0 : Int32).toInt = 0 := rfl; omega) (by have := i_nlt c7; have := i_rg l; have : (0 : Int32).toInt = 0 := rfl; omega)
            refine r_iload rfl rfl ?_
            refine WR_tI (y := nI k8) ek8 ?_
            refine r_ic (x := 10000) rfl rfl ?_
            refine r_icmp_le (tg := 46) rfl rfl (fun c9 => ?_) (fun c9 => ?_)
            · refine r_aload rfl rfl ?_
              refine r_iload rfl rfl ?_
              refine WR_tI (y := nI k2) ek2 ?_
              refine r_cv (y := 66) (ra := [.int (nI k2)]) (rest := []) rfl ⟨⟨rfl, rfl⟩, rfl, by decide⟩ (fx_t0 fx) rfl rfl (Nat.le_of_ble_eq_true rfl) ?_
              refine in_66 (Nat.le_of_ble_eq_true rfl) ?_
              show WR _ cd_66 0 [some (.ref (ad 0)), some (.int (nI k2)), none, none] [] (sI h (ad 0) 6 0) _
              refine r_aload rfl rfl ?_
              refine r_getA (b := ad 1) rfl ⟨rfl, rfl, rfl⟩ (fx_t0 fx) (fx_r0_0 fx) ?_
              refine r_iload rfl rfl ?_
              rcases rs.cs (n := n) (sa := sa) (c := k2) (by have := i_nlt c1; have := i_rg c; have : (0 : Int32).toInt = 0 := rfl; have := i_eq ek2; have : (nI k2).toInt = ((k2 : Nat) : Int) := nI_toInt (by omega); have := i_nle c3; have : (24 : Int32).toInt = 24 := rfl; omega) with ⟨v10, w10⟩ | ⟨q10, kd10, hq10, hn10, v10, w10, dz10, tg10, s1_10, k1_10, k2_10, hk_10, we10⟩ | ⟨t10, ln10, sz10, ht10, v10, w10, dz10, tg10, r_10, tg2_10, l1_10, l2_10, hl_10, kd_10, n_10, sz_10, hs_10, al10, rw10⟩ | ⟨t10, sz10, ht10, v10, w10, dz10, tg10, r_10, tg2_10, k1_10, l2_10, k2_10, n_10, sz_10, hs_10, al10, rw10⟩ | ⟨t10, kd10, sz10, ht10, v10, w10, dz10, tg10, r_10, tg2_10, k1_10, l2_10, k2_10, hk_10, n_10, sz_10, hs_10, al10, rw10⟩
              · refine r_aaload0 rfl (isQ_of (fx_t1 fx) (by decide)) (vp_ct (fx_n1 fx) (vp_in_nI (by have := i_nlt c1; have := i_rg c; have : (0 : Int32).toInt = 0 := rfl; have := i_eq ek2; have : (nI k2).toInt = ((k2 : Nat) : Int) := nI_toInt (by omega); have := i_nle c3; have : (24 : Int32).toInt = 24 := rfl; omega) (by omega))) (Eq.trans (congrArg (hR (sI h (ad 0) 6 0) (ad 1)) ((nI_clamp (by have := i_nlt c1; have := i_rg c; have : (0 : Int32).toInt = 0 := rfl; have := i_eq ek2; have : (nI k2).toInt = ((k2 : Nat) : Int) := nI_toInt (by omega); have := i_nle c3; have : (24 : Int32).toInt = 24 := rfl; omega)) : _ = k2)) (Eq.trans R_oI w10)) ?_
                refine r_astore0 (lv' := [some (.ref (ad 0)), some (.int (nI k2)), some (.null), none]) rfl (Nat.le_of_ble_eq_true rfl) rfl ?_
                refine r_aload0 rfl rfl ?_
                refine r_instN rfl (by decide) ?_
                refine r_if_eq (tg := 21) rfl rfl (fun _ => ?_) (fun q => absurd q (by decide))
                refine r_aload rfl rfl ?_
                refine r_aload0 rfl rfl ?_
                refine r_ifnonnullN (tg := 31) rfl rfl ?_
                refine r_ic (x := (-11)) rfl rfl ?_
                refine r_goto (tg := 33) rfl rfl ?_
                refine r_putI rfl ⟨rfl, rfl, rfl⟩ (fx_t0 fx) ?_
                refine r_null rfl ?_
                refine r_aret0 rfl ?_
                show WR _ cd_64 51 [some (.ref (ad 0)), some (.int c), some (.int m), some (.int l), none, none] [.null] (sI (sI h (ad 0) 6 0) (ad 0) 6 (-11)) _
                refine r_astore0 (lv' := [some (.ref (ad 0)), some (.int c), some (.int m), some (.int l), some (.null), none]) rfl (Nat.le_of_ble_eq_true rfl) rfl ?_
                refine r_aload0 rfl rfl ?_
                refine r_ifnonnullN (tg := 60) rfl rfl ?_
                refine r_lc (x := 0) rfl rfl ?_
                refine r_lret rfl ?_
                show EV _ 184 [.ref (ad 30), .int c, .int m, .int l] (sI (sI h (ad 0) 6 0) (ad 0) 6 (-11)) _
                refine in_184 (Nat.le_of_ble_eq_true rfl) ?_
                show WR _ cd_184 0 [some (.ref (ad 30)), some (.int c), some (.int m), some (.int l), none, none] [] (sI (sI h (ad 0) 6 0) (ad 0) 6 (-11)) _
                refine r_iload rfl rfl ?_
                refine WR_tI (y := nI k2) ek2 ?_
                refine r_cs (y := 153) (ra := [.int (nI k2)]) (rest := []) rfl ⟨⟨rfl, rfl⟩, by decide⟩ rfl rfl (Nat.le_of_ble_eq_true rfl) ?_
                refine in_153 (Nat.le_of_ble_eq_true rfl) ?_
                show WR _ cd_153 0 [some (.int (nI k2))] [] (sI (sI h (ad 0) 6 0) (ad 0) 6 (-11)) _
                refine r_iload rfl rfl ?_
                refine r_if_lt (tg := 14) rfl rfl (fun q => False.elim (by have := i_nlt c1; have := i_rg c; have : (0 : Int32).toInt = 0 := rfl; have := i_eq ek2; have : (nI k2).toInt = ((k2 : Nat) : Int) := nI_toInt (by omega); have := i_nle c3; have : (24 : Int32).toInt = 24 := rfl; have := i_lt q; omega)) (fun _ => ?_)
                refine r_iload rfl rfl ?_
                refine r_ic (x := 24) rfl rfl ?_
                refine r_icmp_ge (tg := 14) rfl rfl (fun q => False.elim (by have := i_nlt c1; have := i_rg c; have : (0 : Int32).toInt = 0 := rfl; have := i_eq ek2; have : (nI k2).toInt = ((k2 : Nat) : Int) := nI_toInt (by omega); have := i_nle c3; have : (24 : Int32).toInt = 24 := rfl; have := i_le q; omega)) (fun _ => ?_)
                refine r_ic (x := 1) rfl rfl ?_
                refine r_goto (tg := 15) rfl rfl ?_
                refine r_zret rfl (.inr rfl) ?_
                show WR _ cd_184 4 [some (.ref (ad 30)), some (.int c), some (.int m), some (.int l), none, none] [.int 1] (sI (sI h (ad 0) 6 0) (ad 0) 6 (-11)) _
                refine r_if_ne (tg := 14) rfl rfl (fun _ => ?_) (fun q => absurd q (by decide))
                refine r_iload rfl rfl ?_
                refine WR_tI (y := nI k5) ek5 ?_
                refine r_i2l rfl ?_
                refine WR_tL (y := lN k5) (nI_l (by have := i_nlt c4; have := i_rg m; have : (0 : Int32).toInt = 0 := rfl; have := i_eq ek5; have : (nI k5).toInt = ((k5 : Nat) : Int) := nI_toInt (by omega); have := i_nlt c6; have : (2 : Int32).toInt = 2 := rfl; omega)) ?_
                refine r_lc (x := 0) rfl rfl ?_
                refine r_ldc (x := .long 2) rfl rfl ?_
                refine r_cs (y := 155) (ra := [.long 2, .long 0, .long (lN k5)]) (rest := []) rfl ⟨⟨rfl, rfl⟩, by decide⟩ rfl rfl (Nat.le_of_ble_eq_true rfl) ?_
                refine in_155 (Nat.le_of_ble_eq_true rfl) ?_
                show WR _ cd_155 0 [some (.long (lN k5)), none, some (.long 0), none, some (.long 2), none] [] (sI (sI h (ad 0) 6 0) (ad 0) 6 (-11)) _
                refine r_lload rfl rfl ?_
                refine r_lload rfl rfl ?_
                refine r_lif_lt (tg := 17) rfl rfl rfl (fun q => False.elim (by have := i_nlt c4; have := i_rg m; have : (0 : Int32).toInt = 0 := rfl; have := i_eq ek5; have : (nI k5).toInt = ((k5 : Nat) : Int) := nI_toInt (by omega); have := i_nlt c6; have : (2 : Int32).toInt = 2 := rfl; have : (lN k5).toInt = ((k5 : Nat) : Int) := lN_toInt (by omega); have : (0 : Int64).toInt = 0 := rfl; have := l_lt q; omega)) (fun _ => ?_)
                refine r_lload rfl rfl ?_
                refine r_lload rfl rfl ?_
                refine r_lif_gt (tg := 17) rfl rfl rfl (fun q => False.elim (by have := i_nlt c4; have := i_rg m; have : (0 : Int32).toInt = 0 := rfl; have := i_eq ek5; have : (nI k5).toInt = ((k5 : Nat) : Int) := nI_toInt (by omega); have := i_nlt c6; have : (2 : Int32).toInt = 2 := rfl; have : (lN k5).toInt = ((k5 : Nat) : Int) := lN_toInt (by omega); have : (2 : Int64).toInt = 2 := rfl; have := l_lt q; omega)) (fun _ => ?_)
                refine r_ic (x := 1) rfl rfl ?_
                refine r_goto (tg := 18) rfl rfl ?_
                refine r_zret rfl (.inr rfl) ?_
                show WR _ cd_184 23 [some (.ref (ad 30)), some (.int c), some (.int m), some (.int l), none, none] [.int 1] (sI (sI h (ad 0) 6 0) (ad 0) 6 (-11)) _
                refine r_if_eq (tg := 38) rfl rfl (fun q => absurd q (by decide)) (fun _ => ?_)
                refine r_iload rfl rfl ?_
                refine WR_tI (y := nI k8) ek8 ?_
                refine r_i2l rfl ?_
                refine WR_tL (y := lN k8) (nI_l (by have := i_nlt c7; have := i_rg l; have : (0 : Int32).toInt = 0 := rfl; have := i_eq ek8; have : (nI k8).toInt = ((k8 : Nat) : Int) := nI_toInt (by omega); have := i_le c9; have : (10000 : Int32).toInt = 10000 := rfl; omega)) ?_
                refine r_lc (x := 0) rfl rfl ?_
                refine r_ldc (x := .long 10000) rfl rfl ?_
                refine r_cs (y := 155) (ra := [.long 10000, .long 0, .long (lN k8)]) (rest := []) rfl ⟨⟨rfl, rfl⟩, by decide⟩ rfl rfl (Nat.le_of_ble_eq_true rfl) ?_
                refine in_155 (Nat.le_of_ble_eq_true rfl) ?_
                show WR _ cd_155 0 [some (.long (lN k8)), none, some (.long 0), none, some (.long 10000), none] [] (sI (sI h (ad 0) 6 0) (ad 0) 6 (-11)) _
                refine r_lload rfl rfl ?_
                refine r_lload rfl rfl ?_
                refine r_lif_lt (tg := 17) rfl rfl rfl (fun q => False.elim (by have := i_nlt c7; have := i_rg l; have : (0 : Int32).toInt = 0 := rfl; have := i_eq ek8; have : (nI k8).toInt = ((k8 : Nat) : Int) := nI_toInt (by omega); have := i_le c9; have : (10000 : Int32).toInt = 10000 := rfl; have : (lN k8).toInt = ((k8 : Nat) : Int) := lN_toInt (by omega); have : (0 : Int64).toInt = 0 := rfl; have := l_lt q; omega)) (fun _ => ?_)
                refine r_lload rfl rfl ?_
                refine r_lload rfl rfl ?_
                refine r_lif_gt (tg := 17) rfl rfl rfl (fun q => False.elim (by have := i_nlt c7; have := i_rg l; have : (0 : Int32).toInt = 0 := rfl; have := i_eq ek8; have : (nI k8).toInt = ((k8 : Nat) : Int) := nI_toInt (by omega); have := i_le c9; have : (10000 : Int32).toInt = 10000 := rfl; have : (lN k8).toInt = ((k8 : Nat) : Int) := lN_toInt (by omega); have : (10000 : Int64).toInt = 10000 := rfl; have := l_lt q; omega)) (fun _ => ?_)
                refine r_ic (x := 1) rfl rfl ?_
                refine r_goto (tg := 18) rfl rfl ?_
                refine r_zret rfl (.inr rfl) ?_
                show WR _ cd_184 35 [some (.ref (ad 30)), some (.int c), some (.int m), some (.int l), none, none] [.int 1] (sI (sI h (ad 0) 6 0) (ad 0) 6 (-11)) _
                refine r_if_ne (tg := 45) rfl rfl (fun _ => ?_) (fun q => absurd q (by decide))
                refine r_aload rfl rfl ?_
                refine r_aload rfl rfl ?_
                refine r_getA (b := ad 31) rfl ⟨rfl, rfl, rfl⟩ (fx_t30 fx) (fx_r30_0 fx) ?_
                refine r_iload rfl rfl ?_
                refine WR_tI (y := nI k2) ek2 ?_
                refine r_iaload rfl (.inl (fx_t31 fx)) (vp_ct (fx_n31 fx) (vp_in_nI (by have := i_nlt c1; have := i_rg c; have : (0 : Int32).toInt = 0 := rfl; have := i_eq ek2; have : (nI k2).toInt = ((k2 : Nat) : Int) := nI_toInt (by omega); have := i_nle c3; have : (24 : Int32).toInt = 24 := rfl; omega) (by omega))) ?_
                refine WR_tI (congrArg (hI (sI (sI h (ad 0) 6 0) (ad 0) 6 (-11)) (ad 31)) ((nI_clamp (by have := i_nlt c1; have := i_rg c; have : (0 : Int32).toInt = 0 := rfl; have := i_eq ek2; have : (nI k2).toInt = ((k2 : Nat) : Int) := nI_toInt (by omega); have := i_nle c3; have : (24 : Int32).toInt = 24 := rfl; omega)) : _ = k2)) ?_
                refine WR_tI (y := (-1)) (Eq.trans (I_ne (fx_ne fx (by decide))) (Eq.trans (I_ne (fx_ne fx (by decide))) v10)) ?_
                refine r_cv (y := 185) (ra := [.int (-1)]) (rest := []) rfl ⟨⟨rfl, rfl⟩, rfl, by decide⟩ (fx_t30 fx) rfl rfl (Nat.le_of_ble_eq_true rfl) ?_
                refine in_185 (Nat.le_of_ble_eq_true rfl) ?_
                show WR _ cd_185 0 [some (.ref (ad 30)), some (.int (-1))] [] (sI (sI h (ad 0) 6 0) (ad 0) 6 (-11)) _
                refine r_iload rfl rfl ?_
                refine r_ic (x := (-1)) rfl rfl ?_
                refine r_icmp_eq (tg := 16) rfl rfl (fun _ => ?_) (fun q => absurd q (by decide))
                refine r_iload rfl rfl ?_
                refine r_ic (x := (-1)) rfl rfl ?_
                refine r_icmp_ne (tg := 25) rfl rfl (fun q => absurd q (by decide)) (fun _ => ?_)
                refine r_ic (x := 1) rfl rfl ?_
                refine r_goto (tg := 26) rfl rfl ?_
                refine r_iret rfl ?_
                show WR _ cd_184 55 [some (.ref (ad 30)), some (.int c), some (.int m), some (.int l), none, none] [.int 1] (sI (sI h (ad 0) 6 0) (ad 0) 6 (-11)) _
                refine r_istore (lv' := [some (.ref (ad 30)), some (.int c), some (.int m), some (.int l), some (.int 1), none]) rfl (Nat.le_of_ble_eq_true rfl) rfl ?_
                refine r_iload rfl rfl ?_
                refine r_if_le (tg := 72) rfl rfl (fun q => absurd q (by decide)) (fun _ => ?_)
                refine r_aload rfl rfl ?_
                refine r_ic (x := (-10)) rfl rfl ?_
                refine r_iload rfl rfl ?_
                refine r_isub rfl ?_
                refine WR_tI (y := (-11)) rfl ?_
                refine r_cv (y := 171) (ra := [.int (-11)]) (rest := []) rfl ⟨⟨rfl, rfl⟩, rfl, by decide⟩ (fx_t30 fx) rfl rfl (Nat.le_of_ble_eq_true rfl) ?_
                refine in_171 (Nat.le_of_ble_eq_true rfl) ?_
                show WR _ cd_171 0 [some (.ref (ad 30)), some (.int (-11))] [] (sI (sI h (ad 0) 6 0) (ad 0) 6 (-11)) _
                refine r_aload rfl rfl ?_
                refine r_iload rfl rfl ?_
                refine r_putI rfl ⟨rfl, rfl, rfl⟩ (fx_t30 fx) ?_
                refine r_lc (x := 0) rfl rfl ?_
                refine r_lret rfl ?_
                show WR _ cd_184 71 [some (.ref (ad 30)), some (.int c), some (.int m), some (.int l), some (.int 1), none] [.long 0] (sI (sI (sI h (ad 0) 6 0) (ad 0) 6 (-11)) (ad 30) 11 (-11)) _
                refine r_lret rfl ?_
                exact ⟨rfl, Rel.why r (((Chg.rf.sI (fx_j fx) (.inl (by decide))).sI (fx_j fx) (.inl (by decide))).sI (fx_j fx) (.inl (by decide))) ⟨rfl, by decide⟩ (Eq.trans (Eq.trans (I_ne (fx_ne fx (by decide))) I_eq) (Eq.symm I_eq)), Nat.le_add_right _ _, Nat.le_add_right _ _⟩
              · refine r_aaloadA (b := pa q10) rfl (isQ_of (fx_t1 fx) (by decide)) (vp_ct (fx_n1 fx) (vp_in_nI (by have := i_nlt c1; have := i_rg c; have : (0 : Int32).toInt = 0 := rfl; have := i_eq ek2; have : (nI k2).toInt = ((k2 : Nat) : Int) := nI_toInt (by omega); have := i_nle c3; have : (24 : Int32).toInt = 24 := rfl; omega) (by omega))) (Eq.trans (congrArg (hR (sI h (ad 0) 6 0) (ad 1)) ((nI_clamp (by have := i_nlt c1; have := i_rg c; have : (0 : Int32).toInt = 0 := rfl; have := i_eq ek2; have : (nI k2).toInt = ((k2 : Nat) : Int) := nI_toInt (by omega); have := i_nle c3; have : (24 : Int32).toInt = 24 := rfl; omega)) : _ = k2)) (Eq.trans R_oI w10)) ?_
                refine r_astore (lv' := [some (.ref (ad 0)), some (.int (nI k2)), some (.ref (pa q10)), none]) rfl (Nat.le_of_ble_eq_true rfl) rfl ?_
                refine r_aload rfl rfl ?_
                refine r_instY rfl (by decide) tg10 ?_
                refine r_if_eq (tg := 21) rfl rfl (fun q => absurd q (by decide)) (fun _ => ?_)
                refine r_aload rfl rfl ?_
                refine r_cast rfl tg10 ?_
                refine r_astore (lv' := [some (.ref (ad 0)), some (.int (nI k2)), some (.ref (pa q10)), some (.ref (pa q10))]) rfl (Nat.le_of_ble_eq_true rfl) rfl ?_
                refine r_aload rfl rfl ?_
                refine r_aret rfl ?_
                show WR _ cd_64 51 [some (.ref (ad 0)), some (.int c), some (.int m), some (.int l), none, none] [.ref (pa q10)] (sI h (ad 0) 6 0) _
                refine r_astore (lv' := [some (.ref (ad 0)), some (.int c), some (.int m), some (.int l), some (.ref (pa q10)), none]) rfl (Nat.le_of_ble_eq_true rfl) rfl ?_
                refine r_aload rfl rfl ?_
                refine r_ifnonnullA (tg := 60) rfl rfl ?_
                refine r_iload rfl rfl ?_
                refine WR_tI (y := nI k5) ek5 ?_
                refine r_if_ne (tg := 75) rfl rfl (fun c11 => ?_) (fun c11 => ?_)
                · refine r_iload rfl rfl ?_
                  refine WR_tI (y := nI k5) ek5 ?_
                  refine r_ic (x := 1) rfl rfl ?_
                  refine r_icmp_ne (tg := 91) rfl rfl (fun c12 => ?_) (fun c12 => ?_)
                  · refine r_aload rfl rfl ?_
                    refine r_iload rfl rfl ?_
                    refine WR_tI (y := nI k8) ek8 ?_
                    refine r_aload rfl rfl ?_
                    refine r_getA (b := ad 2) rfl ⟨rfl, rfl, rfl⟩ (fx_t0 fx) (fx_r0_1 fx) ?_
                    refine r_cv (y := 70) (ra := [.ref (ad 2), .int (nI k8)]) (rest := []) rfl ⟨⟨rfl, rfl⟩, rfl, by decide⟩ tg10 rfl rfl (Nat.le_of_ble_eq_true rfl) ?_
                    refine c_wear (h := sI h (ad 0) 6 0) (kd := kd10) (q := q10) (l := k8) fx (fun j hj i hi => (Eq.trans (I_ne ((fx_lt fx (.inl (by decide))).2.2 j hj)) (rst j hj i hi))) tg10 (Eq.trans (I_ne (dy_ad fx (.inl (by decide)) dz10)) k1_10) (Eq.trans (I_ne (dy_ad fx (.inl (by decide)) dz10)) s1_10) (by omega) (by omega) (by rw [show hI (sI h (ad 0) 6 0) (ad 2) 1 = nI kt from (Eq.trans (I_ne (fx_ne fx (by decide))) t1)]; exact nI_pos' (by omega)) (by have := i_nlt c7; have := i_rg l; have : (0 : Int32).toInt = 0 := rfl; have := i_eq ek8; have : (nI k8).toInt = ((k8 : Nat) : Int) := nI_toInt (by omega); have := i_le c9; have : (10000 : Int32).toInt = 10000 := rfl; omega) (fun kz => ?_) (fun kz => ?_)
                    · have fx : FX n ad sa z0 (pCs ad (wB kd10) (sI h (ad 0) 6 0)) := FX.pCs (h := sI h (ad 0) 6 0) fx _
                      show WR _ cd_64 101 [some (.ref (ad 0)), some (.int c), some (.int m), some (.int l), some (.ref (pa q10)), none] [.int 0] (sL (sL (pCs ad (wB kd10) (sI h (ad 0) 6 0)) (pa q10) 3 (lN (wV kd10 q10 k8))) (pa q10) 2 (hL (sI h (ad 0) 6 0) (pa q10) 2 + lN (wV kd10 q10 k8))) _
                      refine r_istore (lv' := [some (.ref (ad 0)), some (.int c), some (.int m), some (.int l), some (.ref (pa q10)), some (.int 0)]) rfl (Nat.le_of_ble_eq_true rfl) rfl ?_
                      refine r_iload rfl rfl ?_
                      refine r_if_ge (tg := 117) rfl rfl (fun _ => ?_) (fun q => absurd q (by decide))
                      refine r_aload rfl rfl ?_
                      refine r_getL rfl ⟨rfl, rfl, rfl⟩ (Eq.trans (congrFun (pCs_T _ _) _) tg10) ?_
                      refine WR_tL (y := lN (wV kd10 q10 k8)) (Eq.trans (L_nk (by decide)) L_eq) ?_
                      refine r_lret rfl ?_
                      show EV _ 184 [.ref (ad 30), .int c, .int m, .int l] (sL (sL (pCs ad (wB kd10) (sI h (ad 0) 6 0)) (pa q10) 3 (lN (wV kd10 q10 k8))) (pa q10) 2 (hL (sI h (ad 0) 6 0) (pa q10) 2 + lN (wV kd10 q10 k8))) _
                      refine in_184 (Nat.le_of_ble_eq_true rfl) ?_
                      show WR _ cd_184 0 [some (.ref (ad 30)), some (.int c), some (.int m), some (.int l), none, none] [] (sL (sL (pCs ad (wB kd10) (sI h (ad 0) 6 0)) (pa q10) 3 (lN (wV kd10 q10 k8))) (pa q10) 2 (hL (sI h (ad 0) 6 0) (pa q10) 2 + lN (wV kd10 q10 k8))) _
                      refine r_iload rfl rfl ?_
                      refine WR_tI (y := nI k2) ek2 ?_
                      refine r_cs (y := 153) (ra := [.int (nI k2)]) (rest := []) rfl ⟨⟨rfl, rfl⟩, by decide⟩ rfl rfl (Nat.le_of_ble_eq_true rfl) ?_
                      refine in_153 (Nat.le_of_ble_eq_true rfl) ?_
                      show WR _ cd_153 0 [some (.int (nI k2))] [] (sL (sL (pCs ad (wB kd10) (sI h (ad 0) 6 0)) (pa q10) 3 (lN (wV kd10 q10 k8))) (pa q10) 2 (hL (sI h (ad 0) 6 0) (pa q10) 2 + lN (wV kd10 q10 k8))) _
                      refine r_iload rfl rfl ?_
                      refine r_if_lt (tg := 14) rfl rfl (fun q => False.elim (by have := i_nlt c1; have := i_rg c; have : (0 : Int32).toInt = 0 := rfl; have := i_eq ek2; have : (nI k2).toInt = ((k2 : Nat) : Int) := nI_toInt (by omega); have := i_nle c3; have : (24 : Int32).toInt = 24 := rfl; have := i_lt q; omega)) (fun _ => ?_)
                      refine r_iload rfl rfl ?_
                      refine r_ic (x := 24) rfl rfl ?_
                      refine r_icmp_ge (tg := 14) rfl rfl (fun q => False.elim (by have := i_nlt c1; have := i_rg c; have : (0 : Int32).toInt = 0 := rfl; have := i_eq ek2; have : (nI k2).toInt = ((k2 : Nat) : Int) := nI_toInt (by omega); have := i_nle c3; have : (24 : Int32).toInt = 24 := rfl; have := i_le q; omega)) (fun _ => ?_)
                      refine r_ic (x := 1) rfl rfl ?_
                      refine r_goto (tg := 15) rfl rfl ?_
                      refine r_zret rfl (.inr rfl) ?_
                      show WR _ cd_184 4 [some (.ref (ad 30)), some (.int c), some (.int m), some (.int l), none, none] [.int 1] (sL (sL (pCs ad (wB kd10) (sI h (ad 0) 6 0)) (pa q10) 3 (lN (wV kd10 q10 k8))) (pa q10) 2 (hL (sI h (ad 0) 6 0) (pa q10) 2 + lN (wV kd10 q10 k8))) _
                      refine r_if_ne (tg := 14) rfl rfl (fun _ => ?_) (fun q => absurd q (by decide))
                      refine r_iload rfl rfl ?_
                      refine WR_tI (y := nI k5) ek5 ?_
                      refine r_i2l rfl ?_
                      refine WR_tL (y := lN k5) (nI_l (by have := i_nlt c4; have := i_rg m; have : (0 : Int32).toInt = 0 := rfl; have := i_eq ek5; have : (nI k5).toInt = ((k5 : Nat) : Int) := nI_toInt (by omega); have := i_nlt c6; have : (2 : Int32).toInt = 2 := rfl; have := i_neq c11; omega)) ?_
                      refine r_lc (x := 0) rfl rfl ?_
                      refine r_ldc (x := .long 2) rfl rfl ?_
                      refine r_cs (y := 155) (ra := [.long 2, .long 0, .long (lN k5)]) (rest := []) rfl ⟨⟨rfl, rfl⟩, by decide⟩ rfl rfl (Nat.le_of_ble_eq_true rfl) ?_
                      refine in_155 (Nat.le_of_ble_eq_true rfl) ?_
                      show WR _ cd_155 0 [some (.long (lN k5)), none, some (.long 0), none, some (.long 2), none] [] (sL (sL (pCs ad (wB kd10) (sI h (ad 0) 6 0)) (pa q10) 3 (lN (wV kd10 q10 k8))) (pa q10) 2 (hL (sI h (ad 0) 6 0) (pa q10) 2 + lN (wV kd10 q10 k8))) _
                      refine r_lload rfl rfl ?_
                      refine r_lload rfl rfl ?_
                      refine r_lif_lt (tg := 17) rfl rfl rfl (fun q => False.elim (by have := i_nlt c4; have := i_rg m; have : (0 : Int32).toInt = 0 := rfl; have := i_eq ek5; have : (nI k5).toInt = ((k5 : Nat) : Int) := nI_toInt (by omega); have := i_nlt c6; have : (2 : Int32).toInt = 2 := rfl; have := i_neq c11; have : (lN k5).toInt = ((k5 : Nat) : Int) := lN_toInt (by omega); have : (0 : Int64).toInt = 0 := rfl; have := l_lt q; omega)) (fun _ => ?_)
                      refine r_lload rfl rfl ?_
                      refine r_lload rfl rfl ?_
                      refine r_lif_gt (tg := 17) rfl rfl rfl (fun q => False.elim (by have := i_nlt c4; have := i_rg m; have : (0 : Int32).toInt = 0 := rfl; have := i_eq ek5; have : (nI k5).toInt = ((k5 : Nat) : Int) := nI_toInt (by omega); have := i_nlt c6; have : (2 : Int32).toInt = 2 := rfl; have : (lN k5).toInt = ((k5 : Nat) : Int) := lN_toInt (by omega); have : (2 : Int64).toInt = 2 := rfl; have := l_lt q; omega)) (fun _ => ?_)
                      refine r_ic (x := 1) rfl rfl ?_
                      refine r_goto (tg := 18) rfl rfl ?_
                      refine r_zret rfl (.inr rfl) ?_
                      show WR _ cd_184 23 [some (.ref (ad 30)), some (.int c), some (.int m), some (.int l), none, none] [.int 1] (sL (sL (pCs ad (wB kd10) (sI h (ad 0) 6 0)) (pa q10) 3 (lN (wV kd10 q10 k8))) (pa q10) 2 (hL (sI h (ad 0) 6 0) (pa q10) 2 + lN (wV kd10 q10 k8))) _
                      refine r_if_eq (tg := 38) rfl rfl (fun q => absurd q (by decide)) (fun _ => ?_)
                      refine r_iload rfl rfl ?_
                      refine WR_tI (y := nI k8) ek8 ?_
                      refine r_i2l rfl ?_
                      refine WR_tL (y := lN k8) (nI_l (by have := i_nlt c7; have := i_rg l; have : (0 : Int32).toInt = 0 := rfl; have := i_eq ek8; have : (nI k8).toInt = ((k8 : Nat) : Int) := nI_toInt (by omega); have := i_le c9; have : (10000 : Int32).toInt = 10000 := rfl; omega)) ?_
                      refine r_lc (x := 0) rfl rfl ?_
                      refine r_ldc (x := .long 10000) rfl rfl ?_
                      refine r_cs (y := 155) (ra := [.long 10000, .long 0, .long (lN k8)]) (rest := []) rfl ⟨⟨rfl, rfl⟩, by decide⟩ rfl rfl (Nat.le_of_ble_eq_true rfl) ?_
                      refine in_155 (Nat.le_of_ble_eq_true rfl) ?_
                      show WR _ cd_155 0 [some (.long (lN k8)), none, some (.long 0), none, some (.long 10000), none] [] (sL (sL (pCs ad (wB kd10) (sI h (ad 0) 6 0)) (pa q10) 3 (lN (wV kd10 q10 k8))) (pa q10) 2 (hL (sI h (ad 0) 6 0) (pa q10) 2 + lN (wV kd10 q10 k8))) _
                      refine r_lload rfl rfl ?_
                      refine r_lload rfl rfl ?_
                      refine r_lif_lt (tg := 17) rfl rfl rfl (fun q => False.elim (by have := i_nlt c7; have := i_rg l; have : (0 : Int32).toInt = 0 := rfl; have := i_eq ek8; have : (nI k8).toInt = ((k8 : Nat) : Int) := nI_toInt (by omega); have := i_le c9; have : (10000 : Int32).toInt = 10000 := rfl; have : (lN k8).toInt = ((k8 : Nat) : Int) := lN_toInt (by omega); have : (0 : Int64).toInt = 0 := rfl; have := l_lt q; omega)) (fun _ => ?_)
                      refine r_lload rfl rfl ?_
                      refine r_lload rfl rfl ?_
                      refine r_lif_gt (tg := 17) rfl rfl rfl (fun q => False.elim (by have := i_nlt c7; have := i_rg l; have : (0 : Int32).toInt = 0 := rfl; have := i_eq ek8; have : (nI k8).toInt = ((k8 : Nat) : Int) := nI_toInt (by omega); have := i_le c9; have : (10000 : Int32).toInt = 10000 := rfl; have : (lN k8).toInt = ((k8 : Nat) : Int) := lN_toInt (by omega); have : (10000 : Int64).toInt = 10000 := rfl; have := l_lt q; omega)) (fun _ => ?_)
                      refine r_ic (x := 1) rfl rfl ?_
                      refine r_goto (tg := 18) rfl rfl ?_
                      refine r_zret rfl (.inr rfl) ?_
                      show WR _ cd_184 35 [some (.ref (ad 30)), some (.int c), some (.int m), some (.int l), none, none] [.int 1] (sL (sL (pCs ad (wB kd10) (sI h (ad 0) 6 0)) (pa q10) 3 (lN (wV kd10 q10 k8))) (pa q10) 2 (hL (sI h (ad 0) 6 0) (pa q10) 2 + lN (wV kd10 q10 k8))) _
                      refine r_if_ne (tg := 45) rfl rfl (fun _ => ?_) (fun q => absurd q (by decide))
                      refine r_aload rfl rfl ?_
                      refine r_aload rfl rfl ?_
                      refine r_getA (b := ad 31) rfl ⟨rfl, rfl, rfl⟩ (fx_t30 fx) (fx_r30_0 fx) ?_
                      refine r_iload rfl rfl ?_
                      refine WR_tI (y := nI k2) ek2 ?_
                      refine r_iaload rfl (.inl (fx_t31 fx)) (vp_ct (fx_n31 fx) (vp_in_nI (by have := i_nlt c1; have := i_rg c; have : (0 : Int32).toInt = 0 := rfl; have := i_eq ek2; have : (nI k2).toInt = ((k2 : Nat) : Int) := nI_toInt (by omega); have := i_nle c3; have : (24 : Int32).toInt = 24 := rfl; omega) (by omega))) ?_
                      refine WR_tI (congrArg (hI (sL (sL (pCs ad (wB kd10) (sI h (ad 0) 6 0)) (pa q10) 3 (lN (wV kd10 q10 k8))) (pa q10) 2 (hL (sI h (ad 0) 6 0) (pa q10) 2 + lN (wV kd10 q10 k8))) (ad 31)) ((nI_clamp (by have := i_nlt c1; have := i_rg c; have : (0 : Int32).toInt = 0 := rfl; have := i_eq ek2; have : (nI k2).toInt = ((k2 : Nat) : Int) := nI_toInt (by omega); have := i_nle c3; have : (24 : Int32).toInt = 24 := rfl; omega)) : _ = k2)) ?_
                      refine WR_tI (y := nI (q10 + 1000)) (Eq.trans I_oL (Eq.trans I_oL (Eq.trans (pCs_I (fx_ne fx (by decide)) (fun z => (fx_ne fx (by decide)) z.1) _ _) (Eq.trans (I_ne (fx_ne fx (by decide))) v10)))) ?_
                      refine r_cv (y := 185) (ra := [.int (nI (q10 + 1000))]) (rest := []) rfl ⟨⟨rfl, rfl⟩, rfl, by decide⟩ (fx_t30 fx) rfl rfl (Nat.le_of_ble_eq_true rfl) ?_
                      refine in_185 (Nat.le_of_ble_eq_true rfl) ?_
                      show WR _ cd_185 0 [some (.ref (ad 30)), some (.int (nI (q10 + 1000)))] [] (sL (sL (pCs ad (wB kd10) (sI h (ad 0) 6 0)) (pa q10) 3 (lN (wV kd10 q10 k8))) (pa q10) 2 (hL (sI h (ad 0) 6 0) (pa q10) 2 + lN (wV kd10 q10 k8))) _
                      refine r_iload rfl rfl ?_
                      refine r_ic (x := (-1)) rfl rfl ?_
                      refine r_icmp_eq (tg := 16) rfl rfl (fun q => False.elim (by have : (nI (q10 + 1000)).toInt = ((q10 + 1000 : Nat) : Int) := nI_toInt (by omega); have : (-1 : Int32).toInt = -1 := rfl; have := i_eq q; omega)) (fun _ => ?_)
                      refine r_iload rfl rfl ?_
                      refine r_ic (x := 1000) rfl rfl ?_
                      refine r_icmp_ge (tg := 16) rfl rfl (fun _ => ?_) (fun q => False.elim (by have : (nI (q10 + 1000)).toInt = ((q10 + 1000 : Nat) : Int) := nI_toInt (by omega); have : (1000 : Int32).toInt = 1000 := rfl; have := i_nle q; omega))
                      refine r_iload rfl rfl ?_
                      refine r_ic (x := (-1)) rfl rfl ?_
                      refine r_icmp_ne (tg := 25) rfl rfl (fun _ => ?_) (fun q => False.elim (by have : (nI (q10 + 1000)).toInt = ((q10 + 1000 : Nat) : Int) := nI_toInt (by omega); have : (-1 : Int32).toInt = -1 := rfl; have := i_eq q; omega))
                      refine r_ic (x := 0) rfl rfl ?_
                      refine r_iret rfl ?_
                      show WR _ cd_184 55 [some (.ref (ad 30)), some (.int c), some (.int m), some (.int l), none, none] [.int 0] (sL (sL (pCs ad (wB kd10) (sI h (ad 0) 6 0)) (pa q10) 3 (lN (wV kd10 q10 k8))) (pa q10) 2 (hL (sI h (ad 0) 6 0) (pa q10) 2 + lN (wV kd10 q10 k8))) _
                      refine r_istore (lv' := [some (.ref (ad 30)), some (.int c), some (.int m), some (.int l), some (.int 0), none]) rfl (Nat.le_of_ble_eq_true rfl) rfl ?_
                      refine r_iload rfl rfl ?_
                      refine r_if_le (tg := 72) rfl rfl (fun _ => ?_) (fun q => absurd q (by decide))
                      refine r_aload rfl rfl ?_
                      refine r_ic (x := 0) rfl rfl ?_
                      refine r_putI rfl ⟨rfl, rfl, rfl⟩ (fx_t30 fx) ?_
                      refine r_aload rfl rfl ?_
                      refine r_getA (b := ad 31) rfl ⟨rfl, rfl, rfl⟩ (fx_t30 fx) (fx_r30_0 fx) ?_
                      refine r_iload rfl rfl ?_
                      refine WR_tI (y := nI k2) ek2 ?_
                      refine r_iaload rfl (.inl (fx_t31 fx)) (vp_ct (fx_n31 fx) (vp_in_nI (by have := i_nlt c1; have := i_rg c; have : (0 : Int32).toInt = 0 := rfl; have := i_eq ek2; have : (nI k2).toInt = ((k2 : Nat) : Int) := nI_toInt (by omega); have := i_nle c3; have : (24 : Int32).toInt = 24 := rfl; omega) (by omega))) ?_
                      refine WR_tI (congrArg (hI (sI (sL (sL (pCs ad (wB kd10) (sI h (ad 0) 6 0)) (pa q10) 3 (lN (wV kd10 q10 k8))) (pa q10) 2 (hL (sI h (ad 0) 6 0) (pa q10) 2 + lN (wV kd10 q10 k8))) (ad 30) 11 0) (ad 31)) ((nI_clamp (by have := i_nlt c1; have := i_rg c; have : (0 : Int32).toInt = 0 := rfl; have := i_eq ek2; have : (nI k2).toInt = ((k2 : Nat) : Int) := nI_toInt (by omega); have := i_nle c3; have : (24 : Int32).toInt = 24 := rfl; omega)) : _ = k2)) ?_
                      refine WR_tI (y := nI (q10 + 1000)) (Eq.trans (I_ne (fx_ne fx (by decide))) (Eq.trans I_oL (Eq.trans I_oL (Eq.trans (pCs_I (fx_ne fx (by decide)) (fun z => (fx_ne fx (by decide)) z.1) _ _) (Eq.trans (I_ne (fx_ne fx (by decide))) v10))))) ?_
                      refine r_ic (x := 1000) rfl rfl ?_
                      refine r_isub rfl ?_
                      refine WR_tI (y := nI q10) (Eq.trans (pk_sub (a := q10 + 1000) (b := 1000) (by omega)) (congrArg nI (by omega))) ?_
                      refine r_istore (lv' := [some (.ref (ad 30)), some (.int c), some (.int m), some (.int l), some (.int 0), some (.int (nI q10))]) rfl (Nat.le_of_ble_eq_true rfl) rfl ?_
                      refine r_iload rfl rfl ?_
                      refine WR_tI (y := nI k5) ek5 ?_
                      refine r_if_ne (tg := 101) rfl rfl (fun _ => ?_) (fun q => False.elim (by have := i_nlt c4; have := i_rg m; have : (0 : Int32).toInt = 0 := rfl; have := i_eq ek5; have : (nI k5).toInt = ((k5 : Nat) : Int) := nI_toInt (by omega); have := i_nlt c6; have : (2 : Int32).toInt = 2 := rfl; have := i_neq c11; have := i_eq q; omega))
                      refine r_iload rfl rfl ?_
                      refine WR_tI (y := nI k5) ek5 ?_
                      refine r_ic (x := 1) rfl rfl ?_
                      refine r_icmp_ne (tg := 113) rfl rfl (fun _ => ?_) (fun q => False.elim (by have := i_nlt c4; have := i_rg m; have : (0 : Int32).toInt = 0 := rfl; have := i_eq ek5; have : (nI k5).toInt = ((k5 : Nat) : Int) := nI_toInt (by omega); have := i_nlt c6; have : (2 : Int32).toInt = 2 := rfl; have := i_neq c12; have : (1 : Int32).toInt = 1 := rfl; have := i_eq q; omega))
                      refine r_aload rfl rfl ?_
                      refine r_iload rfl rfl ?_
                      refine r_iload rfl rfl ?_
                      refine WR_tI (y := nI k8) ek8 ?_
                      refine r_i2l rfl ?_
                      refine WR_tL (y := lN k8) (nI_l (by have := i_nlt c7; have := i_rg l; have : (0 : Int32).toInt = 0 := rfl; have := i_eq ek8; have : (nI k8).toInt = ((k8 : Nat) : Int) := nI_toInt (by omega); have := i_le c9; have : (10000 : Int32).toInt = 10000 := rfl; omega)) ?_
                      refine r_cv (y := 189) (ra := [.long (lN k8), .int (nI q10)]) (rest := []) rfl ⟨⟨rfl, rfl⟩, rfl, by decide⟩ (fx_t30 fx) rfl rfl (Nat.le_of_ble_eq_true rfl) ?_
                      refine c_mwear (h := sI (sL (sL (pCs ad (wB kd10) (sI h (ad 0) 6 0)) (pa q10) 3 (lN (wV kd10 q10 k8))) (pa q10) 2 (hL (sI h (ad 0) 6 0) (pa q10) 2 + lN (wV kd10 q10 k8))) (ad 30) 11 0) (kd := kd10) (q := q10) (l := k8) fx (Eq.trans (I_ne (fx_ne fx (by decide))) (Eq.trans I_oL (Eq.trans I_oL (Eq.trans (pCs_I (fx_ne fx (by decide)) (fun z => (fx_ne fx (by decide)) z.1) _ _) (Eq.trans (I_ne (fx_ne fx (by decide))) k2_10))))) (by omega) (by omega) (by rw [show hI (sI (sL (sL (pCs ad (wB kd10) (sI h (ad 0) 6 0)) (pa q10) 3 (lN (wV kd10 q10 k8))) (pa q10) 2 (hL (sI h (ad 0) 6 0) (pa q10) 2 + lN (wV kd10 q10 k8))) (ad 30) 11 0) (ad 30) 9 = nI kt from (Eq.trans (I_nk (by decide)) (Eq.trans I_oL (Eq.trans I_oL (Eq.trans (pCs_I (fx_ne fx (by decide)) (fun z => (fx_ne fx (by decide)) z.1) _ _) (Eq.trans (I_ne (fx_ne fx (by decide))) t2)))))]; exact nI_pos' (by omega)) (by have := i_nlt c7; have := i_rg l; have : (0 : Int32).toInt = 0 := rfl; have := i_eq ek8; have : (nI k8).toInt = ((k8 : Nat) : Int) := nI_toInt (by omega); have := i_le c9; have : (10000 : Int32).toInt = 10000 := rfl; omega) (fun _ => ?_) (fun z => absurd z kz)
                      have fx : FX n ad sa z0 (pMs ad (wB kd10) (sI (sL (sL (pCs ad (wB kd10) (sI h (ad 0) 6 0)) (pa q10) 3 (lN (wV kd10 q10 k8))) (pa q10) 2 (hL (sI h (ad 0) 6 0) (pa q10) 2 + lN (wV kd10 q10 k8))) (ad 30) 11 0)) := FX.pMs (h := sI (sL (sL (pCs ad (wB kd10) (sI h (ad 0) 6 0)) (pa q10) 3 (lN (wV kd10 q10 k8))) (pa q10) 2 (hL (sI h (ad 0) 6 0) (pa q10) 2 + lN (wV kd10 q10 k8))) (ad 30) 11 0) fx _
                      show WR _ cd_184 121 [some (.ref (ad 30)), some (.int c), some (.int m), some (.int l), some (.int 0), some (.int (nI q10))] [.int 0] (sL (sL (pMs ad (wB kd10) (sI (sL (sL (pCs ad (wB kd10) (sI h (ad 0) 6 0)) (pa q10) 3 (lN (wV kd10 q10 k8))) (pa q10) 2 (hL (sI h (ad 0) 6 0) (pa q10) 2 + lN (wV kd10 q10 k8))) (ad 30) 11 0)) (ad 30) 15 (lN (wV kd10 q10 k8))) (ad 38) q10 (hL (sI (sL (sL (pCs ad (wB kd10) (sI h (ad 0) 6 0)) (pa q10) 3 (lN (wV kd10 q10 k8))) (pa q10) 2 (hL (sI h (ad 0) 6 0) (pa q10) 2 + lN (wV kd10 q10 k8))) (ad 30) 11 0) (ad 38) q10 + lN (wV kd10 q10 k8))) _
                      refine r_istore (lv' := [some (.ref (ad 30)), some (.int c), some (.int m), some (.int l), some (.int 0), some (.int (nI q10))]) rfl (Nat.le_of_ble_eq_true rfl) rfl ?_
                      refine r_iload rfl rfl ?_
                      refine r_if_le (tg := 140) rfl rfl (fun _ => ?_) (fun q => absurd q (by decide))
                      refine r_aload rfl rfl ?_
                      refine r_getL rfl ⟨rfl, rfl, rfl⟩ (fx_t30 fx) ?_
                      refine WR_tL (y := lN (wV kd10 q10 k8)) (Eq.trans (L_ne (fx_ne fx (by decide))) L_eq) ?_
                      refine r_lret rfl ?_
                      have fz0 : FX n ad sa z0 (sI h (ad 0) 6 0) := fx0
                      have fzc1 : FX n ad sa z0 (pCs ad (wB kd10) (sI h (ad 0) 6 0)) := FX.pCs fz0 _
                      have fz1 : FX n ad sa z0 (sI (sL (sL (pCs ad (wB kd10) (sI h (ad 0) 6 0)) (pa q10) 3 (lN (wV kd10 q10 k8))) (pa q10) 2 (hL (sI h (ad 0) 6 0) (pa q10) 2 + lN (wV kd10 q10 k8))) (ad 30) 11 0) := fzc1
                      have fzc2 : FX n ad sa z0 (pMs ad (wB kd10) (sI (sL (sL (pCs ad (wB kd10) (sI h (ad 0) 6 0)) (pa q10) 3 (lN (wV kd10 q10 k8))) (pa q10) 2 (hL (sI h (ad 0) 6 0) (pa q10) 2 + lN (wV kd10 q10 k8))) (ad 30) 11 0)) := FX.pMs fz1 _
                      have eT : hT (sL (sL (pMs ad (wB kd10) (sI (sL (sL (pCs ad (wB kd10) (sI h (ad 0) 6 0)) (pa q10) 3 (lN (wV kd10 q10 k8))) (pa q10) 2 (hL (sI h (ad 0) 6 0) (pa q10) 2 + lN (wV kd10 q10 k8))) (ad 30) 11 0)) (ad 30) 15 (lN (wV kd10 q10 k8))) (ad 38) q10 (hL (sI (sL (sL (pCs ad (wB kd10) (sI h (ad 0) 6 0)) (pa q10) 3 (lN (wV kd10 q10 k8))) (pa q10) 2 (hL (sI h (ad 0) 6 0) (pa q10) 2 + lN (wV kd10 q10 k8))) (ad 30) 11 0) (ad 38) q10 + lN (wV kd10 q10 k8))) = hT h := (Eq.trans rfl (Eq.trans rfl (Eq.trans (pMs_T _ _) (Eq.trans rfl (Eq.trans rfl (Eq.trans rfl (Eq.trans (pCs_T _ _) rfl)))))))
                      have eN : hN (sL (sL (pMs ad (wB kd10) (sI (sL (sL (pCs ad (wB kd10) (sI h (ad 0) 6 0)) (pa q10) 3 (lN (wV kd10 q10 k8))) (pa q10) 2 (hL (sI h (ad 0) 6 0) (pa q10) 2 + lN (wV kd10 q10 k8))) (ad 30) 11 0)) (ad 30) 15 (lN (wV kd10 q10 k8))) (ad 38) q10 (hL (sI (sL (sL (pCs ad (wB kd10) (sI h (ad 0) 6 0)) (pa q10) 3 (lN (wV kd10 q10 k8))) (pa q10) 2 (hL (sI h (ad 0) 6 0) (pa q10) 2 + lN (wV kd10 q10 k8))) (ad 30) 11 0) (ad 38) q10 + lN (wV kd10 q10 k8))) = hN h := (Eq.trans rfl (Eq.trans rfl (Eq.trans (pMs_N _ _) (Eq.trans rfl (Eq.trans rfl (Eq.trans rfl (Eq.trans (pCs_N _ _) rfl)))))))
                      have eZ : hZ (sL (sL (pMs ad (wB kd10) (sI (sL (sL (pCs ad (wB kd10) (sI h (ad 0) 6 0)) (pa q10) 3 (lN (wV kd10 q10 k8))) (pa q10) 2 (hL (sI h (ad 0) 6 0) (pa q10) 2 + lN (wV kd10 q10 k8))) (ad 30) 11 0)) (ad 30) 15 (lN (wV kd10 q10 k8))) (ad 38) q10 (hL (sI (sL (sL (pCs ad (wB kd10) (sI h (ad 0) 6 0)) (pa q10) 3 (lN (wV kd10 q10 k8))) (pa q10) 2 (hL (sI h (ad 0) 6 0) (pa q10) 2 + lN (wV kd10 q10 k8))) (ad 30) 11 0) (ad 38) q10 + lN (wV kd10 q10 k8))) = hZ h := (Eq.trans rfl (Eq.trans rfl (Eq.trans (pMs_Z _ _) (Eq.trans rfl (Eq.trans rfl (Eq.trans rfl (Eq.trans (pCs_Z _ _) rfl)))))))
                      have eR : hR (sL (sL (pMs ad (wB kd10) (sI (sL (sL (pCs ad (wB kd10) (sI h (ad 0) 6 0)) (pa q10) 3 (lN (wV kd10 q10 k8))) (pa q10) 2 (hL (sI h (ad 0) 6 0) (pa q10) 2 + lN (wV kd10 q10 k8))) (ad 30) 11 0)) (ad 30) 15 (lN (wV kd10 q10 k8))) (ad 38) q10 (hL (sI (sL (sL (pCs ad (wB kd10) (sI h (ad 0) 6 0)) (pa q10) 3 (lN (wV kd10 q10 k8))) (pa q10) 2 (hL (sI h (ad 0) 6 0) (pa q10) 2 + lN (wV kd10 q10 k8))) (ad 30) 11 0) (ad 38) q10 + lN (wV kd10 q10 k8))) = hR h := (Eq.trans rfl (Eq.trans rfl (Eq.trans (pMs_R _ _) (Eq.trans rfl (Eq.trans rfl (Eq.trans rfl (Eq.trans (pCs_R _ _) rfl)))))))
                      have eU : hU (sL (sL (pMs ad (wB kd10) (sI (sL (sL (pCs ad (wB kd10) (sI h (ad 0) 6 0)) (pa q10) 3 (lN (wV kd10 q10 k8))) (pa q10) 2 (hL (sI h (ad 0) 6 0) (pa q10) 2 + lN (wV kd10 q10 k8))) (ad 30) 11 0)) (ad 30) 15 (lN (wV kd10 q10 k8))) (ad 38) q10 (hL (sI (sL (sL (pCs ad (wB kd10) (sI h (ad 0) 6 0)) (pa q10) 3 (lN (wV kd10 q10 k8))) (pa q10) 2 (hL (sI h (ad 0) 6 0) (pa q10) 2 + lN (wV kd10 q10 k8))) (ad 30) 11 0) (ad 38) q10 + lN (wV kd10 q10 k8))) = hU h := (Eq.trans rfl (Eq.trans rfl (Eq.trans (pMs_U _ _) (Eq.trans rfl (Eq.trans rfl (Eq.trans rfl (Eq.trans (pCs_U _ _) rfl)))))))
                      have cf : Chf n ad [(2, 1), (30, 9), (0, 6), (30, 11), (30, 15)] [3, 39, 38] h (sL (sL (pMs ad (wB kd10) (sI (sL (sL (pCs ad (wB kd10) (sI h (ad 0) 6 0)) (pa q10) 3 (lN (wV kd10 q10 k8))) (pa q10) 2 (hL (sI h (ad 0) 6 0) (pa q10) 2 + lN (wV kd10 q10 k8))) (ad 30) 11 0)) (ad 30) 15 (lN (wV kd10 q10 k8))) (ad 38) q10 (hL (sI (sL (sL (pCs ad (wB kd10) (sI h (ad 0) 6 0)) (pa q10) 3 (lN (wV kd10 q10 k8))) (pa q10) 2 (hL (sI h (ad 0) 6 0) (pa q10) 2 + lN (wV kd10 q10 k8))) (ad 30) 11 0) (ad 38) q10 + lN (wV kd10 q10 k8))) := Chf.m (Chf.t (Chf.t (Chf.t (Chf.t (Chf.t (Chf.t (Chf.t (Chf.t Chf.rf ((Chg.rf.sI (fx_j fx0) (k := 6) (v := 0) (.inl (by decide))).2.1)) (Chf.pCs fz0 (wB kd10))) (Chf.dL fx0 dz10)) (Chf.dL fx0 dz10)) ((Chg.rf.sI (fx_j fx0) (k := 11) (v := 0) (.inl (by decide))).2.1)) (Chf.pMs fz1 (wB kd10))) ((Chg.rf.sL (fx_j fx0) (k := 15) (v := lN (wV kd10 q10 k8)) (.inl (by decide))).2.1)) ((Chg.rf.sL (fx_j fx0) (k := q10) (v := hL (sI (sL (sL (pCs ad (wB kd10) (sI h (ad 0) 6 0)) (pa q10) 3 (lN (wV kd10 q10 k8))) (pa q10) 2 (hL (sI h (ad 0) 6 0) (pa q10) 2 + lN (wV kd10 q10 k8))) (ad 30) 11 0) (ad 38) q10 + lN (wV kd10 q10 k8)) (.inl (by decide))).row.2.1)) (by decide)
                      have w7 : hL (sI h (ad 0) 6 0) (pa q10) 2 + lN (wV kd10 q10 k8) = hL (sI (sL (sL (pCs ad (wB kd10) (sI h (ad 0) 6 0)) (pa q10) 3 (lN (wV kd10 q10 k8))) (pa q10) 2 (hL (sI h (ad 0) 6 0) (pa q10) 2 + lN (wV kd10 q10 k8))) (ad 30) 11 0) (ad 38) q10 + lN (wV kd10 q10 k8) := congrArg (fun z => z + lN (wV kd10 q10 k8)) (Eq.trans L_oI (Eq.trans (Eq.symm we10.symm) (Eq.symm (Eq.trans L_oI (Eq.trans (L_ne (ad_dy fx (.inl (by decide)) dz10)) (Eq.trans (L_ne (ad_dy fx (.inl (by decide)) dz10)) (Eq.trans (congrFun (congrFun (pCs_L _ _) _) _) L_oI)))))))
                      have rs2 : Rs ad z0 mid pa np (sL (sL (pMs ad (wB kd10) (sI (sL (sL (pCs ad (wB kd10) (sI h (ad 0) 6 0)) (pa q10) 3 (lN (wV kd10 q10 k8))) (pa q10) 2 (hL (sI h (ad 0) 6 0) (pa q10) 2 + lN (wV kd10 q10 k8))) (ad 30) 11 0)) (ad 30) 15 (lN (wV kd10 q10 k8))) (ad 38) q10 (hL (sI (sL (sL (pCs ad (wB kd10) (sI h (ad 0) 6 0)) (pa q10) 3 (lN (wV kd10 q10 k8))) (pa q10) 2 (hL (sI h (ad 0) 6 0) (pa q10) 2 + lN (wV kd10 q10 k8))) (ad 30) 11 0) (ad 38) q10 + lN (wV kd10 q10 k8))) := Rs.wear fx0 rs hq10 (fun a_ ha_ ne_ => ⟨congrFun eT a_, congrFun eN a_, funext fun j_ => (Eq.trans I_oL (Eq.trans I_oL (Eq.trans (pMs_I (dy_ad fx (.inl (by decide)) ha_) (fun z => (dy_ad fx (.inl (by decide)) ha_) z.1) _ _) (Eq.trans (I_ne (dy_ad fx (.inl (by decide)) ha_)) (Eq.trans I_oL (Eq.trans I_oL (Eq.trans (pCs_I (dy_ad fx (.inl (by decide)) ha_) (fun z => (dy_ad fx (.inl (by decide)) ha_) z.1) _ _) (I_ne (dy_ad fx (.inl (by decide)) ha_))))))))), funext fun j_ => (Eq.trans (L_ne (dy_ad fx (.inl (by decide)) ha_)) (Eq.trans (L_ne (dy_ad fx (.inl (by decide)) ha_)) (Eq.trans (congrFun (congrFun (pMs_L _ _) _) _) (Eq.trans L_oI (Eq.trans (L_ne ne_) (Eq.trans (L_ne ne_) (Eq.trans (congrFun (congrFun (pCs_L _ _) _) _) L_oI))))))), congrFun eR a_⟩) (funext fun j_ => (Eq.trans I_oL (Eq.trans I_oL (Eq.trans (pMs_I (dy_ad fx (.inl (by decide)) dz10) (fun z => (dy_ad fx (.inl (by decide)) dz10) z.1) _ _) (Eq.trans (I_ne (dy_ad fx (.inl (by decide)) dz10)) (Eq.trans I_oL (Eq.trans I_oL (Eq.trans (pCs_I (dy_ad fx (.inl (by decide)) dz10) (fun z => (dy_ad fx (.inl (by decide)) dz10) z.1) _ _) (I_ne (dy_ad fx (.inl (by decide)) dz10)))))))))) eT eZ (fun t_ => ⟨cf.rI (by decide) t_, cf.rI (by decide) t_, cf.rI (by decide) t_, fun i_ _ => cf.rL (by decide) _⟩) (cf.pI (by decide)) (cf.pI (by decide)) (fun j_ => cf.rI (by decide) j_) (fun j_ nj_ => (Eq.trans (L_nk (by have := nj_; omega)) (Eq.trans (L_ne (fx_ne fx (by decide))) (Eq.trans (congrFun (congrFun (pMs_L _ _) _) _) (Eq.trans L_oI (Eq.trans (L_ne (ad_dy fx (.inl (by decide)) dz10)) (Eq.trans (L_ne (ad_dy fx (.inl (by decide)) dz10)) (Eq.trans (congrFun (congrFun (pCs_L _ _) _) _) L_oI)))))))) (Eq.trans (Eq.trans (L_ne (dy_ad fx (.inl (by decide)) dz10)) (Eq.trans (L_ne (dy_ad fx (.inl (by decide)) dz10)) (Eq.trans (congrFun (congrFun (pMs_L _ _) _) _) (Eq.trans L_oI L_eq)))) (Eq.trans w7 (Eq.symm L_eq))) (fun c_ => cf.rI (by decide) c_) (fun c_ => cf.rR (by decide) c_)
                      exact ⟨rfl, Rel_push (L := wB kd10) fx0 rt ra rp rf rst ru ⟨Eq.trans (Eq.trans I_oL (Eq.trans I_oL (Eq.trans (pMs_I (fx_ne fx (by decide)) (fun z => (fx_ne fx (by decide)) z.1) _ _) (Eq.trans (I_ne (fx_ne fx (by decide))) (Eq.trans I_oL I_oL))))) (smC.ps (fx_ne fx0 (by decide)) _ (⟨(I_ne (fx_ne fx (by decide))), fun i_ => (I_ne (fx_ne fx (by decide)))⟩ : smC ad h _)).1, fun i_ => Eq.trans (Eq.trans I_oL (Eq.trans I_oL (Eq.trans (pMs_I (fx_ne fx (by decide)) (fun z => (fx_ne fx (by decide)) z.1) _ _) (Eq.trans (I_ne (fx_ne fx (by decide))) (Eq.trans I_oL I_oL))))) ((smC.ps (fx_ne fx0 (by decide)) _ (⟨(I_ne (fx_ne fx (by decide))), fun i_ => (I_ne (fx_ne fx (by decide)))⟩ : smC ad h _)).2 i_)⟩ ⟨Eq.trans (Eq.trans I_oL I_oL) (smM.ps (fx_ne fx0 (by decide)) _ (⟨(Eq.trans (I_nk (by decide)) (Eq.trans I_oL (Eq.trans I_oL (Eq.trans (pCs_I (fx_ne fx (by decide)) (fun z => (fx_ne fx (by decide)) z.1) _ _) (I_ne (fx_ne fx (by decide))))))), fun i_ => (Eq.trans (I_ne (fx_ne fx (by decide))) (Eq.trans I_oL (Eq.trans I_oL (Eq.trans (pCs_I (fx_ne fx (by decide)) (fun z => (fx_ne fx (by decide)) z.1) _ _) (I_ne (fx_ne fx (by decide)))))))⟩ : smM ad h _)).1, fun i_ => Eq.trans (Eq.trans I_oL I_oL) ((smM.ps (fx_ne fx0 (by decide)) _ (⟨(Eq.trans (I_nk (by decide)) (Eq.trans I_oL (Eq.trans I_oL (Eq.trans (pCs_I (fx_ne fx (by decide)) (fun z => (fx_ne fx (by decide)) z.1) _ _) (I_ne (fx_ne fx (by decide))))))), fun i_ => (Eq.trans (I_ne (fx_ne fx (by decide))) (Eq.trans I_oL (Eq.trans I_oL (Eq.trans (pCs_I (fx_ne fx (by decide)) (fun z => (fx_ne fx (by decide)) z.1) _ _) (I_ne (fx_ne fx (by decide)))))))⟩ : smM ad h _)).2 i_)⟩ cf eT eN eZ eR (fun j hj i => (Eq.trans I_oL (Eq.trans I_oL (Eq.trans (pMs_I ((fx_lt fx0 (i := 39) (.inl (by decide))).2.2 j hj) (fun z => (fx_lt fx0 (i := 30) (.inl (by decide))).2.2 j hj z.1) _ _) (Eq.trans (I_ne ((fx_lt fx0 (.inl (by decide))).2.2 j hj)) (Eq.trans I_oL (Eq.trans I_oL (Eq.trans (pCs_I ((fx_lt fx0 (i := 3) (.inl (by decide))).2.2 j hj) (fun z => (fx_lt fx0 (i := 2) (.inl (by decide))).2.2 j hj z.1) _ _) (I_ne ((fx_lt fx0 (.inl (by decide))).2.2 j hj)))))))))) (Eq.trans (Eq.trans I_oL (Eq.trans I_oL (Eq.trans (pMs_I (fx_ne fx (by decide)) (fun z => (fx_ne fx (by decide)) z.1) _ _) (Eq.trans (I_ne (fx_ne fx (by decide))) (Eq.trans I_oL (Eq.trans I_oL (Eq.trans (pCs_I (fx_ne fx (by decide)) (fun z => (fx_ne fx (by decide)) z.1) _ _) I_eq))))))) (Eq.symm (Eq.trans I_oL (Eq.trans I_oL (Eq.trans (pMs_I (fx_ne fx (by decide)) (fun z => absurd z.2 (by decide)) _ _) I_eq))))) rs2, by rw [eZ]; exact Nat.le_add_right _ _, by rw [eU]; exact Nat.le_add_right _ _⟩
                    · have fx : FX n ad sa z0 (pCs ad (wB kd10) (sI h (ad 0) 6 0)) := FX.pCs (h := sI h (ad 0) 6 0) fx _
                      show WR _ cd_64 101 [some (.ref (ad 0)), some (.int c), some (.int m), some (.int l), some (.ref (pa q10)), none] [.int (-16)] (pCs ad (wB kd10) (sI h (ad 0) 6 0)) _
                      refine r_istore (lv' := [some (.ref (ad 0)), some (.int c), some (.int m), some (.int l), some (.ref (pa q10)), some (.int (-16))]) rfl (Nat.le_of_ble_eq_true rfl) rfl ?_
                      refine r_iload rfl rfl ?_
                      refine r_if_ge (tg := 117) rfl rfl (fun q => absurd q (by decide)) (fun _ => ?_)
                      refine r_aload rfl rfl ?_
                      refine r_iload rfl rfl ?_
                      refine r_cv (y := 65) (ra := [.int (-16)]) (rest := []) rfl ⟨⟨rfl, rfl⟩, rfl, by decide⟩ (fx_t0 fx) rfl rfl (Nat.le_of_ble_eq_true rfl) ?_
                      refine in_65 (Nat.le_of_ble_eq_true rfl) ?_
                      show WR _ cd_65 0 [some (.ref (ad 0)), some (.int (-16))] [] (pCs ad (wB kd10) (sI h (ad 0) 6 0)) _
                      refine r_aload rfl rfl ?_
                      refine r_iload rfl rfl ?_
                      refine r_putI rfl ⟨rfl, rfl, rfl⟩ (fx_t0 fx) ?_
                      refine r_lc (x := 0) rfl rfl ?_
                      refine r_lret rfl ?_
                      show WR _ cd_64 114 [some (.ref (ad 0)), some (.int c), some (.int m), some (.int l), some (.ref (pa q10)), some (.int (-16))] [.long 0] (sI (pCs ad (wB kd10) (sI h (ad 0) 6 0)) (ad 0) 6 (-16)) _
                      refine r_goto (tg := 122) rfl rfl ?_
                      refine r_lret rfl ?_
                      show EV _ 184 [.ref (ad 30), .int c, .int m, .int l] (sI (pCs ad (wB kd10) (sI h (ad 0) 6 0)) (ad 0) 6 (-16)) _
                      refine in_184 (Nat.le_of_ble_eq_true rfl) ?_
                      show WR _ cd_184 0 [some (.ref (ad 30)), some (.int c), some (.int m), some (.int l), none, none] [] (sI (pCs ad (wB kd10) (sI h (ad 0) 6 0)) (ad 0) 6 (-16)) _
                      refine r_iload rfl rfl ?_
                      refine WR_tI (y := nI k2) ek2 ?_
                      refine r_cs (y := 153) (ra := [.int (nI k2)]) (rest := []) rfl ⟨⟨rfl, rfl⟩, by decide⟩ rfl rfl (Nat.le_of_ble_eq_true rfl) ?_
                      refine in_153 (Nat.le_of_ble_eq_true rfl) ?_
                      show WR _ cd_153 0 [some (.int (nI k2))] [] (sI (pCs ad (wB kd10) (sI h (ad 0) 6 0)) (ad 0) 6 (-16)) _
                      refine r_iload rfl rfl ?_
                      refine r_if_lt (tg := 14) rfl rfl (fun q => False.elim (by have := i_nlt c1; have := i_rg c; have : (0 : Int32).toInt = 0 := rfl; have := i_eq ek2; have : (nI k2).toInt = ((k2 : Nat) : Int) := nI_toInt (by omega); have := i_nle c3; have : (24 : Int32).toInt = 24 := rfl; have := i_lt q; omega)) (fun _ => ?_)
                      refine r_iload rfl rfl ?_
                      refine r_ic (x := 24) rfl rfl ?_
                      refine r_icmp_ge (tg := 14) rfl rfl (fun q => False.elim (by have := i_nlt c1; have := i_rg c; have : (0 : Int32).toInt = 0 := rfl; have := i_eq ek2; have : (nI k2).toInt = ((k2 : Nat) : Int) := nI_toInt (by omega); have := i_nle c3; have : (24 : Int32).toInt = 24 := rfl; have := i_le q; omega)) (fun _ => ?_)
                      refine r_ic (x := 1) rfl rfl ?_
                      refine r_goto (tg := 15) rfl rfl ?_
                      refine r_zret rfl (.inr rfl) ?_
                      show WR _ cd_184 4 [some (.ref (ad 30)), some (.int c), some (.int m), some (.int l), none, none] [.int 1] (sI (pCs ad (wB kd10) (sI h (ad 0) 6 0)) (ad 0) 6 (-16)) _
                      refine r_if_ne (tg := 14) rfl rfl (fun _ => ?_) (fun q => absurd q (by decide))
                      refine r_iload rfl rfl ?_
                      refine WR_tI (y := nI k5) ek5 ?_
                      refine r_i2l rfl ?_
                      refine WR_tL (y := lN k5) (nI_l (by have := i_nlt c4; have := i_rg m; have : (0 : Int32).toInt = 0 := rfl; have := i_eq ek5; have : (nI k5).toInt = ((k5 : Nat) : Int) := nI_toInt (by omega); have := i_nlt c6; have : (2 : Int32).toInt = 2 := rfl; have := i_neq c11; omega)) ?_
                      refine r_lc (x := 0) rfl rfl ?_
                      refine r_ldc (x := .long 2) rfl rfl ?_
                      refine r_cs (y := 155) (ra := [.long 2, .long 0, .long (lN k5)]) (rest := []) rfl ⟨⟨rfl, rfl⟩, by decide⟩ rfl rfl (Nat.le_of_ble_eq_true rfl) ?_
                      refine in_155 (Nat.le_of_ble_eq_true rfl) ?_
                      show WR _ cd_155 0 [some (.long (lN k5)), none, some (.long 0), none, some (.long 2), none] [] (sI (pCs ad (wB kd10) (sI h (ad 0) 6 0)) (ad 0) 6 (-16)) _
                      refine r_lload rfl rfl ?_
                      refine r_lload rfl rfl ?_
                      refine r_lif_lt (tg := 17) rfl rfl rfl (fun q => False.elim (by have := i_nlt c4; have := i_rg m; have : (0 : Int32).toInt = 0 := rfl; have := i_eq ek5; have : (nI k5).toInt = ((k5 : Nat) : Int) := nI_toInt (by omega); have := i_nlt c6; have : (2 : Int32).toInt = 2 := rfl; have := i_neq c11; have : (lN k5).toInt = ((k5 : Nat) : Int) := lN_toInt (by omega); have : (0 : Int64).toInt = 0 := rfl; have := l_lt q; omega)) (fun _ => ?_)
                      refine r_lload rfl rfl ?_
                      refine r_lload rfl rfl ?_
                      refine r_lif_gt (tg := 17) rfl rfl rfl (fun q => False.elim (by have := i_nlt c4; have := i_rg m; have : (0 : Int32).toInt = 0 := rfl; have := i_eq ek5; have : (nI k5).toInt = ((k5 : Nat) : Int) := nI_toInt (by omega); have := i_nlt c6; have : (2 : Int32).toInt = 2 := rfl; have : (lN k5).toInt = ((k5 : Nat) : Int) := lN_toInt (by omega); have : (2 : Int64).toInt = 2 := rfl; have := l_lt q; omega)) (fun _ => ?_)
                      refine r_ic (x := 1) rfl rfl ?_
                      refine r_goto (tg := 18) rfl rfl ?_
                      refine r_zret rfl (.inr rfl) ?_
                      show WR _ cd_184 23 [some (.ref (ad 30)), some (.int c), some (.int m), some (.int l), none, none] [.int 1] (sI (pCs ad (wB kd10) (sI h (ad 0) 6 0)) (ad 0) 6 (-16)) _
                      refine r_if_eq (tg := 38) rfl rfl (fun q => absurd q (by decide)) (fun _ => ?_)
                      refine r_iload rfl rfl ?_
                      refine WR_tI (y := nI k8) ek8 ?_
                      refine r_i2l rfl ?_
                      refine WR_tL (y := lN k8) (nI_l (by have := i_nlt c7; have := i_rg l; have : (0 : Int32).toInt = 0 := rfl; have := i_eq ek8; have : (nI k8).toInt = ((k8 : Nat) : Int) := nI_toInt (by omega); have := i_le c9; have : (10000 : Int32).toInt = 10000 := rfl; omega)) ?_
                      refine r_lc (x := 0) rfl rfl ?_
                      refine r_ldc (x := .long 10000) rfl rfl ?_
                      refine r_cs (y := 155) (ra := [.long 10000, .long 0, .long (lN k8)]) (rest := []) rfl ⟨⟨rfl, rfl⟩, by decide⟩ rfl rfl (Nat.le_of_ble_eq_true rfl) ?_
                      refine in_155 (Nat.le_of_ble_eq_true rfl) ?_
                      show WR _ cd_155 0 [some (.long (lN k8)), none, some (.long 0), none, some (.long 10000), none] [] (sI (pCs ad (wB kd10) (sI h (ad 0) 6 0)) (ad 0) 6 (-16)) _
                      refine r_lload rfl rfl ?_
                      refine r_lload rfl rfl ?_
                      refine r_lif_lt (tg := 17) rfl rfl rfl (fun q => False.elim (by have := i_nlt c7; have := i_rg l; have : (0 : Int32).toInt = 0 := rfl; have := i_eq ek8; have : (nI k8).toInt = ((k8 : Nat) : Int) := nI_toInt (by omega); have := i_le c9; have : (10000 : Int32).toInt = 10000 := rfl; have : (lN k8).toInt = ((k8 : Nat) : Int) := lN_toInt (by omega); have : (0 : Int64).toInt = 0 := rfl; have := l_lt q; omega)) (fun _ => ?_)
                      refine r_lload rfl rfl ?_
                      refine r_lload rfl rfl ?_
                      refine r_lif_gt (tg := 17) rfl rfl rfl (fun q => False.elim (by have := i_nlt c7; have := i_rg l; have : (0 : Int32).toInt = 0 := rfl; have := i_eq ek8; have : (nI k8).toInt = ((k8 : Nat) : Int) := nI_toInt (by omega); have := i_le c9; have : (10000 : Int32).toInt = 10000 := rfl; have : (lN k8).toInt = ((k8 : Nat) : Int) := lN_toInt (by omega); have : (10000 : Int64).toInt = 10000 := rfl; have := l_lt q; omega)) (fun _ => ?_)
                      refine r_ic (x := 1) rfl rfl ?_
                      refine r_goto (tg := 18) rfl rfl ?_
                      refine r_zret rfl (.inr rfl) ?_
                      show WR _ cd_184 35 [some (.ref (ad 30)), some (.int c), some (.int m), some (.int l), none, none] [.int 1] (sI (pCs ad (wB kd10) (sI h (ad 0) 6 0)) (ad 0) 6 (-16)) _
                      refine r_if_ne (tg := 45) rfl rfl (fun _ => ?_) (fun q => absurd q (by decide))
                      refine r_aload rfl rfl ?_
                      refine r_aload rfl rfl ?_
                      refine r_getA (b := ad 31) rfl ⟨rfl, rfl, rfl⟩ (fx_t30 fx) (fx_r30_0 fx) ?_
                      refine r_iload rfl rfl ?_
                      refine WR_tI (y := nI k2) ek2 ?_
                      refine r_iaload rfl (.inl (fx_t31 fx)) (vp_ct (fx_n31 fx) (vp_in_nI (by have := i_nlt c1; have := i_rg c; have : (0 : Int32).toInt = 0 := rfl; have := i_eq ek2; have : (nI k2).toInt = ((k2 : Nat) : Int) := nI_toInt (by omega); have := i_nle c3; have : (24 : Int32).toInt = 24 := rfl; omega) (by omega))) ?_
                      refine WR_tI (congrArg (hI (sI (pCs ad (wB kd10) (sI h (ad 0) 6 0)) (ad 0) 6 (-16)) (ad 31)) ((nI_clamp (by have := i_nlt c1; have := i_rg c; have : (0 : Int32).toInt = 0 := rfl; have := i_eq ek2; have : (nI k2).toInt = ((k2 : Nat) : Int) := nI_toInt (by omega); have := i_nle c3; have : (24 : Int32).toInt = 24 := rfl; omega)) : _ = k2)) ?_
                      refine WR_tI (y := nI (q10 + 1000)) (Eq.trans (I_ne (fx_ne fx (by decide))) (Eq.trans (pCs_I (fx_ne fx (by decide)) (fun z => (fx_ne fx (by decide)) z.1) _ _) (Eq.trans (I_ne (fx_ne fx (by decide))) v10))) ?_
                      refine r_cv (y := 185) (ra := [.int (nI (q10 + 1000))]) (rest := []) rfl ⟨⟨rfl, rfl⟩, rfl, by decide⟩ (fx_t30 fx) rfl rfl (Nat.le_of_ble_eq_true rfl) ?_
                      refine in_185 (Nat.le_of_ble_eq_true rfl) ?_
                      show WR _ cd_185 0 [some (.ref (ad 30)), some (.int (nI (q10 + 1000)))] [] (sI (pCs ad (wB kd10) (sI h (ad 0) 6 0)) (ad 0) 6 (-16)) _
                      refine r_iload rfl rfl ?_
                      refine r_ic (x := (-1)) rfl rfl ?_
                      refine r_icmp_eq (tg := 16) rfl rfl (fun q => False.elim (by have : (nI (q10 + 1000)).toInt = ((q10 + 1000 : Nat) : Int) := nI_toInt (by omega); have : (-1 : Int32).toInt = -1 := rfl; have := i_eq q; omega)) (fun _ => ?_)
                      refine r_iload rfl rfl ?_
                      refine r_ic (x := 1000) rfl rfl ?_
                      refine r_icmp_ge (tg := 16) rfl rfl (fun _ => ?_) (fun q => False.elim (by have : (nI (q10 + 1000)).toInt = ((q10 + 1000 : Nat) : Int) := nI_toInt (by omega); have : (1000 : Int32).toInt = 1000 := rfl; have := i_nle q; omega))
                      refine r_iload rfl rfl ?_
                      refine r_ic (x := (-1)) rfl rfl ?_
                      refine r_icmp_ne (tg := 25) rfl rfl (fun _ => ?_) (fun q => False.elim (by have : (nI (q10 + 1000)).toInt = ((q10 + 1000 : Nat) : Int) := nI_toInt (by omega); have : (-1 : Int32).toInt = -1 := rfl; have := i_eq q; omega))
                      refine r_ic (x := 0) rfl rfl ?_
                      refine r_iret rfl ?_
                      show WR _ cd_184 55 [some (.ref (ad 30)), some (.int c), some (.int m), some (.int l), none, none] [.int 0] (sI (pCs ad (wB kd10) (sI h (ad 0) 6 0)) (ad 0) 6 (-16)) _
                      refine r_istore (lv' := [some (.ref (ad 30)), some (.int c), some (.int m), some (.int l), some (.int 0), none]) rfl (Nat.le_of_ble_eq_true rfl) rfl ?_
                      refine r_iload rfl rfl ?_
                      refine r_if_le (tg := 72) rfl rfl (fun _ => ?_) (fun q => absurd q (by decide))
                      refine r_aload rfl rfl ?_
                      refine r_ic (x := 0) rfl rfl ?_
                      refine r_putI rfl ⟨rfl, rfl, rfl⟩ (fx_t30 fx) ?_
                      refine r_aload rfl rfl ?_
                      refine r_getA (b := ad 31) rfl ⟨rfl, rfl, rfl⟩ (fx_t30 fx) (fx_r30_0 fx) ?_
                      refine r_iload rfl rfl ?_
                      refine WR_tI (y := nI k2) ek2 ?_
                      refine r_iaload rfl (.inl (fx_t31 fx)) (vp_ct (fx_n31 fx) (vp_in_nI (by have := i_nlt c1; have := i_rg c; have : (0 : Int32).toInt = 0 := rfl; have := i_eq ek2; have : (nI k2).toInt = ((k2 : Nat) : Int) := nI_toInt (by omega); have := i_nle c3; have : (24 : Int32).toInt = 24 := rfl; omega) (by omega))) ?_
                      refine WR_tI (congrArg (hI (sI (sI (pCs ad (wB kd10) (sI h (ad 0) 6 0)) (ad 0) 6 (-16)) (ad 30) 11 0) (ad 31)) ((nI_clamp (by have := i_nlt c1; have := i_rg c; have : (0 : Int32).toInt = 0 := rfl; have := i_eq ek2; have : (nI k2).toInt = ((k2 : Nat) : Int) := nI_toInt (by omega); have := i_nle c3; have : (24 : Int32).toInt = 24 := rfl; omega)) : _ = k2)) ?_
                      refine WR_tI (y := nI (q10 + 1000)) (Eq.trans (I_ne (fx_ne fx (by decide))) (Eq.trans (I_ne (fx_ne fx (by decide))) (Eq.trans (pCs_I (fx_ne fx (by decide)) (fun z => (fx_ne fx (by decide)) z.1) _ _) (Eq.trans (I_ne (fx_ne fx (by decide))) v10)))) ?_
                      refine r_ic (x := 1000) rfl rfl ?_
                      refine r_isub rfl ?_
                      refine WR_tI (y := nI q10) (Eq.trans (pk_sub (a := q10 + 1000) (b := 1000) (by omega)) (congrArg nI (by omega))) ?_
                      refine r_istore (lv' := [some (.ref (ad 30)), some (.int c), some (.int m), some (.int l), some (.int 0), some (.int (nI q10))]) rfl (Nat.le_of_ble_eq_true rfl) rfl ?_
                      refine r_iload rfl rfl ?_
                      refine WR_tI (y := nI k5) ek5 ?_
                      refine r_if_ne (tg := 101) rfl rfl (fun _ => ?_) (fun q => False.elim (by have := i_nlt c4; have := i_rg m; have : (0 : Int32).toInt = 0 := rfl; have := i_eq ek5; have : (nI k5).toInt = ((k5 : Nat) : Int) := nI_toInt (by omega); have := i_nlt c6; have : (2 : Int32).toInt = 2 := rfl; have := i_neq c11; have := i_eq q; omega))
                      refine r_iload rfl rfl ?_
                      refine WR_tI (y := nI k5) ek5 ?_
                      refine r_ic (x := 1) rfl rfl ?_
                      refine r_icmp_ne (tg := 113) rfl rfl (fun _ => ?_) (fun q => False.elim (by have := i_nlt c4; have := i_rg m; have : (0 : Int32).toInt = 0 := rfl; have := i_eq ek5; have : (nI k5).toInt = ((k5 : Nat) : Int) := nI_toInt (by omega); have := i_nlt c6; have : (2 : Int32).toInt = 2 := rfl; have := i_neq c12; have : (1 : Int32).toInt = 1 := rfl; have := i_eq q; omega))
                      refine r_aload rfl rfl ?_
                      refine r_iload rfl rfl ?_
                      refine r_iload rfl rfl ?_
                      refine WR_tI (y := nI k8) ek8 ?_
                      refine r_i2l rfl ?_
                      refine WR_tL (y := lN k8) (nI_l (by have := i_nlt c7; have := i_rg l; have : (0 : Int32).toInt = 0 := rfl; have := i_eq ek8; have : (nI k8).toInt = ((k8 : Nat) : Int) := nI_toInt (by omega); have := i_le c9; have : (10000 : Int32).toInt = 10000 := rfl; omega)) ?_
                      refine r_cv (y := 189) (ra := [.long (lN k8), .int (nI q10)]) (rest := []) rfl ⟨⟨rfl, rfl⟩, rfl, by decide⟩ (fx_t30 fx) rfl rfl (Nat.le_of_ble_eq_true rfl) ?_
                      refine c_mwear (h := sI (sI (pCs ad (wB kd10) (sI h (ad 0) 6 0)) (ad 0) 6 (-16)) (ad 30) 11 0) (kd := kd10) (q := q10) (l := k8) fx (Eq.trans (I_ne (fx_ne fx (by decide))) (Eq.trans (I_ne (fx_ne fx (by decide))) (Eq.trans (pCs_I (fx_ne fx (by decide)) (fun z => (fx_ne fx (by decide)) z.1) _ _) (Eq.trans (I_ne (fx_ne fx (by decide))) k2_10)))) (by omega) (by omega) (by rw [show hI (sI (sI (pCs ad (wB kd10) (sI h (ad 0) 6 0)) (ad 0) 6 (-16)) (ad 30) 11 0) (ad 30) 9 = nI kt from (Eq.trans (I_nk (by decide)) (Eq.trans (I_ne (fx_ne fx (by decide))) (Eq.trans (pCs_I (fx_ne fx (by decide)) (fun z => (fx_ne fx (by decide)) z.1) _ _) (Eq.trans (I_ne (fx_ne fx (by decide))) t2))))]; exact nI_pos' (by omega)) (by have := i_nlt c7; have := i_rg l; have : (0 : Int32).toInt = 0 := rfl; have := i_eq ek8; have : (nI k8).toInt = ((k8 : Nat) : Int) := nI_toInt (by omega); have := i_le c9; have : (10000 : Int32).toInt = 10000 := rfl; omega) (fun z => absurd kz z) (fun _ => ?_)
                      have fx : FX n ad sa z0 (pMs ad (wB kd10) (sI (sI (pCs ad (wB kd10) (sI h (ad 0) 6 0)) (ad 0) 6 (-16)) (ad 30) 11 0)) := FX.pMs (h := sI (sI (pCs ad (wB kd10) (sI h (ad 0) 6 0)) (ad 0) 6 (-16)) (ad 30) 11 0) fx _
                      show WR _ cd_184 121 [some (.ref (ad 30)), some (.int c), some (.int m), some (.int l), some (.int 0), some (.int (nI q10))] [.int 6] (sL (pMs ad (wB kd10) (sI (sI (pCs ad (wB kd10) (sI h (ad 0) 6 0)) (ad 0) 6 (-16)) (ad 30) 11 0)) (ad 30) 15 (lN (k8 * k8 / 100))) _
                      refine r_istore (lv' := [some (.ref (ad 30)), some (.int c), some (.int m), some (.int l), some (.int 6), some (.int (nI q10))]) rfl (Nat.le_of_ble_eq_true rfl) rfl ?_
                      refine r_iload rfl rfl ?_
                      refine r_if_le (tg := 140) rfl rfl (fun q => absurd q (by decide)) (fun _ => ?_)
                      refine r_aload rfl rfl ?_
                      refine r_ic (x := (-10)) rfl rfl ?_
                      refine r_iload rfl rfl ?_
                      refine r_isub rfl ?_
                      refine WR_tI (y := (-16)) rfl ?_
                      refine r_cv (y := 171) (ra := [.int (-16)]) (rest := []) rfl ⟨⟨rfl, rfl⟩, rfl, by decide⟩ (fx_t30 fx) rfl rfl (Nat.le_of_ble_eq_true rfl) ?_
                      refine in_171 (Nat.le_of_ble_eq_true rfl) ?_
                      show WR _ cd_171 0 [some (.ref (ad 30)), some (.int (-16))] [] (sL (pMs ad (wB kd10) (sI (sI (pCs ad (wB kd10) (sI h (ad 0) 6 0)) (ad 0) 6 (-16)) (ad 30) 11 0)) (ad 30) 15 (lN (k8 * k8 / 100))) _
                      refine r_aload rfl rfl ?_
                      refine r_iload rfl rfl ?_
                      refine r_putI rfl ⟨rfl, rfl, rfl⟩ (fx_t30 fx) ?_
                      refine r_lc (x := 0) rfl rfl ?_
                      refine r_lret rfl ?_
                      show WR _ cd_184 137 [some (.ref (ad 30)), some (.int c), some (.int m), some (.int l), some (.int 6), some (.int (nI q10))] [.long 0] (sI (sL (pMs ad (wB kd10) (sI (sI (pCs ad (wB kd10) (sI h (ad 0) 6 0)) (ad 0) 6 (-16)) (ad 30) 11 0)) (ad 30) 15 (lN (k8 * k8 / 100))) (ad 30) 11 (-16)) _
                      refine r_goto (tg := 144) rfl rfl ?_
                      refine r_lret rfl ?_
                      have fz0 : FX n ad sa z0 (sI h (ad 0) 6 0) := fx0
                      have fzc1 : FX n ad sa z0 (pCs ad (wB kd10) (sI h (ad 0) 6 0)) := FX.pCs fz0 _
                      have fz1 : FX n ad sa z0 (sI (sI (pCs ad (wB kd10) (sI h (ad 0) 6 0)) (ad 0) 6 (-16)) (ad 30) 11 0) := fzc1
                      have fzc2 : FX n ad sa z0 (pMs ad (wB kd10) (sI (sI (pCs ad (wB kd10) (sI h (ad 0) 6 0)) (ad 0) 6 (-16)) (ad 30) 11 0)) := FX.pMs fz1 _
                      have eT : hT (sI (sL (pMs ad (wB kd10) (sI (sI (pCs ad (wB kd10) (sI h (ad 0) 6 0)) (ad 0) 6 (-16)) (ad 30) 11 0)) (ad 30) 15 (lN (k8 * k8 / 100))) (ad 30) 11 (-16)) = hT h := (Eq.trans rfl (Eq.trans rfl (Eq.trans (pMs_T _ _) (Eq.trans rfl (Eq.trans rfl (Eq.trans (pCs_T _ _) rfl))))))
                      have eN : hN (sI (sL (pMs ad (wB kd10) (sI (sI (pCs ad (wB kd10) (sI h (ad 0) 6 0)) (ad 0) 6 (-16)) (ad 30) 11 0)) (ad 30) 15 (lN (k8 * k8 / 100))) (ad 30) 11 (-16)) = hN h := (Eq.trans rfl (Eq.trans rfl (Eq.trans (pMs_N _ _) (Eq.trans rfl (Eq.trans rfl (Eq.trans (pCs_N _ _) rfl))))))
                      have eZ : hZ (sI (sL (pMs ad (wB kd10) (sI (sI (pCs ad (wB kd10) (sI h (ad 0) 6 0)) (ad 0) 6 (-16)) (ad 30) 11 0)) (ad 30) 15 (lN (k8 * k8 / 100))) (ad 30) 11 (-16)) = hZ h := (Eq.trans rfl (Eq.trans rfl (Eq.trans (pMs_Z _ _) (Eq.trans rfl (Eq.trans rfl (Eq.trans (pCs_Z _ _) rfl))))))
                      have eR : hR (sI (sL (pMs ad (wB kd10) (sI (sI (pCs ad (wB kd10) (sI h (ad 0) 6 0)) (ad 0) 6 (-16)) (ad 30) 11 0)) (ad 30) 15 (lN (k8 * k8 / 100))) (ad 30) 11 (-16)) = hR h := (Eq.trans rfl (Eq.trans rfl (Eq.trans (pMs_R _ _) (Eq.trans rfl (Eq.trans rfl (Eq.trans (pCs_R _ _) rfl))))))
                      have eU : hU (sI (sL (pMs ad (wB kd10) (sI (sI (pCs ad (wB kd10) (sI h (ad 0) 6 0)) (ad 0) 6 (-16)) (ad 30) 11 0)) (ad 30) 15 (lN (k8 * k8 / 100))) (ad 30) 11 (-16)) = hU h := (Eq.trans rfl (Eq.trans rfl (Eq.trans (pMs_U _ _) (Eq.trans rfl (Eq.trans rfl (Eq.trans (pCs_U _ _) rfl))))))
                      have cf : Chf n ad [(2, 1), (30, 9), (0, 6), (30, 11), (30, 15)] [3, 39] h (sI (sL (pMs ad (wB kd10) (sI (sI (pCs ad (wB kd10) (sI h (ad 0) 6 0)) (ad 0) 6 (-16)) (ad 30) 11 0)) (ad 30) 15 (lN (k8 * k8 / 100))) (ad 30) 11 (-16)) := Chf.m (Chf.t (Chf.t (Chf.t (Chf.t (Chf.t (Chf.t (Chf.t Chf.rf ((Chg.rf.sI (fx_j fx0) (k := 6) (v := 0) (.inl (by decide))).2.1)) (Chf.pCs fz0 (wB kd10))) ((Chg.rf.sI (fx_j fx0) (k := 6) (v := (-16)) (.inl (by decide))).2.1)) ((Chg.rf.sI (fx_j fx0) (k := 11) (v := 0) (.inl (by decide))).2.1)) (Chf.pMs fz1 (wB kd10))) ((Chg.rf.sL (fx_j fx0) (k := 15) (v := lN (k8 * k8 / 100)) (.inl (by decide))).2.1)) ((Chg.rf.sI (fx_j fx0) (k := 11) (v := (-16)) (.inl (by decide))).2.1)) (by decide)
                      have ss := smS_push fx0 cf eT eN eZ (fun a_ ha_ => ⟨funext fun j_ => (Eq.trans (I_ne (dy_ad fx (.inl (by decide)) ha_)) (Eq.trans I_oL (Eq.trans (pMs_I (dy_ad fx (.inl (by decide)) ha_) (fun z => (dy_ad fx (.inl (by decide)) ha_) z.1) _ _) (Eq.trans (I_ne (dy_ad fx (.inl (by decide)) ha_)) (Eq.trans (I_ne (dy_ad fx (.inl (by decide)) ha_)) (Eq.trans (pCs_I (dy_ad fx (.inl (by decide)) ha_) (fun z => (dy_ad fx (.inl (by decide)) ha_) z.1) _ _) (I_ne (dy_ad fx (.inl (by decide)) ha_)))))))), funext fun j_ => (Eq.trans L_oI (Eq.trans (L_ne (dy_ad fx (.inl (by decide)) ha_)) (Eq.trans (congrFun (congrFun (pMs_L _ _) _) _) (Eq.trans L_oI (Eq.trans L_oI (Eq.trans (congrFun (congrFun (pCs_L _ _) _) _) L_oI)))))), congrFun eR a_⟩)
                      have rs2 : Rs ad z0 mid pa np (sI (sL (pMs ad (wB kd10) (sI (sI (pCs ad (wB kd10) (sI h (ad 0) 6 0)) (ad 0) 6 (-16)) (ad 30) 11 0)) (ad 30) 15 (lN (k8 * k8 / 100))) (ad 30) 11 (-16)) := Rs.cases rs ss (fun c_ hc_ => .inl ⟨c_, hc_, cf.rI (by decide) c_, cf.rR (by decide) c_⟩)
                      exact ⟨rfl, Rel_push (L := wB kd10) fx0 rt ra rp rf rst ru ⟨Eq.trans (Eq.trans (I_ne (fx_ne fx (by decide))) (Eq.trans I_oL (Eq.trans (pMs_I (fx_ne fx (by decide)) (fun z => (fx_ne fx (by decide)) z.1) _ _) (Eq.trans (I_ne (fx_ne fx (by decide))) (I_ne (fx_ne fx (by decide))))))) (smC.ps (fx_ne fx0 (by decide)) _ (⟨(I_ne (fx_ne fx (by decide))), fun i_ => (I_ne (fx_ne fx (by decide)))⟩ : smC ad h _)).1, fun i_ => Eq.trans (Eq.trans (I_ne (fx_ne fx (by decide))) (Eq.trans I_oL (Eq.trans (pMs_I (fx_ne fx (by decide)) (fun z => (fx_ne fx (by decide)) z.1) _ _) (Eq.trans (I_ne (fx_ne fx (by decide))) (I_ne (fx_ne fx (by decide))))))) ((smC.ps (fx_ne fx0 (by decide)) _ (⟨(I_ne (fx_ne fx (by decide))), fun i_ => (I_ne (fx_ne fx (by decide)))⟩ : smC ad h _)).2 i_)⟩ ⟨Eq.trans (Eq.trans (I_nk (by decide)) I_oL) (smM.ps (fx_ne fx0 (by decide)) _ (⟨(Eq.trans (I_nk (by decide)) (Eq.trans (I_ne (fx_ne fx (by decide))) (Eq.trans (pCs_I (fx_ne fx (by decide)) (fun z => (fx_ne fx (by decide)) z.1) _ _) (I_ne (fx_ne fx (by decide)))))), fun i_ => (Eq.trans (I_ne (fx_ne fx (by decide))) (Eq.trans (I_ne (fx_ne fx (by decide))) (Eq.trans (pCs_I (fx_ne fx (by decide)) (fun z => (fx_ne fx (by decide)) z.1) _ _) (I_ne (fx_ne fx (by decide))))))⟩ : smM ad h _)).1, fun i_ => Eq.trans (Eq.trans (I_ne (fx_ne fx (by decide))) I_oL) ((smM.ps (fx_ne fx0 (by decide)) _ (⟨(Eq.trans (I_nk (by decide)) (Eq.trans (I_ne (fx_ne fx (by decide))) (Eq.trans (pCs_I (fx_ne fx (by decide)) (fun z => (fx_ne fx (by decide)) z.1) _ _) (I_ne (fx_ne fx (by decide)))))), fun i_ => (Eq.trans (I_ne (fx_ne fx (by decide))) (Eq.trans (I_ne (fx_ne fx (by decide))) (Eq.trans (pCs_I (fx_ne fx (by decide)) (fun z => (fx_ne fx (by decide)) z.1) _ _) (I_ne (fx_ne fx (by decide))))))⟩ : smM ad h _)).2 i_)⟩ (Chf.m cf (by decide)) eT eN eZ eR (fun j hj i => (Eq.trans (I_ne ((fx_lt fx0 (.inl (by decide))).2.2 j hj)) (Eq.trans I_oL (Eq.trans (pMs_I ((fx_lt fx0 (i := 39) (.inl (by decide))).2.2 j hj) (fun z => (fx_lt fx0 (i := 30) (.inl (by decide))).2.2 j hj z.1) _ _) (Eq.trans (I_ne ((fx_lt fx0 (.inl (by decide))).2.2 j hj)) (Eq.trans (I_ne ((fx_lt fx0 (.inl (by decide))).2.2 j hj)) (Eq.trans (pCs_I ((fx_lt fx0 (i := 3) (.inl (by decide))).2.2 j hj) (fun z => (fx_lt fx0 (i := 2) (.inl (by decide))).2.2 j hj z.1) _ _) (I_ne ((fx_lt fx0 (.inl (by decide))).2.2 j hj))))))))) (Eq.trans (Eq.trans (I_ne (fx_ne fx (by decide))) (Eq.trans I_oL (Eq.trans (pMs_I (fx_ne fx (by decide)) (fun z => (fx_ne fx (by decide)) z.1) _ _) (Eq.trans (I_ne (fx_ne fx (by decide))) I_eq)))) (Eq.symm I_eq)) rs2, by rw [eZ]; exact Nat.le_add_right _ _, by rw [eU]; exact Nat.le_add_right _ _⟩
                  · refine r_aload rfl rfl ?_
                    refine r_aload rfl rfl ?_
                    refine r_getA (b := ad 2) rfl ⟨rfl, rfl, rfl⟩ (fx_t0 fx) (fx_r0_1 fx) ?_
                    refine r_cv (y := 69) (ra := [.ref (ad 2)]) (rest := []) rfl ⟨⟨rfl, rfl⟩, rfl, by decide⟩ tg10 rfl rfl (Nat.le_of_ble_eq_true rfl) ?_
                    refine c_cost (h := sI h (ad 0) 6 0) (kd := kd10) (q := q10) fx (fun j hj i hi => (Eq.trans (I_ne ((fx_lt fx (.inl (by decide))).2.2 j hj)) (rst j hj i hi))) tg10 (Eq.trans (I_ne (dy_ad fx (.inl (by decide)) dz10)) k1_10) (Eq.trans (I_ne (dy_ad fx (.inl (by decide)) dz10)) s1_10) (by omega) (by omega) (by rw [show hI (sI h (ad 0) 6 0) (ad 2) 1 = nI kt from (Eq.trans (I_ne (fx_ne fx (by decide))) t1)]; exact nI_pos' (by omega)) ?_
                    have fx : FX n ad sa z0 (pCs ad (cosB kd10) (sI h (ad 0) 6 0)) := FX.pCs (h := sI h (ad 0) 6 0) fx _
                    show WR _ cd_64 89 [some (.ref (ad 0)), some (.int c), some (.int m), some (.int l), some (.ref (pa q10)), none] [.int (nI (cosV kd10 q10))] (pCs ad (cosB kd10) (sI h (ad 0) 6 0)) _
                    refine r_i2l rfl ?_
                    refine WR_tL (y := lN (cosV kd10 q10)) (nI_l (by have := cosV_b (kd := kd10) (q := q10); omega)) ?_
                    refine r_lret rfl ?_
                    show EV _ 184 [.ref (ad 30), .int c, .int m, .int l] (pCs ad (cosB kd10) (sI h (ad 0) 6 0)) _
                    refine in_184 (Nat.le_of_ble_eq_true rfl) ?_
                    show WR _ cd_184 0 [some (.ref (ad 30)), some (.int c), some (.int m), some (.int l), none, none] [] (pCs ad (cosB kd10) (sI h (ad 0) 6 0)) _
                    refine r_iload rfl rfl ?_
                    refine WR_tI (y := nI k2) ek2 ?_
                    refine r_cs (y := 153) (ra := [.int (nI k2)]) (rest := []) rfl ⟨⟨rfl, rfl⟩, by decide⟩ rfl rfl (Nat.le_of_ble_eq_true rfl) ?_
                    refine in_153 (Nat.le_of_ble_eq_true rfl) ?_
                    show WR _ cd_153 0 [some (.int (nI k2))] [] (pCs ad (cosB kd10) (sI h (ad 0) 6 0)) _
                    refine r_iload rfl rfl ?_
                    refine r_if_lt (tg := 14) rfl rfl (fun q => False.elim (by have := i_nlt c1; have := i_rg c; have : (0 : Int32).toInt = 0 := rfl; have := i_eq ek2; have : (nI k2).toInt = ((k2 : Nat) : Int) := nI_toInt (by omega); have := i_nle c3; have : (24 : Int32).toInt = 24 := rfl; have := i_lt q; omega)) (fun _ => ?_)
                    refine r_iload rfl rfl ?_
                    refine r_ic (x := 24) rfl rfl ?_
                    refine r_icmp_ge (tg := 14) rfl rfl (fun q => False.elim (by have := i_nlt c1; have := i_rg c; have : (0 : Int32).toInt = 0 := rfl; have := i_eq ek2; have : (nI k2).toInt = ((k2 : Nat) : Int) := nI_toInt (by omega); have := i_nle c3; have : (24 : Int32).toInt = 24 := rfl; have := i_le q; omega)) (fun _ => ?_)
                    refine r_ic (x := 1) rfl rfl ?_
                    refine r_goto (tg := 15) rfl rfl ?_
                    refine r_zret rfl (.inr rfl) ?_
                    show WR _ cd_184 4 [some (.ref (ad 30)), some (.int c), some (.int m), some (.int l), none, none] [.int 1] (pCs ad (cosB kd10) (sI h (ad 0) 6 0)) _
                    refine r_if_ne (tg := 14) rfl rfl (fun _ => ?_) (fun q => absurd q (by decide))
                    refine r_iload rfl rfl ?_
                    refine WR_tI (y := nI k5) ek5 ?_
                    refine r_i2l rfl ?_
                    refine WR_tL (y := lN k5) (nI_l (by have := i_nlt c4; have := i_rg m; have : (0 : Int32).toInt = 0 := rfl; have := i_eq ek5; have : (nI k5).toInt = ((k5 : Nat) : Int) := nI_toInt (by omega); have := i_nlt c6; have : (2 : Int32).toInt = 2 := rfl; have := i_eq c12; have : (1 : Int32).toInt = 1 := rfl; have := i_neq c11; omega)) ?_
                    refine r_lc (x := 0) rfl rfl ?_
                    refine r_ldc (x := .long 2) rfl rfl ?_
                    refine r_cs (y := 155) (ra := [.long 2, .long 0, .long (lN k5)]) (rest := []) rfl ⟨⟨rfl, rfl⟩, by decide⟩ rfl rfl (Nat.le_of_ble_eq_true rfl) ?_
                    refine in_155 (Nat.le_of_ble_eq_true rfl) ?_
                    show WR _ cd_155 0 [some (.long (lN k5)), none, some (.long 0), none, some (.long 2), none] [] (pCs ad (cosB kd10) (sI h (ad 0) 6 0)) _
                    refine r_lload rfl rfl ?_
                    refine r_lload rfl rfl ?_
                    refine r_lif_lt (tg := 17) rfl rfl rfl (fun q => False.elim (by have := i_nlt c4; have := i_rg m; have : (0 : Int32).toInt = 0 := rfl; have := i_eq ek5; have : (nI k5).toInt = ((k5 : Nat) : Int) := nI_toInt (by omega); have := i_nlt c6; have : (2 : Int32).toInt = 2 := rfl; have := i_eq c12; have : (1 : Int32).toInt = 1 := rfl; have := i_neq c11; have : (lN k5).toInt = ((k5 : Nat) : Int) := lN_toInt (by omega); have : (0 : Int64).toInt = 0 := rfl; have := l_lt q; omega)) (fun _ => ?_)
                    refine r_lload rfl rfl ?_
                    refine r_lload rfl rfl ?_
                    refine r_lif_gt (tg := 17) rfl rfl rfl (fun q => False.elim (by have := i_nlt c4; have := i_rg m; have : (0 : Int32).toInt = 0 := rfl; have := i_eq ek5; have : (nI k5).toInt = ((k5 : Nat) : Int) := nI_toInt (by omega); have := i_nlt c6; have : (2 : Int32).toInt = 2 := rfl; have := i_eq c12; have : (1 : Int32).toInt = 1 := rfl; have := i_neq c11; have : (lN k5).toInt = ((k5 : Nat) : Int) := lN_toInt (by omega); have : (2 : Int64).toInt = 2 := rfl; have := l_lt q; omega)) (fun _ => ?_)
                    refine r_ic (x := 1) rfl rfl ?_
                    refine r_goto (tg := 18) rfl rfl ?_
                    refine r_zret rfl (.inr rfl) ?_
                    show WR _ cd_184 23 [some (.ref (ad 30)), some (.int c), some (.int m), some (.int l), none, none] [.int 1] (pCs ad (cosB kd10) (sI h (ad 0) 6 0)) _
                    refine r_if_eq (tg := 38) rfl rfl (fun q => absurd q (by decide)) (fun _ => ?_)
                    refine r_iload rfl rfl ?_
                    refine WR_tI (y := nI k8) ek8 ?_
                    refine r_i2l rfl ?_
                    refine WR_tL (y := lN k8) (nI_l (by have := i_nlt c7; have := i_rg l; have : (0 : Int32).toInt = 0 := rfl; have := i_eq ek8; have : (nI k8).toInt = ((k8 : Nat) : Int) := nI_toInt (by omega); have := i_le c9; have : (10000 : Int32).toInt = 10000 := rfl; omega)) ?_
                    refine r_lc (x := 0) rfl rfl ?_
                    refine r_ldc (x := .long 10000) rfl rfl ?_
                    refine r_cs (y := 155) (ra := [.long 10000, .long 0, .long (lN k8)]) (rest := []) rfl ⟨⟨rfl, rfl⟩, by decide⟩ rfl rfl (Nat.le_of_ble_eq_true rfl) ?_
                    refine in_155 (Nat.le_of_ble_eq_true rfl) ?_
                    show WR _ cd_155 0 [some (.long (lN k8)), none, some (.long 0), none, some (.long 10000), none] [] (pCs ad (cosB kd10) (sI h (ad 0) 6 0)) _
                    refine r_lload rfl rfl ?_
                    refine r_lload rfl rfl ?_
                    refine r_lif_lt (tg := 17) rfl rfl rfl (fun q => False.elim (by have := i_nlt c7; have := i_rg l; have : (0 : Int32).toInt = 0 := rfl; have := i_eq ek8; have : (nI k8).toInt = ((k8 : Nat) : Int) := nI_toInt (by omega); have := i_le c9; have : (10000 : Int32).toInt = 10000 := rfl; have : (lN k8).toInt = ((k8 : Nat) : Int) := lN_toInt (by omega); have : (0 : Int64).toInt = 0 := rfl; have := l_lt q; omega)) (fun _ => ?_)
                    refine r_lload rfl rfl ?_
                    refine r_lload rfl rfl ?_
                    refine r_lif_gt (tg := 17) rfl rfl rfl (fun q => False.elim (by have := i_nlt c7; have := i_rg l; have : (0 : Int32).toInt = 0 := rfl; have := i_eq ek8; have : (nI k8).toInt = ((k8 : Nat) : Int) := nI_toInt (by omega); have := i_le c9; have : (10000 : Int32).toInt = 10000 := rfl; have : (lN k8).toInt = ((k8 : Nat) : Int) := lN_toInt (by omega); have : (10000 : Int64).toInt = 10000 := rfl; have := l_lt q; omega)) (fun _ => ?_)
                    refine r_ic (x := 1) rfl rfl ?_
                    refine r_goto (tg := 18) rfl rfl ?_
                    refine r_zret rfl (.inr rfl) ?_
                    show WR _ cd_184 35 [some (.ref (ad 30)), some (.int c), some (.int m), some (.int l), none, none] [.int 1] (pCs ad (cosB kd10) (sI h (ad 0) 6 0)) _
                    refine r_if_ne (tg := 45) rfl rfl (fun _ => ?_) (fun q => absurd q (by decide))
                    refine r_aload rfl rfl ?_
                    refine r_aload rfl rfl ?_
                    refine r_getA (b := ad 31) rfl ⟨rfl, rfl, rfl⟩ (fx_t30 fx) (fx_r30_0 fx) ?_
                    refine r_iload rfl rfl ?_
                    refine WR_tI (y := nI k2) ek2 ?_
                    refine r_iaload rfl (.inl (fx_t31 fx)) (vp_ct (fx_n31 fx) (vp_in_nI (by have := i_nlt c1; have := i_rg c; have : (0 : Int32).toInt = 0 := rfl; have := i_eq ek2; have : (nI k2).toInt = ((k2 : Nat) : Int) := nI_toInt (by omega); have := i_nle c3; have : (24 : Int32).toInt = 24 := rfl; omega) (by omega))) ?_
                    refine WR_tI (congrArg (hI (pCs ad (cosB kd10) (sI h (ad 0) 6 0)) (ad 31)) ((nI_clamp (by have := i_nlt c1; have := i_rg c; have : (0 : Int32).toInt = 0 := rfl; have := i_eq ek2; have : (nI k2).toInt = ((k2 : Nat) : Int) := nI_toInt (by omega); have := i_nle c3; have : (24 : Int32).toInt = 24 := rfl; omega)) : _ = k2)) ?_
                    refine WR_tI (y := nI (q10 + 1000)) (Eq.trans (pCs_I (fx_ne fx (by decide)) (fun z => (fx_ne fx (by decide)) z.1) _ _) (Eq.trans (I_ne (fx_ne fx (by decide))) v10)) ?_
                    refine r_cv (y := 185) (ra := [.int (nI (q10 + 1000))]) (rest := []) rfl ⟨⟨rfl, rfl⟩, rfl, by decide⟩ (fx_t30 fx) rfl rfl (Nat.le_of_ble_eq_true rfl) ?_
                    refine in_185 (Nat.le_of_ble_eq_true rfl) ?_
                    show WR _ cd_185 0 [some (.ref (ad 30)), some (.int (nI (q10 + 1000)))] [] (pCs ad (cosB kd10) (sI h (ad 0) 6 0)) _
                    refine r_iload rfl rfl ?_
                    refine r_ic (x := (-1)) rfl rfl ?_
                    refine r_icmp_eq (tg := 16) rfl rfl (fun q => False.elim (by have : (nI (q10 + 1000)).toInt = ((q10 + 1000 : Nat) : Int) := nI_toInt (by omega); have : (-1 : Int32).toInt = -1 := rfl; have := i_eq q; omega)) (fun _ => ?_)
                    refine r_iload rfl rfl ?_
                    refine r_ic (x := 1000) rfl rfl ?_
                    refine r_icmp_ge (tg := 16) rfl rfl (fun _ => ?_) (fun q => False.elim (by have : (nI (q10 + 1000)).toInt = ((q10 + 1000 : Nat) : Int) := nI_toInt (by omega); have : (1000 : Int32).toInt = 1000 := rfl; have := i_nle q; omega))
                    refine r_iload rfl rfl ?_
                    refine r_ic (x := (-1)) rfl rfl ?_
                    refine r_icmp_ne (tg := 25) rfl rfl (fun _ => ?_) (fun q => False.elim (by have : (nI (q10 + 1000)).toInt = ((q10 + 1000 : Nat) : Int) := nI_toInt (by omega); have : (-1 : Int32).toInt = -1 := rfl; have := i_eq q; omega))
                    refine r_ic (x := 0) rfl rfl ?_
                    refine r_iret rfl ?_
                    show WR _ cd_184 55 [some (.ref (ad 30)), some (.int c), some (.int m), some (.int l), none, none] [.int 0] (pCs ad (cosB kd10) (sI h (ad 0) 6 0)) _
                    refine r_istore (lv' := [some (.ref (ad 30)), some (.int c), some (.int m), some (.int l), some (.int 0), none]) rfl (Nat.le_of_ble_eq_true rfl) rfl ?_
                    refine r_iload rfl rfl ?_
                    refine r_if_le (tg := 72) rfl rfl (fun _ => ?_) (fun q => absurd q (by decide))
                    refine r_aload rfl rfl ?_
                    refine r_ic (x := 0) rfl rfl ?_
                    refine r_putI rfl ⟨rfl, rfl, rfl⟩ (fx_t30 fx) ?_
                    refine r_aload rfl rfl ?_
                    refine r_getA (b := ad 31) rfl ⟨rfl, rfl, rfl⟩ (fx_t30 fx) (fx_r30_0 fx) ?_
                    refine r_iload rfl rfl ?_
                    refine WR_tI (y := nI k2) ek2 ?_
                    refine r_iaload rfl (.inl (fx_t31 fx)) (vp_ct (fx_n31 fx) (vp_in_nI (by have := i_nlt c1; have := i_rg c; have : (0 : Int32).toInt = 0 := rfl; have := i_eq ek2; have : (nI k2).toInt = ((k2 : Nat) : Int) := nI_toInt (by omega); have := i_nle c3; have : (24 : Int32).toInt = 24 := rfl; omega) (by omega))) ?_
                    refine WR_tI (congrArg (hI (sI (pCs ad (cosB kd10) (sI h (ad 0) 6 0)) (ad 30) 11 0) (ad 31)) ((nI_clamp (by have := i_nlt c1; have := i_rg c; have : (0 : Int32).toInt = 0 := rfl; have := i_eq ek2; have : (nI k2).toInt = ((k2 : Nat) : Int) := nI_toInt (by omega); have := i_nle c3; have : (24 : Int32).toInt = 24 := rfl; omega)) : _ = k2)) ?_
                    refine WR_tI (y := nI (q10 + 1000)) (Eq.trans (I_ne (fx_ne fx (by decide))) (Eq.trans (pCs_I (fx_ne fx (by decide)) (fun z => (fx_ne fx (by decide)) z.1) _ _) (Eq.trans (I_ne (fx_ne fx (by decide))) v10))) ?_
                    refine r_ic (x := 1000) rfl rfl ?_
                    refine r_isub rfl ?_
                    refine WR_tI (y := nI q10) (Eq.trans (pk_sub (a := q10 + 1000) (b := 1000) (by omega)) (congrArg nI (by omega))) ?_
                    refine r_istore (lv' := [some (.ref (ad 30)), some (.int c), some (.int m), some (.int l), some (.int 0), some (.int (nI q10))]) rfl (Nat.le_of_ble_eq_true rfl) rfl ?_
                    refine r_iload rfl rfl ?_
                    refine WR_tI (y := nI k5) ek5 ?_
                    refine r_if_ne (tg := 101) rfl rfl (fun _ => ?_) (fun q => False.elim (by have := i_nlt c4; have := i_rg m; have : (0 : Int32).toInt = 0 := rfl; have := i_eq ek5; have : (nI k5).toInt = ((k5 : Nat) : Int) := nI_toInt (by omega); have := i_nlt c6; have : (2 : Int32).toInt = 2 := rfl; have := i_eq c12; have : (1 : Int32).toInt = 1 := rfl; have := i_neq c11; have := i_eq q; omega))
                    refine r_iload rfl rfl ?_
                    refine WR_tI (y := nI k5) ek5 ?_
                    refine r_ic (x := 1) rfl rfl ?_
                    refine r_icmp_ne (tg := 113) rfl rfl (fun q => False.elim (by have := i_nlt c4; have := i_rg m; have : (0 : Int32).toInt = 0 := rfl; have := i_eq ek5; have : (nI k5).toInt = ((k5 : Nat) : Int) := nI_toInt (by omega); have := i_nlt c6; have : (2 : Int32).toInt = 2 := rfl; have := i_eq c12; have : (1 : Int32).toInt = 1 := rfl; have := i_neq q; omega)) (fun _ => ?_)
                    refine r_aload rfl rfl ?_
                    refine r_iload rfl rfl ?_
                    refine r_cv (y := 188) (ra := [.int (nI q10)]) (rest := []) rfl ⟨⟨rfl, rfl⟩, rfl, by decide⟩ (fx_t30 fx) rfl rfl (Nat.le_of_ble_eq_true rfl) ?_
                    refine c_mcost (h := sI (pCs ad (cosB kd10) (sI h (ad 0) 6 0)) (ad 30) 11 0) (kd := kd10) (q := q10) fx (Eq.trans (I_ne (fx_ne fx (by decide))) (Eq.trans (pCs_I (fx_ne fx (by decide)) (fun z => (fx_ne fx (by decide)) z.1) _ _) (Eq.trans (I_ne (fx_ne fx (by decide))) k2_10))) (by omega) (by omega) (by rw [show hI (sI (pCs ad (cosB kd10) (sI h (ad 0) 6 0)) (ad 30) 11 0) (ad 30) 9 = nI kt from (Eq.trans (I_nk (by decide)) (Eq.trans (pCs_I (fx_ne fx (by decide)) (fun z => (fx_ne fx (by decide)) z.1) _ _) (Eq.trans (I_ne (fx_ne fx (by decide))) t2)))]; exact nI_pos' (by omega)) ?_
                    have fx : FX n ad sa z0 (pMs ad (cosB kd10) (sI (pCs ad (cosB kd10) (sI h (ad 0) 6 0)) (ad 30) 11 0)) := FX.pMs (h := sI (pCs ad (cosB kd10) (sI h (ad 0) 6 0)) (ad 30) 11 0) fx _
                    show WR _ cd_184 112 [some (.ref (ad 30)), some (.int c), some (.int m), some (.int l), some (.int 0), some (.int (nI q10))] [.long (lN (cosV kd10 q10))] (pMs ad (cosB kd10) (sI (pCs ad (cosB kd10) (sI h (ad 0) 6 0)) (ad 30) 11 0)) _
                    refine r_lret rfl ?_
                    have fz0 : FX n ad sa z0 (sI h (ad 0) 6 0) := fx0
                    have fzc1 : FX n ad sa z0 (pCs ad (cosB kd10) (sI h (ad 0) 6 0)) := FX.pCs fz0 _
                    have fz1 : FX n ad sa z0 (sI (pCs ad (cosB kd10) (sI h (ad 0) 6 0)) (ad 30) 11 0) := fzc1
                    have fzc2 : FX n ad sa z0 (pMs ad (cosB kd10) (sI (pCs ad (cosB kd10) (sI h (ad 0) 6 0)) (ad 30) 11 0)) := FX.pMs fz1 _
                    have eT : hT (pMs ad (cosB kd10) (sI (pCs ad (cosB kd10) (sI h (ad 0) 6 0)) (ad 30) 11 0)) = hT h := (Eq.trans (pMs_T _ _) (Eq.trans rfl (Eq.trans (pCs_T _ _) rfl)))
                    have eN : hN (pMs ad (cosB kd10) (sI (pCs ad (cosB kd10) (sI h (ad 0) 6 0)) (ad 30) 11 0)) = hN h := (Eq.trans (pMs_N _ _) (Eq.trans rfl (Eq.trans (pCs_N _ _) rfl)))
                    have eZ : hZ (pMs ad (cosB kd10) (sI (pCs ad (cosB kd10) (sI h (ad 0) 6 0)) (ad 30) 11 0)) = hZ h := (Eq.trans (pMs_Z _ _) (Eq.trans rfl (Eq.trans (pCs_Z _ _) rfl)))
                    have eR : hR (pMs ad (cosB kd10) (sI (pCs ad (cosB kd10) (sI h (ad 0) 6 0)) (ad 30) 11 0)) = hR h := (Eq.trans (pMs_R _ _) (Eq.trans rfl (Eq.trans (pCs_R _ _) rfl)))
                    have eU : hU (pMs ad (cosB kd10) (sI (pCs ad (cosB kd10) (sI h (ad 0) 6 0)) (ad 30) 11 0)) = hU h := (Eq.trans (pMs_U _ _) (Eq.trans rfl (Eq.trans (pCs_U _ _) rfl)))
                    have cf : Chf n ad [(2, 1), (30, 9), (0, 6), (30, 11), (30, 15)] [3, 39] h (pMs ad (cosB kd10) (sI (pCs ad (cosB kd10) (sI h (ad 0) 6 0)) (ad 30) 11 0)) := Chf.m (Chf.t (Chf.t (Chf.t (Chf.t Chf.rf ((Chg.rf.sI (fx_j fx0) (k := 6) (v := 0) (.inl (by decide))).2.1)) (Chf.pCs fz0 (cosB kd10))) ((Chg.rf.sI (fx_j fx0) (k := 11) (v := 0) (.inl (by decide))).2.1)) (Chf.pMs fz1 (cosB kd10))) (by decide)
                    have ss := smS_push fx0 cf eT eN eZ (fun a_ ha_ => ⟨funext fun j_ => (Eq.trans (pMs_I (dy_ad fx (.inl (by decide)) ha_) (fun z => (dy_ad fx (.inl (by decide)) ha_) z.1) _ _) (Eq.trans (I_ne (dy_ad fx (.inl (by decide)) ha_)) (Eq.trans (pCs_I (dy_ad fx (.inl (by decide)) ha_) (fun z => (dy_ad fx (.inl (by decide)) ha_) z.1) _ _) (I_ne (dy_ad fx (.inl (by decide)) ha_))))), funext fun j_ => (Eq.trans (congrFun (congrFun (pMs_L _ _) _) _) (Eq.trans L_oI (Eq.trans (congrFun (congrFun (pCs_L _ _) _) _) L_oI))), congrFun eR a_⟩)
                    have rs2 : Rs ad z0 mid pa np (pMs ad (cosB kd10) (sI (pCs ad (cosB kd10) (sI h (ad 0) 6 0)) (ad 30) 11 0)) := Rs.cases rs ss (fun c_ hc_ => .inl ⟨c_, hc_, cf.rI (by decide) c_, cf.rR (by decide) c_⟩)
                    exact ⟨rfl, Rel_push (L := cosB kd10) fx0 rt ra rp rf rst ru ⟨Eq.trans (Eq.trans (pMs_I (fx_ne fx (by decide)) (fun z => (fx_ne fx (by decide)) z.1) _ _) (I_ne (fx_ne fx (by decide)))) (smC.ps (fx_ne fx0 (by decide)) _ (⟨(I_ne (fx_ne fx (by decide))), fun i_ => (I_ne (fx_ne fx (by decide)))⟩ : smC ad h _)).1, fun i_ => Eq.trans (Eq.trans (pMs_I (fx_ne fx (by decide)) (fun z => (fx_ne fx (by decide)) z.1) _ _) (I_ne (fx_ne fx (by decide)))) ((smC.ps (fx_ne fx0 (by decide)) _ (⟨(I_ne (fx_ne fx (by decide))), fun i_ => (I_ne (fx_ne fx (by decide)))⟩ : smC ad h _)).2 i_)⟩ ⟨Eq.trans rfl (smM.ps (fx_ne fx0 (by decide)) _ (⟨(Eq.trans (I_nk (by decide)) (Eq.trans (pCs_I (fx_ne fx (by decide)) (fun z => (fx_ne fx (by decide)) z.1) _ _) (I_ne (fx_ne fx (by decide))))), fun i_ => (Eq.trans (I_ne (fx_ne fx (by decide))) (Eq.trans (pCs_I (fx_ne fx (by decide)) (fun z => (fx_ne fx (by decide)) z.1) _ _) (I_ne (fx_ne fx (by decide)))))⟩ : smM ad h _)).1, fun i_ => Eq.trans rfl ((smM.ps (fx_ne fx0 (by decide)) _ (⟨(Eq.trans (I_nk (by decide)) (Eq.trans (pCs_I (fx_ne fx (by decide)) (fun z => (fx_ne fx (by decide)) z.1) _ _) (I_ne (fx_ne fx (by decide))))), fun i_ => (Eq.trans (I_ne (fx_ne fx (by decide))) (Eq.trans (pCs_I (fx_ne fx (by decide)) (fun z => (fx_ne fx (by decide)) z.1) _ _) (I_ne (fx_ne fx (by decide)))))⟩ : smM ad h _)).2 i_)⟩ (Chf.m cf (by decide)) eT eN eZ eR (fun j hj i => (Eq.trans (pMs_I ((fx_lt fx0 (i := 39) (.inl (by decide))).2.2 j hj) (fun z => (fx_lt fx0 (i := 30) (.inl (by decide))).2.2 j hj z.1) _ _) (Eq.trans (I_ne ((fx_lt fx0 (.inl (by decide))).2.2 j hj)) (Eq.trans (pCs_I ((fx_lt fx0 (i := 3) (.inl (by decide))).2.2 j hj) (fun z => (fx_lt fx0 (i := 2) (.inl (by decide))).2.2 j hj z.1) _ _) (I_ne ((fx_lt fx0 (.inl (by decide))).2.2 j hj)))))) (Eq.trans (Eq.trans (pMs_I (fx_ne fx (by decide)) (fun z => (fx_ne fx (by decide)) z.1) _ _) (Eq.trans (I_ne (fx_ne fx (by decide))) (Eq.trans (pCs_I (fx_ne fx (by decide)) (fun z => (fx_ne fx (by decide)) z.1) _ _) I_eq))) (Eq.symm (Eq.trans (pMs_I (fx_ne fx (by decide)) (fun z => absurd z.2 (by decide)) _ _) I_eq))) rs2, by rw [eZ]; exact Nat.le_add_right _ _, by rw [eU]; exact Nat.le_add_right _ _⟩
                · refine r_aload rfl rfl ?_
                  refine r_aload rfl rfl ?_
                  refine r_getA (b := ad 2) rfl ⟨rfl, rfl, rfl⟩ (fx_t0 fx) (fx_r0_1 fx) ?_
                  refine r_cv (y := 67) (ra := [.ref (ad 2)]) (rest := []) rfl ⟨⟨rfl, rfl⟩, rfl, by decide⟩ tg10 rfl rfl (Nat.le_of_ble_eq_true rfl) ?_
                  refine c_limit (h := sI h (ad 0) 6 0) (kd := kd10) (q := q10) fx (fun j hj i hi => (Eq.trans (I_ne ((fx_lt fx (.inl (by decide))).2.2 j hj)) (rst j hj i hi))) tg10 (Eq.trans (I_ne (dy_ad fx (.inl (by decide)) dz10)) k1_10) (Eq.trans (I_ne (dy_ad fx (.inl (by decide)) dz10)) s1_10) (by omega) (by omega) (by rw [show hI (sI h (ad 0) 6 0) (ad 2) 1 = nI kt from (Eq.trans (I_ne (fx_ne fx (by decide))) t1)]; exact nI_pos' (by omega)) ?_
                  have fx : FX n ad sa z0 (pCs ad (limB kd10) (sI h (ad 0) 6 0)) := FX.pCs (h := sI h (ad 0) 6 0) fx _
                  show WR _ cd_64 73 [some (.ref (ad 0)), some (.int c), some (.int m), some (.int l), some (.ref (pa q10)), none] [.int (nI (limV kd10 q10))] (pCs ad (limB kd10) (sI h (ad 0) 6 0)) _
                  refine r_i2l rfl ?_
                  refine WR_tL (y := lN (limV kd10 q10)) (nI_l (by have := limV_b (kd := kd10) (q := q10); omega)) ?_
                  refine r_lret rfl ?_
                  show EV _ 184 [.ref (ad 30), .int c, .int m, .int l] (pCs ad (limB kd10) (sI h (ad 0) 6 0)) _
                  refine in_184 (Nat.le_of_ble_eq_true rfl) ?_
                  show WR _ cd_184 0 [some (.ref (ad 30)), some (.int c), some (.int m), some (.int l), none, none] [] (pCs ad (limB kd10) (sI h (ad 0) 6 0)) _
                  refine r_iload rfl rfl ?_
                  refine WR_tI (y := nI k2) ek2 ?_
                  refine r_cs (y := 153) (ra := [.int (nI k2)]) (rest := []) rfl ⟨⟨rfl, rfl⟩, by decide⟩ rfl rfl (Nat.le_of_ble_eq_true rfl) ?_
                  refine in_153 (Nat.le_of_ble_eq_true rfl) ?_
                  show WR _ cd_153 0 [some (.int (nI k2))] [] (pCs ad (limB kd10) (sI h (ad 0) 6 0)) _
                  refine r_iload rfl rfl ?_
                  refine r_if_lt (tg := 14) rfl rfl (fun q => False.elim (by have := i_nlt c1; have := i_rg c; have : (0 : Int32).toInt = 0 := rfl; have := i_eq ek2; have : (nI k2).toInt = ((k2 : Nat) : Int) := nI_toInt (by omega); have := i_nle c3; have : (24 : Int32).toInt = 24 := rfl; have := i_lt q; omega)) (fun _ => ?_)
                  refine r_iload rfl rfl ?_
                  refine r_ic (x := 24) rfl rfl ?_
                  refine r_icmp_ge (tg := 14) rfl rfl (fun q => False.elim (by have := i_nlt c1; have := i_rg c; have : (0 : Int32).toInt = 0 := rfl; have := i_eq ek2; have : (nI k2).toInt = ((k2 : Nat) : Int) := nI_toInt (by omega); have := i_nle c3; have : (24 : Int32).toInt = 24 := rfl; have := i_le q; omega)) (fun _ => ?_)
                  refine r_ic (x := 1) rfl rfl ?_
                  refine r_goto (tg := 15) rfl rfl ?_
                  refine r_zret rfl (.inr rfl) ?_
                  show WR _ cd_184 4 [some (.ref (ad 30)), some (.int c), some (.int m), some (.int l), none, none] [.int 1] (pCs ad (limB kd10) (sI h (ad 0) 6 0)) _
                  refine r_if_ne (tg := 14) rfl rfl (fun _ => ?_) (fun q => absurd q (by decide))
                  refine r_iload rfl rfl ?_
                  refine WR_tI (y := nI k5) ek5 ?_
                  refine r_i2l rfl ?_
                  refine WR_tL (y := lN k5) (nI_l (by have := i_nlt c4; have := i_rg m; have : (0 : Int32).toInt = 0 := rfl; have := i_eq ek5; have : (nI k5).toInt = ((k5 : Nat) : Int) := nI_toInt (by omega); have := i_nlt c6; have : (2 : Int32).toInt = 2 := rfl; have := i_eq c11; omega)) ?_
                  refine r_lc (x := 0) rfl rfl ?_
                  refine r_ldc (x := .long 2) rfl rfl ?_
                  refine r_cs (y := 155) (ra := [.long 2, .long 0, .long (lN k5)]) (rest := []) rfl ⟨⟨rfl, rfl⟩, by decide⟩ rfl rfl (Nat.le_of_ble_eq_true rfl) ?_
                  refine in_155 (Nat.le_of_ble_eq_true rfl) ?_
                  show WR _ cd_155 0 [some (.long (lN k5)), none, some (.long 0), none, some (.long 2), none] [] (pCs ad (limB kd10) (sI h (ad 0) 6 0)) _
                  refine r_lload rfl rfl ?_
                  refine r_lload rfl rfl ?_
                  refine r_lif_lt (tg := 17) rfl rfl rfl (fun q => False.elim (by have := i_nlt c4; have := i_rg m; have : (0 : Int32).toInt = 0 := rfl; have := i_eq ek5; have : (nI k5).toInt = ((k5 : Nat) : Int) := nI_toInt (by omega); have := i_nlt c6; have : (2 : Int32).toInt = 2 := rfl; have := i_eq c11; have : (lN k5).toInt = ((k5 : Nat) : Int) := lN_toInt (by omega); have : (0 : Int64).toInt = 0 := rfl; have := l_lt q; omega)) (fun _ => ?_)
                  refine r_lload rfl rfl ?_
                  refine r_lload rfl rfl ?_
                  refine r_lif_gt (tg := 17) rfl rfl rfl (fun q => False.elim (by have := i_nlt c4; have := i_rg m; have : (0 : Int32).toInt = 0 := rfl; have := i_eq ek5; have : (nI k5).toInt = ((k5 : Nat) : Int) := nI_toInt (by omega); have := i_nlt c6; have : (2 : Int32).toInt = 2 := rfl; have := i_eq c11; have : (lN k5).toInt = ((k5 : Nat) : Int) := lN_toInt (by omega); have : (2 : Int64).toInt = 2 := rfl; have := l_lt q; omega)) (fun _ => ?_)
                  refine r_ic (x := 1) rfl rfl ?_
                  refine r_goto (tg := 18) rfl rfl ?_
                  refine r_zret rfl (.inr rfl) ?_
                  show WR _ cd_184 23 [some (.ref (ad 30)), some (.int c), some (.int m), some (.int l), none, none] [.int 1] (pCs ad (limB kd10) (sI h (ad 0) 6 0)) _
                  refine r_if_eq (tg := 38) rfl rfl (fun q => absurd q (by decide)) (fun _ => ?_)
                  refine r_iload rfl rfl ?_
                  refine WR_tI (y := nI k8) ek8 ?_
                  refine r_i2l rfl ?_
                  refine WR_tL (y := lN k8) (nI_l (by have := i_nlt c7; have := i_rg l; have : (0 : Int32).toInt = 0 := rfl; have := i_eq ek8; have : (nI k8).toInt = ((k8 : Nat) : Int) := nI_toInt (by omega); have := i_le c9; have : (10000 : Int32).toInt = 10000 := rfl; omega)) ?_
                  refine r_lc (x := 0) rfl rfl ?_
                  refine r_ldc (x := .long 10000) rfl rfl ?_
                  refine r_cs (y := 155) (ra := [.long 10000, .long 0, .long (lN k8)]) (rest := []) rfl ⟨⟨rfl, rfl⟩, by decide⟩ rfl rfl (Nat.le_of_ble_eq_true rfl) ?_
                  refine in_155 (Nat.le_of_ble_eq_true rfl) ?_
                  show WR _ cd_155 0 [some (.long (lN k8)), none, some (.long 0), none, some (.long 10000), none] [] (pCs ad (limB kd10) (sI h (ad 0) 6 0)) _
                  refine r_lload rfl rfl ?_
                  refine r_lload rfl rfl ?_
                  refine r_lif_lt (tg := 17) rfl rfl rfl (fun q => False.elim (by have := i_nlt c7; have := i_rg l; have : (0 : Int32).toInt = 0 := rfl; have := i_eq ek8; have : (nI k8).toInt = ((k8 : Nat) : Int) := nI_toInt (by omega); have := i_le c9; have : (10000 : Int32).toInt = 10000 := rfl; have : (lN k8).toInt = ((k8 : Nat) : Int) := lN_toInt (by omega); have : (0 : Int64).toInt = 0 := rfl; have := l_lt q; omega)) (fun _ => ?_)
                  refine r_lload rfl rfl ?_
                  refine r_lload rfl rfl ?_
                  refine r_lif_gt (tg := 17) rfl rfl rfl (fun q => False.elim (by have := i_nlt c7; have := i_rg l; have : (0 : Int32).toInt = 0 := rfl; have := i_eq ek8; have : (nI k8).toInt = ((k8 : Nat) : Int) := nI_toInt (by omega); have := i_le c9; have : (10000 : Int32).toInt = 10000 := rfl; have : (lN k8).toInt = ((k8 : Nat) : Int) := lN_toInt (by omega); have : (10000 : Int64).toInt = 10000 := rfl; have := l_lt q; omega)) (fun _ => ?_)
                  refine r_ic (x := 1) rfl rfl ?_
                  refine r_goto (tg := 18) rfl rfl ?_
                  refine r_zret rfl (.inr rfl) ?_
                  show WR _ cd_184 35 [some (.ref (ad 30)), some (.int c), some (.int m), some (.int l), none, none] [.int 1] (pCs ad (limB kd10) (sI h (ad 0) 6 0)) _
                  refine r_if_ne (tg := 45) rfl rfl (fun _ => ?_) (fun q => absurd q (by decide))
                  refine r_aload rfl rfl ?_
                  refine r_aload rfl rfl ?_
                  refine r_getA (b := ad 31) rfl ⟨rfl, rfl, rfl⟩ (fx_t30 fx) (fx_r30_0 fx) ?_
                  refine r_iload rfl rfl ?_
                  refine WR_tI (y := nI k2) ek2 ?_
                  refine r_iaload rfl (.inl (fx_t31 fx)) (vp_ct (fx_n31 fx) (vp_in_nI (by have := i_nlt c1; have := i_rg c; have : (0 : Int32).toInt = 0 := rfl; have := i_eq ek2; have : (nI k2).toInt = ((k2 : Nat) : Int) := nI_toInt (by omega); have := i_nle c3; have : (24 : Int32).toInt = 24 := rfl; omega) (by omega))) ?_
                  refine WR_tI (congrArg (hI (pCs ad (limB kd10) (sI h (ad 0) 6 0)) (ad 31)) ((nI_clamp (by have := i_nlt c1; have := i_rg c; have : (0 : Int32).toInt = 0 := rfl; have := i_eq ek2; have : (nI k2).toInt = ((k2 : Nat) : Int) := nI_toInt (by omega); have := i_nle c3; have : (24 : Int32).toInt = 24 := rfl; omega)) : _ = k2)) ?_
                  refine WR_tI (y := nI (q10 + 1000)) (Eq.trans (pCs_I (fx_ne fx (by decide)) (fun z => (fx_ne fx (by decide)) z.1) _ _) (Eq.trans (I_ne (fx_ne fx (by decide))) v10)) ?_
                  refine r_cv (y := 185) (ra := [.int (nI (q10 + 1000))]) (rest := []) rfl ⟨⟨rfl, rfl⟩, rfl, by decide⟩ (fx_t30 fx) rfl rfl (Nat.le_of_ble_eq_true rfl) ?_
                  refine in_185 (Nat.le_of_ble_eq_true rfl) ?_
                  show WR _ cd_185 0 [some (.ref (ad 30)), some (.int (nI (q10 + 1000)))] [] (pCs ad (limB kd10) (sI h (ad 0) 6 0)) _
                  refine r_iload rfl rfl ?_
                  refine r_ic (x := (-1)) rfl rfl ?_
                  refine r_icmp_eq (tg := 16) rfl rfl (fun q => False.elim (by have : (nI (q10 + 1000)).toInt = ((q10 + 1000 : Nat) : Int) := nI_toInt (by omega); have : (-1 : Int32).toInt = -1 := rfl; have := i_eq q; omega)) (fun _ => ?_)
                  refine r_iload rfl rfl ?_
                  refine r_ic (x := 1000) rfl rfl ?_
                  refine r_icmp_ge (tg := 16) rfl rfl (fun _ => ?_) (fun q => False.elim (by have : (nI (q10 + 1000)).toInt = ((q10 + 1000 : Nat) : Int) := nI_toInt (by omega); have : (1000 : Int32).toInt = 1000 := rfl; have := i_nle q; omega))
                  refine r_iload rfl rfl ?_
                  refine r_ic (x := (-1)) rfl rfl ?_
                  refine r_icmp_ne (tg := 25) rfl rfl (fun _ => ?_) (fun q => False.elim (by have : (nI (q10 + 1000)).toInt = ((q10 + 1000 : Nat) : Int) := nI_toInt (by omega); have : (-1 : Int32).toInt = -1 := rfl; have := i_eq q; omega))
                  refine r_ic (x := 0) rfl rfl ?_
                  refine r_iret rfl ?_
                  show WR _ cd_184 55 [some (.ref (ad 30)), some (.int c), some (.int m), some (.int l), none, none] [.int 0] (pCs ad (limB kd10) (sI h (ad 0) 6 0)) _
                  refine r_istore (lv' := [some (.ref (ad 30)), some (.int c), some (.int m), some (.int l), some (.int 0), none]) rfl (Nat.le_of_ble_eq_true rfl) rfl ?_
                  refine r_iload rfl rfl ?_
                  refine r_if_le (tg := 72) rfl rfl (fun _ => ?_) (fun q => absurd q (by decide))
                  refine r_aload rfl rfl ?_
                  refine r_ic (x := 0) rfl rfl ?_
                  refine r_putI rfl ⟨rfl, rfl, rfl⟩ (fx_t30 fx) ?_
                  refine r_aload rfl rfl ?_
                  refine r_getA (b := ad 31) rfl ⟨rfl, rfl, rfl⟩ (fx_t30 fx) (fx_r30_0 fx) ?_
                  refine r_iload rfl rfl ?_
                  refine WR_tI (y := nI k2) ek2 ?_
                  refine r_iaload rfl (.inl (fx_t31 fx)) (vp_ct (fx_n31 fx) (vp_in_nI (by have := i_nlt c1; have := i_rg c; have : (0 : Int32).toInt = 0 := rfl; have := i_eq ek2; have : (nI k2).toInt = ((k2 : Nat) : Int) := nI_toInt (by omega); have := i_nle c3; have : (24 : Int32).toInt = 24 := rfl; omega) (by omega))) ?_
                  refine WR_tI (congrArg (hI (sI (pCs ad (limB kd10) (sI h (ad 0) 6 0)) (ad 30) 11 0) (ad 31)) ((nI_clamp (by have := i_nlt c1; have := i_rg c; have : (0 : Int32).toInt = 0 := rfl; have := i_eq ek2; have : (nI k2).toInt = ((k2 : Nat) : Int) := nI_toInt (by omega); have := i_nle c3; have : (24 : Int32).toInt = 24 := rfl; omega)) : _ = k2)) ?_
                  refine WR_tI (y := nI (q10 + 1000)) (Eq.trans (I_ne (fx_ne fx (by decide))) (Eq.trans (pCs_I (fx_ne fx (by decide)) (fun z => (fx_ne fx (by decide)) z.1) _ _) (Eq.trans (I_ne (fx_ne fx (by decide))) v10))) ?_
                  refine r_ic (x := 1000) rfl rfl ?_
                  refine r_isub rfl ?_
                  refine WR_tI (y := nI q10) (Eq.trans (pk_sub (a := q10 + 1000) (b := 1000) (by omega)) (congrArg nI (by omega))) ?_
                  refine r_istore (lv' := [some (.ref (ad 30)), some (.int c), some (.int m), some (.int l), some (.int 0), some (.int (nI q10))]) rfl (Nat.le_of_ble_eq_true rfl) rfl ?_
                  refine r_iload rfl rfl ?_
                  refine WR_tI (y := nI k5) ek5 ?_
                  refine r_if_ne (tg := 101) rfl rfl (fun q => False.elim (by have := i_nlt c4; have := i_rg m; have : (0 : Int32).toInt = 0 := rfl; have := i_eq ek5; have : (nI k5).toInt = ((k5 : Nat) : Int) := nI_toInt (by omega); have := i_nlt c6; have : (2 : Int32).toInt = 2 := rfl; have := i_eq c11; have := i_neq q; omega)) (fun _ => ?_)
                  refine r_aload rfl rfl ?_
                  refine r_iload rfl rfl ?_
                  refine r_cv (y := 186) (ra := [.int (nI q10)]) (rest := []) rfl ⟨⟨rfl, rfl⟩, rfl, by decide⟩ (fx_t30 fx) rfl rfl (Nat.le_of_ble_eq_true rfl) ?_
                  refine c_mlimit (h := sI (pCs ad (limB kd10) (sI h (ad 0) 6 0)) (ad 30) 11 0) (kd := kd10) (q := q10) fx (Eq.trans (I_ne (fx_ne fx (by decide))) (Eq.trans (pCs_I (fx_ne fx (by decide)) (fun z => (fx_ne fx (by decide)) z.1) _ _) (Eq.trans (I_ne (fx_ne fx (by decide))) k2_10))) (by omega) (by omega) (by rw [show hI (sI (pCs ad (limB kd10) (sI h (ad 0) 6 0)) (ad 30) 11 0) (ad 30) 9 = nI kt from (Eq.trans (I_nk (by decide)) (Eq.trans (pCs_I (fx_ne fx (by decide)) (fun z => (fx_ne fx (by decide)) z.1) _ _) (Eq.trans (I_ne (fx_ne fx (by decide))) t2)))]; exact nI_pos' (by omega)) ?_
                  have fx : FX n ad sa z0 (pMs ad (limB kd10) (sI (pCs ad (limB kd10) (sI h (ad 0) 6 0)) (ad 30) 11 0)) := FX.pMs (h := sI (pCs ad (limB kd10) (sI h (ad 0) 6 0)) (ad 30) 11 0) fx _
                  show WR _ cd_184 99 [some (.ref (ad 30)), some (.int c), some (.int m), some (.int l), some (.int 0), some (.int (nI q10))] [.int (nI (limV kd10 q10))] (pMs ad (limB kd10) (sI (pCs ad (limB kd10) (sI h (ad 0) 6 0)) (ad 30) 11 0)) _
                  refine r_i2l rfl ?_
                  refine WR_tL (y := lN (limV kd10 q10)) (nI_l (by have := limV_b (kd := kd10) (q := q10); omega)) ?_
                  refine r_lret rfl ?_
                  have fz0 : FX n ad sa z0 (sI h (ad 0) 6 0) := fx0
                  have fzc1 : FX n ad sa z0 (pCs ad (limB kd10) (sI h (ad 0) 6 0)) := FX.pCs fz0 _
                  have fz1 : FX n ad sa z0 (sI (pCs ad (limB kd10) (sI h (ad 0) 6 0)) (ad 30) 11 0) := fzc1
                  have fzc2 : FX n ad sa z0 (pMs ad (limB kd10) (sI (pCs ad (limB kd10) (sI h (ad 0) 6 0)) (ad 30) 11 0)) := FX.pMs fz1 _
                  have eT : hT (pMs ad (limB kd10) (sI (pCs ad (limB kd10) (sI h (ad 0) 6 0)) (ad 30) 11 0)) = hT h := (Eq.trans (pMs_T _ _) (Eq.trans rfl (Eq.trans (pCs_T _ _) rfl)))
                  have eN : hN (pMs ad (limB kd10) (sI (pCs ad (limB kd10) (sI h (ad 0) 6 0)) (ad 30) 11 0)) = hN h := (Eq.trans (pMs_N _ _) (Eq.trans rfl (Eq.trans (pCs_N _ _) rfl)))
                  have eZ : hZ (pMs ad (limB kd10) (sI (pCs ad (limB kd10) (sI h (ad 0) 6 0)) (ad 30) 11 0)) = hZ h := (Eq.trans (pMs_Z _ _) (Eq.trans rfl (Eq.trans (pCs_Z _ _) rfl)))
                  have eR : hR (pMs ad (limB kd10) (sI (pCs ad (limB kd10) (sI h (ad 0) 6 0)) (ad 30) 11 0)) = hR h := (Eq.trans (pMs_R _ _) (Eq.trans rfl (Eq.trans (pCs_R _ _) rfl)))
                  have eU : hU (pMs ad (limB kd10) (sI (pCs ad (limB kd10) (sI h (ad 0) 6 0)) (ad 30) 11 0)) = hU h := (Eq.trans (pMs_U _ _) (Eq.trans rfl (Eq.trans (pCs_U _ _) rfl)))
                  have cf : Chf n ad [(2, 1), (30, 9), (0, 6), (30, 11), (30, 15)] [3, 39] h (pMs ad (limB kd10) (sI (pCs ad (limB kd10) (sI h (ad 0) 6 0)) (ad 30) 11 0)) := Chf.m (Chf.t (Chf.t (Chf.t (Chf.t Chf.rf ((Chg.rf.sI (fx_j fx0) (k := 6) (v := 0) (.inl (by decide))).2.1)) (Chf.pCs fz0 (limB kd10))) ((Chg.rf.sI (fx_j fx0) (k := 11) (v := 0) (.inl (by decide))).2.1)) (Chf.pMs fz1 (limB kd10))) (by decide)
                  have ss := smS_push fx0 cf eT eN eZ (fun a_ ha_ => ⟨funext fun j_ => (Eq.trans (pMs_I (dy_ad fx (.inl (by decide)) ha_) (fun z => (dy_ad fx (.inl (by decide)) ha_) z.1) _ _) (Eq.trans (I_ne (dy_ad fx (.inl (by decide)) ha_)) (Eq.trans (pCs_I (dy_ad fx (.inl (by decide)) ha_) (fun z => (dy_ad fx (.inl (by decide)) ha_) z.1) _ _) (I_ne (dy_ad fx (.inl (by decide)) ha_))))), funext fun j_ => (Eq.trans (congrFun (congrFun (pMs_L _ _) _) _) (Eq.trans L_oI (Eq.trans (congrFun (congrFun (pCs_L _ _) _) _) L_oI))), congrFun eR a_⟩)
                  have rs2 : Rs ad z0 mid pa np (pMs ad (limB kd10) (sI (pCs ad (limB kd10) (sI h (ad 0) 6 0)) (ad 30) 11 0)) := Rs.cases rs ss (fun c_ hc_ => .inl ⟨c_, hc_, cf.rI (by decide) c_, cf.rR (by decide) c_⟩)
                  exact ⟨rfl, Rel_push (L := limB kd10) fx0 rt ra rp rf rst ru ⟨Eq.trans (Eq.trans (pMs_I (fx_ne fx (by decide)) (fun z => (fx_ne fx (by decide)) z.1) _ _) (I_ne (fx_ne fx (by decide)))) (smC.ps (fx_ne fx0 (by decide)) _ (⟨(I_ne (fx_ne fx (by decide))), fun i_ => (I_ne (fx_ne fx (by decide)))⟩ : smC ad h _)).1, fun i_ => Eq.trans (Eq.trans (pMs_I (fx_ne fx (by decide)) (fun z => (fx_ne fx (by decide)) z.1) _ _) (I_ne (fx_ne fx (by decide)))) ((smC.ps (fx_ne fx0 (by decide)) _ (⟨(I_ne (fx_ne fx (by decide))), fun i_ => (I_ne (fx_ne fx (by decide)))⟩ : smC ad h _)).2 i_)⟩ ⟨Eq.trans rfl (smM.ps (fx_ne fx0 (by decide)) _ (⟨(Eq.trans (I_nk (by decide)) (Eq.trans (pCs_I (fx_ne fx (by decide)) (fun z => (fx_ne fx (by decide)) z.1) _ _) (I_ne (fx_ne fx (by decide))))), fun i_ => (Eq.trans (I_ne (fx_ne fx (by decide))) (Eq.trans (pCs_I (fx_ne fx (by decide)) (fun z => (fx_ne fx (by decide)) z.1) _ _) (I_ne (fx_ne fx (by decide)))))⟩ : smM ad h _)).1, fun i_ => Eq.trans rfl ((smM.ps (fx_ne fx0 (by decide)) _ (⟨(Eq.trans (I_nk (by decide)) (Eq.trans (pCs_I (fx_ne fx (by decide)) (fun z => (fx_ne fx (by decide)) z.1) _ _) (I_ne (fx_ne fx (by decide))))), fun i_ => (Eq.trans (I_ne (fx_ne fx (by decide))) (Eq.trans (pCs_I (fx_ne fx (by decide)) (fun z => (fx_ne fx (by decide)) z.1) _ _) (I_ne (fx_ne fx (by decide)))))⟩ : smM ad h _)).2 i_)⟩ (Chf.m cf (by decide)) eT eN eZ eR (fun j hj i => (Eq.trans (pMs_I ((fx_lt fx0 (i := 39) (.inl (by decide))).2.2 j hj) (fun z => (fx_lt fx0 (i := 30) (.inl (by decide))).2.2 j hj z.1) _ _) (Eq.trans (I_ne ((fx_lt fx0 (.inl (by decide))).2.2 j hj)) (Eq.trans (pCs_I ((fx_lt fx0 (i := 3) (.inl (by decide))).2.2 j hj) (fun z => (fx_lt fx0 (i := 2) (.inl (by decide))).2.2 j hj z.1) _ _) (I_ne ((fx_lt fx0 (.inl (by decide))).2.2 j hj)))))) (Eq.trans (Eq.trans (pMs_I (fx_ne fx (by decide)) (fun z => (fx_ne fx (by decide)) z.1) _ _) (Eq.trans (I_ne (fx_ne fx (by decide))) (Eq.trans (pCs_I (fx_ne fx (by decide)) (fun z => (fx_ne fx (by decide)) z.1) _ _) I_eq))) (Eq.symm (Eq.trans (pMs_I (fx_ne fx (by decide)) (fun z => absurd z.2 (by decide)) _ _) I_eq))) rs2, by rw [eZ]; exact Nat.le_add_right _ _, by rw [eU]; exact Nat.le_add_right _ _⟩
              · refine r_aaloadA (b := mid t10) rfl (isQ_of (fx_t1 fx) (by decide)) (vp_ct (fx_n1 fx) (vp_in_nI (by have := i_nlt c1; have := i_rg c; have : (0 : Int32).toInt = 0 := rfl; have := i_eq ek2; have : (nI k2).toInt = ((k2 : Nat) : Int) := nI_toInt (by omega); have := i_nle c3; have : (24 : Int32).toInt = 24 := rfl; omega) (by omega))) (Eq.trans (congrArg (hR (sI h (ad 0) 6 0) (ad 1)) ((nI_clamp (by have := i_nlt c1; have := i_rg c; have : (0 : Int32).toInt = 0 := rfl; have := i_eq ek2; have : (nI k2).toInt = ((k2 : Nat) : Int) := nI_toInt (by omega); have := i_nle c3; have : (24 : Int32).toInt = 24 := rfl; omega)) : _ = k2)) (Eq.trans R_oI w10)) ?_
                refine r_astore (lv' := [some (.ref (ad 0)), some (.int (nI k2)), some (.ref (mid t10)), none]) rfl (Nat.le_of_ble_eq_true rfl) rfl ?_
                refine r_aload rfl rfl ?_
                refine r_instW rfl (by decide) tg10 (by decide) ?_
                refine r_if_eq (tg := 21) rfl rfl (fun _ => ?_) (fun q => absurd q (by decide))
                refine r_aload rfl rfl ?_
                refine r_aload rfl rfl ?_
                refine r_ifnonnullA (tg := 31) rfl rfl ?_
                refine r_ic (x := (-14)) rfl rfl ?_
                refine r_putI rfl ⟨rfl, rfl, rfl⟩ (fx_t0 fx) ?_
                refine r_null rfl ?_
                refine r_aret0 rfl ?_
                show WR _ cd_64 51 [some (.ref (ad 0)), some (.int c), some (.int m), some (.int l), none, none] [.null] (sI (sI h (ad 0) 6 0) (ad 0) 6 (-14)) _
                refine r_astore0 (lv' := [some (.ref (ad 0)), some (.int c), some (.int m), some (.int l), some (.null), none]) rfl (Nat.le_of_ble_eq_true rfl) rfl ?_
                refine r_aload0 rfl rfl ?_
                refine r_ifnonnullN (tg := 60) rfl rfl ?_
                refine r_lc (x := 0) rfl rfl ?_
                refine r_lret rfl ?_
                show EV _ 184 [.ref (ad 30), .int c, .int m, .int l] (sI (sI h (ad 0) 6 0) (ad 0) 6 (-14)) _
                refine in_184 (Nat.le_of_ble_eq_true rfl) ?_
                show WR _ cd_184 0 [some (.ref (ad 30)), some (.int c), some (.int m), some (.int l), none, none] [] (sI (sI h (ad 0) 6 0) (ad 0) 6 (-14)) _
                refine r_iload rfl rfl ?_
                refine WR_tI (y := nI k2) ek2 ?_
                refine r_cs (y := 153) (ra := [.int (nI k2)]) (rest := []) rfl ⟨⟨rfl, rfl⟩, by decide⟩ rfl rfl (Nat.le_of_ble_eq_true rfl) ?_
                refine in_153 (Nat.le_of_ble_eq_true rfl) ?_
                show WR _ cd_153 0 [some (.int (nI k2))] [] (sI (sI h (ad 0) 6 0) (ad 0) 6 (-14)) _
                refine r_iload rfl rfl ?_
                refine r_if_lt (tg := 14) rfl rfl (fun q => False.elim (by have := i_nlt c1; have := i_rg c; have : (0 : Int32).toInt = 0 := rfl; have := i_eq ek2; have : (nI k2).toInt = ((k2 : Nat) : Int) := nI_toInt (by omega); have := i_nle c3; have : (24 : Int32).toInt = 24 := rfl; have := i_lt q; omega)) (fun _ => ?_)
                refine r_iload rfl rfl ?_
                refine r_ic (x := 24) rfl rfl ?_
                refine r_icmp_ge (tg := 14) rfl rfl (fun q => False.elim (by have := i_nlt c1; have := i_rg c; have : (0 : Int32).toInt = 0 := rfl; have := i_eq ek2; have : (nI k2).toInt = ((k2 : Nat) : Int) := nI_toInt (by omega); have := i_nle c3; have : (24 : Int32).toInt = 24 := rfl; have := i_le q; omega)) (fun _ => ?_)
                refine r_ic (x := 1) rfl rfl ?_
                refine r_goto (tg := 15) rfl rfl ?_
                refine r_zret rfl (.inr rfl) ?_
                show WR _ cd_184 4 [some (.ref (ad 30)), some (.int c), some (.int m), some (.int l), none, none] [.int 1] (sI (sI h (ad 0) 6 0) (ad 0) 6 (-14)) _
                refine r_if_ne (tg := 14) rfl rfl (fun _ => ?_) (fun q => absurd q (by decide))
                refine r_iload rfl rfl ?_
                refine WR_tI (y := nI k5) ek5 ?_
                refine r_i2l rfl ?_
                refine WR_tL (y := lN k5) (nI_l (by have := i_nlt c4; have := i_rg m; have : (0 : Int32).toInt = 0 := rfl; have := i_eq ek5; have : (nI k5).toInt = ((k5 : Nat) : Int) := nI_toInt (by omega); have := i_nlt c6; have : (2 : Int32).toInt = 2 := rfl; omega)) ?_
                refine r_lc (x := 0) rfl rfl ?_
                refine r_ldc (x := .long 2) rfl rfl ?_
                refine r_cs (y := 155) (ra := [.long 2, .long 0, .long (lN k5)]) (rest := []) rfl ⟨⟨rfl, rfl⟩, by decide⟩ rfl rfl (Nat.le_of_ble_eq_true rfl) ?_
                refine in_155 (Nat.le_of_ble_eq_true rfl) ?_
                show WR _ cd_155 0 [some (.long (lN k5)), none, some (.long 0), none, some (.long 2), none] [] (sI (sI h (ad 0) 6 0) (ad 0) 6 (-14)) _
                refine r_lload rfl rfl ?_
                refine r_lload rfl rfl ?_
                refine r_lif_lt (tg := 17) rfl rfl rfl (fun q => False.elim (by have := i_nlt c4; have := i_rg m; have : (0 : Int32).toInt = 0 := rfl; have := i_eq ek5; have : (nI k5).toInt = ((k5 : Nat) : Int) := nI_toInt (by omega); have := i_nlt c6; have : (2 : Int32).toInt = 2 := rfl; have : (lN k5).toInt = ((k5 : Nat) : Int) := lN_toInt (by omega); have : (0 : Int64).toInt = 0 := rfl; have := l_lt q; omega)) (fun _ => ?_)
                refine r_lload rfl rfl ?_
                refine r_lload rfl rfl ?_
                refine r_lif_gt (tg := 17) rfl rfl rfl (fun q => False.elim (by have := i_nlt c4; have := i_rg m; have : (0 : Int32).toInt = 0 := rfl; have := i_eq ek5; have : (nI k5).toInt = ((k5 : Nat) : Int) := nI_toInt (by omega); have := i_nlt c6; have : (2 : Int32).toInt = 2 := rfl; have : (lN k5).toInt = ((k5 : Nat) : Int) := lN_toInt (by omega); have : (2 : Int64).toInt = 2 := rfl; have := l_lt q; omega)) (fun _ => ?_)
                refine r_ic (x := 1) rfl rfl ?_
                refine r_goto (tg := 18) rfl rfl ?_
                refine r_zret rfl (.inr rfl) ?_
                show WR _ cd_184 23 [some (.ref (ad 30)), some (.int c), some (.int m), some (.int l), none, none] [.int 1] (sI (sI h (ad 0) 6 0) (ad 0) 6 (-14)) _
                refine r_if_eq (tg := 38) rfl rfl (fun q => absurd q (by decide)) (fun _ => ?_)
                refine r_iload rfl rfl ?_
                refine WR_tI (y := nI k8) ek8 ?_
                refine r_i2l rfl ?_
                refine WR_tL (y := lN k8) (nI_l (by have := i_nlt c7; have := i_rg l; have : (0 : Int32).toInt = 0 := rfl; have := i_eq ek8; have : (nI k8).toInt = ((k8 : Nat) : Int) := nI_toInt (by omega); have := i_le c9; have : (10000 : Int32).toInt = 10000 := rfl; omega)) ?_
                refine r_lc (x := 0) rfl rfl ?_
                refine r_ldc (x := .long 10000) rfl rfl ?_
                refine r_cs (y := 155) (ra := [.long 10000, .long 0, .long (lN k8)]) (rest := []) rfl ⟨⟨rfl, rfl⟩, by decide⟩ rfl rfl (Nat.le_of_ble_eq_true rfl) ?_
                refine in_155 (Nat.le_of_ble_eq_true rfl) ?_
                show WR _ cd_155 0 [some (.long (lN k8)), none, some (.long 0), none, some (.long 10000), none] [] (sI (sI h (ad 0) 6 0) (ad 0) 6 (-14)) _
                refine r_lload rfl rfl ?_
                refine r_lload rfl rfl ?_
                refine r_lif_lt (tg := 17) rfl rfl rfl (fun q => False.elim (by have := i_nlt c7; have := i_rg l; have : (0 : Int32).toInt = 0 := rfl; have := i_eq ek8; have : (nI k8).toInt = ((k8 : Nat) : Int) := nI_toInt (by omega); have := i_le c9; have : (10000 : Int32).toInt = 10000 := rfl; have : (lN k8).toInt = ((k8 : Nat) : Int) := lN_toInt (by omega); have : (0 : Int64).toInt = 0 := rfl; have := l_lt q; omega)) (fun _ => ?_)
                refine r_lload rfl rfl ?_
                refine r_lload rfl rfl ?_
                refine r_lif_gt (tg := 17) rfl rfl rfl (fun q => False.elim (by have := i_nlt c7; have := i_rg l; have : (0 : Int32).toInt = 0 := rfl; have := i_eq ek8; have : (nI k8).toInt = ((k8 : Nat) : Int) := nI_toInt (by omega); have := i_le c9; have : (10000 : Int32).toInt = 10000 := rfl; have : (lN k8).toInt = ((k8 : Nat) : Int) := lN_toInt (by omega); have : (10000 : Int64).toInt = 10000 := rfl; have := l_lt q; omega)) (fun _ => ?_)
                refine r_ic (x := 1) rfl rfl ?_
                refine r_goto (tg := 18) rfl rfl ?_
                refine r_zret rfl (.inr rfl) ?_
                show WR _ cd_184 35 [some (.ref (ad 30)), some (.int c), some (.int m), some (.int l), none, none] [.int 1] (sI (sI h (ad 0) 6 0) (ad 0) 6 (-14)) _
                refine r_if_ne (tg := 45) rfl rfl (fun _ => ?_) (fun q => absurd q (by decide))
                refine r_aload rfl rfl ?_
                refine r_aload rfl rfl ?_
                refine r_getA (b := ad 31) rfl ⟨rfl, rfl, rfl⟩ (fx_t30 fx) (fx_r30_0 fx) ?_
                refine r_iload rfl rfl ?_
                refine WR_tI (y := nI k2) ek2 ?_
                refine r_iaload rfl (.inl (fx_t31 fx)) (vp_ct (fx_n31 fx) (vp_in_nI (by have := i_nlt c1; have := i_rg c; have : (0 : Int32).toInt = 0 := rfl; have := i_eq ek2; have : (nI k2).toInt = ((k2 : Nat) : Int) := nI_toInt (by omega); have := i_nle c3; have : (24 : Int32).toInt = 24 := rfl; omega) (by omega))) ?_
                refine WR_tI (congrArg (hI (sI (sI h (ad 0) 6 0) (ad 0) 6 (-14)) (ad 31)) ((nI_clamp (by have := i_nlt c1; have := i_rg c; have : (0 : Int32).toInt = 0 := rfl; have := i_eq ek2; have : (nI k2).toInt = ((k2 : Nat) : Int) := nI_toInt (by omega); have := i_nle c3; have : (24 : Int32).toInt = 24 := rfl; omega)) : _ = k2)) ?_
                refine WR_tI (y := nI t10) (Eq.trans (I_ne (fx_ne fx (by decide))) (Eq.trans (I_ne (fx_ne fx (by decide))) v10)) ?_
                refine r_cv (y := 185) (ra := [.int (nI t10)]) (rest := []) rfl ⟨⟨rfl, rfl⟩, rfl, by decide⟩ (fx_t30 fx) rfl rfl (Nat.le_of_ble_eq_true rfl) ?_
                refine in_185 (Nat.le_of_ble_eq_true rfl) ?_
                show WR _ cd_185 0 [some (.ref (ad 30)), some (.int (nI t10))] [] (sI (sI h (ad 0) 6 0) (ad 0) 6 (-14)) _
                refine r_iload rfl rfl ?_
                refine r_ic (x := (-1)) rfl rfl ?_
                refine r_icmp_eq (tg := 16) rfl rfl (fun q => False.elim (by have : (nI t10).toInt = ((t10 : Nat) : Int) := nI_toInt (by omega); have : (-1 : Int32).toInt = -1 := rfl; have := i_eq q; omega)) (fun _ => ?_)
                refine r_iload rfl rfl ?_
                refine r_ic (x := 1000) rfl rfl ?_
                refine r_icmp_ge (tg := 16) rfl rfl (fun q => False.elim (by have : (nI t10).toInt = ((t10 : Nat) : Int) := nI_toInt (by omega); have : (1000 : Int32).toInt = 1000 := rfl; have := i_le q; omega)) (fun _ => ?_)
                refine r_ic (x := 4) rfl rfl ?_
                refine r_goto (tg := 26) rfl rfl ?_
                refine r_iret rfl ?_
                show WR _ cd_184 55 [some (.ref (ad 30)), some (.int c), some (.int m), some (.int l), none, none] [.int 4] (sI (sI h (ad 0) 6 0) (ad 0) 6 (-14)) _
                refine r_istore (lv' := [some (.ref (ad 30)), some (.int c), some (.int m), some (.int l), some (.int 4), none]) rfl (Nat.le_of_ble_eq_true rfl) rfl ?_
                refine r_iload rfl rfl ?_
                refine r_if_le (tg := 72) rfl rfl (fun q => absurd q (by decide)) (fun _ => ?_)
                refine r_aload rfl rfl ?_
                refine r_ic (x := (-10)) rfl rfl ?_
                refine r_iload rfl rfl ?_
                refine r_isub rfl ?_
                refine WR_tI (y := (-14)) rfl ?_
                refine r_cv (y := 171) (ra := [.int (-14)]) (rest := []) rfl ⟨⟨rfl, rfl⟩, rfl, by decide⟩ (fx_t30 fx) rfl rfl (Nat.le_of_ble_eq_true rfl) ?_
                refine in_171 (Nat.le_of_ble_eq_true rfl) ?_
                show WR _ cd_171 0 [some (.ref (ad 30)), some (.int (-14))] [] (sI (sI h (ad 0) 6 0) (ad 0) 6 (-14)) _
                refine r_aload rfl rfl ?_
                refine r_iload rfl rfl ?_
                refine r_putI rfl ⟨rfl, rfl, rfl⟩ (fx_t30 fx) ?_
                refine r_lc (x := 0) rfl rfl ?_
                refine r_lret rfl ?_
                show WR _ cd_184 71 [some (.ref (ad 30)), some (.int c), some (.int m), some (.int l), some (.int 4), none] [.long 0] (sI (sI (sI h (ad 0) 6 0) (ad 0) 6 (-14)) (ad 30) 11 (-14)) _
                refine r_lret rfl ?_
                exact ⟨rfl, Rel.why r (((Chg.rf.sI (fx_j fx) (.inl (by decide))).sI (fx_j fx) (.inl (by decide))).sI (fx_j fx) (.inl (by decide))) ⟨rfl, by decide⟩ (Eq.trans (Eq.trans (I_ne (fx_ne fx (by decide))) I_eq) (Eq.symm I_eq)), Nat.le_add_right _ _, Nat.le_add_right _ _⟩
              · refine r_aaloadA (b := mid t10) rfl (isQ_of (fx_t1 fx) (by decide)) (vp_ct (fx_n1 fx) (vp_in_nI (by have := i_nlt c1; have := i_rg c; have : (0 : Int32).toInt = 0 := rfl; have := i_eq ek2; have : (nI k2).toInt = ((k2 : Nat) : Int) := nI_toInt (by omega); have := i_nle c3; have : (24 : Int32).toInt = 24 := rfl; omega) (by omega))) (Eq.trans (congrArg (hR (sI h (ad 0) 6 0) (ad 1)) ((nI_clamp (by have := i_nlt c1; have := i_rg c; have : (0 : Int32).toInt = 0 := rfl; have := i_eq ek2; have : (nI k2).toInt = ((k2 : Nat) : Int) := nI_toInt (by omega); have := i_nle c3; have : (24 : Int32).toInt = 24 := rfl; omega)) : _ = k2)) (Eq.trans R_oI w10)) ?_
                refine r_astore (lv' := [some (.ref (ad 0)), some (.int (nI k2)), some (.ref (mid t10)), none]) rfl (Nat.le_of_ble_eq_true rfl) rfl ?_
                refine r_aload rfl rfl ?_
                refine r_instW rfl (by decide) tg10 (by decide) ?_
                refine r_if_eq (tg := 21) rfl rfl (fun _ => ?_) (fun q => absurd q (by decide))
                refine r_aload rfl rfl ?_
                refine r_aload rfl rfl ?_
                refine r_ifnonnullA (tg := 31) rfl rfl ?_
                refine r_ic (x := (-14)) rfl rfl ?_
                refine r_putI rfl ⟨rfl, rfl, rfl⟩ (fx_t0 fx) ?_
                refine r_null rfl ?_
                refine r_aret0 rfl ?_
                show WR _ cd_64 51 [some (.ref (ad 0)), some (.int c), some (.int m), some (.int l), none, none] [.null] (sI (sI h (ad 0) 6 0) (ad 0) 6 (-14)) _
                refine r_astore0 (lv' := [some (.ref (ad 0)), some (.int c), some (.int m), some (.int l), some (.null), none]) rfl (Nat.le_of_ble_eq_true rfl) rfl ?_
                refine r_aload0 rfl rfl ?_
                refine r_ifnonnullN (tg := 60) rfl rfl ?_
                refine r_lc (x := 0) rfl rfl ?_
                refine r_lret rfl ?_
                show EV _ 184 [.ref (ad 30), .int c, .int m, .int l] (sI (sI h (ad 0) 6 0) (ad 0) 6 (-14)) _
                refine in_184 (Nat.le_of_ble_eq_true rfl) ?_
                show WR _ cd_184 0 [some (.ref (ad 30)), some (.int c), some (.int m), some (.int l), none, none] [] (sI (sI h (ad 0) 6 0) (ad 0) 6 (-14)) _
                refine r_iload rfl rfl ?_
                refine WR_tI (y := nI k2) ek2 ?_
                refine r_cs (y := 153) (ra := [.int (nI k2)]) (rest := []) rfl ⟨⟨rfl, rfl⟩, by decide⟩ rfl rfl (Nat.le_of_ble_eq_true rfl) ?_
                refine in_153 (Nat.le_of_ble_eq_true rfl) ?_
                show WR _ cd_153 0 [some (.int (nI k2))] [] (sI (sI h (ad 0) 6 0) (ad 0) 6 (-14)) _
                refine r_iload rfl rfl ?_
                refine r_if_lt (tg := 14) rfl rfl (fun q => False.elim (by have := i_nlt c1; have := i_rg c; have : (0 : Int32).toInt = 0 := rfl; have := i_eq ek2; have : (nI k2).toInt = ((k2 : Nat) : Int) := nI_toInt (by omega); have := i_nle c3; have : (24 : Int32).toInt = 24 := rfl; have := i_lt q; omega)) (fun _ => ?_)
                refine r_iload rfl rfl ?_
                refine r_ic (x := 24) rfl rfl ?_
                refine r_icmp_ge (tg := 14) rfl rfl (fun q => False.elim (by have := i_nlt c1; have := i_rg c; have : (0 : Int32).toInt = 0 := rfl; have := i_eq ek2; have : (nI k2).toInt = ((k2 : Nat) : Int) := nI_toInt (by omega); have := i_nle c3; have : (24 : Int32).toInt = 24 := rfl; have := i_le q; omega)) (fun _ => ?_)
                refine r_ic (x := 1) rfl rfl ?_
                refine r_goto (tg := 15) rfl rfl ?_
                refine r_zret rfl (.inr rfl) ?_
                show WR _ cd_184 4 [some (.ref (ad 30)), some (.int c), some (.int m), some (.int l), none, none] [.int 1] (sI (sI h (ad 0) 6 0) (ad 0) 6 (-14)) _
                refine r_if_ne (tg := 14) rfl rfl (fun _ => ?_) (fun q => absurd q (by decide))
                refine r_iload rfl rfl ?_
                refine WR_tI (y := nI k5) ek5 ?_
                refine r_i2l rfl ?_
                refine WR_tL (y := lN k5) (nI_l (by have := i_nlt c4; have := i_rg m; have : (0 : Int32).toInt = 0 := rfl; have := i_eq ek5; have : (nI k5).toInt = ((k5 : Nat) : Int) := nI_toInt (by omega); have := i_nlt c6; have : (2 : Int32).toInt = 2 := rfl; omega)) ?_
                refine r_lc (x := 0) rfl rfl ?_
                refine r_ldc (x := .long 2) rfl rfl ?_
                refine r_cs (y := 155) (ra := [.long 2, .long 0, .long (lN k5)]) (rest := []) rfl ⟨⟨rfl, rfl⟩, by decide⟩ rfl rfl (Nat.le_of_ble_eq_true rfl) ?_
                refine in_155 (Nat.le_of_ble_eq_true rfl) ?_
                show WR _ cd_155 0 [some (.long (lN k5)), none, some (.long 0), none, some (.long 2), none] [] (sI (sI h (ad 0) 6 0) (ad 0) 6 (-14)) _
                refine r_lload rfl rfl ?_
                refine r_lload rfl rfl ?_
                refine r_lif_lt (tg := 17) rfl rfl rfl (fun q => False.elim (by have := i_nlt c4; have := i_rg m; have : (0 : Int32).toInt = 0 := rfl; have := i_eq ek5; have : (nI k5).toInt = ((k5 : Nat) : Int) := nI_toInt (by omega); have := i_nlt c6; have : (2 : Int32).toInt = 2 := rfl; have : (lN k5).toInt = ((k5 : Nat) : Int) := lN_toInt (by omega); have : (0 : Int64).toInt = 0 := rfl; have := l_lt q; omega)) (fun _ => ?_)
                refine r_lload rfl rfl ?_
                refine r_lload rfl rfl ?_
                refine r_lif_gt (tg := 17) rfl rfl rfl (fun q => False.elim (by have := i_nlt c4; have := i_rg m; have : (0 : Int32).toInt = 0 := rfl; have := i_eq ek5; have : (nI k5).toInt = ((k5 : Nat) : Int) := nI_toInt (by omega); have := i_nlt c6; have : (2 : Int32).toInt = 2 := rfl; have : (lN k5).toInt = ((k5 : Nat) : Int) := lN_toInt (by omega); have : (2 : Int64).toInt = 2 := rfl; have := l_lt q; omega)) (fun _ => ?_)
                refine r_ic (x := 1) rfl rfl ?_
                refine r_goto (tg := 18) rfl rfl ?_
                refine r_zret rfl (.inr rfl) ?_
                show WR _ cd_184 23 [some (.ref (ad 30)), some (.int c), some (.int m), some (.int l), none, none] [.int 1] (sI (sI h (ad 0) 6 0) (ad 0) 6 (-14)) _
                refine r_if_eq (tg := 38) rfl rfl (fun q => absurd q (by decide)) (fun _ => ?_)
                refine r_iload rfl rfl ?_
                refine WR_tI (y := nI k8) ek8 ?_
                refine r_i2l rfl ?_
                refine WR_tL (y := lN k8) (nI_l (by have := i_nlt c7; have := i_rg l; have : (0 : Int32).toInt = 0 := rfl; have := i_eq ek8; have : (nI k8).toInt = ((k8 : Nat) : Int) := nI_toInt (by omega); have := i_le c9; have : (10000 : Int32).toInt = 10000 := rfl; omega)) ?_
                refine r_lc (x := 0) rfl rfl ?_
                refine r_ldc (x := .long 10000) rfl rfl ?_
                refine r_cs (y := 155) (ra := [.long 10000, .long 0, .long (lN k8)]) (rest := []) rfl ⟨⟨rfl, rfl⟩, by decide⟩ rfl rfl (Nat.le_of_ble_eq_true rfl) ?_
                refine in_155 (Nat.le_of_ble_eq_true rfl) ?_
                show WR _ cd_155 0 [some (.long (lN k8)), none, some (.long 0), none, some (.long 10000), none] [] (sI (sI h (ad 0) 6 0) (ad 0) 6 (-14)) _
                refine r_lload rfl rfl ?_
                refine r_lload rfl rfl ?_
                refine r_lif_lt (tg := 17) rfl rfl rfl (fun q => False.elim (by have := i_nlt c7; have := i_rg l; have : (0 : Int32).toInt = 0 := rfl; have := i_eq ek8; have : (nI k8).toInt = ((k8 : Nat) : Int) := nI_toInt (by omega); have := i_le c9; have : (10000 : Int32).toInt = 10000 := rfl; have : (lN k8).toInt = ((k8 : Nat) : Int) := lN_toInt (by omega); have : (0 : Int64).toInt = 0 := rfl; have := l_lt q; omega)) (fun _ => ?_)
                refine r_lload rfl rfl ?_
                refine r_lload rfl rfl ?_
                refine r_lif_gt (tg := 17) rfl rfl rfl (fun q => False.elim (by have := i_nlt c7; have := i_rg l; have : (0 : Int32).toInt = 0 := rfl; have := i_eq ek8; have : (nI k8).toInt = ((k8 : Nat) : Int) := nI_toInt (by omega); have := i_le c9; have : (10000 : Int32).toInt = 10000 := rfl; have : (lN k8).toInt = ((k8 : Nat) : Int) := lN_toInt (by omega); have : (10000 : Int64).toInt = 10000 := rfl; have := l_lt q; omega)) (fun _ => ?_)
                refine r_ic (x := 1) rfl rfl ?_
                refine r_goto (tg := 18) rfl rfl ?_
                refine r_zret rfl (.inr rfl) ?_
                show WR _ cd_184 35 [some (.ref (ad 30)), some (.int c), some (.int m), some (.int l), none, none] [.int 1] (sI (sI h (ad 0) 6 0) (ad 0) 6 (-14)) _
                refine r_if_ne (tg := 45) rfl rfl (fun _ => ?_) (fun q => absurd q (by decide))
                refine r_aload rfl rfl ?_
                refine r_aload rfl rfl ?_
                refine r_getA (b := ad 31) rfl ⟨rfl, rfl, rfl⟩ (fx_t30 fx) (fx_r30_0 fx) ?_
                refine r_iload rfl rfl ?_
                refine WR_tI (y := nI k2) ek2 ?_
                refine r_iaload rfl (.inl (fx_t31 fx)) (vp_ct (fx_n31 fx) (vp_in_nI (by have := i_nlt c1; have := i_rg c; have : (0 : Int32).toInt = 0 := rfl; have := i_eq ek2; have : (nI k2).toInt = ((k2 : Nat) : Int) := nI_toInt (by omega); have := i_nle c3; have : (24 : Int32).toInt = 24 := rfl; omega) (by omega))) ?_
                refine WR_tI (congrArg (hI (sI (sI h (ad 0) 6 0) (ad 0) 6 (-14)) (ad 31)) ((nI_clamp (by have := i_nlt c1; have := i_rg c; have : (0 : Int32).toInt = 0 := rfl; have := i_eq ek2; have : (nI k2).toInt = ((k2 : Nat) : Int) := nI_toInt (by omega); have := i_nle c3; have : (24 : Int32).toInt = 24 := rfl; omega)) : _ = k2)) ?_
                refine WR_tI (y := nI t10) (Eq.trans (I_ne (fx_ne fx (by decide))) (Eq.trans (I_ne (fx_ne fx (by decide))) v10)) ?_
                refine r_cv (y := 185) (ra := [.int (nI t10)]) (rest := []) rfl ⟨⟨rfl, rfl⟩, rfl, by decide⟩ (fx_t30 fx) rfl rfl (Nat.le_of_ble_eq_true rfl) ?_
                refine in_185 (Nat.le_of_ble_eq_true rfl) ?_
                show WR _ cd_185 0 [some (.ref (ad 30)), some (.int (nI t10))] [] (sI (sI h (ad 0) 6 0) (ad 0) 6 (-14)) _
                refine r_iload rfl rfl ?_
                refine r_ic (x := (-1)) rfl rfl ?_
                refine r_icmp_eq (tg := 16) rfl rfl (fun q => False.elim (by have : (nI t10).toInt = ((t10 : Nat) : Int) := nI_toInt (by omega); have : (-1 : Int32).toInt = -1 := rfl; have := i_eq q; omega)) (fun _ => ?_)
                refine r_iload rfl rfl ?_
                refine r_ic (x := 1000) rfl rfl ?_
                refine r_icmp_ge (tg := 16) rfl rfl (fun q => False.elim (by have : (nI t10).toInt = ((t10 : Nat) : Int) := nI_toInt (by omega); have : (1000 : Int32).toInt = 1000 := rfl; have := i_le q; omega)) (fun _ => ?_)
                refine r_ic (x := 4) rfl rfl ?_
                refine r_goto (tg := 26) rfl rfl ?_
                refine r_iret rfl ?_
                show WR _ cd_184 55 [some (.ref (ad 30)), some (.int c), some (.int m), some (.int l), none, none] [.int 4] (sI (sI h (ad 0) 6 0) (ad 0) 6 (-14)) _
                refine r_istore (lv' := [some (.ref (ad 30)), some (.int c), some (.int m), some (.int l), some (.int 4), none]) rfl (Nat.le_of_ble_eq_true rfl) rfl ?_
                refine r_iload rfl rfl ?_
                refine r_if_le (tg := 72) rfl rfl (fun q => absurd q (by decide)) (fun _ => ?_)
                refine r_aload rfl rfl ?_
                refine r_ic (x := (-10)) rfl rfl ?_
                refine r_iload rfl rfl ?_
                refine r_isub rfl ?_
                refine WR_tI (y := (-14)) rfl ?_
                refine r_cv (y := 171) (ra := [.int (-14)]) (rest := []) rfl ⟨⟨rfl, rfl⟩, rfl, by decide⟩ (fx_t30 fx) rfl rfl (Nat.le_of_ble_eq_true rfl) ?_
                refine in_171 (Nat.le_of_ble_eq_true rfl) ?_
                show WR _ cd_171 0 [some (.ref (ad 30)), some (.int (-14))] [] (sI (sI h (ad 0) 6 0) (ad 0) 6 (-14)) _
                refine r_aload rfl rfl ?_
                refine r_iload rfl rfl ?_
                refine r_putI rfl ⟨rfl, rfl, rfl⟩ (fx_t30 fx) ?_
                refine r_lc (x := 0) rfl rfl ?_
                refine r_lret rfl ?_
                show WR _ cd_184 71 [some (.ref (ad 30)), some (.int c), some (.int m), some (.int l), some (.int 4), none] [.long 0] (sI (sI (sI h (ad 0) 6 0) (ad 0) 6 (-14)) (ad 30) 11 (-14)) _
                refine r_lret rfl ?_
                exact ⟨rfl, Rel.why r (((Chg.rf.sI (fx_j fx) (.inl (by decide))).sI (fx_j fx) (.inl (by decide))).sI (fx_j fx) (.inl (by decide))) ⟨rfl, by decide⟩ (Eq.trans (Eq.trans (I_ne (fx_ne fx (by decide))) I_eq) (Eq.symm I_eq)), Nat.le_add_right _ _, Nat.le_add_right _ _⟩
              · refine r_aaloadA (b := mid t10) rfl (isQ_of (fx_t1 fx) (by decide)) (vp_ct (fx_n1 fx) (vp_in_nI (by have := i_nlt c1; have := i_rg c; have : (0 : Int32).toInt = 0 := rfl; have := i_eq ek2; have : (nI k2).toInt = ((k2 : Nat) : Int) := nI_toInt (by omega); have := i_nle c3; have : (24 : Int32).toInt = 24 := rfl; omega) (by omega))) (Eq.trans (congrArg (hR (sI h (ad 0) 6 0) (ad 1)) ((nI_clamp (by have := i_nlt c1; have := i_rg c; have : (0 : Int32).toInt = 0 := rfl; have := i_eq ek2; have : (nI k2).toInt = ((k2 : Nat) : Int) := nI_toInt (by omega); have := i_nle c3; have : (24 : Int32).toInt = 24 := rfl; omega)) : _ = k2)) (Eq.trans R_oI w10)) ?_
                refine r_astore (lv' := [some (.ref (ad 0)), some (.int (nI k2)), some (.ref (mid t10)), none]) rfl (Nat.le_of_ble_eq_true rfl) rfl ?_
                refine r_aload rfl rfl ?_
                refine r_instW rfl (by decide) tg10 (by decide) ?_
                refine r_if_eq (tg := 21) rfl rfl (fun _ => ?_) (fun q => absurd q (by decide))
                refine r_aload rfl rfl ?_
                refine r_aload rfl rfl ?_
                refine r_ifnonnullA (tg := 31) rfl rfl ?_
                refine r_ic (x := (-14)) rfl rfl ?_
                refine r_putI rfl ⟨rfl, rfl, rfl⟩ (fx_t0 fx) ?_
                refine r_null rfl ?_
                refine r_aret0 rfl ?_
                show WR _ cd_64 51 [some (.ref (ad 0)), some (.int c), some (.int m), some (.int l), none, none] [.null] (sI (sI h (ad 0) 6 0) (ad 0) 6 (-14)) _
                refine r_astore0 (lv' := [some (.ref (ad 0)), some (.int c), some (.int m), some (.int l), some (.null), none]) rfl (Nat.le_of_ble_eq_true rfl) rfl ?_
                refine r_aload0 rfl rfl ?_
                refine r_ifnonnullN (tg := 60) rfl rfl ?_
                refine r_lc (x := 0) rfl rfl ?_
                refine r_lret rfl ?_
                show EV _ 184 [.ref (ad 30), .int c, .int m, .int l] (sI (sI h (ad 0) 6 0) (ad 0) 6 (-14)) _
                refine in_184 (Nat.le_of_ble_eq_true rfl) ?_
                show WR _ cd_184 0 [some (.ref (ad 30)), some (.int c), some (.int m), some (.int l), none, none] [] (sI (sI h (ad 0) 6 0) (ad 0) 6 (-14)) _
                refine r_iload rfl rfl ?_
                refine WR_tI (y := nI k2) ek2 ?_
                refine r_cs (y := 153) (ra := [.int (nI k2)]) (rest := []) rfl ⟨⟨rfl, rfl⟩, by decide⟩ rfl rfl (Nat.le_of_ble_eq_true rfl) ?_
                refine in_153 (Nat.le_of_ble_eq_true rfl) ?_
                show WR _ cd_153 0 [some (.int (nI k2))] [] (sI (sI h (ad 0) 6 0) (ad 0) 6 (-14)) _
                refine r_iload rfl rfl ?_
                refine r_if_lt (tg := 14) rfl rfl (fun q => False.elim (by have := i_nlt c1; have := i_rg c; have : (0 : Int32).toInt = 0 := rfl; have := i_eq ek2; have : (nI k2).toInt = ((k2 : Nat) : Int) := nI_toInt (by omega); have := i_nle c3; have : (24 : Int32).toInt = 24 := rfl; have := i_lt q; omega)) (fun _ => ?_)
                refine r_iload rfl rfl ?_
                refine r_ic (x := 24) rfl rfl ?_
                refine r_icmp_ge (tg := 14) rfl rfl (fun q => False.elim (by have := i_nlt c1; have := i_rg c; have : (0 : Int32).toInt = 0 := rfl; have := i_eq ek2; have : (nI k2).toInt = ((k2 : Nat) : Int) := nI_toInt (by omega); have := i_nle c3; have : (24 : Int32).toInt = 24 := rfl; have := i_le q; omega)) (fun _ => ?_)
                refine r_ic (x := 1) rfl rfl ?_
                refine r_goto (tg := 15) rfl rfl ?_
                refine r_zret rfl (.inr rfl) ?_
                show WR _ cd_184 4 [some (.ref (ad 30)), some (.int c), some (.int m), some (.int l), none, none] [.int 1] (sI (sI h (ad 0) 6 0) (ad 0) 6 (-14)) _
                refine r_if_ne (tg := 14) rfl rfl (fun _ => ?_) (fun q => absurd q (by decide))
                refine r_iload rfl rfl ?_
                refine WR_tI (y := nI k5) ek5 ?_
                refine r_i2l rfl ?_
                refine WR_tL (y := lN k5) (nI_l (by have := i_nlt c4; have := i_rg m; have : (0 : Int32).toInt = 0 := rfl; have := i_eq ek5; have : (nI k5).toInt = ((k5 : Nat) : Int) := nI_toInt (by omega); have := i_nlt c6; have : (2 : Int32).toInt = 2 := rfl; omega)) ?_
                refine r_lc (x := 0) rfl rfl ?_
                refine r_ldc (x := .long 2) rfl rfl ?_
                refine r_cs (y := 155) (ra := [.long 2, .long 0, .long (lN k5)]) (rest := []) rfl ⟨⟨rfl, rfl⟩, by decide⟩ rfl rfl (Nat.le_of_ble_eq_true rfl) ?_
                refine in_155 (Nat.le_of_ble_eq_true rfl) ?_
                show WR _ cd_155 0 [some (.long (lN k5)), none, some (.long 0), none, some (.long 2), none] [] (sI (sI h (ad 0) 6 0) (ad 0) 6 (-14)) _
                refine r_lload rfl rfl ?_
                refine r_lload rfl rfl ?_
                refine r_lif_lt (tg := 17) rfl rfl rfl (fun q => False.elim (by have := i_nlt c4; have := i_rg m; have : (0 : Int32).toInt = 0 := rfl; have := i_eq ek5; have : (nI k5).toInt = ((k5 : Nat) : Int) := nI_toInt (by omega); have := i_nlt c6; have : (2 : Int32).toInt = 2 := rfl; have : (lN k5).toInt = ((k5 : Nat) : Int) := lN_toInt (by omega); have : (0 : Int64).toInt = 0 := rfl; have := l_lt q; omega)) (fun _ => ?_)
                refine r_lload rfl rfl ?_
                refine r_lload rfl rfl ?_
                refine r_lif_gt (tg := 17) rfl rfl rfl (fun q => False.elim (by have := i_nlt c4; have := i_rg m; have : (0 : Int32).toInt = 0 := rfl; have := i_eq ek5; have : (nI k5).toInt = ((k5 : Nat) : Int) := nI_toInt (by omega); have := i_nlt c6; have : (2 : Int32).toInt = 2 := rfl; have : (lN k5).toInt = ((k5 : Nat) : Int) := lN_toInt (by omega); have : (2 : Int64).toInt = 2 := rfl; have := l_lt q; omega)) (fun _ => ?_)
                refine r_ic (x := 1) rfl rfl ?_
                refine r_goto (tg := 18) rfl rfl ?_
                refine r_zret rfl (.inr rfl) ?_
                show WR _ cd_184 23 [some (.ref (ad 30)), some (.int c), some (.int m), some (.int l), none, none] [.int 1] (sI (sI h (ad 0) 6 0) (ad 0) 6 (-14)) _
                refine r_if_eq (tg := 38) rfl rfl (fun q => absurd q (by decide)) (fun _ => ?_)
                refine r_iload rfl rfl ?_
                refine WR_tI (y := nI k8) ek8 ?_
                refine r_i2l rfl ?_
                refine WR_tL (y := lN k8) (nI_l (by have := i_nlt c7; have := i_rg l; have : (0 : Int32).toInt = 0 := rfl; have := i_eq ek8; have : (nI k8).toInt = ((k8 : Nat) : Int) := nI_toInt (by omega); have := i_le c9; have : (10000 : Int32).toInt = 10000 := rfl; omega)) ?_
                refine r_lc (x := 0) rfl rfl ?_
                refine r_ldc (x := .long 10000) rfl rfl ?_
                refine r_cs (y := 155) (ra := [.long 10000, .long 0, .long (lN k8)]) (rest := []) rfl ⟨⟨rfl, rfl⟩, by decide⟩ rfl rfl (Nat.le_of_ble_eq_true rfl) ?_
                refine in_155 (Nat.le_of_ble_eq_true rfl) ?_
                show WR _ cd_155 0 [some (.long (lN k8)), none, some (.long 0), none, some (.long 10000), none] [] (sI (sI h (ad 0) 6 0) (ad 0) 6 (-14)) _
                refine r_lload rfl rfl ?_
                refine r_lload rfl rfl ?_
                refine r_lif_lt (tg := 17) rfl rfl rfl (fun q => False.elim (by have := i_nlt c7; have := i_rg l; have : (0 : Int32).toInt = 0 := rfl; have := i_eq ek8; have : (nI k8).toInt = ((k8 : Nat) : Int) := nI_toInt (by omega); have := i_le c9; have : (10000 : Int32).toInt = 10000 := rfl; have : (lN k8).toInt = ((k8 : Nat) : Int) := lN_toInt (by omega); have : (0 : Int64).toInt = 0 := rfl; have := l_lt q; omega)) (fun _ => ?_)
                refine r_lload rfl rfl ?_
                refine r_lload rfl rfl ?_
                refine r_lif_gt (tg := 17) rfl rfl rfl (fun q => False.elim (by have := i_nlt c7; have := i_rg l; have : (0 : Int32).toInt = 0 := rfl; have := i_eq ek8; have : (nI k8).toInt = ((k8 : Nat) : Int) := nI_toInt (by omega); have := i_le c9; have : (10000 : Int32).toInt = 10000 := rfl; have : (lN k8).toInt = ((k8 : Nat) : Int) := lN_toInt (by omega); have : (10000 : Int64).toInt = 10000 := rfl; have := l_lt q; omega)) (fun _ => ?_)
                refine r_ic (x := 1) rfl rfl ?_
                refine r_goto (tg := 18) rfl rfl ?_
                refine r_zret rfl (.inr rfl) ?_
                show WR _ cd_184 35 [some (.ref (ad 30)), some (.int c), some (.int m), some (.int l), none, none] [.int 1] (sI (sI h (ad 0) 6 0) (ad 0) 6 (-14)) _
                refine r_if_ne (tg := 45) rfl rfl (fun _ => ?_) (fun q => absurd q (by decide))
                refine r_aload rfl rfl ?_
                refine r_aload rfl rfl ?_
                refine r_getA (b := ad 31) rfl ⟨rfl, rfl, rfl⟩ (fx_t30 fx) (fx_r30_0 fx) ?_
                refine r_iload rfl rfl ?_
                refine WR_tI (y := nI k2) ek2 ?_
                refine r_iaload rfl (.inl (fx_t31 fx)) (vp_ct (fx_n31 fx) (vp_in_nI (by have := i_nlt c1; have := i_rg c; have : (0 : Int32).toInt = 0 := rfl; have := i_eq ek2; have : (nI k2).toInt = ((k2 : Nat) : Int) := nI_toInt (by omega); have := i_nle c3; have : (24 : Int32).toInt = 24 := rfl; omega) (by omega))) ?_
                refine WR_tI (congrArg (hI (sI (sI h (ad 0) 6 0) (ad 0) 6 (-14)) (ad 31)) ((nI_clamp (by have := i_nlt c1; have := i_rg c; have : (0 : Int32).toInt = 0 := rfl; have := i_eq ek2; have : (nI k2).toInt = ((k2 : Nat) : Int) := nI_toInt (by omega); have := i_nle c3; have : (24 : Int32).toInt = 24 := rfl; omega)) : _ = k2)) ?_
                refine WR_tI (y := nI t10) (Eq.trans (I_ne (fx_ne fx (by decide))) (Eq.trans (I_ne (fx_ne fx (by decide))) v10)) ?_
                refine r_cv (y := 185) (ra := [.int (nI t10)]) (rest := []) rfl ⟨⟨rfl, rfl⟩, rfl, by decide⟩ (fx_t30 fx) rfl rfl (Nat.le_of_ble_eq_true rfl) ?_
                refine in_185 (Nat.le_of_ble_eq_true rfl) ?_
                show WR _ cd_185 0 [some (.ref (ad 30)), some (.int (nI t10))] [] (sI (sI h (ad 0) 6 0) (ad 0) 6 (-14)) _
                refine r_iload rfl rfl ?_
                refine r_ic (x := (-1)) rfl rfl ?_
                refine r_icmp_eq (tg := 16) rfl rfl (fun q => False.elim (by have : (nI t10).toInt = ((t10 : Nat) : Int) := nI_toInt (by omega); have : (-1 : Int32).toInt = -1 := rfl; have := i_eq q; omega)) (fun _ => ?_)
                refine r_iload rfl rfl ?_
                refine r_ic (x := 1000) rfl rfl ?_
                refine r_icmp_ge (tg := 16) rfl rfl (fun q => False.elim (by have : (nI t10).toInt = ((t10 : Nat) : Int) := nI_toInt (by omega); have : (1000 : Int32).toInt = 1000 := rfl; have := i_le q; omega)) (fun _ => ?_)
                refine r_ic (x := 4) rfl rfl ?_
                refine r_goto (tg := 26) rfl rfl ?_
                refine r_iret rfl ?_
                show WR _ cd_184 55 [some (.ref (ad 30)), some (.int c), some (.int m), some (.int l), none, none] [.int 4] (sI (sI h (ad 0) 6 0) (ad 0) 6 (-14)) _
                refine r_istore (lv' := [some (.ref (ad 30)), some (.int c), some (.int m), some (.int l), some (.int 4), none]) rfl (Nat.le_of_ble_eq_true rfl) rfl ?_
                refine r_iload rfl rfl ?_
                refine r_if_le (tg := 72) rfl rfl (fun q => absurd q (by decide)) (fun _ => ?_)
                refine r_aload rfl rfl ?_
                refine r_ic (x := (-10)) rfl rfl ?_
                refine r_iload rfl rfl ?_
                refine r_isub rfl ?_
                refine WR_tI (y := (-14)) rfl ?_
                refine r_cv (y := 171) (ra := [.int (-14)]) (rest := []) rfl ⟨⟨rfl, rfl⟩, rfl, by decide⟩ (fx_t30 fx) rfl rfl (Nat.le_of_ble_eq_true rfl) ?_
                refine in_171 (Nat.le_of_ble_eq_true rfl) ?_
                show WR _ cd_171 0 [some (.ref (ad 30)), some (.int (-14))] [] (sI (sI h (ad 0) 6 0) (ad 0) 6 (-14)) _
                refine r_aload rfl rfl ?_
                refine r_iload rfl rfl ?_
                refine r_putI rfl ⟨rfl, rfl, rfl⟩ (fx_t30 fx) ?_
                refine r_lc (x := 0) rfl rfl ?_
                refine r_lret rfl ?_
                show WR _ cd_184 71 [some (.ref (ad 30)), some (.int c), some (.int m), some (.int l), some (.int 4), none] [.long 0] (sI (sI (sI h (ad 0) 6 0) (ad 0) 6 (-14)) (ad 30) 11 (-14)) _
                refine r_lret rfl ?_
                exact ⟨rfl, Rel.why r (((Chg.rf.sI (fx_j fx) (.inl (by decide))).sI (fx_j fx) (.inl (by decide))).sI (fx_j fx) (.inl (by decide))) ⟨rfl, by decide⟩ (Eq.trans (Eq.trans (I_ne (fx_ne fx (by decide))) I_eq) (Eq.symm I_eq)), Nat.le_add_right _ _, Nat.le_add_right _ _⟩
            · refine r_aload rfl rfl ?_
              refine r_ic (x := (-3)) rfl rfl ?_
              refine r_cv (y := 65) (ra := [.int (-3)]) (rest := []) rfl ⟨⟨rfl, rfl⟩, rfl, by decide⟩ (fx_t0 fx) rfl rfl (Nat.le_of_ble_eq_true rfl) ?_
              refine in_65 (Nat.le_of_ble_eq_true rfl) ?_
              show WR _ cd_65 0 [some (.ref (ad 0)), some (.int (-3))] [] (sI h (ad 0) 6 0) _
              refine r_aload rfl rfl ?_
              refine r_iload rfl rfl ?_
              refine r_putI rfl ⟨rfl, rfl, rfl⟩ (fx_t0 fx) ?_
              refine r_lc (x := 0) rfl rfl ?_
              refine r_lret rfl ?_
              show WR _ cd_64 45 [some (.ref (ad 0)), some (.int c), some (.int m), some (.int l), none, none] [.long 0] (sI (sI h (ad 0) 6 0) (ad 0) 6 (-3)) _
              refine r_lret rfl ?_
              show EV _ 184 [.ref (ad 30), .int c, .int m, .int l] (sI (sI h (ad 0) 6 0) (ad 0) 6 (-3)) _
              refine in_184 (Nat.le_of_ble_eq_true rfl) ?_
              show WR _ cd_184 0 [some (.ref (ad 30)), some (.int c), some (.int m), some (.int l), none, none] [] (sI (sI h (ad 0) 6 0) (ad 0) 6 (-3)) _
              refine r_iload rfl rfl ?_
              refine WR_tI (y := nI k2) ek2 ?_
              refine r_cs (y := 153) (ra := [.int (nI k2)]) (rest := []) rfl ⟨⟨rfl, rfl⟩, by decide⟩ rfl rfl (Nat.le_of_ble_eq_true rfl) ?_
              refine in_153 (Nat.le_of_ble_eq_true rfl) ?_
              show WR _ cd_153 0 [some (.int (nI k2))] [] (sI (sI h (ad 0) 6 0) (ad 0) 6 (-3)) _
              refine r_iload rfl rfl ?_
              refine r_if_lt (tg := 14) rfl rfl (fun q => False.elim (by have := i_nlt c1; have := i_rg c; have : (0 : Int32).toInt = 0 := rfl; have := i_eq ek2; have : (nI k2).toInt = ((k2 : Nat) : Int) := nI_toInt (by omega); have := i_nle c3; have : (24 : Int32).toInt = 24 := rfl; have := i_lt q; omega)) (fun _ => ?_)
              refine r_iload rfl rfl ?_
              refine r_ic (x := 24) rfl rfl ?_
              refine r_icmp_ge (tg := 14) rfl rfl (fun q => False.elim (by have := i_nlt c1; have := i_rg c; have : (0 : Int32).toInt = 0 := rfl; have := i_eq ek2; have : (nI k2).toInt = ((k2 : Nat) : Int) := nI_toInt (by omega); have := i_nle c3; have : (24 : Int32).toInt = 24 := rfl; have := i_le q; omega)) (fun _ => ?_)
              refine r_ic (x := 1) rfl rfl ?_
              refine r_goto (tg := 15) rfl rfl ?_
              refine r_zret rfl (.inr rfl) ?_
              show WR _ cd_184 4 [some (.ref (ad 30)), some (.int c), some (.int m), some (.int l), none, none] [.int 1] (sI (sI h (ad 0) 6 0) (ad 0) 6 (-3)) _
              refine r_if_ne (tg := 14) rfl rfl (fun _ => ?_) (fun q => absurd q (by decide))
              refine r_iload rfl rfl ?_
              refine WR_tI (y := nI k5) ek5 ?_
              refine r_i2l rfl ?_
              refine WR_tL (y := lN k5) (nI_l (by have := i_nlt c4; have := i_rg m; have : (0 : Int32).toInt = 0 := rfl; have := i_eq ek5; have : (nI k5).toInt = ((k5 : Nat) : Int) := nI_toInt (by omega); have := i_nlt c6; have : (2 : Int32).toInt = 2 := rfl; omega)) ?_
              refine r_lc (x := 0) rfl rfl ?_
              refine r_ldc (x := .long 2) rfl rfl ?_
              refine r_cs (y := 155) (ra := [.long 2, .long 0, .long (lN k5)]) (rest := []) rfl ⟨⟨rfl, rfl⟩, by decide⟩ rfl rfl (Nat.le_of_ble_eq_true rfl) ?_
              refine in_155 (Nat.le_of_ble_eq_true rfl) ?_
              show WR _ cd_155 0 [some (.long (lN k5)), none, some (.long 0), none, some (.long 2), none] [] (sI (sI h (ad 0) 6 0) (ad 0) 6 (-3)) _
              refine r_lload rfl rfl ?_
              refine r_lload rfl rfl ?_
              refine r_lif_lt (tg := 17) rfl rfl rfl (fun q => False.elim (by have := i_nlt c4; have := i_rg m; have : (0 : Int32).toInt = 0 := rfl; have := i_eq ek5; have : (nI k5).toInt = ((k5 : Nat) : Int) := nI_toInt (by omega); have := i_nlt c6; have : (2 : Int32).toInt = 2 := rfl; have : (lN k5).toInt = ((k5 : Nat) : Int) := lN_toInt (by omega); have : (0 : Int64).toInt = 0 := rfl; have := l_lt q; omega)) (fun _ => ?_)
              refine r_lload rfl rfl ?_
              refine r_lload rfl rfl ?_
              refine r_lif_gt (tg := 17) rfl rfl rfl (fun q => False.elim (by have := i_nlt c4; have := i_rg m; have : (0 : Int32).toInt = 0 := rfl; have := i_eq ek5; have : (nI k5).toInt = ((k5 : Nat) : Int) := nI_toInt (by omega); have := i_nlt c6; have : (2 : Int32).toInt = 2 := rfl; have : (lN k5).toInt = ((k5 : Nat) : Int) := lN_toInt (by omega); have : (2 : Int64).toInt = 2 := rfl; have := l_lt q; omega)) (fun _ => ?_)
              refine r_ic (x := 1) rfl rfl ?_
              refine r_goto (tg := 18) rfl rfl ?_
              refine r_zret rfl (.inr rfl) ?_
              show WR _ cd_184 23 [some (.ref (ad 30)), some (.int c), some (.int m), some (.int l), none, none] [.int 1] (sI (sI h (ad 0) 6 0) (ad 0) 6 (-3)) _
              refine r_if_eq (tg := 38) rfl rfl (fun q => absurd q (by decide)) (fun _ => ?_)
              refine r_iload rfl rfl ?_
              refine WR_tI (y := nI k8) ek8 ?_
              refine r_i2l rfl ?_
              refine WR_tL (y := lN k8) (nI_l (by have := i_nlt c7; have := i_rg l; have : (0 : Int32).toInt = 0 := rfl; have := i_eq ek8; have : (nI k8).toInt = ((k8 : Nat) : Int) := nI_toInt (by omega); have := i_nle c9; have : (10000 : Int32).toInt = 10000 := rfl; omega)) ?_
              refine r_lc (x := 0) rfl rfl ?_
              refine r_ldc (x := .long 10000) rfl rfl ?_
              refine r_cs (y := 155) (ra := [.long 10000, .long 0, .long (lN k8)]) (rest := []) rfl ⟨⟨rfl, rfl⟩, by decide⟩ rfl rfl (Nat.le_of_ble_eq_true rfl) ?_
              refine in_155 (Nat.le_of_ble_eq_true rfl) ?_
              show WR _ cd_155 0 [some (.long (lN k8)), none, some (.long 0), none, some (.long 10000), none] [] (sI (sI h (ad 0) 6 0) (ad 0) 6 (-3)) _
              refine r_lload rfl rfl ?_
              refine r_lload rfl rfl ?_
              refine r_lif_lt (tg := 17) rfl rfl rfl (fun q => False.elim (by have := i_nlt c7; have := i_rg l; have : (0 : Int32).toInt = 0 := rfl; have := i_eq ek8; have : (nI k8).toInt = ((k8 : Nat) : Int) := nI_toInt (by omega); have := i_nle c9; have : (10000 : Int32).toInt = 10000 := rfl; have : (lN k8).toInt = ((k8 : Nat) : Int) := lN_toInt (by omega); have : (0 : Int64).toInt = 0 := rfl; have := l_lt q; omega)) (fun _ => ?_)
              refine r_lload rfl rfl ?_
              refine r_lload rfl rfl ?_
              refine r_lif_gt (tg := 17) rfl rfl rfl (fun _ => ?_) (fun q => False.elim (by have := i_nlt c7; have := i_rg l; have : (0 : Int32).toInt = 0 := rfl; have := i_eq ek8; have : (nI k8).toInt = ((k8 : Nat) : Int) := nI_toInt (by omega); have := i_nle c9; have : (10000 : Int32).toInt = 10000 := rfl; have : (lN k8).toInt = ((k8 : Nat) : Int) := lN_toInt (by omega); have : (10000 : Int64).toInt = 10000 := rfl; have := l_nlt q; omega))
              refine r_ic (x := 0) rfl rfl ?_
              refine r_zret rfl (.inl rfl) ?_
              show WR _ cd_184 35 [some (.ref (ad 30)), some (.int c), some (.int m), some (.int l), none, none] [.int 0] (sI (sI h (ad 0) 6 0) (ad 0) 6 (-3)) _
              refine r_if_ne (tg := 45) rfl rfl (fun q => absurd q (by decide)) (fun _ => ?_)
              refine r_aload rfl rfl ?_
              refine r_ic (x := (-3)) rfl rfl ?_
              refine r_cv (y := 171) (ra := [.int (-3)]) (rest := []) rfl ⟨⟨rfl, rfl⟩, rfl, by decide⟩ (fx_t30 fx) rfl rfl (Nat.le_of_ble_eq_true rfl) ?_
              refine in_171 (Nat.le_of_ble_eq_true rfl) ?_
              show WR _ cd_171 0 [some (.ref (ad 30)), some (.int (-3))] [] (sI (sI h (ad 0) 6 0) (ad 0) 6 (-3)) _
              refine r_aload rfl rfl ?_
              refine r_iload rfl rfl ?_
              refine r_putI rfl ⟨rfl, rfl, rfl⟩ (fx_t30 fx) ?_
              refine r_lc (x := 0) rfl rfl ?_
              refine r_lret rfl ?_
              show WR _ cd_184 44 [some (.ref (ad 30)), some (.int c), some (.int m), some (.int l), none, none] [.long 0] (sI (sI (sI h (ad 0) 6 0) (ad 0) 6 (-3)) (ad 30) 11 (-3)) _
              refine r_lret rfl ?_
              exact ⟨rfl, Rel.why r (((Chg.rf.sI (fx_j fx) (.inl (by decide))).sI (fx_j fx) (.inl (by decide))).sI (fx_j fx) (.inl (by decide))) ⟨rfl, by decide⟩ (Eq.trans (Eq.trans (I_ne (fx_ne fx (by decide))) I_eq) (Eq.symm I_eq)), Nat.le_add_right _ _, Nat.le_add_right _ _⟩

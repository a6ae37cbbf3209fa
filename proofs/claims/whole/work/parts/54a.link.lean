/-! ===== calls; printed ===== -/
set_option maxHeartbeats 10000000 in
theorem k_link {n : Nat} {ad sa : Nat → Nat} {z0 : Nat} {h : mH} (r : Rel n ad sa z0 h) (c : Int32) (i : Int32) (d : Int32) : AP n ad sa z0 h 45 175 [.int c, .int i, .int d] := by
  obtain ⟨mid, pa, np, fx, ry, rt, ra, rp, rf, rst, ru, rs⟩ := id r
  have fx0 := fx
  unfold AP
  refine in_45 (Nat.le_of_ble_eq_true rfl) ?_
  show WR _ cd_45 0 [some (.ref (ad 0)), some (.int c), some (.int i), some (.int d)] [] h _
  refine r_aload rfl rfl ?_
  refine r_ic (x := 0) rfl rfl ?_
  refine r_putI rfl ⟨rfl, rfl, rfl⟩ (fx_t0 fx) ?_
  have fx : FX n ad sa z0 (sI h (ad 0) 6 0) := (FX.sI fx)
  refine r_iload rfl rfl ?_
  refine r_cs (y := 12) (ra := [.int c]) (rest := []) rfl ⟨⟨rfl, rfl⟩, by decide⟩ rfl rfl (Nat.le_of_ble_eq_true rfl) ?_
  refine in_12 (Nat.le_of_ble_eq_true rfl) ?_
  show WR _ cd_12 0 [some (.int c)] [] (sI h (ad 0) 6 0) _
  refine r_iload rfl rfl ?_
  refine r_if_lt (tg := 14) rfl rfl (fun c1 => ?_) (fun c1 => ?_)
  · refine r_ic (x := 0) rfl rfl ?_
    refine r_zret rfl (.inl rfl) ?_
    show WR _ cd_45 9 [some (.ref (ad 0)), some (.int c), some (.int i), some (.int d)] [.int 0] (sI h (ad 0) 6 0) _
    refine r_if_eq (tg := 19) rfl rfl (fun _ => ?_) (fun q => absurd q (by decide))
    refine r_aload rfl rfl ?_
    refine r_ic (x := (-2)) rfl rfl ?_
    refine r_cv (y := 13) (ra := [.int (-2)]) (rest := []) rfl ⟨⟨rfl, rfl⟩, rfl, by decide⟩ (fx_t0 fx) rfl rfl (Nat.le_of_ble_eq_true rfl) ?_
    refine in_13 (Nat.le_of_ble_eq_true rfl) ?_
    show WR _ cd_13 0 [some (.ref (ad 0)), some (.int (-2))] [] (sI h (ad 0) 6 0) _
    refine r_aload rfl rfl ?_
    refine r_iload rfl rfl ?_
    refine r_putI rfl ⟨rfl, rfl, rfl⟩ (fx_t0 fx) ?_
    have fx : FX n ad sa z0 (sI (sI h (ad 0) 6 0) (ad 0) 6 (-2)) := (FX.sI fx)
    refine r_iload rfl rfl ?_
    refine r_iret rfl ?_
    show WR _ cd_45 25 [some (.ref (ad 0)), some (.int c), some (.int i), some (.int d)] [.int (-2)] (sI (sI h (ad 0) 6 0) (ad 0) 6 (-2)) _
    refine r_iret rfl ?_
    show EV _ 175 [.ref (ad 30), .int c, .int i, .int d] (sI (sI h (ad 0) 6 0) (ad 0) 6 (-2)) _
    refine in_175 (Nat.le_of_ble_eq_true rfl) ?_
    show WR _ cd_175 0 [some (.ref (ad 30)), some (.int c), some (.int i), some (.int d), none, none, none] [] (sI (sI h (ad 0) 6 0) (ad 0) 6 (-2)) _
    refine r_iload rfl rfl ?_
    refine r_cs (y := 153) (ra := [.int c]) (rest := []) rfl ⟨⟨rfl, rfl⟩, by decide⟩ rfl rfl (Nat.le_of_ble_eq_true rfl) ?_
    refine in_153 (Nat.le_of_ble_eq_true rfl) ?_
    show WR _ cd_153 0 [some (.int c)] [] (sI (sI h (ad 0) 6 0) (ad 0) 6 (-2)) _
    refine r_iload rfl rfl ?_
    refine r_if_lt (tg := 14) rfl rfl (fun _ => ?_) (fun q => False.elim (by have := i_lt c1; have := i_rg c; have : (0 : Int32).toInt = 0 := rfl; have := i_nlt q; omega))
    refine r_ic (x := 0) rfl rfl ?_
    refine r_zret rfl (.inl rfl) ?_
    show WR _ cd_175 4 [some (.ref (ad 30)), some (.int c), some (.int i), some (.int d), none, none, none] [.int 0] (sI (sI h (ad 0) 6 0) (ad 0) 6 (-2)) _
    refine r_if_eq (tg := 14) rfl rfl (fun _ => ?_) (fun q => absurd q (by decide))
    refine r_aload rfl rfl ?_
    refine r_ic (x := (-2)) rfl rfl ?_
    refine r_cv (y := 154) (ra := [.int (-2)]) (rest := []) rfl ⟨⟨rfl, rfl⟩, rfl, by decide⟩ (fx_t30 fx) rfl rfl (Nat.le_of_ble_eq_true rfl) ?_
    refine in_154 (Nat.le_of_ble_eq_true rfl) ?_
    show WR _ cd_154 0 [some (.ref (ad 30)), some (.int (-2))] [] (sI (sI h (ad 0) 6 0) (ad 0) 6 (-2)) _
    refine r_aload rfl rfl ?_
    refine r_iload rfl rfl ?_
    refine r_ic (x := (-1)) rfl rfl ?_
    refine r_icmp_ge (tg := 10) rfl rfl (fun q => absurd q (by decide)) (fun _ => ?_)
    refine r_iload rfl rfl ?_
    refine r_goto (tg := 11) rfl rfl ?_
    refine r_putI rfl ⟨rfl, rfl, rfl⟩ (fx_t30 fx) ?_
    have fx : FX n ad sa z0 (sI (sI (sI h (ad 0) 6 0) (ad 0) 6 (-2)) (ad 30) 11 (-2)) := (FX.sI fx)
    refine r_iload rfl rfl ?_
    refine r_iret rfl ?_
    show WR _ cd_175 20 [some (.ref (ad 30)), some (.int c), some (.int i), some (.int d), none, none, none] [.int (-2)] (sI (sI (sI h (ad 0) 6 0) (ad 0) 6 (-2)) (ad 30) 11 (-2)) _
    refine r_iret rfl ?_
    exact ⟨rfl, Rel.why r (((Chg.rf.sI (fx_j fx) (.inl (by decide))).sI (fx_j fx) (.inl (by decide))).sI (fx_j fx) (.inl (by decide))) ⟨rfl, by decide⟩ (Eq.trans (Eq.trans (I_ne (fx_ne fx (by decide))) I_eq) (Eq.symm I_eq)), (by (try simp only [hZ_sI, hZ_sL, hZ_sD, hZ_sR]); omega), (by (try simp only [hU_sI, hU_sL, hU_sD, hU_sR]); omega)⟩
  · obtain ⟨k2, hk2, ek2⟩ := ix_of (x := c) (n := 2147483648) (by have := i_nlt c1; have := i_rg c; have : (0 : Int32).toInt = 0 := rfl; omega) (by have := i_nlt c1; have := i_rg c; have : (0 : Int32).toInt = 0 := rfl; omega)
    refine r_iload rfl rfl ?_
    refine WR_tI (y := nI k2) ek2 ?_
    refine r_ic (x := 24) rfl rfl ?_
    refine r_icmp_ge (tg := 14) rfl rfl (fun c3 => ?_) (fun c3 => ?_)
    · refine r_ic (x := 0) rfl rfl ?_
      refine r_zret rfl (.inl rfl) ?_
      show WR _ cd_45 9 [some (.ref (ad 0)), some (.int c), some (.int i), some (.int d)] [.int 0] (sI h (ad 0) 6 0) _
      refine r_if_eq (tg := 19) rfl rfl (fun _ => ?_) (fun q => absurd q (by decide))
      refine r_aload rfl rfl ?_
      refine r_ic (x := (-2)) rfl rfl ?_
      refine r_cv (y := 13) (ra := [.int (-2)]) (rest := []) rfl ⟨⟨rfl, rfl⟩, rfl, by decide⟩ (fx_t0 fx) rfl rfl (Nat.le_of_ble_eq_true rfl) ?_
      refine in_13 (Nat.le_of_ble_eq_true rfl) ?_
      show WR _ cd_13 0 [some (.ref (ad 0)), some (.int (-2))] [] (sI h (ad 0) 6 0) _
      refine r_aload rfl rfl ?_
      refine r_iload rfl rfl ?_
      refine r_putI rfl ⟨rfl, rfl, rfl⟩ (fx_t0 fx) ?_
      have fx : FX n ad sa z0 (sI (sI h (ad 0) 6 0) (ad 0) 6 (-2)) := (FX.sI fx)
      refine r_iload rfl rfl ?_
      refine r_iret rfl ?_
      show WR _ cd_45 25 [some (.ref (ad 0)), some (.int c), some (.int i), some (.int d)] [.int (-2)] (sI (sI h (ad 0) 6 0) (ad 0) 6 (-2)) _
      refine r_iret rfl ?_
      show EV _ 175 [.ref (ad 30), .int c, .int i, .int d] (sI (sI h (ad 0) 6 0) (ad 0) 6 (-2)) _
      refine in_175 (Nat.le_of_ble_eq_true rfl) ?_
      show WR _ cd_175 0 [some (.ref (ad 30)), some (.int c), some (.int i), some (.int d), none, none, none] [] (sI (sI h (ad 0) 6 0) (ad 0) 6 (-2)) _
      refine r_iload rfl rfl ?_
      refine WR_tI (y := nI k2) ek2 ?_
      refine r_cs (y := 153) (ra := [.int (nI k2)]) (rest := []) rfl ⟨⟨rfl, rfl⟩, by decide⟩ rfl rfl (Nat.le_of_ble_eq_true rfl) ?_
      refine in_153 (Nat.le_of_ble_eq_true rfl) ?_
      show WR _ cd_153 0 [some (.int (nI k2))] [] (sI (sI h (ad 0) 6 0) (ad 0) 6 (-2)) _
      refine r_iload rfl rfl ?_
      refine r_if_lt (tg := 14) rfl rfl (fun q => False.elim (by have := i_nlt c1; have := i_rg c; have : (0 : Int32).toInt = 0 := rfl; have := i_eq ek2; have : (nI k2).toInt = ((k2 : Nat) : Int) := nI_toInt (by omega); have := i_le c3; have : (24 : Int32).toInt = 24 := rfl; have := i_lt q; omega)) (fun _ => ?_)
      refine r_iload rfl rfl ?_
      refine r_ic (x := 24) rfl rfl ?_
      refine r_icmp_ge (tg := 14) rfl rfl (fun _ => ?_) (fun q => False.elim (by have := i_nlt c1; have := i_rg c; have : (0 : Int32).toInt = 0 := rfl; have := i_eq ek2; have : (nI k2).toInt = ((k2 : Nat) : Int) := nI_toInt (by omega); have := i_le c3; have : (24 : Int32).toInt = 24 := rfl; have := i_nle q; omega))
      refine r_ic (x := 0) rfl rfl ?_
      refine r_zret rfl (.inl rfl) ?_
      show WR _ cd_175 4 [some (.ref (ad 30)), some (.int c), some (.int i), some (.int d), none, none, none] [.int 0] (sI (sI h (ad 0) 6 0) (ad 0) 6 (-2)) _
      refine r_if_eq (tg := 14) rfl rfl (fun _ => ?_) (fun q => absurd q (by decide))
      refine r_aload rfl rfl ?_
      refine r_ic (x := (-2)) rfl rfl ?_
      refine r_cv (y := 154) (ra := [.int (-2)]) (rest := []) rfl ⟨⟨rfl, rfl⟩, rfl, by decide⟩ (fx_t30 fx) rfl rfl (Nat.le_of_ble_eq_true rfl) ?_
      refine in_154 (Nat.le_of_ble_eq_true rfl) ?_
      show WR _ cd_154 0 [some (.ref (ad 30)), some (.int (-2))] [] (sI (sI h (ad 0) 6 0) (ad 0) 6 (-2)) _
      refine r_aload rfl rfl ?_
      refine r_iload rfl rfl ?_
      refine r_ic (x := (-1)) rfl rfl ?_
      refine r_icmp_ge (tg := 10) rfl rfl (fun q => absurd q (by decide)) (fun _ => ?_)
      refine r_iload rfl rfl ?_
      refine r_goto (tg := 11) rfl rfl ?_
      refine r_putI rfl ⟨rfl, rfl, rfl⟩ (fx_t30 fx) ?_
      have fx : FX n ad sa z0 (sI (sI (sI h (ad 0) 6 0) (ad 0) 6 (-2)) (ad 30) 11 (-2)) := (FX.sI fx)
      refine r_iload rfl rfl ?_
      refine r_iret rfl ?_
      show WR _ cd_175 20 [some (.ref (ad 30)), some (.int c), some (.int i), some (.int d), none, none, none] [.int (-2)] (sI (sI (sI h (ad 0) 6 0) (ad 0) 6 (-2)) (ad 30) 11 (-2)) _
      refine r_iret rfl ?_
      exact ⟨rfl, Rel.why r (((Chg.rf.sI (fx_j fx) (.inl (by decide))).sI (fx_j fx) (.inl (by decide))).sI (fx_j fx) (.inl (by decide))) ⟨rfl, by decide⟩ (Eq.trans (Eq.trans (I_ne (fx_ne fx (by decide))) I_eq) (Eq.symm I_eq)), (by (try simp only [hZ_sI, hZ_sL, hZ_sD, hZ_sR]); omega), (by (try simp only [hU_sI, hU_sL, hU_sD, hU_sR]); omega)⟩
    · refine r_ic (x := 1) rfl rfl ?_
      refine r_goto (tg := 15) rfl rfl ?_
      refine r_zret rfl (.inr rfl) ?_
      show WR _ cd_45 9 [some (.ref (ad 0)), some (.int c), some (.int i), some (.int d)] [.int 1] (sI h (ad 0) 6 0) _
      refine r_if_eq (tg := 19) rfl rfl (fun q => absurd q (by decide)) (fun _ => ?_)
      refine r_iload rfl rfl ?_
      refine r_cs (y := 12) (ra := [.int d]) (rest := []) rfl ⟨⟨rfl, rfl⟩, by decide⟩ rfl rfl (Nat.le_of_ble_eq_true rfl) ?_
      refine in_12 (Nat.le_of_ble_eq_true rfl) ?_
      show WR _ cd_12 0 [some (.int d)] [] (sI h (ad 0) 6 0) _
      refine r_iload rfl rfl ?_
      refine r_if_lt (tg := 14) rfl rfl (fun c4 => ?_) (fun c4 => ?_)
      · refine r_ic (x := 0) rfl rfl ?_
        refine r_zret rfl (.inl rfl) ?_
        show WR _ cd_45 16 [some (.ref (ad 0)), some (.int c), some (.int i), some (.int d)] [.int 0] (sI h (ad 0) 6 0) _
        refine r_if_ne (tg := 26) rfl rfl (fun q => absurd q (by decide)) (fun _ => ?_)
        refine r_aload rfl rfl ?_
        refine r_ic (x := (-2)) rfl rfl ?_
        refine r_cv (y := 13) (ra := [.int (-2)]) (rest := []) rfl ⟨⟨rfl, rfl⟩, rfl, by decide⟩ (fx_t0 fx) rfl rfl (Nat.le_of_ble_eq_true rfl) ?_
        refine in_13 (Nat.le_of_ble_eq_true rfl) ?_
        show WR _ cd_13 0 [some (.ref (ad 0)), some (.int (-2))] [] (sI h (ad 0) 6 0) _
        refine r_aload rfl rfl ?_
        refine r_iload rfl rfl ?_
        refine r_putI rfl ⟨rfl, rfl, rfl⟩ (fx_t0 fx) ?_
        have fx : FX n ad sa z0 (sI (sI h (ad 0) 6 0) (ad 0) 6 (-2)) := (FX.sI fx)
        refine r_iload rfl rfl ?_
        refine r_iret rfl ?_
        show WR _ cd_45 25 [some (.ref (ad 0)), some (.int c), some (.int i), some (.int d)] [.int (-2)] (sI (sI h (ad 0) 6 0) (ad 0) 6 (-2)) _
        refine r_iret rfl ?_
        show EV _ 175 [.ref (ad 30), .int c, .int i, .int d] (sI (sI h (ad 0) 6 0) (ad 0) 6 (-2)) _
        refine in_175 (Nat.le_of_ble_eq_true rfl) ?_
        show WR _ cd_175 0 [some (.ref (ad 30)), some (.int c), some (.int i), some (.int d), none, none, none] [] (sI (sI h (ad 0) 6 0) (ad 0) 6 (-2)) _
        refine r_iload rfl rfl ?_
        refine WR_tI (y := nI k2) ek2 ?_
        refine r_cs (y := 153) (ra := [.int (nI k2)]) (rest := []) rfl ⟨⟨rfl, rfl⟩, by decide⟩ rfl rfl (Nat.le_of_ble_eq_true rfl) ?_
        refine in_153 (Nat.le_of_ble_eq_true rfl) ?_
        show WR _ cd_153 0 [some (.int (nI k2))] [] (sI (sI h (ad 0) 6 0) (ad 0) 6 (-2)) _
        refine r_iload rfl rfl ?_
        refine r_if_lt (tg := 14) rfl rfl (fun q => False.elim (by have := i_nlt c1; have := i_rg c; have : (0 : Int32).toInt = 0 := rfl; have := i_eq ek2; have : (nI k2).toInt = ((k2 : Nat) : Int) := nI_toInt (by omega); have := i_nle c3; have : (24 : Int32).toInt = 24 := rfl; have := i_lt q; omega)) (fun _ => ?_)
        refine r_iload rfl rfl ?_
        refine r_ic (x := 24) rfl rfl ?_
        refine r_icmp_ge (tg := 14) rfl rfl (fun q => False.elim (by have := i_nlt c1; have := i_rg c; have : (0 : Int32).toInt = 0 := rfl; have := i_eq ek2; have : (nI k2).toInt = ((k2 : Nat) : Int) := nI_toInt (by omega); have := i_nle c3; have : (24 : Int32).toInt = 24 := rfl; have := i_le q; omega)) (fun _ => ?_)
        refine r_ic (x := 1) rfl rfl ?_
        refine r_goto (tg := 15) rfl rfl ?_
        refine r_zret rfl (.inr rfl) ?_
        show WR _ cd_175 4 [some (.ref (ad 30)), some (.int c), some (.int i), some (.int d), none, none, none] [.int 1] (sI (sI h (ad 0) 6 0) (ad 0) 6 (-2)) _
        refine r_if_eq (tg := 14) rfl rfl (fun q => absurd q (by decide)) (fun _ => ?_)
        refine r_iload rfl rfl ?_
        refine r_cs (y := 153) (ra := [.int d]) (rest := []) rfl ⟨⟨rfl, rfl⟩, by decide⟩ rfl rfl (Nat.le_of_ble_eq_true rfl) ?_
        refine in_153 (Nat.le_of_ble_eq_true rfl) ?_
        show WR _ cd_153 0 [some (.int d)] [] (sI (sI h (ad 0) 6 0) (ad 0) 6 (-2)) _
        refine r_iload rfl rfl ?_
        refine r_if_lt (tg := 14) rfl rfl (fun _ => ?_) (fun q => False.elim (by have := i_lt c4; have := i_rg d; have : (0 : Int32).toInt = 0 := rfl; have := i_nlt q; omega))
        refine r_ic (x := 0) rfl rfl ?_
        refine r_zret rfl (.inl rfl) ?_
        show WR _ cd_175 11 [some (.ref (ad 30)), some (.int c), some (.int i), some (.int d), none, none, none] [.int 0] (sI (sI h (ad 0) 6 0) (ad 0) 6 (-2)) _
        refine r_if_ne (tg := 21) rfl rfl (fun q => absurd q (by decide)) (fun _ => ?_)
        refine r_aload rfl rfl ?_
        refine r_ic (x := (-2)) rfl rfl ?_
        refine r_cv (y := 154) (ra := [.int (-2)]) (rest := []) rfl ⟨⟨rfl, rfl⟩, rfl, by decide⟩ (fx_t30 fx) rfl rfl (Nat.le_of_ble_eq_true rfl) ?_
        refine in_154 (Nat.le_of_ble_eq_true rfl) ?_
        show WR _ cd_154 0 [some (.ref (ad 30)), some (.int (-2))] [] (sI (sI h (ad 0) 6 0) (ad 0) 6 (-2)) _
        refine r_aload rfl rfl ?_
        refine r_iload rfl rfl ?_
        refine r_ic (x := (-1)) rfl rfl ?_
        refine r_icmp_ge (tg := 10) rfl rfl (fun q => absurd q (by decide)) (fun _ => ?_)
        refine r_iload rfl rfl ?_
        refine r_goto (tg := 11) rfl rfl ?_
        refine r_putI rfl ⟨rfl, rfl, rfl⟩ (fx_t30 fx) ?_
        have fx : FX n ad sa z0 (sI (sI (sI h (ad 0) 6 0) (ad 0) 6 (-2)) (ad 30) 11 (-2)) := (FX.sI fx)
        refine r_iload rfl rfl ?_
        refine r_iret rfl ?_
        show WR _ cd_175 20 [some (.ref (ad 30)), some (.int c), some (.int i), some (.int d), none, none, none] [.int (-2)] (sI (sI (sI h (ad 0) 6 0) (ad 0) 6 (-2)) (ad 30) 11 (-2)) _
        refine r_iret rfl ?_
        exact ⟨rfl, Rel.why r (((Chg.rf.sI (fx_j fx) (.inl (by decide))).sI (fx_j fx) (.inl (by decide))).sI (fx_j fx) (.inl (by decide))) ⟨rfl, by decide⟩ (Eq.trans (Eq.trans (I_ne (fx_ne fx (by decide))) I_eq) (Eq.symm I_eq)), (by (try simp only [hZ_sI, hZ_sL, hZ_sD, hZ_sR]); omega), (by (try simp only [hU_sI, hU_sL, hU_sD, hU_sR]); omega)⟩
      · obtain ⟨k5, hk5, ek5⟩ := ix_of (x := d) (n := 2147483648) (by have := i_nlt c4; have := i_rg d; have : (0 : Int32).toInt = 0 := rfl; omega) (by have := i_nlt c4; have := i_rg d; have : (0 : Int32).toInt = 0 := rfl; omega)
        refine r_iload rfl rfl ?_
        refine WR_tI (y := nI k5) ek5 ?_
        refine r_ic (x := 24) rfl rfl ?_
        refine r_icmp_ge (tg := 14) rfl rfl (fun c6 => ?_) (fun c6 => ?_)
        · refine r_ic (x := 0) rfl rfl ?_
          refine r_zret rfl (.inl rfl) ?_
          show WR _ cd_45 16 [some (.ref (ad 0)), some (.int c), some (.int i), some (.int d)] [.int 0] (sI h (ad 0) 6 0) _
          refine r_if_ne (tg := 26) rfl rfl (fun q => absurd q (by decide)) (fun _ => ?_)
          refine r_aload rfl rfl ?_
          refine r_ic (x := (-2)) rfl rfl ?_
          refine r_cv (y := 13) (ra := [.int (-2)]) (rest := []) rfl ⟨⟨rfl, rfl⟩, rfl, by decide⟩ (fx_t0 fx) rfl rfl (Nat.le_of_ble_eq_true rfl) ?_
          refine in_13 (Nat.le_of_ble_eq_true rfl) ?_
          show WR _ cd_13 0 [some (.ref (ad 0)), some (.int (-2))] [] (sI h (ad 0) 6 0) _
          refine r_aload rfl rfl ?_
          refine r_iload rfl rfl ?_
          refine r_putI rfl ⟨rfl, rfl, rfl⟩ (fx_t0 fx) ?_
          have fx : FX n ad sa z0 (sI (sI h (ad 0) 6 0) (ad 0) 6 (-2)) := (FX.sI fx)
          refine r_iload rfl rfl ?_
          refine r_iret rfl ?_
          show WR _ cd_45 25 [some (.ref (ad 0)), some (.int c), some (.int i), some (.int d)] [.int (-2)] (sI (sI h (ad 0) 6 0) (ad 0) 6 (-2)) _
          refine r_iret rfl ?_
          show EV _ 175 [.ref (ad 30), .int c, .int i, .int d] (sI (sI h (ad 0) 6 0) (ad 0) 6 (-2)) _
          refine in_175 (Nat.le_of_ble_eq_true rfl) ?_
          show WR _ cd_175 0 [some (.ref (ad 30)), some (.int c), some (.int i), some (.int d), none, none, none] [] (sI (sI h (ad 0) 6 0) (ad 0) 6 (-2)) _
          refine r_iload rfl rfl ?_
          refine WR_tI (y := nI k2) ek2 ?_
          refine r_cs (y := 153) (ra := [.int (nI k2)]) (rest := []) rfl ⟨⟨rfl, rfl⟩, by decide⟩ rfl rfl (Nat.le_of_ble_eq_true rfl) ?_
          refine in_153 (Nat.le_of_ble_eq_true rfl) ?_
          show WR _ cd_153 0 [some (.int (nI k2))] [] (sI (sI h (ad 0) 6 0) (ad 0) 6 (-2)) _
          refine r_iload rfl rfl ?_
          refine r_if_lt (tg := 14) rfl rfl (fun q => False.elim (by have := i_nlt c1; have := i_rg c; have : (0 : Int32).toInt = 0 := rfl; have := i_eq ek2; have : (nI k2).toInt = ((k2 : Nat) : Int) := nI_toInt (by omega); have := i_nle c3; have : (24 : Int32).toInt = 24 := rfl; have := i_lt q; omega)) (fun _ => ?_)
          refine r_iload rfl rfl ?_
          refine r_ic (x := 24) rfl rfl ?_
          refine r_icmp_ge (tg := 14) rfl rfl (fun q => False.elim (by have := i_nlt c1; have := i_rg c; have : (0 : Int32).toInt = 0 := rfl; have := i_eq ek2; have : (nI k2).toInt = ((k2 : Nat) : Int) := nI_toInt (by omega); have := i_nle c3; have : (24 : Int32).toInt = 24 := rfl; have := i_le q; omega)) (fun _ => ?_)
          refine r_ic (x := 1) rfl rfl ?_
          refine r_goto (tg := 15) rfl rfl ?_
          refine r_zret rfl (.inr rfl) ?_
          show WR _ cd_175 4 [some (.ref (ad 30)), some (.int c), some (.int i), some (.int d), none, none, none] [.int 1] (sI (sI h (ad 0) 6 0) (ad 0) 6 (-2)) _
          refine r_if_eq (tg := 14) rfl rfl (fun q => absurd q (by decide)) (fun _ => ?_)
          refine r_iload rfl rfl ?_
          refine WR_tI (y := nI k5) ek5 ?_
          refine r_cs (y := 153) (ra := [.int (nI k5)]) (rest := []) rfl ⟨⟨rfl, rfl⟩, by decide⟩ rfl rfl (Nat.le_of_ble_eq_true rfl) ?_
          refine in_153 (Nat.le_of_ble_eq_true rfl) ?_
          show WR _ cd_153 0 [some (.int (nI k5))] [] (sI (sI h (ad 0) 6 0) (ad 0) 6 (-2)) _
          refine r_iload rfl rfl ?_
          refine r_if_lt (tg := 14) rfl rfl (fun q => False.elim (by have := i_nlt c4; have := i_rg d; have : (0 : Int32).toInt = 0 := rfl; have := i_eq ek5; have : (nI k5).toInt = ((k5 : Nat) : Int) := nI_toInt (by omega); have := i_le c6; have : (24 : Int32).toInt = 24 := rfl; have := i_lt q; omega)) (fun _ => ?_)
          refine r_iload rfl rfl ?_
          refine r_ic (x := 24) rfl rfl ?_
          refine r_icmp_ge (tg := 14) rfl rfl (fun _ => ?_) (fun q => False.elim (by have := i_nlt c4; have := i_rg d; have : (0 : Int32).toInt = 0 := rfl; have := i_eq ek5; have : (nI k5).toInt = ((k5 : Nat) : Int) := nI_toInt (by omega); have := i_le c6; have : (24 : Int32).toInt = 24 := rfl; have := i_nle q; omega))
          refine r_ic (x := 0) rfl rfl ?_
          refine r_zret rfl (.inl rfl) ?_
          show WR _ cd_175 11 [some (.ref (ad 30)), some (.int c), some (.int i), some (.int d), none, none, none] [.int 0] (sI (sI h (ad 0) 6 0) (ad 0) 6 (-2)) _
          refine r_if_ne (tg := 21) rfl rfl (fun q => absurd q (by decide)) (fun _ => ?_)
          refine r_aload rfl rfl ?_
          refine r_ic (x := (-2)) rfl rfl ?_
          refine r_cv (y := 154) (ra := [.int (-2)]) (rest := []) rfl ⟨⟨rfl, rfl⟩, rfl, by decide⟩ (fx_t30 fx) rfl rfl (Nat.le_of_ble_eq_true rfl) ?_
          refine in_154 (Nat.le_of_ble_eq_true rfl) ?_
          show WR _ cd_154 0 [some (.ref (ad 30)), some (.int (-2))] [] (sI (sI h (ad 0) 6 0) (ad 0) 6 (-2)) _
          refine r_aload rfl rfl ?_
          refine r_iload rfl rfl ?_
          refine r_ic (x := (-1)) rfl rfl ?_
          refine r_icmp_ge (tg := 10) rfl rfl (fun q => absurd q (by decide)) (fun _ => ?_)
          refine r_iload rfl rfl ?_
          refine r_goto (tg := 11) rfl rfl ?_
          refine r_putI rfl ⟨rfl, rfl, rfl⟩ (fx_t30 fx) ?_
          have fx : FX n ad sa z0 (sI (sI (sI h (ad 0) 6 0) (ad 0) 6 (-2)) (ad 30) 11 (-2)) := (FX.sI fx)
          refine r_iload rfl rfl ?_
          refine r_iret rfl ?_
          show WR _ cd_175 20 [some (.ref (ad 30)), some (.int c), some (.int i), some (.int d), none, none, none] [.int (-2)] (sI (sI (sI h (ad 0) 6 0) (ad 0) 6 (-2)) (ad 30) 11 (-2)) _
          refine r_iret rfl ?_
          exact ⟨rfl, Rel.why r (((Chg.rf.sI (fx_j fx) (.inl (by decide))).sI (fx_j fx) (.inl (by decide))).sI (fx_j fx) (.inl (by decide))) ⟨rfl, by decide⟩ (Eq.trans (Eq.trans (I_ne (fx_ne fx (by decide))) I_eq) (Eq.symm I_eq)), (by (try simp only [hZ_sI, hZ_sL, hZ_sD, hZ_sR]); omega), (by (try simp only [hU_sI, hU_sL, hU_sD, hU_sR]); omega)⟩
        · refine r_ic (x := 1) rfl rfl ?_
          refine r_goto (tg := 15) rfl rfl ?_
          refine r_zret rfl (.inr rfl) ?_
          show WR _ cd_45 16 [some (.ref (ad 0)), some (.int c), some (.int i), some (.int d)] [.int 1] (sI h (ad 0) 6 0) _
          refine r_if_ne (tg := 26) rfl rfl (fun _ => ?_) (fun q => absurd q (by decide))
          refine r_aload rfl rfl ?_
          refine r_iload rfl rfl ?_
          refine WR_tI (y := nI k2) ek2 ?_
          refine r_ic (x := 8) rfl rfl ?_
          refine r_iload rfl rfl ?_
          refine r_iload rfl rfl ?_
          refine WR_tI (y := nI k5) ek5 ?_
          refine r_ic (x := 3) rfl rfl ?_
          refine r_cv (y := 46) (ra := [.int 3, .int (nI k5), .int i, .int 8, .int (nI k2)]) (rest := []) rfl ⟨⟨rfl, rfl⟩, rfl, by decide⟩ (fx_t0 fx) rfl rfl (Nat.le_of_ble_eq_true rfl) ?_
          refine in_46 (Nat.le_of_ble_eq_true rfl) ?_
          show WR _ cd_46 0 [some (.ref (ad 0)), some (.int (nI k2)), some (.int 8), some (.int i), some (.int (nI k5)), some (.int 3), none, none] [] (sI h (ad 0) 6 0) _
          refine r_aload rfl rfl ?_
          refine r_getA (b := ad 1) rfl ⟨rfl, rfl, rfl⟩ (fx_t0 fx) (fx_r0_0 fx) ?_
          refine r_iload rfl rfl ?_
          rcases rs.cs (n := n) (sa := sa) (c := k5) (by have := i_nlt c4; have := i_rg d; have : (0 : Int32).toInt = 0 := rfl; have := i_eq ek5; have : (nI k5).toInt = ((k5 : Nat) : Int) := nI_toInt (by omega); have := i_nle c6; have : (24 : Int32).toInt = 24 := rfl; omega) with ⟨v7, w7⟩ | ⟨q7, kd7, hq7, hn7, v7, w7, dz7, tg7, s1_7, k1_7, k2_7, hk_7, we7⟩ | ⟨t7, ln7, sz7, ht7, v7, w7, dz7, tg7, r_7, tg2_7, l1_7, l2_7, hl_7, kd_7, n_7, sz_7, hs_7, al7, rw7⟩ | ⟨t7, sz7, ht7, v7, w7, dz7, tg7, r_7, tg2_7, k1_7, l2_7, k2_7, n_7, sz_7, hs_7, al7, rw7⟩ | ⟨t7, kd7, sz7, ht7, v7, w7, dz7, tg7, r_7, tg2_7, k1_7, l2_7, k2_7, hk_7, n_7, sz_7, hs_7, al7, rw7⟩
          · refine r_aaload0 rfl (isQ_of (fx_t1 fx) (by decide)) (vp_ct (fx_n1 fx) (vp_in_nI (by have := i_nlt c4; have := i_rg d; have : (0 : Int32).toInt = 0 := rfl; have := i_eq ek5; have : (nI k5).toInt = ((k5 : Nat) : Int) := nI_toInt (by omega); have := i_nle c6; have : (24 : Int32).toInt = 24 := rfl; omega) (by omega))) (Eq.trans (congrArg (hR (sI h (ad 0) 6 0) (ad 1)) ((nI_clamp (by have := i_nlt c4; have := i_rg d; have : (0 : Int32).toInt = 0 := rfl; have := i_eq ek5; have : (nI k5).toInt = ((k5 : Nat) : Int) := nI_toInt (by omega); have := i_nle c6; have : (24 : Int32).toInt = 24 := rfl; omega)) : _ = k5)) (Eq.trans R_oI w7)) ?_
            refine r_astore0 (lv' := [some (.ref (ad 0)), some (.int (nI k2)), some (.int 8), some (.int i), some (.int (nI k5)), some (.int 3), some (.null), none]) rfl (Nat.le_of_ble_eq_true rfl) rfl ?_
            refine r_aload rfl rfl ?_
            refine r_iload rfl rfl ?_
            refine r_iload rfl rfl ?_
            refine r_cv (y := 43) (ra := [.int 8, .int (nI k2)]) (rest := []) rfl ⟨⟨rfl, rfl⟩, rfl, by decide⟩ (fx_t0 fx) rfl rfl (Nat.le_of_ble_eq_true rfl) ?_
            refine in_43 (Nat.le_of_ble_eq_true rfl) ?_
            show WR _ cd_43 0 [some (.ref (ad 0)), some (.int (nI k2)), some (.int 8), none, none] [] (sI h (ad 0) 6 0) _
            refine r_aload rfl rfl ?_
            refine r_getA (b := ad 1) rfl ⟨rfl, rfl, rfl⟩ (fx_t0 fx) (fx_r0_0 fx) ?_
            refine r_iload rfl rfl ?_
            rcases rs.cs (n := n) (sa := sa) (c := k2) (by have := i_nlt c1; have := i_rg c; have : (0 : Int32).toInt = 0 := rfl; have := i_eq ek2; have : (nI k2).toInt = ((k2 : Nat) : Int) := nI_toInt (by omega); have := i_nle c3; have : (24 : Int32).toInt = 24 := rfl; omega) with ⟨v8, w8⟩ | ⟨q8, kd8, hq8, hn8, v8, w8, dz8, tg8, s1_8, k1_8, k2_8, hk_8, we8⟩ | ⟨t8, ln8, sz8, ht8, v8, w8, dz8, tg8, r_8, tg2_8, l1_8, l2_8, hl_8, kd_8, n_8, sz_8, hs_8, al8, rw8⟩ | ⟨t8, sz8, ht8, v8, w8, dz8, tg8, r_8, tg2_8, k1_8, l2_8, k2_8, n_8, sz_8, hs_8, al8, rw8⟩ | ⟨t8, kd8, sz8, ht8, v8, w8, dz8, tg8, r_8, tg2_8, k1_8, l2_8, k2_8, hk_8, n_8, sz_8, hs_8, al8, rw8⟩
            · refine r_aaload0 rfl (isQ_of (fx_t1 fx) (by decide)) (vp_ct (fx_n1 fx) (vp_in_nI (by have := i_nlt c1; have := i_rg c; have : (0 : Int32).toInt = 0 := rfl; have := i_eq ek2; have : (nI k2).toInt = ((k2 : Nat) : Int) := nI_toInt (by omega); have := i_nle c3; have : (24 : Int32).toInt = 24 := rfl; omega) (by omega))) (Eq.trans (congrArg (hR (sI h (ad 0) 6 0) (ad 1)) ((nI_clamp (by have := i_nlt c1; have := i_rg c; have : (0 : Int32).toInt = 0 := rfl; have := i_eq ek2; have : (nI k2).toInt = ((k2 : Nat) : Int) := nI_toInt (by omega); have := i_nle c3; have : (24 : Int32).toInt = 24 := rfl; omega)) : _ = k2)) (Eq.trans R_oI w8)) ?_
              refine r_astore0 (lv' := [some (.ref (ad 0)), some (.int (nI k2)), some (.int 8), some (.null), none]) rfl (Nat.le_of_ble_eq_true rfl) rfl ?_
              refine r_aload0 rfl rfl ?_
              refine r_instN rfl (by decide) ?_
              refine r_if_eq (tg := 32) rfl rfl (fun _ => ?_) (fun q => absurd q (by decide))
              refine r_aload rfl rfl ?_
              refine r_aload0 rfl rfl ?_
              refine r_ifnonnullN (tg := 42) rfl rfl ?_
              refine r_ic (x := (-11)) rfl rfl ?_
              refine r_goto (tg := 44) rfl rfl ?_
              refine r_putI rfl ⟨rfl, rfl, rfl⟩ (fx_t0 fx) ?_
              have fx : FX n ad sa z0 (sI (sI h (ad 0) 6 0) (ad 0) 6 (-11)) := (FX.sI fx)
              refine r_null rfl ?_
              refine r_aret0 rfl ?_
              show WR _ cd_46 15 [some (.ref (ad 0)), some (.int (nI k2)), some (.int 8), some (.int i), some (.int (nI k5)), some (.int 3), some (.null), none] [.null] (sI (sI h (ad 0) 6 0) (ad 0) 6 (-11)) _
              refine r_astore0 (lv' := [some (.ref (ad 0)), some (.int (nI k2)), some (.int 8), some (.int i), some (.int (nI k5)), some (.int 3), some (.null), some (.null)]) rfl (Nat.le_of_ble_eq_true rfl) rfl ?_
              refine r_aload rfl rfl ?_
              refine r_getI rfl ⟨rfl, rfl, rfl⟩ (fx_t0 fx) ?_
              refine WR_tI (y := (-11)) I_eq ?_
              refine r_ic (x := (-14)) rfl rfl ?_
              refine r_icmp_eq (tg := 41) rfl rfl (fun q => absurd q (by decide)) (fun _ => ?_)
              refine r_aload0 rfl rfl ?_
              refine r_ifnullN (tg := 48) rfl rfl ?_
              refine r_aload0 rfl rfl ?_
              refine r_ifnonnullN (tg := 60) rfl rfl ?_
              refine r_aload rfl rfl ?_
              refine r_ic (x := (-11)) rfl rfl ?_
              refine r_cv (y := 13) (ra := [.int (-11)]) (rest := []) rfl ⟨⟨rfl, rfl⟩, rfl, by decide⟩ (fx_t0 fx) rfl rfl (Nat.le_of_ble_eq_true rfl) ?_
              refine in_13 (Nat.le_of_ble_eq_true rfl) ?_
              show WR _ cd_13 0 [some (.ref (ad 0)), some (.int (-11))] [] (sI (sI h (ad 0) 6 0) (ad 0) 6 (-11)) _
              refine r_aload rfl rfl ?_
              refine r_iload rfl rfl ?_
              refine r_putI rfl ⟨rfl, rfl, rfl⟩ (fx_t0 fx) ?_
              have fx : FX n ad sa z0 (sI (sI (sI h (ad 0) 6 0) (ad 0) 6 (-11)) (ad 0) 6 (-11)) := (FX.sI fx)
              refine r_iload rfl rfl ?_
              refine r_iret rfl ?_
              show WR _ cd_46 59 [some (.ref (ad 0)), some (.int (nI k2)), some (.int 8), some (.int i), some (.int (nI k5)), some (.int 3), some (.null), some (.null)] [.int (-11)] (sI (sI (sI h (ad 0) 6 0) (ad 0) 6 (-11)) (ad 0) 6 (-11)) _
              refine r_iret rfl ?_
              show WR _ cd_45 36 [some (.ref (ad 0)), some (.int c), some (.int i), some (.int d)] [.int (-11)] (sI (sI (sI h (ad 0) 6 0) (ad 0) 6 (-11)) (ad 0) 6 (-11)) _
              refine r_iret rfl ?_
              show EV _ 175 [.ref (ad 30), .int c, .int i, .int d] (sI (sI (sI h (ad 0) 6 0) (ad 0) 6 (-11)) (ad 0) 6 (-11)) _
              refine in_175 (Nat.le_of_ble_eq_true rfl) ?_
              show WR _ cd_175 0 [some (.ref (ad 30)), some (.int c), some (.int i), some (.int d), none, none, none] [] (sI (sI (sI h (ad 0) 6 0) (ad 0) 6 (-11)) (ad 0) 6 (-11)) _
              refine r_iload rfl rfl ?_
              refine WR_tI (y := nI k2) ek2 ?_
              refine r_cs (y := 153) (ra := [.int (nI k2)]) (rest := []) rfl ⟨⟨rfl, rfl⟩, by decide⟩ rfl rfl (Nat.le_of_ble_eq_true rfl) ?_
              refine in_153 (Nat.le_of_ble_eq_true rfl) ?_
              show WR _ cd_153 0 [some (.int (nI k2))] [] (sI (sI (sI h (ad 0) 6 0) (ad 0) 6 (-11)) (ad 0) 6 (-11)) _
              refine r_iload rfl rfl ?_
              refine r_if_lt (tg := 14) rfl rfl (fun q => False.elim (by have := i_nlt c1; have := i_rg c; have : (0 : Int32).toInt = 0 := rfl; have := i_eq ek2; have : (nI k2).toInt = ((k2 : Nat) : Int) := nI_toInt (by omega); have := i_nle c3; have : (24 : Int32).toInt = 24 := rfl; have := i_lt q; omega)) (fun _ => ?_)
              refine r_iload rfl rfl ?_
              refine r_ic (x := 24) rfl rfl ?_
              refine r_icmp_ge (tg := 14) rfl rfl (fun q => False.elim (by have := i_nlt c1; have := i_rg c; have : (0 : Int32).toInt = 0 := rfl; have := i_eq ek2; have : (nI k2).toInt = ((k2 : Nat) : Int) := nI_toInt (by omega); have := i_nle c3; have : (24 : Int32).toInt = 24 := rfl; have := i_le q; omega)) (fun _ => ?_)
              refine r_ic (x := 1) rfl rfl ?_
              refine r_goto (tg := 15) rfl rfl ?_
              refine r_zret rfl (.inr rfl) ?_
              show WR _ cd_175 4 [some (.ref (ad 30)), some (.int c), some (.int i), some (.int d), none, none, none] [.int 1] (sI (sI (sI h (ad 0) 6 0) (ad 0) 6 (-11)) (ad 0) 6 (-11)) _
              refine r_if_eq (tg := 14) rfl rfl (fun q => absurd q (by decide)) (fun _ => ?_)
              refine r_iload rfl rfl ?_
              refine WR_tI (y := nI k5) ek5 ?_
              refine r_cs (y := 153) (ra := [.int (nI k5)]) (rest := []) rfl ⟨⟨rfl, rfl⟩, by decide⟩ rfl rfl (Nat.le_of_ble_eq_true rfl) ?_
              refine in_153 (Nat.le_of_ble_eq_true rfl) ?_
              show WR _ cd_153 0 [some (.int (nI k5))] [] (sI (sI (sI h (ad 0) 6 0) (ad 0) 6 (-11)) (ad 0) 6 (-11)) _
              refine r_iload rfl rfl ?_
              refine r_if_lt (tg := 14) rfl rfl (fun q => False.elim (by have := i_nlt c4; have := i_rg d; have : (0 : Int32).toInt = 0 := rfl; have := i_eq ek5; have : (nI k5).toInt = ((k5 : Nat) : Int) := nI_toInt (by omega); have := i_nle c6; have : (24 : Int32).toInt = 24 := rfl; have := i_lt q; omega)) (fun _ => ?_)
              refine r_iload rfl rfl ?_
              refine r_ic (x := 24) rfl rfl ?_
              refine r_icmp_ge (tg := 14) rfl rfl (fun q => False.elim (by have := i_nlt c4; have := i_rg d; have : (0 : Int32).toInt = 0 := rfl; have := i_eq ek5; have : (nI k5).toInt = ((k5 : Nat) : Int) := nI_toInt (by omega); have := i_nle c6; have : (24 : Int32).toInt = 24 := rfl; have := i_le q; omega)) (fun _ => ?_)
              refine r_ic (x := 1) rfl rfl ?_
              refine r_goto (tg := 15) rfl rfl ?_
              refine r_zret rfl (.inr rfl) ?_
              show WR _ cd_175 11 [some (.ref (ad 30)), some (.int c), some (.int i), some (.int d), none, none, none] [.int 1] (sI (sI (sI h (ad 0) 6 0) (ad 0) 6 (-11)) (ad 0) 6 (-11)) _
              refine r_if_ne (tg := 21) rfl rfl (fun _ => ?_) (fun q => absurd q (by decide))
              refine r_aload rfl rfl ?_
              refine r_getA (b := ad 31) rfl ⟨rfl, rfl, rfl⟩ (fx_t30 fx) (fx_r30_0 fx) ?_
              refine r_iload rfl rfl ?_
              refine WR_tI (y := nI k2) ek2 ?_
              refine r_iaload rfl (.inl (fx_t31 fx)) (vp_ct (fx_n31 fx) (vp_in_nI (by have := i_nlt c1; have := i_rg c; have : (0 : Int32).toInt = 0 := rfl; have := i_eq ek2; have : (nI k2).toInt = ((k2 : Nat) : Int) := nI_toInt (by omega); have := i_nle c3; have : (24 : Int32).toInt = 24 := rfl; omega) (by omega))) ?_
              refine WR_tI (congrArg (hI (sI (sI (sI h (ad 0) 6 0) (ad 0) 6 (-11)) (ad 0) 6 (-11)) (ad 31)) ((nI_clamp (by have := i_nlt c1; have := i_rg c; have : (0 : Int32).toInt = 0 := rfl; have := i_eq ek2; have : (nI k2).toInt = ((k2 : Nat) : Int) := nI_toInt (by omega); have := i_nle c3; have : (24 : Int32).toInt = 24 := rfl; omega)) : _ = k2)) ?_
              refine WR_tI (y := (-1)) (Eq.trans (I_ne (fx_ne fx (by decide))) (Eq.trans (I_ne (fx_ne fx (by decide))) (Eq.trans (I_ne (fx_ne fx (by decide))) v8))) ?_
              refine r_istore (lv' := [some (.ref (ad 30)), some (.int c), some (.int i), some (.int d), some (.int (-1)), none, none]) rfl (Nat.le_of_ble_eq_true rfl) rfl ?_
              refine r_aload rfl rfl ?_
              refine r_getA (b := ad 31) rfl ⟨rfl, rfl, rfl⟩ (fx_t30 fx) (fx_r30_0 fx) ?_
              refine r_iload rfl rfl ?_
              refine WR_tI (y := nI k5) ek5 ?_
              refine r_iaload rfl (.inl (fx_t31 fx)) (vp_ct (fx_n31 fx) (vp_in_nI (by have := i_nlt c4; have := i_rg d; have : (0 : Int32).toInt = 0 := rfl; have := i_eq ek5; have : (nI k5).toInt = ((k5 : Nat) : Int) := nI_toInt (by omega); have := i_nle c6; have : (24 : Int32).toInt = 24 := rfl; omega) (by omega))) ?_
              refine WR_tI (congrArg (hI (sI (sI (sI h (ad 0) 6 0) (ad 0) 6 (-11)) (ad 0) 6 (-11)) (ad 31)) ((nI_clamp (by have := i_nlt c4; have := i_rg d; have : (0 : Int32).toInt = 0 := rfl; have := i_eq ek5; have : (nI k5).toInt = ((k5 : Nat) : Int) := nI_toInt (by omega); have := i_nle c6; have : (24 : Int32).toInt = 24 := rfl; omega)) : _ = k5)) ?_
              refine WR_tI (y := (-1)) (Eq.trans (I_ne (fx_ne fx (by decide))) (Eq.trans (I_ne (fx_ne fx (by decide))) (Eq.trans (I_ne (fx_ne fx (by decide))) v7))) ?_
              refine r_istore (lv' := [some (.ref (ad 30)), some (.int c), some (.int i), some (.int d), some (.int (-1)), some (.int (-1)), none]) rfl (Nat.le_of_ble_eq_true rfl) rfl ?_
              refine r_iload rfl rfl ?_
              refine r_ic (x := (-1)) rfl rfl ?_
              refine r_icmp_eq (tg := 54) rfl rfl (fun _ => ?_) (fun q => absurd q (by decide))
              refine r_iload rfl rfl ?_
              refine r_ic (x := (-1)) rfl rfl ?_
              refine r_icmp_eq (tg := 76) rfl rfl (fun _ => ?_) (fun q => absurd q (by decide))
              refine r_aload rfl rfl ?_
              refine r_iload rfl rfl ?_
              refine r_ic (x := 8) rfl rfl ?_
              refine r_iload rfl rfl ?_
              refine r_cv (y := 168) (ra := [.int i, .int 8, .int (-1)]) (rest := []) rfl ⟨⟨rfl, rfl⟩, rfl, by decide⟩ (fx_t30 fx) rfl rfl (Nat.le_of_ble_eq_true rfl) ?_
              refine in_168 (Nat.le_of_ble_eq_true rfl) ?_
              show WR _ cd_168 0 [some (.ref (ad 30)), some (.int (-1)), some (.int 8), some (.int i)] [] (sI (sI (sI h (ad 0) 6 0) (ad 0) 6 (-11)) (ad 0) 6 (-11)) _
              refine r_iload rfl rfl ?_
              refine r_ic (x := (-1)) rfl rfl ?_
              refine r_icmp_eq (tg := 18) rfl rfl (fun _ => ?_) (fun q => absurd q (by decide))
              refine r_iload rfl rfl ?_
              refine r_ic (x := (-1)) rfl rfl ?_
              refine r_icmp_ne (tg := 27) rfl rfl (fun q => absurd q (by decide)) (fun _ => ?_)
              refine r_ic (x := 1) rfl rfl ?_
              refine r_goto (tg := 50) rfl rfl ?_
              refine r_iret rfl ?_
              show WR _ cd_175 85 [some (.ref (ad 30)), some (.int c), some (.int i), some (.int d), some (.int (-1)), some (.int (-1)), none] [.int 1] (sI (sI (sI h (ad 0) 6 0) (ad 0) 6 (-11)) (ad 0) 6 (-11)) _
              refine r_istore (lv' := [some (.ref (ad 30)), some (.int c), some (.int i), some (.int d), some (.int (-1)), some (.int (-1)), some (.int 1)]) rfl (Nat.le_of_ble_eq_true rfl) rfl ?_
              refine r_iload rfl rfl ?_
              refine r_if_le (tg := 99) rfl rfl (fun q => absurd q (by decide)) (fun _ => ?_)
              refine r_aload rfl rfl ?_
              refine r_iload rfl rfl ?_
              refine r_cv (y := 156) (ra := [.int 1]) (rest := []) rfl ⟨⟨rfl, rfl⟩, rfl, by decide⟩ (fx_t30 fx) rfl rfl (Nat.le_of_ble_eq_true rfl) ?_
              refine in_156 (Nat.le_of_ble_eq_true rfl) ?_
              show WR _ cd_156 0 [some (.ref (ad 30)), some (.int 1)] [] (sI (sI (sI h (ad 0) 6 0) (ad 0) 6 (-11)) (ad 0) 6 (-11)) _
              refine r_aload rfl rfl ?_
              refine r_ic (x := (-10)) rfl rfl ?_
              refine r_iload rfl rfl ?_
              refine r_isub rfl ?_
              refine WR_tI (y := (-11)) rfl ?_
              refine r_cv (y := 154) (ra := [.int (-11)]) (rest := []) rfl ⟨⟨rfl, rfl⟩, rfl, by decide⟩ (fx_t30 fx) rfl rfl (Nat.le_of_ble_eq_true rfl) ?_
              refine in_154 (Nat.le_of_ble_eq_true rfl) ?_
              show WR _ cd_154 0 [some (.ref (ad 30)), some (.int (-11))] [] (sI (sI (sI h (ad 0) 6 0) (ad 0) 6 (-11)) (ad 0) 6 (-11)) _
              refine r_aload rfl rfl ?_
              refine r_iload rfl rfl ?_
              refine r_ic (x := (-1)) rfl rfl ?_
              refine r_icmp_ge (tg := 10) rfl rfl (fun q => absurd q (by decide)) (fun _ => ?_)
              refine r_iload rfl rfl ?_
              refine r_goto (tg := 11) rfl rfl ?_
              refine r_putI rfl ⟨rfl, rfl, rfl⟩ (fx_t30 fx) ?_
              have fx : FX n ad sa z0 (sI (sI (sI (sI h (ad 0) 6 0) (ad 0) 6 (-11)) (ad 0) 6 (-11)) (ad 30) 11 (-11)) := (FX.sI fx)
              refine r_iload rfl rfl ?_
              refine r_iret rfl ?_
              show WR _ cd_156 8 [some (.ref (ad 30)), some (.int 1)] [.int (-11)] (sI (sI (sI (sI h (ad 0) 6 0) (ad 0) 6 (-11)) (ad 0) 6 (-11)) (ad 30) 11 (-11)) _
              refine r_iret rfl ?_
              show WR _ cd_175 98 [some (.ref (ad 30)), some (.int c), some (.int i), some (.int d), some (.int (-1)), some (.int (-1)), some (.int 1)] [.int (-11)] (sI (sI (sI (sI h (ad 0) 6 0) (ad 0) 6 (-11)) (ad 0) 6 (-11)) (ad 30) 11 (-11)) _
              refine r_iret rfl ?_
              exact ⟨rfl, Rel.why r ((((Chg.rf.sI (fx_j fx) (.inl (by decide))).sI (fx_j fx) (.inl (by decide))).sI (fx_j fx) (.inl (by decide))).sI (fx_j fx) (.inl (by decide))) ⟨rfl, by decide⟩ (Eq.trans (Eq.trans (I_ne (fx_ne fx (by decide))) I_eq) (Eq.symm I_eq)), (by (try simp only [hZ_sI, hZ_sL, hZ_sD, hZ_sR]); omega), (by (try simp only [hU_sI, hU_sL, hU_sD, hU_sR]); omega)⟩
            · refine r_aaloadA (b := pa q8) rfl (isQ_of (fx_t1 fx) (by decide)) (vp_ct (fx_n1 fx) (vp_in_nI (by have := i_nlt c1; have := i_rg c; have : (0 : Int32).toInt = 0 := rfl; have := i_eq ek2; have : (nI k2).toInt = ((k2 : Nat) : Int) := nI_toInt (by omega); have := i_nle c3; have : (24 : Int32).toInt = 24 := rfl; omega) (by omega))) (Eq.trans (congrArg (hR (sI h (ad 0) 6 0) (ad 1)) ((nI_clamp (by have := i_nlt c1; have := i_rg c; have : (0 : Int32).toInt = 0 := rfl; have := i_eq ek2; have : (nI k2).toInt = ((k2 : Nat) : Int) := nI_toInt (by omega); have := i_nle c3; have : (24 : Int32).toInt = 24 := rfl; omega)) : _ = k2)) (Eq.trans R_oI w8)) ?_
              refine r_astore (lv' := [some (.ref (ad 0)), some (.int (nI k2)), some (.int 8), some (.ref (pa q8)), none]) rfl (Nat.le_of_ble_eq_true rfl) rfl ?_
              refine r_aload rfl rfl ?_
              refine r_instW rfl (by decide) tg8 (by decide) ?_
              refine r_if_eq (tg := 32) rfl rfl (fun _ => ?_) (fun q => absurd q (by decide))
              refine r_aload rfl rfl ?_
              refine r_aload rfl rfl ?_
              refine r_ifnonnullA (tg := 42) rfl rfl ?_
              refine r_ic (x := (-14)) rfl rfl ?_
              refine r_putI rfl ⟨rfl, rfl, rfl⟩ (fx_t0 fx) ?_
              have fx : FX n ad sa z0 (sI (sI h (ad 0) 6 0) (ad 0) 6 (-14)) := (FX.sI fx)
              refine r_null rfl ?_
              refine r_aret0 rfl ?_
              show WR _ cd_46 15 [some (.ref (ad 0)), some (.int (nI k2)), some (.int 8), some (.int i), some (.int (nI k5)), some (.int 3), some (.null), none] [.null] (sI (sI h (ad 0) 6 0) (ad 0) 6 (-14)) _
              refine r_astore0 (lv' := [some (.ref (ad 0)), some (.int (nI k2)), some (.int 8), some (.int i), some (.int (nI k5)), some (.int 3), some (.null), some (.null)]) rfl (Nat.le_of_ble_eq_true rfl) rfl ?_
              refine r_aload rfl rfl ?_
              refine r_getI rfl ⟨rfl, rfl, rfl⟩ (fx_t0 fx) ?_
              refine WR_tI (y := (-14)) I_eq ?_
              refine r_ic (x := (-14)) rfl rfl ?_
              refine r_icmp_eq (tg := 41) rfl rfl (fun _ => ?_) (fun q => absurd q (by decide))
              refine r_aload rfl rfl ?_
              refine r_ic (x := (-14)) rfl rfl ?_
              refine r_cv (y := 13) (ra := [.int (-14)]) (rest := []) rfl ⟨⟨rfl, rfl⟩, rfl, by decide⟩ (fx_t0 fx) rfl rfl (Nat.le_of_ble_eq_true rfl) ?_
              refine in_13 (Nat.le_of_ble_eq_true rfl) ?_
              show WR _ cd_13 0 [some (.ref (ad 0)), some (.int (-14))] [] (sI (sI h (ad 0) 6 0) (ad 0) 6 (-14)) _
              refine r_aload rfl rfl ?_
              refine r_iload rfl rfl ?_
              refine r_putI rfl ⟨rfl, rfl, rfl⟩ (fx_t0 fx) ?_
              have fx : FX n ad sa z0 (sI (sI (sI h (ad 0) 6 0) (ad 0) 6 (-14)) (ad 0) 6 (-14)) := (FX.sI fx)
              refine r_iload rfl rfl ?_
              refine r_iret rfl ?_
              show WR _ cd_46 47 [some (.ref (ad 0)), some (.int (nI k2)), some (.int 8), some (.int i), some (.int (nI k5)), some (.int 3), some (.null), some (.null)] [.int (-14)] (sI (sI (sI h (ad 0) 6 0) (ad 0) 6 (-14)) (ad 0) 6 (-14)) _
              refine r_iret rfl ?_
              show WR _ cd_45 36 [some (.ref (ad 0)), some (.int c), some (.int i), some (.int d)] [.int (-14)] (sI (sI (sI h (ad 0) 6 0) (ad 0) 6 (-14)) (ad 0) 6 (-14)) _
              refine r_iret rfl ?_
              show EV _ 175 [.ref (ad 30), .int c, .int i, .int d] (sI (sI (sI h (ad 0) 6 0) (ad 0) 6 (-14)) (ad 0) 6 (-14)) _
              refine in_175 (Nat.le_of_ble_eq_true rfl) ?_
              show WR _ cd_175 0 [some (.ref (ad 30)), some (.int c), some (.int i), some (.int d), none, none, none] [] (sI (sI (sI h (ad 0) 6 0) (ad 0) 6 (-14)) (ad 0) 6 (-14)) _
              refine r_iload rfl rfl ?_
              refine WR_tI (y := nI k2) ek2 ?_
              refine r_cs (y := 153) (ra := [.int (nI k2)]) (rest := []) rfl ⟨⟨rfl, rfl⟩, by decide⟩ rfl rfl (Nat.le_of_ble_eq_true rfl) ?_
              refine in_153 (Nat.le_of_ble_eq_true rfl) ?_
              show WR _ cd_153 0 [some (.int (nI k2))] [] (sI (sI (sI h (ad 0) 6 0) (ad 0) 6 (-14)) (ad 0) 6 (-14)) _
              refine r_iload rfl rfl ?_
              refine r_if_lt (tg := 14) rfl rfl (fun q => False.elim (by have := i_nlt c1; have := i_rg c; have : (0 : Int32).toInt = 0 := rfl; have := i_eq ek2; have : (nI k2).toInt = ((k2 : Nat) : Int) := nI_toInt (by omega); have := i_nle c3; have : (24 : Int32).toInt = 24 := rfl; have := i_lt q; omega)) (fun _ => ?_)
              refine r_iload rfl rfl ?_
              refine r_ic (x := 24) rfl rfl ?_
              refine r_icmp_ge (tg := 14) rfl rfl (fun q => False.elim (by have := i_nlt c1; have := i_rg c; have : (0 : Int32).toInt = 0 := rfl; have := i_eq ek2; have : (nI k2).toInt = ((k2 : Nat) : Int) := nI_toInt (by omega); have := i_nle c3; have : (24 : Int32).toInt = 24 := rfl; have := i_le q; omega)) (fun _ => ?_)
              refine r_ic (x := 1) rfl rfl ?_
              refine r_goto (tg := 15) rfl rfl ?_
              refine r_zret rfl (.inr rfl) ?_
              show WR _ cd_175 4 [some (.ref (ad 30)), some (.int c), some (.int i), some (.int d), none, none, none] [.int 1] (sI (sI (sI h (ad 0) 6 0) (ad 0) 6 (-14)) (ad 0) 6 (-14)) _
              refine r_if_eq (tg := 14) rfl rfl (fun q => absurd q (by decide)) (fun _ => ?_)
              refine r_iload rfl rfl ?_
              refine WR_tI (y := nI k5) ek5 ?_
              refine r_cs (y := 153) (ra := [.int (nI k5)]) (rest := []) rfl ⟨⟨rfl, rfl⟩, by decide⟩ rfl rfl (Nat.le_of_ble_eq_true rfl) ?_
              refine in_153 (Nat.le_of_ble_eq_true rfl) ?_
              show WR _ cd_153 0 [some (.int (nI k5))] [] (sI (sI (sI h (ad 0) 6 0) (ad 0) 6 (-14)) (ad 0) 6 (-14)) _
              refine r_iload rfl rfl ?_
              refine r_if_lt (tg := 14) rfl rfl (fun q => False.elim (by have := i_nlt c4; have := i_rg d; have : (0 : Int32).toInt = 0 := rfl; have := i_eq ek5; have : (nI k5).toInt = ((k5 : Nat) : Int) := nI_toInt (by omega); have := i_nle c6; have : (24 : Int32).toInt = 24 := rfl; have := i_lt q; omega)) (fun _ => ?_)
              refine r_iload rfl rfl ?_
              refine r_ic (x := 24) rfl rfl ?_
              refine r_icmp_ge (tg := 14) rfl rfl (fun q => False.elim (by have := i_nlt c4; have := i_rg d; have : (0 : Int32).toInt = 0 := rfl; have := i_eq ek5; have : (nI k5).toInt = ((k5 : Nat) : Int) := nI_toInt (by omega); have := i_nle c6; have : (24 : Int32).toInt = 24 := rfl; have := i_le q; omega)) (fun _ => ?_)
              refine r_ic (x := 1) rfl rfl ?_
              refine r_goto (tg := 15) rfl rfl ?_
              refine r_zret rfl (.inr rfl) ?_
              show WR _ cd_175 11 [some (.ref (ad 30)), some (.int c), some (.int i), some (.int d), none, none, none] [.int 1] (sI (sI (sI h (ad 0) 6 0) (ad 0) 6 (-14)) (ad 0) 6 (-14)) _
              refine r_if_ne (tg := 21) rfl rfl (fun _ => ?_) (fun q => absurd q (by decide))
              refine r_aload rfl rfl ?_
              refine r_getA (b := ad 31) rfl ⟨rfl, rfl, rfl⟩ (fx_t30 fx) (fx_r30_0 fx) ?_
              refine r_iload rfl rfl ?_
              refine WR_tI (y := nI k2) ek2 ?_
              refine r_iaload rfl (.inl (fx_t31 fx)) (vp_ct (fx_n31 fx) (vp_in_nI (by have := i_nlt c1; have := i_rg c; have : (0 : Int32).toInt = 0 := rfl; have := i_eq ek2; have : (nI k2).toInt = ((k2 : Nat) : Int) := nI_toInt (by omega); have := i_nle c3; have : (24 : Int32).toInt = 24 := rfl; omega) (by omega))) ?_
              refine WR_tI (congrArg (hI (sI (sI (sI h (ad 0) 6 0) (ad 0) 6 (-14)) (ad 0) 6 (-14)) (ad 31)) ((nI_clamp (by have := i_nlt c1; have := i_rg c; have : (0 : Int32).toInt = 0 := rfl; have := i_eq ek2; have : (nI k2).toInt = ((k2 : Nat) : Int) := nI_toInt (by omega); have := i_nle c3; have : (24 : Int32).toInt = 24 := rfl; omega)) : _ = k2)) ?_
              refine WR_tI (y := nI (q8 + 1000)) (Eq.trans (I_ne (fx_ne fx (by decide))) (Eq.trans (I_ne (fx_ne fx (by decide))) (Eq.trans (I_ne (fx_ne fx (by decide))) v8))) ?_
              refine r_istore (lv' := [some (.ref (ad 30)), some (.int c), some (.int i), some (.int d), some (.int (nI (q8 + 1000))), none, none]) rfl (Nat.le_of_ble_eq_true rfl) rfl ?_
              refine r_aload rfl rfl ?_
              refine r_getA (b := ad 31) rfl ⟨rfl, rfl, rfl⟩ (fx_t30 fx) (fx_r30_0 fx) ?_
              refine r_iload rfl rfl ?_
              refine WR_tI (y := nI k5) ek5 ?_
              refine r_iaload rfl (.inl (fx_t31 fx)) (vp_ct (fx_n31 fx) (vp_in_nI (by have := i_nlt c4; have := i_rg d; have : (0 : Int32).toInt = 0 := rfl; have := i_eq ek5; have : (nI k5).toInt = ((k5 : Nat) : Int) := nI_toInt (by omega); have := i_nle c6; have : (24 : Int32).toInt = 24 := rfl; omega) (by omega))) ?_
              refine WR_tI (congrArg (hI (sI (sI (sI h (ad 0) 6 0) (ad 0) 6 (-14)) (ad 0) 6 (-14)) (ad 31)) ((nI_clamp (by have := i_nlt c4; have := i_rg d; have : (0 : Int32).toInt = 0 := rfl; have := i_eq ek5; have : (nI k5).toInt = ((k5 : Nat) : Int) := nI_toInt (by omega); have := i_nle c6; have : (24 : Int32).toInt = 24 := rfl; omega)) : _ = k5)) ?_
              refine WR_tI (y := (-1)) (Eq.trans (I_ne (fx_ne fx (by decide))) (Eq.trans (I_ne (fx_ne fx (by decide))) (Eq.trans (I_ne (fx_ne fx (by decide))) v7))) ?_
              refine r_istore (lv' := [some (.ref (ad 30)), some (.int c), some (.int i), some (.int d), some (.int (nI (q8 + 1000))), some (.int (-1)), none]) rfl (Nat.le_of_ble_eq_true rfl) rfl ?_
              refine r_iload rfl rfl ?_
              refine r_ic (x := (-1)) rfl rfl ?_
              refine r_icmp_eq (tg := 54) rfl rfl (fun q => False.elim (by have : (nI (q8 + 1000)).toInt = ((q8 + 1000 : Nat) : Int) := nI_toInt (by omega); have : (-1 : Int32).toInt = -1 := rfl; have := i_eq q; omega)) (fun _ => ?_)
              refine r_aload rfl rfl ?_
              refine r_iload rfl rfl ?_
              refine r_cv (y := 166) (ra := [.int (nI (q8 + 1000))]) (rest := []) rfl ⟨⟨rfl, rfl⟩, rfl, by decide⟩ (fx_t30 fx) rfl rfl (Nat.le_of_ble_eq_true rfl) ?_
              refine in_166 (Nat.le_of_ble_eq_true rfl) ?_
              show WR _ cd_166 0 [some (.ref (ad 30)), some (.int (nI (q8 + 1000)))] [] (sI (sI (sI h (ad 0) 6 0) (ad 0) 6 (-14)) (ad 0) 6 (-14)) _
              refine r_iload rfl rfl ?_
              refine r_ic (x := (-1)) rfl rfl ?_
              refine r_icmp_ne (tg := 9) rfl rfl (fun _ => ?_) (fun q => False.elim (by have : (nI (q8 + 1000)).toInt = ((q8 + 1000 : Nat) : Int) := nI_toInt (by omega); have : (-1 : Int32).toInt = -1 := rfl; have := i_eq q; omega))
              refine r_iload rfl rfl ?_
              refine r_ic (x := 1000) rfl rfl ?_
              refine r_icmp_lt (tg := 21) rfl rfl (fun q => False.elim (by have : (nI (q8 + 1000)).toInt = ((q8 + 1000 : Nat) : Int) := nI_toInt (by omega); have : (1000 : Int32).toInt = 1000 := rfl; have := i_lt q; omega)) (fun _ => ?_)
              refine r_ic (x := 10) rfl rfl ?_
              refine r_goto (tg := 27) rfl rfl ?_
              refine r_iret rfl ?_
              show WR _ cd_175 49 [some (.ref (ad 30)), some (.int c), some (.int i), some (.int d), some (.int (nI (q8 + 1000))), some (.int (-1)), none] [.int 10] (sI (sI (sI h (ad 0) 6 0) (ad 0) 6 (-14)) (ad 0) 6 (-14)) _
              refine r_ic (x := 8) rfl rfl ?_
              refine r_icmp_ne (tg := 70) rfl rfl (fun _ => ?_) (fun q => absurd q (by decide))
              refine r_aload rfl rfl ?_
              refine r_ic (x := 4) rfl rfl ?_
              refine r_cv (y := 156) (ra := [.int 4]) (rest := []) rfl ⟨⟨rfl, rfl⟩, rfl, by decide⟩ (fx_t30 fx) rfl rfl (Nat.le_of_ble_eq_true rfl) ?_
              refine in_156 (Nat.le_of_ble_eq_true rfl) ?_
              show WR _ cd_156 0 [some (.ref (ad 30)), some (.int 4)] [] (sI (sI (sI h (ad 0) 6 0) (ad 0) 6 (-14)) (ad 0) 6 (-14)) _
              refine r_aload rfl rfl ?_
              refine r_ic (x := (-10)) rfl rfl ?_
              refine r_iload rfl rfl ?_
              refine r_isub rfl ?_
              refine WR_tI (y := (-14)) rfl ?_
              refine r_cv (y := 154) (ra := [.int (-14)]) (rest := []) rfl ⟨⟨rfl, rfl⟩, rfl, by decide⟩ (fx_t30 fx) rfl rfl (Nat.le_of_ble_eq_true rfl) ?_
              refine in_154 (Nat.le_of_ble_eq_true rfl) ?_
              show WR _ cd_154 0 [some (.ref (ad 30)), some (.int (-14))] [] (sI (sI (sI h (ad 0) 6 0) (ad 0) 6 (-14)) (ad 0) 6 (-14)) _
              refine r_aload rfl rfl ?_
              refine r_iload rfl rfl ?_
              refine r_ic (x := (-1)) rfl rfl ?_
              refine r_icmp_ge (tg := 10) rfl rfl (fun q => absurd q (by decide)) (fun _ => ?_)
              refine r_iload rfl rfl ?_
              refine r_goto (tg := 11) rfl rfl ?_
              refine r_putI rfl ⟨rfl, rfl, rfl⟩ (fx_t30 fx) ?_
              have fx : FX n ad sa z0 (sI (sI (sI (sI h (ad 0) 6 0) (ad 0) 6 (-14)) (ad 0) 6 (-14)) (ad 30) 11 (-14)) := (FX.sI fx)
              refine r_iload rfl rfl ?_
              refine r_iret rfl ?_
              show WR _ cd_156 8 [some (.ref (ad 30)), some (.int 4)] [.int (-14)] (sI (sI (sI (sI h (ad 0) 6 0) (ad 0) 6 (-14)) (ad 0) 6 (-14)) (ad 30) 11 (-14)) _
              refine r_iret rfl ?_
              show WR _ cd_175 75 [some (.ref (ad 30)), some (.int c), some (.int i), some (.int d), some (.int (nI (q8 + 1000))), some (.int (-1)), none] [.int (-14)] (sI (sI (sI (sI h (ad 0) 6 0) (ad 0) 6 (-14)) (ad 0) 6 (-14)) (ad 30) 11 (-14)) _
              refine r_iret rfl ?_
              exact ⟨rfl, Rel.why r ((((Chg.rf.sI (fx_j fx) (.inl (by decide))).sI (fx_j fx) (.inl (by decide))).sI (fx_j fx) (.inl (by decide))).sI (fx_j fx) (.inl (by decide))) ⟨rfl, by decide⟩ (Eq.trans (Eq.trans (I_ne (fx_ne fx (by decide))) I_eq) (Eq.symm I_eq)), (by (try simp only [hZ_sI, hZ_sL, hZ_sD, hZ_sR]); omega), (by (try simp only [hU_sI, hU_sL, hU_sD, hU_sR]); omega)⟩
            · refine r_aaloadA (b := mid t8) rfl (isQ_of (fx_t1 fx) (by decide)) (vp_ct (fx_n1 fx) (vp_in_nI (by have := i_nlt c1; have := i_rg c; have : (0 : Int32).toInt = 0 := rfl; have := i_eq ek2; have : (nI k2).toInt = ((k2 : Nat) : Int) := nI_toInt (by omega); have := i_nle c3; have : (24 : Int32).toInt = 24 := rfl; omega) (by omega))) (Eq.trans (congrArg (hR (sI h (ad 0) 6 0) (ad 1)) ((nI_clamp (by have := i_nlt c1; have := i_rg c; have : (0 : Int32).toInt = 0 := rfl; have := i_eq ek2; have : (nI k2).toInt = ((k2 : Nat) : Int) := nI_toInt (by omega); have := i_nle c3; have : (24 : Int32).toInt = 24 := rfl; omega)) : _ = k2)) (Eq.trans R_oI w8)) ?_
              refine r_astore (lv' := [some (.ref (ad 0)), some (.int (nI k2)), some (.int 8), some (.ref (mid t8)), none]) rfl (Nat.le_of_ble_eq_true rfl) rfl ?_
              refine r_aload rfl rfl ?_
              refine r_instW rfl (by decide) tg8 (by decide) ?_
              refine r_if_eq (tg := 32) rfl rfl (fun _ => ?_) (fun q => absurd q (by decide))
              refine r_aload rfl rfl ?_
              refine r_aload rfl rfl ?_
              refine r_ifnonnullA (tg := 42) rfl rfl ?_
              refine r_ic (x := (-14)) rfl rfl ?_
              refine r_putI rfl ⟨rfl, rfl, rfl⟩ (fx_t0 fx) ?_
              have fx : FX n ad sa z0 (sI (sI h (ad 0) 6 0) (ad 0) 6 (-14)) := (FX.sI fx)
              refine r_null rfl ?_
              refine r_aret0 rfl ?_
              show WR _ cd_46 15 [some (.ref (ad 0)), some (.int (nI k2)), some (.int 8), some (.int i), some (.int (nI k5)), some (.int 3), some (.null), none] [.null] (sI (sI h (ad 0) 6 0) (ad 0) 6 (-14)) _
              refine r_astore0 (lv' := [some (.ref (ad 0)), some (.int (nI k2)), some (.int 8), some (.int i), some (.int (nI k5)), some (.int 3), some (.null), some (.null)]) rfl (Nat.le_of_ble_eq_true rfl) rfl ?_
              refine r_aload rfl rfl ?_
              refine r_getI rfl ⟨rfl, rfl, rfl⟩ (fx_t0 fx) ?_
              refine WR_tI (y := (-14)) I_eq ?_
              refine r_ic (x := (-14)) rfl rfl ?_
              refine r_icmp_eq (tg := 41) rfl rfl (fun _ => ?_) (fun q => absurd q (by decide))
              refine r_aload rfl rfl ?_
              refine r_ic (x := (-14)) rfl rfl ?_
              refine r_cv (y := 13) (ra := [.int (-14)]) (rest := []) rfl ⟨⟨rfl, rfl⟩, rfl, by decide⟩ (fx_t0 fx) rfl rfl (Nat.le_of_ble_eq_true rfl) ?_
              refine in_13 (Nat.le_of_ble_eq_true rfl) ?_
              show WR _ cd_13 0 [some (.ref (ad 0)), some (.int (-14))] [] (sI (sI h (ad 0) 6 0) (ad 0) 6 (-14)) _
              refine r_aload rfl rfl ?_
              refine r_iload rfl rfl ?_
              refine r_putI rfl ⟨rfl, rfl, rfl⟩ (fx_t0 fx) ?_
              have fx : FX n ad sa z0 (sI (sI (sI h (ad 0) 6 0) (ad 0) 6 (-14)) (ad 0) 6 (-14)) := (FX.sI fx)
              refine r_iload rfl rfl ?_
              refine r_iret rfl ?_
              show WR _ cd_46 47 [some (.ref (ad 0)), some (.int (nI k2)), some (.int 8), some (.int i), some (.int (nI k5)), some (.int 3), some (.null), some (.null)] [.int (-14)] (sI (sI (sI h (ad 0) 6 0) (ad 0) 6 (-14)) (ad 0) 6 (-14)) _
              refine r_iret rfl ?_
              show WR _ cd_45 36 [some (.ref (ad 0)), some (.int c), some (.int i), some (.int d)] [.int (-14)] (sI (sI (sI h (ad 0) 6 0) (ad 0) 6 (-14)) (ad 0) 6 (-14)) _
              refine r_iret rfl ?_
              show EV _ 175 [.ref (ad 30), .int c, .int i, .int d] (sI (sI (sI h (ad 0) 6 0) (ad 0) 6 (-14)) (ad 0) 6 (-14)) _
              refine in_175 (Nat.le_of_ble_eq_true rfl) ?_
              show WR _ cd_175 0 [some (.ref (ad 30)), some (.int c), some (.int i), some (.int d), none, none, none] [] (sI (sI (sI h (ad 0) 6 0) (ad 0) 6 (-14)) (ad 0) 6 (-14)) _
              refine r_iload rfl rfl ?_
              refine WR_tI (y := nI k2) ek2 ?_
              refine r_cs (y := 153) (ra := [.int (nI k2)]) (rest := []) rfl ⟨⟨rfl, rfl⟩, by decide⟩ rfl rfl (Nat.le_of_ble_eq_true rfl) ?_
              refine in_153 (Nat.le_of_ble_eq_true rfl) ?_
              show WR _ cd_153 0 [some (.int (nI k2))] [] (sI (sI (sI h (ad 0) 6 0) (ad 0) 6 (-14)) (ad 0) 6 (-14)) _
              refine r_iload rfl rfl ?_
              refine r_if_lt (tg := 14) rfl rfl (fun q => False.elim (by have := i_nlt c1; have := i_rg c; have : (0 : Int32).toInt = 0 := rfl; have := i_eq ek2; have : (nI k2).toInt = ((k2 : Nat) : Int) := nI_toInt (by omega); have := i_nle c3; have : (24 : Int32).toInt = 24 := rfl; have := i_lt q; omega)) (fun _ => ?_)
              refine r_iload rfl rfl ?_
              refine r_ic (x := 24) rfl rfl ?_
              refine r_icmp_ge (tg := 14) rfl rfl (fun q => False.elim (by have := i_nlt c1; have := i_rg c; have : (0 : Int32).toInt = 0 := rfl; have := i_eq ek2; have : (nI k2).toInt = ((k2 : Nat) : Int) := nI_toInt (by omega); have := i_nle c3; have : (24 : Int32).toInt = 24 := rfl; have := i_le q; omega)) (fun _ => ?_)
              refine r_ic (x := 1) rfl rfl ?_
              refine r_goto (tg := 15) rfl rfl ?_
              refine r_zret rfl (.inr rfl) ?_
              show WR _ cd_175 4 [some (.ref (ad 30)), some (.int c), some (.int i), some (.int d), none, none, none] [.int 1] (sI (sI (sI h (ad 0) 6 0) (ad 0) 6 (-14)) (ad 0) 6 (-14)) _
              refine r_if_eq (tg := 14) rfl rfl (fun q => absurd q (by decide)) (fun _ => ?_)
              refine r_iload rfl rfl ?_
              refine WR_tI (y := nI k5) ek5 ?_
              refine r_cs (y := 153) (ra := [.int (nI k5)]) (rest := []) rfl ⟨⟨rfl, rfl⟩, by decide⟩ rfl rfl (Nat.le_of_ble_eq_true rfl) ?_
              refine in_153 (Nat.le_of_ble_eq_true rfl) ?_
              show WR _ cd_153 0 [some (.int (nI k5))] [] (sI (sI (sI h (ad 0) 6 0) (ad 0) 6 (-14)) (ad 0) 6 (-14)) _
              refine r_iload rfl rfl ?_
              refine r_if_lt (tg := 14) rfl rfl (fun q => False.elim (by have := i_nlt c4; have := i_rg d; have : (0 : Int32).toInt = 0 := rfl; have := i_eq ek5; have : (nI k5).toInt = ((k5 : Nat) : Int) := nI_toInt (by omega); have := i_nle c6; have : (24 : Int32).toInt = 24 := rfl; have := i_lt q; omega)) (fun _ => ?_)
              refine r_iload rfl rfl ?_
              refine r_ic (x := 24) rfl rfl ?_
              refine r_icmp_ge (tg := 14) rfl rfl (fun q => False.elim (by have := i_nlt c4; have := i_rg d; have : (0 : Int32).toInt = 0 := rfl; have := i_eq ek5; have : (nI k5).toInt = ((k5 : Nat) : Int) := nI_toInt (by omega); have := i_nle c6; have : (24 : Int32).toInt = 24 := rfl; have := i_le q; omega)) (fun _ => ?_)
              refine r_ic (x := 1) rfl rfl ?_
              refine r_goto (tg := 15) rfl rfl ?_
              refine r_zret rfl (.inr rfl) ?_
              show WR _ cd_175 11 [some (.ref (ad 30)), some (.int c), some (.int i), some (.int d), none, none, none] [.int 1] (sI (sI (sI h (ad 0) 6 0) (ad 0) 6 (-14)) (ad 0) 6 (-14)) _
              refine r_if_ne (tg := 21) rfl rfl (fun _ => ?_) (fun q => absurd q (by decide))
              refine r_aload rfl rfl ?_
              refine r_getA (b := ad 31) rfl ⟨rfl, rfl, rfl⟩ (fx_t30 fx) (fx_r30_0 fx) ?_
              refine r_iload rfl rfl ?_
              refine WR_tI (y := nI k2) ek2 ?_
              refine r_iaload rfl (.inl (fx_t31 fx)) (vp_ct (fx_n31 fx) (vp_in_nI (by have := i_nlt c1; have := i_rg c; have : (0 : Int32).toInt = 0 := rfl; have := i_eq ek2; have : (nI k2).toInt = ((k2 : Nat) : Int) := nI_toInt (by omega); have := i_nle c3; have : (24 : Int32).toInt = 24 := rfl; omega) (by omega))) ?_
              refine WR_tI (congrArg (hI (sI (sI (sI h (ad 0) 6 0) (ad 0) 6 (-14)) (ad 0) 6 (-14)) (ad 31)) ((nI_clamp (by have := i_nlt c1; have := i_rg c; have : (0 : Int32).toInt = 0 := rfl; have := i_eq ek2; have : (nI k2).toInt = ((k2 : Nat) : Int) := nI_toInt (by omega); have := i_nle c3; have : (24 : Int32).toInt = 24 := rfl; omega)) : _ = k2)) ?_
              refine WR_tI (y := nI t8) (Eq.trans (I_ne (fx_ne fx (by decide))) (Eq.trans (I_ne (fx_ne fx (by decide))) (Eq.trans (I_ne (fx_ne fx (by decide))) v8))) ?_
              refine r_istore (lv' := [some (.ref (ad 30)), some (.int c), some (.int i), some (.int d), some (.int (nI t8)), none, none]) rfl (Nat.le_of_ble_eq_true rfl) rfl ?_
              refine r_aload rfl rfl ?_
              refine r_getA (b := ad 31) rfl ⟨rfl, rfl, rfl⟩ (fx_t30 fx) (fx_r30_0 fx) ?_
              refine r_iload rfl rfl ?_
              refine WR_tI (y := nI k5) ek5 ?_
              refine r_iaload rfl (.inl (fx_t31 fx)) (vp_ct (fx_n31 fx) (vp_in_nI (by have := i_nlt c4; have := i_rg d; have : (0 : Int32).toInt = 0 := rfl; have := i_eq ek5; have : (nI k5).toInt = ((k5 : Nat) : Int) := nI_toInt (by omega); have := i_nle c6; have : (24 : Int32).toInt = 24 := rfl; omega) (by omega))) ?_
              refine WR_tI (congrArg (hI (sI (sI (sI h (ad 0) 6 0) (ad 0) 6 (-14)) (ad 0) 6 (-14)) (ad 31)) ((nI_clamp (by have := i_nlt c4; have := i_rg d; have : (0 : Int32).toInt = 0 := rfl; have := i_eq ek5; have : (nI k5).toInt = ((k5 : Nat) : Int) := nI_toInt (by omega); have := i_nle c6; have : (24 : Int32).toInt = 24 := rfl; omega)) : _ = k5)) ?_
              refine WR_tI (y := (-1)) (Eq.trans (I_ne (fx_ne fx (by decide))) (Eq.trans (I_ne (fx_ne fx (by decide))) (Eq.trans (I_ne (fx_ne fx (by decide))) v7))) ?_
              refine r_istore (lv' := [some (.ref (ad 30)), some (.int c), some (.int i), some (.int d), some (.int (nI t8)), some (.int (-1)), none]) rfl (Nat.le_of_ble_eq_true rfl) rfl ?_
              refine r_iload rfl rfl ?_
              refine r_ic (x := (-1)) rfl rfl ?_
              refine r_icmp_eq (tg := 54) rfl rfl (fun q => False.elim (by have : (nI t8).toInt = ((t8 : Nat) : Int) := nI_toInt (by omega); have : (-1 : Int32).toInt = -1 := rfl; have := i_eq q; omega)) (fun _ => ?_)
              refine r_aload rfl rfl ?_
              refine r_iload rfl rfl ?_
              refine r_cv (y := 166) (ra := [.int (nI t8)]) (rest := []) rfl ⟨⟨rfl, rfl⟩, rfl, by decide⟩ (fx_t30 fx) rfl rfl (Nat.le_of_ble_eq_true rfl) ?_
              refine in_166 (Nat.le_of_ble_eq_true rfl) ?_
              show WR _ cd_166 0 [some (.ref (ad 30)), some (.int (nI t8))] [] (sI (sI (sI h (ad 0) 6 0) (ad 0) 6 (-14)) (ad 0) 6 (-14)) _
              refine r_iload rfl rfl ?_
              refine r_ic (x := (-1)) rfl rfl ?_
              refine r_icmp_ne (tg := 9) rfl rfl (fun _ => ?_) (fun q => False.elim (by have : (nI t8).toInt = ((t8 : Nat) : Int) := nI_toInt (by omega); have : (-1 : Int32).toInt = -1 := rfl; have := i_eq q; omega))
              refine r_iload rfl rfl ?_
              refine r_ic (x := 1000) rfl rfl ?_
              refine r_icmp_lt (tg := 21) rfl rfl (fun _ => ?_) (fun q => False.elim (by have : (nI t8).toInt = ((t8 : Nat) : Int) := nI_toInt (by omega); have : (1000 : Int32).toInt = 1000 := rfl; have := i_nlt q; omega))
              refine r_aload rfl rfl ?_
              refine r_getA (b := ad 33) rfl ⟨rfl, rfl, rfl⟩ (fx_t30 fx) (fx_r30_2 fx) ?_
              refine r_iload rfl rfl ?_
              refine r_iaload rfl (.inl (fx_t33 fx)) (vp_ct (fx_n33 fx) (vp_in_nI (by omega) (by omega))) ?_
              refine WR_tI (congrArg (hI (sI (sI (sI h (ad 0) 6 0) (ad 0) 6 (-14)) (ad 0) 6 (-14)) (ad 33)) ((nI_clamp (by omega)) : _ = t8)) ?_
              refine WR_tI (y := nI ln8) (Eq.trans (I_ne (fx_ne fx (by decide))) (Eq.trans (I_ne (fx_ne fx (by decide))) (Eq.trans (I_ne (fx_ne fx (by decide))) l2_8))) ?_
              refine r_iret rfl ?_
              show WR _ cd_175 49 [some (.ref (ad 30)), some (.int c), some (.int i), some (.int d), some (.int (nI t8)), some (.int (-1)), none] [.int (nI ln8)] (sI (sI (sI h (ad 0) 6 0) (ad 0) 6 (-14)) (ad 0) 6 (-14)) _
              refine r_ic (x := 8) rfl rfl ?_
              refine r_icmp_ne (tg := 70) rfl rfl (fun _ => ?_) (fun q => False.elim (by have : (nI ln8).toInt = ((ln8 : Nat) : Int) := nI_toInt (by omega); have : (8 : Int32).toInt = 8 := rfl; have := i_eq q; omega))
              refine r_aload rfl rfl ?_
              refine r_ic (x := 4) rfl rfl ?_
              refine r_cv (y := 156) (ra := [.int 4]) (rest := []) rfl ⟨⟨rfl, rfl⟩, rfl, by decide⟩ (fx_t30 fx) rfl rfl (Nat.le_of_ble_eq_true rfl) ?_
              refine in_156 (Nat.le_of_ble_eq_true rfl) ?_
              show WR _ cd_156 0 [some (.ref (ad 30)), some (.int 4)] [] (sI (sI (sI h (ad 0) 6 0) (ad 0) 6 (-14)) (ad 0) 6 (-14)) _
              refine r_aload rfl rfl ?_
              refine r_ic (x := (-10)) rfl rfl ?_
              refine r_iload rfl rfl ?_
              refine r_isub rfl ?_
              refine WR_tI (y := (-14)) rfl ?_
              refine r_cv (y := 154) (ra := [.int (-14)]) (rest := []) rfl ⟨⟨rfl, rfl⟩, rfl, by decide⟩ (fx_t30 fx) rfl rfl (Nat.le_of_ble_eq_true rfl) ?_
              refine in_154 (Nat.le_of_ble_eq_true rfl) ?_
              show WR _ cd_154 0 [some (.ref (ad 30)), some (.int (-14))] [] (sI (sI (sI h (ad 0) 6 0) (ad 0) 6 (-14)) (ad 0) 6 (-14)) _
              refine r_aload rfl rfl ?_
              refine r_iload rfl rfl ?_
              refine r_ic (x := (-1)) rfl rfl ?_
              refine r_icmp_ge (tg := 10) rfl rfl (fun q => absurd q (by decide)) (fun _ => ?_)
              refine r_iload rfl rfl ?_
              refine r_goto (tg := 11) rfl rfl ?_
              refine r_putI rfl ⟨rfl, rfl, rfl⟩ (fx_t30 fx) ?_
              have fx : FX n ad sa z0 (sI (sI (sI (sI h (ad 0) 6 0) (ad 0) 6 (-14)) (ad 0) 6 (-14)) (ad 30) 11 (-14)) := (FX.sI fx)
              refine r_iload rfl rfl ?_
              refine r_iret rfl ?_
              show WR _ cd_156 8 [some (.ref (ad 30)), some (.int 4)] [.int (-14)] (sI (sI (sI (sI h (ad 0) 6 0) (ad 0) 6 (-14)) (ad 0) 6 (-14)) (ad 30) 11 (-14)) _
              refine r_iret rfl ?_
              show WR _ cd_175 75 [some (.ref (ad 30)), some (.int c), some (.int i), some (.int d), some (.int (nI t8)), some (.int (-1)), none] [.int (-14)] (sI (sI (sI (sI h (ad 0) 6 0) (ad 0) 6 (-14)) (ad 0) 6 (-14)) (ad 30) 11 (-14)) _
              refine r_iret rfl ?_
              exact ⟨rfl, Rel.why r ((((Chg.rf.sI (fx_j fx) (.inl (by decide))).sI (fx_j fx) (.inl (by decide))).sI (fx_j fx) (.inl (by decide))).sI (fx_j fx) (.inl (by decide))) ⟨rfl, by decide⟩ (Eq.trans (Eq.trans (I_ne (fx_ne fx (by decide))) I_eq) (Eq.symm I_eq)), (by (try simp only [hZ_sI, hZ_sL, hZ_sD, hZ_sR]); omega), (by (try simp only [hU_sI, hU_sL, hU_sD, hU_sR]); omega)⟩
            · refine r_aaloadA (b := mid t8) rfl (isQ_of (fx_t1 fx) (by decide)) (vp_ct (fx_n1 fx) (vp_in_nI (by have := i_nlt c1; have := i_rg c; have : (0 : Int32).toInt = 0 := rfl; have := i_eq ek2; have : (nI k2).toInt = ((k2 : Nat) : Int) := nI_toInt (by omega); have := i_nle c3; have : (24 : Int32).toInt = 24 := rfl; omega) (by omega))) (Eq.trans (congrArg (hR (sI h (ad 0) 6 0) (ad 1)) ((nI_clamp (by have := i_nlt c1; have := i_rg c; have : (0 : Int32).toInt = 0 := rfl; have := i_eq ek2; have : (nI k2).toInt = ((k2 : Nat) : Int) := nI_toInt (by omega); have := i_nle c3; have : (24 : Int32).toInt = 24 := rfl; omega)) : _ = k2)) (Eq.trans R_oI w8)) ?_
              refine r_astore (lv' := [some (.ref (ad 0)), some (.int (nI k2)), some (.int 8), some (.ref (mid t8)), none]) rfl (Nat.le_of_ble_eq_true rfl) rfl ?_
              refine r_aload rfl rfl ?_
              refine r_instY rfl (by decide) tg8 ?_
              refine r_if_eq (tg := 32) rfl rfl (fun q => absurd q (by decide)) (fun _ => ?_)
              refine r_aload rfl rfl ?_
              refine r_cast rfl tg8 ?_
              refine r_astore (lv' := [some (.ref (ad 0)), some (.int (nI k2)), some (.int 8), some (.ref (mid t8)), some (.ref (mid t8))]) rfl (Nat.le_of_ble_eq_true rfl) rfl ?_
              refine r_aload rfl rfl ?_
              refine r_cv (y := 28) (ra := []) (rest := []) rfl ⟨⟨rfl, rfl⟩, rfl, by decide⟩ tg8 rfl rfl (Nat.le_of_ble_eq_true rfl) ?_
              refine in_28 (Nat.le_of_ble_eq_true rfl) ?_
              show WR _ cd_28 0 [some (.ref (mid t8))] [] (sI h (ad 0) 6 0) _
              refine r_aload rfl rfl ?_
              refine r_getI rfl ⟨rfl, rfl, rfl⟩ tg8 ?_
              refine WR_tI (y := (-1)) (Eq.trans (I_ne (dy_ad fx (.inl (by decide)) dz8)) k1_8) ?_
              refine r_ic (x := (-1)) rfl rfl ?_
              refine r_icmp_ne (tg := 13) rfl rfl (fun q => absurd q (by decide)) (fun _ => ?_)
              refine r_ic (x := 8) rfl rfl ?_
              refine r_goto (tg := 15) rfl rfl ?_
              refine r_iret rfl ?_
              show WR _ cd_43 25 [some (.ref (ad 0)), some (.int (nI k2)), some (.int 8), some (.ref (mid t8)), some (.ref (mid t8))] [.int 8] (sI h (ad 0) 6 0) _
              refine r_iload rfl rfl ?_
              refine r_icmp_ne (tg := 32) rfl rfl (fun q => absurd q (by decide)) (fun _ => ?_)
              refine r_aload rfl rfl ?_
              refine r_aret rfl ?_
              show WR _ cd_46 15 [some (.ref (ad 0)), some (.int (nI k2)), some (.int 8), some (.int i), some (.int (nI k5)), some (.int 3), some (.null), none] [.ref (mid t8)] (sI h (ad 0) 6 0) _
              refine r_astore (lv' := [some (.ref (ad 0)), some (.int (nI k2)), some (.int 8), some (.int i), some (.int (nI k5)), some (.int 3), some (.null), some (.ref (mid t8))]) rfl (Nat.le_of_ble_eq_true rfl) rfl ?_
              refine r_aload rfl rfl ?_
              refine r_getI rfl ⟨rfl, rfl, rfl⟩ (fx_t0 fx) ?_
              refine WR_tI (y := 0) I_eq ?_
              refine r_ic (x := (-14)) rfl rfl ?_
              refine r_icmp_eq (tg := 41) rfl rfl (fun q => absurd q (by decide)) (fun _ => ?_)
              refine r_aload0 rfl rfl ?_
              refine r_ifnullN (tg := 48) rfl rfl ?_
              refine r_aload rfl rfl ?_
              refine r_ifnonnullA (tg := 60) rfl rfl ?_
              refine r_aload rfl rfl ?_
              refine r_iload rfl rfl ?_
              refine r_ic (x := 1) rfl rfl ?_
              refine r_cv (y := 32) (ra := [.int 1, .int i]) (rest := []) rfl ⟨⟨rfl, rfl⟩, rfl, by decide⟩ tg8 rfl rfl (Nat.le_of_ble_eq_true rfl) ?_
              refine in_32 (Nat.le_of_ble_eq_true rfl) ?_
              show WR _ cd_32 0 [some (.ref (mid t8)), some (.int i), some (.int 1)] [] (sI h (ad 0) 6 0) _
              refine r_iload rfl rfl ?_
              refine r_if_lt (tg := 22) rfl rfl (fun c9 => ?_) (fun c9 => ?_)
              · refine r_ic (x := 0) rfl rfl ?_
                refine r_zret rfl (.inl rfl) ?_
                show WR _ cd_46 67 [some (.ref (ad 0)), some (.int (nI k2)), some (.int 8), some (.int i), some (.int (nI k5)), some (.int 3), some (.null), some (.ref (mid t8))] [.int 0] (sI h (ad 0) 6 0) _
                refine r_if_ne (tg := 77) rfl rfl (fun q => absurd q (by decide)) (fun _ => ?_)
                refine r_aload rfl rfl ?_
                refine r_ic (x := (-12)) rfl rfl ?_
                refine r_cv (y := 13) (ra := [.int (-12)]) (rest := []) rfl ⟨⟨rfl, rfl⟩, rfl, by decide⟩ (fx_t0 fx) rfl rfl (Nat.le_of_ble_eq_true rfl) ?_
                refine in_13 (Nat.le_of_ble_eq_true rfl) ?_
                show WR _ cd_13 0 [some (.ref (ad 0)), some (.int (-12))] [] (sI h (ad 0) 6 0) _
                refine r_aload rfl rfl ?_
                refine r_iload rfl rfl ?_
                refine r_putI rfl ⟨rfl, rfl, rfl⟩ (fx_t0 fx) ?_
                have fx : FX n ad sa z0 (sI (sI h (ad 0) 6 0) (ad 0) 6 (-12)) := (FX.sI fx)
                refine r_iload rfl rfl ?_
                refine r_iret rfl ?_
                show WR _ cd_46 76 [some (.ref (ad 0)), some (.int (nI k2)), some (.int 8), some (.int i), some (.int (nI k5)), some (.int 3), some (.null), some (.ref (mid t8))] [.int (-12)] (sI (sI h (ad 0) 6 0) (ad 0) 6 (-12)) _
                refine r_iret rfl ?_
                show WR _ cd_45 36 [some (.ref (ad 0)), some (.int c), some (.int i), some (.int d)] [.int (-12)] (sI (sI h (ad 0) 6 0) (ad 0) 6 (-12)) _
                refine r_iret rfl ?_
                show EV _ 175 [.ref (ad 30), .int c, .int i, .int d] (sI (sI h (ad 0) 6 0) (ad 0) 6 (-12)) _
                refine in_175 (Nat.le_of_ble_eq_true rfl) ?_
                show WR _ cd_175 0 [some (.ref (ad 30)), some (.int c), some (.int i), some (.int d), none, none, none] [] (sI (sI h (ad 0) 6 0) (ad 0) 6 (-12)) _
                refine r_iload rfl rfl ?_
                refine WR_tI (y := nI k2) ek2 ?_
                refine r_cs (y := 153) (ra := [.int (nI k2)]) (rest := []) rfl ⟨⟨rfl, rfl⟩, by decide⟩ rfl rfl (Nat.le_of_ble_eq_true rfl) ?_
                refine in_153 (Nat.le_of_ble_eq_true rfl) ?_
                show WR _ cd_153 0 [some (.int (nI k2))] [] (sI (sI h (ad 0) 6 0) (ad 0) 6 (-12)) _
                refine r_iload rfl rfl ?_
                refine r_if_lt (tg := 14) rfl rfl (fun q => False.elim (by have := i_nlt c1; have := i_rg c; have : (0 : Int32).toInt = 0 := rfl; have := i_eq ek2; have : (nI k2).toInt = ((k2 : Nat) : Int) := nI_toInt (by omega); have := i_nle c3; have : (24 : Int32).toInt = 24 := rfl; have := i_lt q; omega)) (fun _ => ?_)
                refine r_iload rfl rfl ?_
                refine r_ic (x := 24) rfl rfl ?_
                refine r_icmp_ge (tg := 14) rfl rfl (fun q => False.elim (by have := i_nlt c1; have := i_rg c; have : (0 : Int32).toInt = 0 := rfl; have := i_eq ek2; have : (nI k2).toInt = ((k2 : Nat) : Int) := nI_toInt (by omega); have := i_nle c3; have : (24 : Int32).toInt = 24 := rfl; have := i_le q; omega)) (fun _ => ?_)
                refine r_ic (x := 1) rfl rfl ?_
                refine r_goto (tg := 15) rfl rfl ?_
                refine r_zret rfl (.inr rfl) ?_
                show WR _ cd_175 4 [some (.ref (ad 30)), some (.int c), some (.int i), some (.int d), none, none, none] [.int 1] (sI (sI h (ad 0) 6 0) (ad 0) 6 (-12)) _
                refine r_if_eq (tg := 14) rfl rfl (fun q => absurd q (by decide)) (fun _ => ?_)
                refine r_iload rfl rfl ?_
                refine WR_tI (y := nI k5) ek5 ?_
                refine r_cs (y := 153) (ra := [.int (nI k5)]) (rest := []) rfl ⟨⟨rfl, rfl⟩, by decide⟩ rfl rfl (Nat.le_of_ble_eq_true rfl) ?_
                refine in_153 (Nat.le_of_ble_eq_true rfl) ?_
                show WR _ cd_153 0 [some (.int (nI k5))] [] (sI (sI h (ad 0) 6 0) (ad 0) 6 (-12)) _
                refine r_iload rfl rfl ?_
                refine r_if_lt (tg := 14) rfl rfl (fun q => False.elim (by have := i_nlt c4; have := i_rg d; have : (0 : Int32).toInt = 0 := rfl; have := i_eq ek5; have : (nI k5).toInt = ((k5 : Nat) : Int) := nI_toInt (by omega); have := i_nle c6; have : (24 : Int32).toInt = 24 := rfl; have := i_lt q; omega)) (fun _ => ?_)
                refine r_iload rfl rfl ?_
                refine r_ic (x := 24) rfl rfl ?_
                refine r_icmp_ge (tg := 14) rfl rfl (fun q => False.elim (by have := i_nlt c4; have := i_rg d; have : (0 : Int32).toInt = 0 := rfl; have := i_eq ek5; have : (nI k5).toInt = ((k5 : Nat) : Int) := nI_toInt (by omega); have := i_nle c6; have : (24 : Int32).toInt = 24 := rfl; have := i_le q; omega)) (fun _ => ?_)
                refine r_ic (x := 1) rfl rfl ?_
                refine r_goto (tg := 15) rfl rfl ?_
                refine r_zret rfl (.inr rfl) ?_
                show WR _ cd_175 11 [some (.ref (ad 30)), some (.int c), some (.int i), some (.int d), none, none, none] [.int 1] (sI (sI h (ad 0) 6 0) (ad 0) 6 (-12)) _
                refine r_if_ne (tg := 21) rfl rfl (fun _ => ?_) (fun q => absurd q (by decide))
                refine r_aload rfl rfl ?_
                refine r_getA (b := ad 31) rfl ⟨rfl, rfl, rfl⟩ (fx_t30 fx) (fx_r30_0 fx) ?_
                refine r_iload rfl rfl ?_
                refine WR_tI (y := nI k2) ek2 ?_
                refine r_iaload rfl (.inl (fx_t31 fx)) (vp_ct (fx_n31 fx) (vp_in_nI (by have := i_nlt c1; have := i_rg c; have : (0 : Int32).toInt = 0 := rfl; have := i_eq ek2; have : (nI k2).toInt = ((k2 : Nat) : Int) := nI_toInt (by omega); have := i_nle c3; have : (24 : Int32).toInt = 24 := rfl; omega) (by omega))) ?_
                refine WR_tI (congrArg (hI (sI (sI h (ad 0) 6 0) (ad 0) 6 (-12)) (ad 31)) ((nI_clamp (by have := i_nlt c1; have := i_rg c; have : (0 : Int32).toInt = 0 := rfl; have := i_eq ek2; have : (nI k2).toInt = ((k2 : Nat) : Int) := nI_toInt (by omega); have := i_nle c3; have : (24 : Int32).toInt = 24 := rfl; omega)) : _ = k2)) ?_
                refine WR_tI (y := nI t8) (Eq.trans (I_ne (fx_ne fx (by decide))) (Eq.trans (I_ne (fx_ne fx (by decide))) v8)) ?_
                refine r_istore (lv' := [some (.ref (ad 30)), some (.int c), some (.int i), some (.int d), some (.int (nI t8)), none, none]) rfl (Nat.le_of_ble_eq_true rfl) rfl ?_
                refine r_aload rfl rfl ?_
                refine r_getA (b := ad 31) rfl ⟨rfl, rfl, rfl⟩ (fx_t30 fx) (fx_r30_0 fx) ?_
                refine r_iload rfl rfl ?_
                refine WR_tI (y := nI k5) ek5 ?_
                refine r_iaload rfl (.inl (fx_t31 fx)) (vp_ct (fx_n31 fx) (vp_in_nI (by have := i_nlt c4; have := i_rg d; have : (0 : Int32).toInt = 0 := rfl; have := i_eq ek5; have : (nI k5).toInt = ((k5 : Nat) : Int) := nI_toInt (by omega); have := i_nle c6; have : (24 : Int32).toInt = 24 := rfl; omega) (by omega))) ?_
                refine WR_tI (congrArg (hI (sI (sI h (ad 0) 6 0) (ad 0) 6 (-12)) (ad 31)) ((nI_clamp (by have := i_nlt c4; have := i_rg d; have : (0 : Int32).toInt = 0 := rfl; have := i_eq ek5; have : (nI k5).toInt = ((k5 : Nat) : Int) := nI_toInt (by omega); have := i_nle c6; have : (24 : Int32).toInt = 24 := rfl; omega)) : _ = k5)) ?_
                refine WR_tI (y := (-1)) (Eq.trans (I_ne (fx_ne fx (by decide))) (Eq.trans (I_ne (fx_ne fx (by decide))) v7)) ?_
                refine r_istore (lv' := [some (.ref (ad 30)), some (.int c), some (.int i), some (.int d), some (.int (nI t8)), some (.int (-1)), none]) rfl (Nat.le_of_ble_eq_true rfl) rfl ?_
                refine r_iload rfl rfl ?_
                refine r_ic (x := (-1)) rfl rfl ?_
                refine r_icmp_eq (tg := 54) rfl rfl (fun q => False.elim (by have : (nI t8).toInt = ((t8 : Nat) : Int) := nI_toInt (by omega); have : (-1 : Int32).toInt = -1 := rfl; have := i_eq q; omega)) (fun _ => ?_)
                refine r_aload rfl rfl ?_
                refine r_iload rfl rfl ?_
                refine r_cv (y := 166) (ra := [.int (nI t8)]) (rest := []) rfl ⟨⟨rfl, rfl⟩, rfl, by decide⟩ (fx_t30 fx) rfl rfl (Nat.le_of_ble_eq_true rfl) ?_
                refine in_166 (Nat.le_of_ble_eq_true rfl) ?_
                show WR _ cd_166 0 [some (.ref (ad 30)), some (.int (nI t8))] [] (sI (sI h (ad 0) 6 0) (ad 0) 6 (-12)) _
                refine r_iload rfl rfl ?_
                refine r_ic (x := (-1)) rfl rfl ?_
                refine r_icmp_ne (tg := 9) rfl rfl (fun _ => ?_) (fun q => False.elim (by have : (nI t8).toInt = ((t8 : Nat) : Int) := nI_toInt (by omega); have : (-1 : Int32).toInt = -1 := rfl; have := i_eq q; omega))
                refine r_iload rfl rfl ?_
                refine r_ic (x := 1000) rfl rfl ?_
                refine r_icmp_lt (tg := 21) rfl rfl (fun _ => ?_) (fun q => False.elim (by have : (nI t8).toInt = ((t8 : Nat) : Int) := nI_toInt (by omega); have : (1000 : Int32).toInt = 1000 := rfl; have := i_nlt q; omega))
                refine r_aload rfl rfl ?_
                refine r_getA (b := ad 33) rfl ⟨rfl, rfl, rfl⟩ (fx_t30 fx) (fx_r30_2 fx) ?_
                refine r_iload rfl rfl ?_
                refine r_iaload rfl (.inl (fx_t33 fx)) (vp_ct (fx_n33 fx) (vp_in_nI (by omega) (by omega))) ?_
                refine WR_tI (congrArg (hI (sI (sI h (ad 0) 6 0) (ad 0) 6 (-12)) (ad 33)) ((nI_clamp (by omega)) : _ = t8)) ?_
                refine WR_tI (y := 8) (Eq.trans (I_ne (fx_ne fx (by decide))) (Eq.trans (I_ne (fx_ne fx (by decide))) l2_8)) ?_
                refine r_iret rfl ?_
                show WR _ cd_175 49 [some (.ref (ad 30)), some (.int c), some (.int i), some (.int d), some (.int (nI t8)), some (.int (-1)), none] [.int 8] (sI (sI h (ad 0) 6 0) (ad 0) 6 (-12)) _
                refine r_ic (x := 8) rfl rfl ?_
                refine r_icmp_ne (tg := 70) rfl rfl (fun q => absurd q (by decide)) (fun _ => ?_)
                refine r_iload rfl rfl ?_
                refine r_ic (x := (-1)) rfl rfl ?_
                refine r_icmp_eq (tg := 76) rfl rfl (fun _ => ?_) (fun q => absurd q (by decide))
                refine r_aload rfl rfl ?_
                refine r_iload rfl rfl ?_
                refine r_ic (x := 8) rfl rfl ?_
                refine r_iload rfl rfl ?_
                refine r_cv (y := 168) (ra := [.int i, .int 8, .int (nI t8)]) (rest := []) rfl ⟨⟨rfl, rfl⟩, rfl, by decide⟩ (fx_t30 fx) rfl rfl (Nat.le_of_ble_eq_true rfl) ?_
                refine in_168 (Nat.le_of_ble_eq_true rfl) ?_
                show WR _ cd_168 0 [some (.ref (ad 30)), some (.int (nI t8)), some (.int 8), some (.int i)] [] (sI (sI h (ad 0) 6 0) (ad 0) 6 (-12)) _
                refine r_iload rfl rfl ?_
                refine r_ic (x := (-1)) rfl rfl ?_
                refine r_icmp_eq (tg := 18) rfl rfl (fun q => False.elim (by have : (nI t8).toInt = ((t8 : Nat) : Int) := nI_toInt (by omega); have : (-1 : Int32).toInt = -1 := rfl; have := i_eq q; omega)) (fun _ => ?_)
                refine r_aload rfl rfl ?_
                refine r_iload rfl rfl ?_
                refine r_cv (y := 166) (ra := [.int (nI t8)]) (rest := []) rfl ⟨⟨rfl, rfl⟩, rfl, by decide⟩ (fx_t30 fx) rfl rfl (Nat.le_of_ble_eq_true rfl) ?_
                refine in_166 (Nat.le_of_ble_eq_true rfl) ?_
                show WR _ cd_166 0 [some (.ref (ad 30)), some (.int (nI t8))] [] (sI (sI h (ad 0) 6 0) (ad 0) 6 (-12)) _
                refine r_iload rfl rfl ?_
                refine r_ic (x := (-1)) rfl rfl ?_
                refine r_icmp_ne (tg := 9) rfl rfl (fun _ => ?_) (fun q => False.elim (by have : (nI t8).toInt = ((t8 : Nat) : Int) := nI_toInt (by omega); have : (-1 : Int32).toInt = -1 := rfl; have := i_eq q; omega))
                refine r_iload rfl rfl ?_
                refine r_ic (x := 1000) rfl rfl ?_
                refine r_icmp_lt (tg := 21) rfl rfl (fun _ => ?_) (fun q => False.elim (by have : (nI t8).toInt = ((t8 : Nat) : Int) := nI_toInt (by omega); have : (1000 : Int32).toInt = 1000 := rfl; have := i_nlt q; omega))
                refine r_aload rfl rfl ?_
                refine r_getA (b := ad 33) rfl ⟨rfl, rfl, rfl⟩ (fx_t30 fx) (fx_r30_2 fx) ?_
                refine r_iload rfl rfl ?_
                refine r_iaload rfl (.inl (fx_t33 fx)) (vp_ct (fx_n33 fx) (vp_in_nI (by omega) (by omega))) ?_
                refine WR_tI (congrArg (hI (sI (sI h (ad 0) 6 0) (ad 0) 6 (-12)) (ad 33)) ((nI_clamp (by omega)) : _ = t8)) ?_
                refine WR_tI (y := 8) (Eq.trans (I_ne (fx_ne fx (by decide))) (Eq.trans (I_ne (fx_ne fx (by decide))) l2_8)) ?_
                refine r_iret rfl ?_
                show WR _ cd_168 10 [some (.ref (ad 30)), some (.int (nI t8)), some (.int 8), some (.int i)] [.int 8] (sI (sI h (ad 0) 6 0) (ad 0) 6 (-12)) _
                refine r_iload rfl rfl ?_
                refine r_icmp_eq (tg := 18) rfl rfl (fun _ => ?_) (fun q => absurd q (by decide))
                refine r_iload rfl rfl ?_
                refine r_ic (x := (-1)) rfl rfl ?_
                refine r_icmp_ne (tg := 27) rfl rfl (fun _ => ?_) (fun q => False.elim (by have : (nI t8).toInt = ((t8 : Nat) : Int) := nI_toInt (by omega); have : (-1 : Int32).toInt = -1 := rfl; have := i_eq q; omega))
                refine r_iload rfl rfl ?_
                refine r_i2l rfl ?_
                refine r_lc (x := 0) rfl rfl ?_
                refine r_aload rfl rfl ?_
                refine r_getA (b := ad 35) rfl ⟨rfl, rfl, rfl⟩ (fx_t30 fx) (fx_r30_4 fx) ?_
                refine r_iload rfl rfl ?_
                refine r_iaload rfl (.inl (fx_t35 fx)) (vp_ct (fx_n35 fx) (vp_in_nI (by omega) (by omega))) ?_
                refine WR_tI (congrArg (hI (sI (sI h (ad 0) 6 0) (ad 0) 6 (-12)) (ad 35)) ((nI_clamp (by omega)) : _ = t8)) ?_
                refine WR_tI (y := nI sz8) (Eq.trans (I_ne (fx_ne fx (by decide))) (Eq.trans (I_ne (fx_ne fx (by decide))) sz_8)) ?_
                refine r_ic (x := 1) rfl rfl ?_
                refine r_isub rfl ?_
                refine r_i2l rfl ?_
                refine r_cs (y := 155) (ra := [.long (((nI sz8) - 1).toInt64), .long 0, .long i.toInt64]) (rest := []) rfl ⟨⟨rfl, rfl⟩, by decide⟩ rfl rfl (Nat.le_of_ble_eq_true rfl) ?_
                refine in_155 (Nat.le_of_ble_eq_true rfl) ?_
                show WR _ cd_155 0 [some (.long i.toInt64), none, some (.long 0), none, some (.long (((nI sz8) - 1).toInt64)), none] [] (sI (sI h (ad 0) 6 0) (ad 0) 6 (-12)) _
                refine r_lload rfl rfl ?_
                refine r_lload rfl rfl ?_
                refine r_lif_lt (tg := 17) rfl rfl rfl (fun _ => ?_) (fun q => False.elim (by have := i_lt c9; have := i_rg i; have : (0 : Int32).toInt = 0 := rfl; have := w_t i; have : (0 : Int64).toInt = 0 := rfl; have := l_nlt q; omega))
                refine r_ic (x := 0) rfl rfl ?_
                refine r_zret rfl (.inl rfl) ?_
                show WR _ cd_168 42 [some (.ref (ad 30)), some (.int (nI t8)), some (.int 8), some (.int i)] [.int 0] (sI (sI h (ad 0) 6 0) (ad 0) 6 (-12)) _
                refine r_if_ne (tg := 49) rfl rfl (fun q => absurd q (by decide)) (fun _ => ?_)
                refine r_ic (x := 2) rfl rfl ?_
                refine r_goto (tg := 50) rfl rfl ?_
                refine r_iret rfl ?_
                show WR _ cd_175 85 [some (.ref (ad 30)), some (.int c), some (.int i), some (.int d), some (.int (nI t8)), some (.int (-1)), none] [.int 2] (sI (sI h (ad 0) 6 0) (ad 0) 6 (-12)) _
                refine r_istore (lv' := [some (.ref (ad 30)), some (.int c), some (.int i), some (.int d), some (.int (nI t8)), some (.int (-1)), some (.int 2)]) rfl (Nat.le_of_ble_eq_true rfl) rfl ?_
                refine r_iload rfl rfl ?_
                refine r_if_le (tg := 99) rfl rfl (fun q => absurd q (by decide)) (fun _ => ?_)
                refine r_aload rfl rfl ?_
                refine r_iload rfl rfl ?_
                refine r_cv (y := 156) (ra := [.int 2]) (rest := []) rfl ⟨⟨rfl, rfl⟩, rfl, by decide⟩ (fx_t30 fx) rfl rfl (Nat.le_of_ble_eq_true rfl) ?_
                refine in_156 (Nat.le_of_ble_eq_true rfl) ?_
                show WR _ cd_156 0 [some (.ref (ad 30)), some (.int 2)] [] (sI (sI h (ad 0) 6 0) (ad 0) 6 (-12)) _
                refine r_aload rfl rfl ?_
                refine r_ic (x := (-10)) rfl rfl ?_
                refine r_iload rfl rfl ?_
                refine r_isub rfl ?_
                refine WR_tI (y := (-12)) rfl ?_
                refine r_cv (y := 154) (ra := [.int (-12)]) (rest := []) rfl ⟨⟨rfl, rfl⟩, rfl, by decide⟩ (fx_t30 fx) rfl rfl (Nat.le_of_ble_eq_true rfl) ?_
                refine in_154 (Nat.le_of_ble_eq_true rfl) ?_
                show WR _ cd_154 0 [some (.ref (ad 30)), some (.int (-12))] [] (sI (sI h (ad 0) 6 0) (ad 0) 6 (-12)) _
                refine r_aload rfl rfl ?_
                refine r_iload rfl rfl ?_
                refine r_ic (x := (-1)) rfl rfl ?_
                refine r_icmp_ge (tg := 10) rfl rfl (fun q => absurd q (by decide)) (fun _ => ?_)
                refine r_iload rfl rfl ?_
                refine r_goto (tg := 11) rfl rfl ?_
                refine r_putI rfl ⟨rfl, rfl, rfl⟩ (fx_t30 fx) ?_
                have fx : FX n ad sa z0 (sI (sI (sI h (ad 0) 6 0) (ad 0) 6 (-12)) (ad 30) 11 (-12)) := (FX.sI fx)
                refine r_iload rfl rfl ?_
                refine r_iret rfl ?_
                show WR _ cd_156 8 [some (.ref (ad 30)), some (.int 2)] [.int (-12)] (sI (sI (sI h (ad 0) 6 0) (ad 0) 6 (-12)) (ad 30) 11 (-12)) _
                refine r_iret rfl ?_
                show WR _ cd_175 98 [some (.ref (ad 30)), some (.int c), some (.int i), some (.int d), some (.int (nI t8)), some (.int (-1)), some (.int 2)] [.int (-12)] (sI (sI (sI h (ad 0) 6 0) (ad 0) 6 (-12)) (ad 30) 11 (-12)) _
                refine r_iret rfl ?_
                exact ⟨rfl, Rel.why r (((Chg.rf.sI (fx_j fx) (.inl (by decide))).sI (fx_j fx) (.inl (by decide))).sI (fx_j fx) (.inl (by decide))) ⟨rfl, by decide⟩ (Eq.trans (Eq.trans (I_ne (fx_ne fx (by decide))) I_eq) (Eq.symm I_eq)), (by (try simp only [hZ_sI, hZ_sL, hZ_sD, hZ_sR]); omega), (by (try simp only [hU_sI, hU_sL, hU_sD, hU_sR]); omega)⟩
              · refine r_iload rfl rfl ?_
                refine r_if_lt (tg := 22) rfl rfl (fun q => absurd q (by decide)) (fun _ => ?_)
                refine r_iload rfl rfl ?_
                refine r_aload rfl rfl ?_
                refine r_cw (y := 35) (ra := []) (rest := [.int 1]) rfl ⟨rfl, rfl⟩ (by rw [show hT (sI h (ad 0) 6 0) (mid t8) = 6 from tg8]; rfl) rfl rfl (Nat.le_of_ble_eq_true rfl) ?_
                refine in_35 (Nat.le_of_ble_eq_true rfl) ?_
                show WR _ cd_35 0 [some (.ref (mid t8))] [] (sI h (ad 0) 6 0) _
                refine r_aload rfl rfl ?_
                refine r_getA (b := mid t8 + 1) rfl ⟨rfl, rfl, rfl⟩ tg8 (Eq.trans R_oI r_8) ?_
                refine r_alen rfl (isA_of tg2_8 (by decide)) ?_
                refine WR_tI (y := nI sz8) (congrArg nI n_8) ?_
                refine r_iret rfl ?_
                show WR _ cd_32 13 [some (.ref (mid t8)), some (.int i), some (.int 1)] [.int (nI sz8), .int 1] (sI h (ad 0) 6 0) _
                obtain ⟨k10, hk10, ek10⟩ := ix_of (x := i) (n := 2147483648) (by have := i_nlt c9; have := i_rg i; have : (0 : Int32).toInt = 0 := rfl; omega) (by have := i_nlt c9; have := i_rg i; have : (0 : Int32).toInt = 0 := rfl; omega)
                refine r_iload rfl rfl ?_
                refine WR_tI (y := nI k10) ek10 ?_
                refine r_isub rfl ?_
                refine r_icmp_gt (tg := 22) rfl rfl (fun c11 => ?_) (fun c11 => ?_)
                · refine r_ic (x := 0) rfl rfl ?_
                  refine r_zret rfl (.inl rfl) ?_
                  show WR _ cd_46 67 [some (.ref (ad 0)), some (.int (nI k2)), some (.int 8), some (.int i), some (.int (nI k5)), some (.int 3), some (.null), some (.ref (mid t8))] [.int 0] (sI h (ad 0) 6 0) _
                  refine r_if_ne (tg := 77) rfl rfl (fun q => absurd q (by decide)) (fun _ => ?_)
                  refine r_aload rfl rfl ?_
                  refine r_ic (x := (-12)) rfl rfl ?_
                  refine r_cv (y := 13) (ra := [.int (-12)]) (rest := []) rfl ⟨⟨rfl, rfl⟩, rfl, by decide⟩ (fx_t0 fx) rfl rfl (Nat.le_of_ble_eq_true rfl) ?_
                  refine in_13 (Nat.le_of_ble_eq_true rfl) ?_
                  show WR _ cd_13 0 [some (.ref (ad 0)), some (.int (-12))] [] (sI h (ad 0) 6 0) _
                  refine r_aload rfl rfl ?_
                  refine r_iload rfl rfl ?_
                  refine r_putI rfl ⟨rfl, rfl, rfl⟩ (fx_t0 fx) ?_
                  have fx : FX n ad sa z0 (sI (sI h (ad 0) 6 0) (ad 0) 6 (-12)) := (FX.sI fx)
                  refine r_iload rfl rfl ?_
                  refine r_iret rfl ?_
                  show WR _ cd_46 76 [some (.ref (ad 0)), some (.int (nI k2)), some (.int 8), some (.int i), some (.int (nI k5)), some (.int 3), some (.null), some (.ref (mid t8))] [.int (-12)] (sI (sI h (ad 0) 6 0) (ad 0) 6 (-12)) _
                  refine r_iret rfl ?_
                  show WR _ cd_45 36 [some (.ref (ad 0)), some (.int c), some (.int i), some (.int d)] [.int (-12)] (sI (sI h (ad 0) 6 0) (ad 0) 6 (-12)) _
                  refine r_iret rfl ?_
                  show EV _ 175 [.ref (ad 30), .int c, .int i, .int d] (sI (sI h (ad 0) 6 0) (ad 0) 6 (-12)) _
                  refine in_175 (Nat.le_of_ble_eq_true rfl) ?_
                  show WR _ cd_175 0 [some (.ref (ad 30)), some (.int c), some (.int i), some (.int d), none, none, none] [] (sI (sI h (ad 0) 6 0) (ad 0) 6 (-12)) _
                  refine r_iload rfl rfl ?_
                  refine WR_tI (y := nI k2) ek2 ?_
                  refine r_cs (y := 153) (ra := [.int (nI k2)]) (rest := []) rfl ⟨⟨rfl, rfl⟩, by decide⟩ rfl rfl (Nat.le_of_ble_eq_true rfl) ?_
                  refine in_153 (Nat.le_of_ble_eq_true rfl) ?_
                  show WR _ cd_153 0 [some (.int (nI k2))] [] (sI (sI h (ad 0) 6 0) (ad 0) 6 (-12)) _
                  refine r_iload rfl rfl ?_
                  refine r_if_lt (tg := 14) rfl rfl (fun q => False.elim (by have := i_nlt c1; have := i_rg c; have : (0 : Int32).toInt = 0 := rfl; have := i_eq ek2; have : (nI k2).toInt = ((k2 : Nat) : Int) := nI_toInt (by omega); have := i_nle c3; have : (24 : Int32).toInt = 24 := rfl; have := i_lt q; omega)) (fun _ => ?_)
                  refine r_iload rfl rfl ?_
                  refine r_ic (x := 24) rfl rfl ?_
                  refine r_icmp_ge (tg := 14) rfl rfl (fun q => False.elim (by have := i_nlt c1; have := i_rg c; have : (0 : Int32).toInt = 0 := rfl; have := i_eq ek2; have : (nI k2).toInt = ((k2 : Nat) : Int) := nI_toInt (by omega); have := i_nle c3; have : (24 : Int32).toInt = 24 := rfl; have := i_le q; omega)) (fun _ => ?_)
                  refine r_ic (x := 1) rfl rfl ?_
                  refine r_goto (tg := 15) rfl rfl ?_
                  refine r_zret rfl (.inr rfl) ?_
                  show WR _ cd_175 4 [some (.ref (ad 30)), some (.int c), some (.int i), some (.int d), none, none, none] [.int 1] (sI (sI h (ad 0) 6 0) (ad 0) 6 (-12)) _
                  refine r_if_eq (tg := 14) rfl rfl (fun q => absurd q (by decide)) (fun _ => ?_)
                  refine r_iload rfl rfl ?_
                  refine WR_tI (y := nI k5) ek5 ?_
                  refine r_cs (y := 153) (ra := [.int (nI k5)]) (rest := []) rfl ⟨⟨rfl, rfl⟩, by decide⟩ rfl rfl (Nat.le_of_ble_eq_true rfl) ?_
                  refine in_153 (Nat.le_of_ble_eq_true rfl) ?_
                  show WR _ cd_153 0 [some (.int (nI k5))] [] (sI (sI h (ad 0) 6 0) (ad 0) 6 (-12)) _
                  refine r_iload rfl rfl ?_
                  refine r_if_lt (tg := 14) rfl rfl (fun q => False.elim (by have := i_nlt c4; have := i_rg d; have : (0 : Int32).toInt = 0 := rfl; have := i_eq ek5; have : (nI k5).toInt = ((k5 : Nat) : Int) := nI_toInt (by omega); have := i_nle c6; have : (24 : Int32).toInt = 24 := rfl; have := i_lt q; omega)) (fun _ => ?_)
                  refine r_iload rfl rfl ?_
                  refine r_ic (x := 24) rfl rfl ?_
                  refine r_icmp_ge (tg := 14) rfl rfl (fun q => False.elim (by have := i_nlt c4; have := i_rg d; have : (0 : Int32).toInt = 0 := rfl; have := i_eq ek5; have : (nI k5).toInt = ((k5 : Nat) : Int) := nI_toInt (by omega); have := i_nle c6; have : (24 : Int32).toInt = 24 := rfl; have := i_le q; omega)) (fun _ => ?_)
                  refine r_ic (x := 1) rfl rfl ?_
                  refine r_goto (tg := 15) rfl rfl ?_
                  refine r_zret rfl (.inr rfl) ?_
                  show WR _ cd_175 11 [some (.ref (ad 30)), some (.int c), some (.int i), some (.int d), none, none, none] [.int 1] (sI (sI h (ad 0) 6 0) (ad 0) 6 (-12)) _
                  refine r_if_ne (tg := 21) rfl rfl (fun _ => ?_) (fun q => absurd q (by decide))
                  refine r_aload rfl rfl ?_
                  refine r_getA (b := ad 31) rfl ⟨rfl, rfl, rfl⟩ (fx_t30 fx) (fx_r30_0 fx) ?_
                  refine r_iload rfl rfl ?_
                  refine WR_tI (y := nI k2) ek2 ?_
                  refine r_iaload rfl (.inl (fx_t31 fx)) (vp_ct (fx_n31 fx) (vp_in_nI (by have := i_nlt c1; have := i_rg c; have : (0 : Int32).toInt = 0 := rfl; have := i_eq ek2; have : (nI k2).toInt = ((k2 : Nat) : Int) := nI_toInt (by omega); have := i_nle c3; have : (24 : Int32).toInt = 24 := rfl; omega) (by omega))) ?_
                  refine WR_tI (congrArg (hI (sI (sI h (ad 0) 6 0) (ad 0) 6 (-12)) (ad 31)) ((nI_clamp (by have := i_nlt c1; have := i_rg c; have : (0 : Int32).toInt = 0 := rfl; have := i_eq ek2; have : (nI k2).toInt = ((k2 : Nat) : Int) := nI_toInt (by omega); have := i_nle c3; have : (24 : Int32).toInt = 24 := rfl; omega)) : _ = k2)) ?_
                  refine WR_tI (y := nI t8) (Eq.trans (I_ne (fx_ne fx (by decide))) (Eq.trans (I_ne (fx_ne fx (by decide))) v8)) ?_
                  refine r_istore (lv' := [some (.ref (ad 30)), some (.int c), some (.int i), some (.int d), some (.int (nI t8)), none, none]) rfl (Nat.le_of_ble_eq_true rfl) rfl ?_
                  refine r_aload rfl rfl ?_
                  refine r_getA (b := ad 31) rfl ⟨rfl, rfl, rfl⟩ (fx_t30 fx) (fx_r30_0 fx) ?_
                  refine r_iload rfl rfl ?_
                  refine WR_tI (y := nI k5) ek5 ?_
                  refine r_iaload rfl (.inl (fx_t31 fx)) (vp_ct (fx_n31 fx) (vp_in_nI (by have := i_nlt c4; have := i_rg d; have : (0 : Int32).toInt = 0 := rfl; have := i_eq ek5; have : (nI k5).toInt = ((k5 : Nat) : Int) := nI_toInt (by omega); have := i_nle c6; have : (24 : Int32).toInt = 24 := rfl; omega) (by omega))) ?_
                  refine WR_tI (congrArg (hI (sI (sI h (ad 0) 6 0) (ad 0) 6 (-12)) (ad 31)) ((nI_clamp (by have := i_nlt c4; have := i_rg d; have : (0 : Int32).toInt = 0 := rfl; have := i_eq ek5; have : (nI k5).toInt = ((k5 : Nat) : Int) := nI_toInt (by omega); have := i_nle c6; have : (24 : Int32).toInt = 24 := rfl; omega)) : _ = k5)) ?_
                  refine WR_tI (y := (-1)) (Eq.trans (I_ne (fx_ne fx (by decide))) (Eq.trans (I_ne (fx_ne fx (by decide))) v7)) ?_
                  refine r_istore (lv' := [some (.ref (ad 30)), some (.int c), some (.int i), some (.int d), some (.int (nI t8)), some (.int (-1)), none]) rfl (Nat.le_of_ble_eq_true rfl) rfl ?_
                  refine r_iload rfl rfl ?_
                  refine r_ic (x := (-1)) rfl rfl ?_
                  refine r_icmp_eq (tg := 54) rfl rfl (fun q => False.elim (by have : (nI t8).toInt = ((t8 : Nat) : Int) := nI_toInt (by omega); have : (-1 : Int32).toInt = -1 := rfl; have := i_eq q; omega)) (fun _ => ?_)
                  refine r_aload rfl rfl ?_
                  refine r_iload rfl rfl ?_
                  refine r_cv (y := 166) (ra := [.int (nI t8)]) (rest := []) rfl ⟨⟨rfl, rfl⟩, rfl, by decide⟩ (fx_t30 fx) rfl rfl (Nat.le_of_ble_eq_true rfl) ?_
                  refine in_166 (Nat.le_of_ble_eq_true rfl) ?_
                  show WR _ cd_166 0 [some (.ref (ad 30)), some (.int (nI t8))] [] (sI (sI h (ad 0) 6 0) (ad 0) 6 (-12)) _
                  refine r_iload rfl rfl ?_
                  refine r_ic (x := (-1)) rfl rfl ?_
                  refine r_icmp_ne (tg := 9) rfl rfl (fun _ => ?_) (fun q => False.elim (by have : (nI t8).toInt = ((t8 : Nat) : Int) := nI_toInt (by omega); have : (-1 : Int32).toInt = -1 := rfl; have := i_eq q; omega))
                  refine r_iload rfl rfl ?_
                  refine r_ic (x := 1000) rfl rfl ?_
                  refine r_icmp_lt (tg := 21) rfl rfl (fun _ => ?_) (fun q => False.elim (by have : (nI t8).toInt = ((t8 : Nat) : Int) := nI_toInt (by omega); have : (1000 : Int32).toInt = 1000 := rfl; have := i_nlt q; omega))
                  refine r_aload rfl rfl ?_
                  refine r_getA (b := ad 33) rfl ⟨rfl, rfl, rfl⟩ (fx_t30 fx) (fx_r30_2 fx) ?_
                  refine r_iload rfl rfl ?_
                  refine r_iaload rfl (.inl (fx_t33 fx)) (vp_ct (fx_n33 fx) (vp_in_nI (by omega) (by omega))) ?_
                  refine WR_tI (congrArg (hI (sI (sI h (ad 0) 6 0) (ad 0) 6 (-12)) (ad 33)) ((nI_clamp (by omega)) : _ = t8)) ?_
                  refine WR_tI (y := 8) (Eq.trans (I_ne (fx_ne fx (by decide))) (Eq.trans (I_ne (fx_ne fx (by decide))) l2_8)) ?_
                  refine r_iret rfl ?_
                  show WR _ cd_175 49 [some (.ref (ad 30)), some (.int c), some (.int i), some (.int d), some (.int (nI t8)), some (.int (-1)), none] [.int 8] (sI (sI h (ad 0) 6 0) (ad 0) 6 (-12)) _
                  refine r_ic (x := 8) rfl rfl ?_
                  refine r_icmp_ne (tg := 70) rfl rfl (fun q => absurd q (by decide)) (fun _ => ?_)
                  refine r_iload rfl rfl ?_
                  refine r_ic (x := (-1)) rfl rfl ?_
                  refine r_icmp_eq (tg := 76) rfl rfl (fun _ => ?_) (fun q => absurd q (by decide))
                  refine r_aload rfl rfl ?_
                  refine r_iload rfl rfl ?_
                  refine r_ic (x := 8) rfl rfl ?_
                  refine r_iload rfl rfl ?_
                  refine WR_tI (y := nI k10) ek10 ?_
                  refine r_cv (y := 168) (ra := [.int (nI k10), .int 8, .int (nI t8)]) (rest := []) rfl ⟨⟨rfl, rfl⟩, rfl, by decide⟩ (fx_t30 fx) rfl rfl (Nat.le_of_ble_eq_true rfl) ?_
                  refine in_168 (Nat.le_of_ble_eq_true rfl) ?_
                  show WR _ cd_168 0 [some (.ref (ad 30)), some (.int (nI t8)), some (.int 8), some (.int (nI k10))] [] (sI (sI h (ad 0) 6 0) (ad 0) 6 (-12)) _
                  refine r_iload rfl rfl ?_
                  refine r_ic (x := (-1)) rfl rfl ?_
                  refine r_icmp_eq (tg := 18) rfl rfl (fun q => False.elim (by have : (nI t8).toInt = ((t8 : Nat) : Int) := nI_toInt (by omega); have : (-1 : Int32).toInt = -1 := rfl; have := i_eq q; omega)) (fun _ => ?_)
                  refine r_aload rfl rfl ?_
                  refine r_iload rfl rfl ?_
                  refine r_cv (y := 166) (ra := [.int (nI t8)]) (rest := []) rfl ⟨⟨rfl, rfl⟩, rfl, by decide⟩ (fx_t30 fx) rfl rfl (Nat.le_of_ble_eq_true rfl) ?_
                  refine in_166 (Nat.le_of_ble_eq_true rfl) ?_
                  show WR _ cd_166 0 [some (.ref (ad 30)), some (.int (nI t8))] [] (sI (sI h (ad 0) 6 0) (ad 0) 6 (-12)) _
                  refine r_iload rfl rfl ?_
                  refine r_ic (x := (-1)) rfl rfl ?_
                  refine r_icmp_ne (tg := 9) rfl rfl (fun _ => ?_) (fun q => False.elim (by have : (nI t8).toInt = ((t8 : Nat) : Int) := nI_toInt (by omega); have : (-1 : Int32).toInt = -1 := rfl; have := i_eq q; omega))
                  refine r_iload rfl rfl ?_
                  refine r_ic (x := 1000) rfl rfl ?_
                  refine r_icmp_lt (tg := 21) rfl rfl (fun _ => ?_) (fun q => False.elim (by have : (nI t8).toInt = ((t8 : Nat) : Int) := nI_toInt (by omega); have : (1000 : Int32).toInt = 1000 := rfl; have := i_nlt q; omega))
                  refine r_aload rfl rfl ?_
                  refine r_getA (b := ad 33) rfl ⟨rfl, rfl, rfl⟩ (fx_t30 fx) (fx_r30_2 fx) ?_
                  refine r_iload rfl rfl ?_
                  refine r_iaload rfl (.inl (fx_t33 fx)) (vp_ct (fx_n33 fx) (vp_in_nI (by omega) (by omega))) ?_
                  refine WR_tI (congrArg (hI (sI (sI h (ad 0) 6 0) (ad 0) 6 (-12)) (ad 33)) ((nI_clamp (by omega)) : _ = t8)) ?_
                  refine WR_tI (y := 8) (Eq.trans (I_ne (fx_ne fx (by decide))) (Eq.trans (I_ne (fx_ne fx (by decide))) l2_8)) ?_
                  refine r_iret rfl ?_
                  show WR _ cd_168 10 [some (.ref (ad 30)), some (.int (nI t8)), some (.int 8), some (.int (nI k10))] [.int 8] (sI (sI h (ad 0) 6 0) (ad 0) 6 (-12)) _
                  refine r_iload rfl rfl ?_
                  refine r_icmp_eq (tg := 18) rfl rfl (fun _ => ?_) (fun q => absurd q (by decide))
                  refine r_iload rfl rfl ?_
                  refine r_ic (x := (-1)) rfl rfl ?_
                  refine r_icmp_ne (tg := 27) rfl rfl (fun _ => ?_) (fun q => False.elim (by have : (nI t8).toInt = ((t8 : Nat) : Int) := nI_toInt (by omega); have : (-1 : Int32).toInt = -1 := rfl; have := i_eq q; omega))
                  refine r_iload rfl rfl ?_
                  refine r_i2l rfl ?_
                  refine WR_tL (y := lN k10) (nI_l (by have := i_nlt c9; have := i_rg i; have : (0 : Int32).toInt = 0 := rfl; have := i_eq ek10; have : (nI k10).toInt = ((k10 : Nat) : Int) := nI_toInt (by omega); have := i_lt c11; have : (1 : Int32).toInt = 1 := rfl; have : (nI sz8).toInt = ((sz8 : Nat) : Int) := nI_toInt (by omega); have := sub_t (x := nI sz8) (y := nI k10) (by have := i_nlt c9; have := i_rg i; have : (0 : Int32).toInt = 0 := rfl; have := i_eq ek10; have : (nI k10).toInt = ((k10 : Nat) : Int) := nI_toInt (by omega); have : (nI sz8).toInt = ((sz8 : Nat) : Int) := nI_toInt (by omega); omega) (by have := i_nlt c9; have := i_rg i; have : (0 : Int32).toInt = 0 := rfl; have := i_eq ek10; have : (nI k10).toInt = ((k10 : Nat) : Int) := nI_toInt (by omega); have : (nI sz8).toInt = ((sz8 : Nat) : Int) := nI_toInt (by omega); omega); omega)) ?_
                  refine r_lc (x := 0) rfl rfl ?_
                  refine r_aload rfl rfl ?_
                  refine r_getA (b := ad 35) rfl ⟨rfl, rfl, rfl⟩ (fx_t30 fx) (fx_r30_4 fx) ?_
                  refine r_iload rfl rfl ?_
                  refine r_iaload rfl (.inl (fx_t35 fx)) (vp_ct (fx_n35 fx) (vp_in_nI (by omega) (by omega))) ?_
                  refine WR_tI (congrArg (hI (sI (sI h (ad 0) 6 0) (ad 0) 6 (-12)) (ad 35)) ((nI_clamp (by omega)) : _ = t8)) ?_
                  refine WR_tI (y := nI sz8) (Eq.trans (I_ne (fx_ne fx (by decide))) (Eq.trans (I_ne (fx_ne fx (by decide))) sz_8)) ?_
                  refine r_ic (x := 1) rfl rfl ?_
                  refine r_isub rfl ?_
                  refine r_i2l rfl ?_
                  refine r_cs (y := 155) (ra := [.long (((nI sz8) - 1).toInt64), .long 0, .long (lN k10)]) (rest := []) rfl ⟨⟨rfl, rfl⟩, by decide⟩ rfl rfl (Nat.le_of_ble_eq_true rfl) ?_
                  refine in_155 (Nat.le_of_ble_eq_true rfl) ?_
                  show WR _ cd_155 0 [some (.long (lN k10)), none, some (.long 0), none, some (.long (((nI sz8) - 1).toInt64)), none] [] (sI (sI h (ad 0) 6 0) (ad 0) 6 (-12)) _
                  refine r_lload rfl rfl ?_
                  refine r_lload rfl rfl ?_
                  refine r_lif_lt (tg := 17) rfl rfl rfl (fun q => False.elim (by have := i_nlt c9; have := i_rg i; have : (0 : Int32).toInt = 0 := rfl; have := i_eq ek10; have : (nI k10).toInt = ((k10 : Nat) : Int) := nI_toInt (by omega); have := i_lt c11; have : (1 : Int32).toInt = 1 := rfl; have : (nI sz8).toInt = ((sz8 : Nat) : Int) := nI_toInt (by omega); have := sub_t (x := nI sz8) (y := nI k10) (by have := i_nlt c9; have := i_rg i; have : (0 : Int32).toInt = 0 := rfl; have := i_eq ek10; have : (nI k10).toInt = ((k10 : Nat) : Int) := nI_toInt (by omega); have : (nI sz8).toInt = ((sz8 : Nat) : Int) := nI_toInt (by omega); omega) (by have := i_nlt c9; have := i_rg i; have : (0 : Int32).toInt = 0 := rfl; have := i_eq ek10; have : (nI k10).toInt = ((k10 : Nat) : Int) := nI_toInt (by omega); have : (nI sz8).toInt = ((sz8 : Nat) : Int) := nI_toInt (by omega); omega); have : (lN k10).toInt = ((k10 : Nat) : Int) := lN_toInt (by omega); have : (0 : Int64).toInt = 0 := rfl; have := l_lt q; omega)) (fun _ => ?_)
                  refine r_lload rfl rfl ?_
                  refine r_lload rfl rfl ?_
                  refine r_lif_gt (tg := 17) rfl rfl rfl (fun _ => ?_) (fun q => False.elim (by have := i_nlt c9; have := i_rg i; have : (0 : Int32).toInt = 0 := rfl; have := i_eq ek10; have : (nI k10).toInt = ((k10 : Nat) : Int) := nI_toInt (by omega); have := i_lt c11; have : (1 : Int32).toInt = 1 := rfl; have : (nI sz8).toInt = ((sz8 : Nat) : Int) := nI_toInt (by omega); have := sub_t (x := nI sz8) (y := nI k10) (by have := i_nlt c9; have := i_rg i; have : (0 : Int32).toInt = 0 := rfl; have := i_eq ek10; have : (nI k10).toInt = ((k10 : Nat) : Int) := nI_toInt (by omega); have : (nI sz8).toInt = ((sz8 : Nat) : Int) := nI_toInt (by omega); omega) (by have := i_nlt c9; have := i_rg i; have : (0 : Int32).toInt = 0 := rfl; have := i_eq ek10; have : (nI k10).toInt = ((k10 : Nat) : Int) := nI_toInt (by omega); have : (nI sz8).toInt = ((sz8 : Nat) : Int) := nI_toInt (by omega); omega); have : (lN k10).toInt = ((k10 : Nat) : Int) := lN_toInt (by omega); have := sub_t (x := nI sz8) (y := 1) (by have := i_nlt c9; have := i_rg i; have : (0 : Int32).toInt = 0 := rfl; have := i_eq ek10; have : (nI k10).toInt = ((k10 : Nat) : Int) := nI_toInt (by omega); have := i_lt c11; have : (1 : Int32).toInt = 1 := rfl; have : (nI sz8).toInt = ((sz8 : Nat) : Int) := nI_toInt (by omega); have := sub_t (x := nI sz8) (y := nI k10) (by have := i_nlt c9; have := i_rg i; have : (0 : Int32).toInt = 0 := rfl; have := i_eq ek10; have : (nI k10).toInt = ((k10 : Nat) : Int) := nI_toInt (by omega); have : (nI sz8).toInt = ((sz8 : Nat) : Int) := nI_toInt (by omega); omega) (by have := i_nlt c9; have := i_rg i; have : (0 : Int32).toInt = 0 := rfl; have := i_eq ek10; have : (nI k10).toInt = ((k10 : Nat) : Int) := nI_toInt (by omega); have : (nI sz8).toInt = ((sz8 : Nat) : Int) := nI_toInt (by omega); omega); omega) (by have := i_nlt c9; have := i_rg i; have : (0 : Int32).toInt = 0 := rfl; have := i_eq ek10; have : (nI k10).toInt = ((k10 : Nat) : Int) := nI_toInt (by omega); have := i_lt c11; have : (1 : Int32).toInt = 1 := rfl; have : (nI sz8).toInt = ((sz8 : Nat) : Int) := nI_toInt (by omega); have := sub_t (x := nI sz8) (y := nI k10) (by have := i_nlt c9; have := i_rg i; have : (0 : Int32).toInt = 0 := rfl; have := i_eq ek10; have : (nI k10).toInt = ((k10 : Nat) : Int) := nI_toInt (by omega); have : (nI sz8).toInt = ((sz8 : Nat) : Int) := nI_toInt (by omega); omega) (by have := i_nlt c9; have := i_rg i; have : (0 : Int32).toInt = 0 := rfl; have := i_eq ek10; have : (nI k10).toInt = ((k10 : Nat) : Int) := nI_toInt (by omega); have : (nI sz8).toInt = ((sz8 : Nat) : Int) := nI_toInt (by omega); omega); omega); have := w_t ((nI sz8) - 1); have := l_nlt q; omega))
                  refine r_ic (x := 0) rfl rfl ?_
                  refine r_zret rfl (.inl rfl) ?_
                  show WR _ cd_168 42 [some (.ref (ad 30)), some (.int (nI t8)), some (.int 8), some (.int (nI k10))] [.int 0] (sI (sI h (ad 0) 6 0) (ad 0) 6 (-12)) _
                  refine r_if_ne (tg := 49) rfl rfl (fun q => absurd q (by decide)) (fun _ => ?_)
                  refine r_ic (x := 2) rfl rfl ?_
                  refine r_goto (tg := 50) rfl rfl ?_
                  refine r_iret rfl ?_
                  show WR _ cd_175 85 [some (.ref (ad 30)), some (.int c), some (.int i), some (.int d), some (.int (nI t8)), some (.int (-1)), none] [.int 2] (sI (sI h (ad 0) 6 0) (ad 0) 6 (-12)) _
                  refine r_istore (lv' := [some (.ref (ad 30)), some (.int c), some (.int i), some (.int d), some (.int (nI t8)), some (.int (-1)), some (.int 2)]) rfl (Nat.le_of_ble_eq_true rfl) rfl ?_
                  refine r_iload rfl rfl ?_
                  refine r_if_le (tg := 99) rfl rfl (fun q => absurd q (by decide)) (fun _ => ?_)
                  refine r_aload rfl rfl ?_
                  refine r_iload rfl rfl ?_
                  refine r_cv (y := 156) (ra := [.int 2]) (rest := []) rfl ⟨⟨rfl, rfl⟩, rfl, by decide⟩ (fx_t30 fx) rfl rfl (Nat.le_of_ble_eq_true rfl) ?_
                  refine in_156 (Nat.le_of_ble_eq_true rfl) ?_
                  show WR _ cd_156 0 [some (.ref (ad 30)), some (.int 2)] [] (sI (sI h (ad 0) 6 0) (ad 0) 6 (-12)) _
                  refine r_aload rfl rfl ?_
                  refine r_ic (x := (-10)) rfl rfl ?_
                  refine r_iload rfl rfl ?_
                  refine r_isub rfl ?_
                  refine WR_tI (y := (-12)) rfl ?_
                  refine r_cv (y := 154) (ra := [.int (-12)]) (rest := []) rfl ⟨⟨rfl, rfl⟩, rfl, by decide⟩ (fx_t30 fx) rfl rfl (Nat.le_of_ble_eq_true rfl) ?_
                  refine in_154 (Nat.le_of_ble_eq_true rfl) ?_
                  show WR _ cd_154 0 [some (.ref (ad 30)), some (.int (-12))] [] (sI (sI h (ad 0) 6 0) (ad 0) 6 (-12)) _
                  refine r_aload rfl rfl ?_
                  refine r_iload rfl rfl ?_
                  refine r_ic (x := (-1)) rfl rfl ?_
                  refine r_icmp_ge (tg := 10) rfl rfl (fun q => absurd q (by decide)) (fun _ => ?_)
                  refine r_iload rfl rfl ?_
                  refine r_goto (tg := 11) rfl rfl ?_
                  refine r_putI rfl ⟨rfl, rfl, rfl⟩ (fx_t30 fx) ?_
                  have fx : FX n ad sa z0 (sI (sI (sI h (ad 0) 6 0) (ad 0) 6 (-12)) (ad 30) 11 (-12)) := (FX.sI fx)
                  refine r_iload rfl rfl ?_
                  refine r_iret rfl ?_
                  show WR _ cd_156 8 [some (.ref (ad 30)), some (.int 2)] [.int (-12)] (sI (sI (sI h (ad 0) 6 0) (ad 0) 6 (-12)) (ad 30) 11 (-12)) _
                  refine r_iret rfl ?_
                  show WR _ cd_175 98 [some (.ref (ad 30)), some (.int c), some (.int i), some (.int d), some (.int (nI t8)), some (.int (-1)), some (.int 2)] [.int (-12)] (sI (sI (sI h (ad 0) 6 0) (ad 0) 6 (-12)) (ad 30) 11 (-12)) _
                  refine r_iret rfl ?_
                  exact ⟨rfl, Rel.why r (((Chg.rf.sI (fx_j fx) (.inl (by decide))).sI (fx_j fx) (.inl (by decide))).sI (fx_j fx) (.inl (by decide))) ⟨rfl, by decide⟩ (Eq.trans (Eq.trans (I_ne (fx_ne fx (by decide))) I_eq) (Eq.symm I_eq)), (by (try simp only [hZ_sI, hZ_sL, hZ_sD, hZ_sR]); omega), (by (try simp only [hU_sI, hU_sL, hU_sD, hU_sR]); omega)⟩
                · refine r_ic (x := 1) rfl rfl ?_
                  refine r_goto (tg := 23) rfl rfl ?_
                  refine r_zret rfl (.inr rfl) ?_
                  show WR _ cd_46 67 [some (.ref (ad 0)), some (.int (nI k2)), some (.int 8), some (.int i), some (.int (nI k5)), some (.int 3), some (.null), some (.ref (mid t8))] [.int 1] (sI h (ad 0) 6 0) _
                  refine r_if_ne (tg := 77) rfl rfl (fun _ => ?_) (fun q => absurd q (by decide))
                  refine r_aload rfl rfl ?_
                  refine r_aload0 rfl rfl ?_
                  refine r_cv (y := 47) (ra := [.null]) (rest := []) rfl ⟨⟨rfl, rfl⟩, rfl, by decide⟩ tg8 rfl rfl (Nat.le_of_ble_eq_true rfl) ?_
                  refine in_47 (Nat.le_of_ble_eq_true rfl) ?_
                  show WR _ cd_47 0 [some (.ref (mid t8)), some (.null), none] [] (sI h (ad 0) 6 0) _
                  refine r_aload0 rfl rfl ?_
                  refine r_ifnonnullN (tg := 6) rfl rfl ?_
                  refine r_ic (x := 1) rfl rfl ?_
                  refine r_zret rfl (.inr rfl) ?_
                  show WR _ cd_46 84 [some (.ref (ad 0)), some (.int (nI k2)), some (.int 8), some (.int i), some (.int (nI k5)), some (.int 3), some (.null), some (.ref (mid t8))] [.int 1] (sI h (ad 0) 6 0) _
                  refine r_if_ne (tg := 94) rfl rfl (fun _ => ?_) (fun q => absurd q (by decide))
                  refine r_aload rfl rfl ?_
                  refine r_getA (b := mid t8 + 1) rfl ⟨rfl, rfl, rfl⟩ tg8 (Eq.trans R_oI r_8) ?_
                  refine r_iload rfl rfl ?_
                  refine WR_tI (y := nI k10) ek10 ?_
                  refine r_aload0 rfl rfl ?_
                  refine r_aastore0 rfl (isQ_of tg2_8 (by decide)) (vp_ct n_8 (vp_in_nI (by have := i_nlt c9; have := i_rg i; have : (0 : Int32).toInt = 0 := rfl; have := i_eq ek10; have : (nI k10).toInt = ((k10 : Nat) : Int) := nI_toInt (by omega); have := i_nlt c11; have : (1 : Int32).toInt = 1 := rfl; have : (nI sz8).toInt = ((sz8 : Nat) : Int) := nI_toInt (by omega); have := sub_t (x := nI sz8) (y := nI k10) (by have := i_nlt c9; have := i_rg i; have : (0 : Int32).toInt = 0 := rfl; have := i_eq ek10; have : (nI k10).toInt = ((k10 : Nat) : Int) := nI_toInt (by omega); have : (nI sz8).toInt = ((sz8 : Nat) : Int) := nI_toInt (by omega); omega) (by have := i_nlt c9; have := i_rg i; have : (0 : Int32).toInt = 0 := rfl; have := i_eq ek10; have : (nI k10).toInt = ((k10 : Nat) : Int) := nI_toInt (by omega); have : (nI sz8).toInt = ((sz8 : Nat) : Int) := nI_toInt (by omega); omega); omega) (by omega))) (fun _ q => by cases q) ?_
                  refine WR_h (h2 := sR (sI h (ad 0) 6 0) (mid t8 + 1) k10 none) (congrArg (fun z => sR (sI h (ad 0) 6 0) (mid t8 + 1) z none) ((nI_clamp (by have := i_nlt c9; have := i_rg i; have : (0 : Int32).toInt = 0 := rfl; have := i_eq ek10; have : (nI k10).toInt = ((k10 : Nat) : Int) := nI_toInt (by omega); have := i_nlt c11; have : (1 : Int32).toInt = 1 := rfl; have : (nI sz8).toInt = ((sz8 : Nat) : Int) := nI_toInt (by omega); have := sub_t (x := nI sz8) (y := nI k10) (by have := i_nlt c9; have := i_rg i; have : (0 : Int32).toInt = 0 := rfl; have := i_eq ek10; have : (nI k10).toInt = ((k10 : Nat) : Int) := nI_toInt (by omega); have : (nI sz8).toInt = ((sz8 : Nat) : Int) := nI_toInt (by omega); omega) (by have := i_nlt c9; have := i_rg i; have : (0 : Int32).toInt = 0 := rfl; have := i_eq ek10; have : (nI k10).toInt = ((k10 : Nat) : Int) := nI_toInt (by omega); have : (nI sz8).toInt = ((sz8 : Nat) : Int) := nI_toInt (by omega); omega); omega)) : _ = k10)) ?_
                  have fx : FX n ad sa z0 (sR (sI h (ad 0) 6 0) (mid t8 + 1) k10 none) := FX.dyR fx (Nat.le_succ_of_le dz8)
                  refine r_ic (x := 1) rfl rfl ?_
                  refine r_iret rfl ?_
                  show WR _ cd_45 36 [some (.ref (ad 0)), some (.int c), some (.int i), some (.int d)] [.int 1] (sR (sI h (ad 0) 6 0) (mid t8 + 1) k10 none) _
                  refine r_iret rfl ?_
                  show EV _ 175 [.ref (ad 30), .int c, .int i, .int d] (sR (sI h (ad 0) 6 0) (mid t8 + 1) k10 none) _
                  refine in_175 (Nat.le_of_ble_eq_true rfl) ?_
                  show WR _ cd_175 0 [some (.ref (ad 30)), some (.int c), some (.int i), some (.int d), none, none, none] [] (sR (sI h (ad 0) 6 0) (mid t8 + 1) k10 none) _
                  refine r_iload rfl rfl ?_
                  refine WR_tI (y := nI k2) ek2 ?_
                  refine r_cs (y := 153) (ra := [.int (nI k2)]) (rest := []) rfl ⟨⟨rfl, rfl⟩, by decide⟩ rfl rfl (Nat.le_of_ble_eq_true rfl) ?_
                  refine in_153 (Nat.le_of_ble_eq_true rfl) ?_
                  show WR _ cd_153 0 [some (.int (nI k2))] [] (sR (sI h (ad 0) 6 0) (mid t8 + 1) k10 none) _
                  refine r_iload rfl rfl ?_
                  refine r_if_lt (tg := 14) rfl rfl (fun q => False.elim (by have := i_nlt c1; have := i_rg c; have : (0 : Int32).toInt = 0 := rfl; have := i_eq ek2; have : (nI k2).toInt = ((k2 : Nat) : Int) := nI_toInt (by omega); have := i_nle c3; have : (24 : Int32).toInt = 24 := rfl; have := i_lt q; omega)) (fun _ => ?_)
                  refine r_iload rfl rfl ?_
                  refine r_ic (x := 24) rfl rfl ?_
                  refine r_icmp_ge (tg := 14) rfl rfl (fun q => False.elim (by have := i_nlt c1; have := i_rg c; have : (0 : Int32).toInt = 0 := rfl; have := i_eq ek2; have : (nI k2).toInt = ((k2 : Nat) : Int) := nI_toInt (by omega); have := i_nle c3; have : (24 : Int32).toInt = 24 := rfl; have := i_le q; omega)) (fun _ => ?_)
                  refine r_ic (x := 1) rfl rfl ?_
                  refine r_goto (tg := 15) rfl rfl ?_
                  refine r_zret rfl (.inr rfl) ?_
                  show WR _ cd_175 4 [some (.ref (ad 30)), some (.int c), some (.int i), some (.int d), none, none, none] [.int 1] (sR (sI h (ad 0) 6 0) (mid t8 + 1) k10 none) _
                  refine r_if_eq (tg := 14) rfl rfl (fun q => absurd q (by decide)) (fun _ => ?_)
                  refine r_iload rfl rfl ?_
                  refine WR_tI (y := nI k5) ek5 ?_
                  refine r_cs (y := 153) (ra := [.int (nI k5)]) (rest := []) rfl ⟨⟨rfl, rfl⟩, by decide⟩ rfl rfl (Nat.le_of_ble_eq_true rfl) ?_
                  refine in_153 (Nat.le_of_ble_eq_true rfl) ?_
                  show WR _ cd_153 0 [some (.int (nI k5))] [] (sR (sI h (ad 0) 6 0) (mid t8 + 1) k10 none) _
                  refine r_iload rfl rfl ?_
                  refine r_if_lt (tg := 14) rfl rfl (fun q => False.elim (by have := i_nlt c4; have := i_rg d; have : (0 : Int32).toInt = 0 := rfl; have := i_eq ek5; have : (nI k5).toInt = ((k5 : Nat) : Int) := nI_toInt (by omega); have := i_nle c6; have : (24 : Int32).toInt = 24 := rfl; have := i_lt q; omega)) (fun _ => ?_)
                  refine r_iload rfl rfl ?_
                  refine r_ic (x := 24) rfl rfl ?_
                  refine r_icmp_ge (tg := 14) rfl rfl (fun q => False.elim (by have := i_nlt c4; have := i_rg d; have : (0 : Int32).toInt = 0 := rfl; have := i_eq ek5; have : (nI k5).toInt = ((k5 : Nat) : Int) := nI_toInt (by omega); have := i_nle c6; have : (24 : Int32).toInt = 24 := rfl; have := i_le q; omega)) (fun _ => ?_)
                  refine r_ic (x := 1) rfl rfl ?_
                  refine r_goto (tg := 15) rfl rfl ?_
                  refine r_zret rfl (.inr rfl) ?_
                  show WR _ cd_175 11 [some (.ref (ad 30)), some (.int c), some (.int i), some (.int d), none, none, none] [.int 1] (sR (sI h (ad 0) 6 0) (mid t8 + 1) k10 none) _
                  refine r_if_ne (tg := 21) rfl rfl (fun _ => ?_) (fun q => absurd q (by decide))
                  refine r_aload rfl rfl ?_
                  refine r_getA (b := ad 31) rfl ⟨rfl, rfl, rfl⟩ (fx_t30 fx) (fx_r30_0 fx) ?_
                  refine r_iload rfl rfl ?_
                  refine WR_tI (y := nI k2) ek2 ?_
                  refine r_iaload rfl (.inl (fx_t31 fx)) (vp_ct (fx_n31 fx) (vp_in_nI (by have := i_nlt c1; have := i_rg c; have : (0 : Int32).toInt = 0 := rfl; have := i_eq ek2; have : (nI k2).toInt = ((k2 : Nat) : Int) := nI_toInt (by omega); have := i_nle c3; have : (24 : Int32).toInt = 24 := rfl; omega) (by omega))) ?_
                  refine WR_tI (congrArg (hI (sR (sI h (ad 0) 6 0) (mid t8 + 1) k10 none) (ad 31)) ((nI_clamp (by have := i_nlt c1; have := i_rg c; have : (0 : Int32).toInt = 0 := rfl; have := i_eq ek2; have : (nI k2).toInt = ((k2 : Nat) : Int) := nI_toInt (by omega); have := i_nle c3; have : (24 : Int32).toInt = 24 := rfl; omega)) : _ = k2)) ?_
                  refine WR_tI (y := nI t8) (Eq.trans I_oR (Eq.trans (I_ne (fx_ne fx (by decide))) v8)) ?_
                  refine r_istore (lv' := [some (.ref (ad 30)), some (.int c), some (.int i), some (.int d), some (.int (nI t8)), none, none]) rfl (Nat.le_of_ble_eq_true rfl) rfl ?_
                  refine r_aload rfl rfl ?_
                  refine r_getA (b := ad 31) rfl ⟨rfl, rfl, rfl⟩ (fx_t30 fx) (fx_r30_0 fx) ?_
                  refine r_iload rfl rfl ?_
                  refine WR_tI (y := nI k5) ek5 ?_
                  refine r_iaload rfl (.inl (fx_t31 fx)) (vp_ct (fx_n31 fx) (vp_in_nI (by have := i_nlt c4; have := i_rg d; have : (0 : Int32).toInt = 0 := rfl; have := i_eq ek5; have : (nI k5).toInt = ((k5 : Nat) : Int) := nI_toInt (by omega); have := i_nle c6; have : (24 : Int32).toInt = 24 := rfl; omega) (by omega))) ?_
                  refine WR_tI (congrArg (hI (sR (sI h (ad 0) 6 0) (mid t8 + 1) k10 none) (ad 31)) ((nI_clamp (by have := i_nlt c4; have := i_rg d; have : (0 : Int32).toInt = 0 := rfl; have := i_eq ek5; have : (nI k5).toInt = ((k5 : Nat) : Int) := nI_toInt (by omega); have := i_nle c6; have : (24 : Int32).toInt = 24 := rfl; omega)) : _ = k5)) ?_
                  refine WR_tI (y := (-1)) (Eq.trans I_oR (Eq.trans (I_ne (fx_ne fx (by decide))) v7)) ?_
                  refine r_istore (lv' := [some (.ref (ad 30)), some (.int c), some (.int i), some (.int d), some (.int (nI t8)), some (.int (-1)), none]) rfl (Nat.le_of_ble_eq_true rfl) rfl ?_
                  refine r_iload rfl rfl ?_
                  refine r_ic (x := (-1)) rfl rfl ?_
                  refine r_icmp_eq (tg := 54) rfl rfl (fun q => False.elim (by have : (nI t8).toInt = ((t8 : Nat) : Int) := nI_toInt (by omega); have : (-1 : Int32).toInt = -1 := rfl; have := i_eq q; omega)) (fun _ => ?_)
                  refine r_aload rfl rfl ?_
                  refine r_iload rfl rfl ?_
                  refine r_cv (y := 166) (ra := [.int (nI t8)]) (rest := []) rfl ⟨⟨rfl, rfl⟩, rfl, by decide⟩ (fx_t30 fx) rfl rfl (Nat.le_of_ble_eq_true rfl) ?_
                  refine in_166 (Nat.le_of_ble_eq_true rfl) ?_
                  show WR _ cd_166 0 [some (.ref (ad 30)), some (.int (nI t8))] [] (sR (sI h (ad 0) 6 0) (mid t8 + 1) k10 none) _
                  refine r_iload rfl rfl ?_
                  refine r_ic (x := (-1)) rfl rfl ?_
                  refine r_icmp_ne (tg := 9) rfl rfl (fun _ => ?_) (fun q => False.elim (by have : (nI t8).toInt = ((t8 : Nat) : Int) := nI_toInt (by omega); have : (-1 : Int32).toInt = -1 := rfl; have := i_eq q; omega))
                  refine r_iload rfl rfl ?_
                  refine r_ic (x := 1000) rfl rfl ?_
                  refine r_icmp_lt (tg := 21) rfl rfl (fun _ => ?_) (fun q => False.elim (by have : (nI t8).toInt = ((t8 : Nat) : Int) := nI_toInt (by omega); have : (1000 : Int32).toInt = 1000 := rfl; have := i_nlt q; omega))
                  refine r_aload rfl rfl ?_
                  refine r_getA (b := ad 33) rfl ⟨rfl, rfl, rfl⟩ (fx_t30 fx) (fx_r30_2 fx) ?_
                  refine r_iload rfl rfl ?_
                  refine r_iaload rfl (.inl (fx_t33 fx)) (vp_ct (fx_n33 fx) (vp_in_nI (by omega) (by omega))) ?_
                  refine WR_tI (congrArg (hI (sR (sI h (ad 0) 6 0) (mid t8 + 1) k10 none) (ad 33)) ((nI_clamp (by omega)) : _ = t8)) ?_
                  refine WR_tI (y := 8) (Eq.trans I_oR (Eq.trans (I_ne (fx_ne fx (by decide))) l2_8)) ?_
                  refine r_iret rfl ?_
                  show WR _ cd_175 49 [some (.ref (ad 30)), some (.int c), some (.int i), some (.int d), some (.int (nI t8)), some (.int (-1)), none] [.int 8] (sR (sI h (ad 0) 6 0) (mid t8 + 1) k10 none) _
                  refine r_ic (x := 8) rfl rfl ?_
                  refine r_icmp_ne (tg := 70) rfl rfl (fun q => absurd q (by decide)) (fun _ => ?_)
                  refine r_iload rfl rfl ?_
                  refine r_ic (x := (-1)) rfl rfl ?_
                  refine r_icmp_eq (tg := 76) rfl rfl (fun _ => ?_) (fun q => absurd q (by decide))
                  refine r_aload rfl rfl ?_
                  refine r_iload rfl rfl ?_
                  refine r_ic (x := 8) rfl rfl ?_
                  refine r_iload rfl rfl ?_
                  refine WR_tI (y := nI k10) ek10 ?_
                  refine r_cv (y := 168) (ra := [.int (nI k10), .int 8, .int (nI t8)]) (rest := []) rfl ⟨⟨rfl, rfl⟩, rfl, by decide⟩ (fx_t30 fx) rfl rfl (Nat.le_of_ble_eq_true rfl) ?_
                  refine in_168 (Nat.le_of_ble_eq_true rfl) ?_
                  show WR _ cd_168 0 [some (.ref (ad 30)), some (.int (nI t8)), some (.int 8), some (.int (nI k10))] [] (sR (sI h (ad 0) 6 0) (mid t8 + 1) k10 none) _
                  refine r_iload rfl rfl ?_
                  refine r_ic (x := (-1)) rfl rfl ?_
                  refine r_icmp_eq (tg := 18) rfl rfl (fun q => False.elim (by have : (nI t8).toInt = ((t8 : Nat) : Int) := nI_toInt (by omega); have : (-1 : Int32).toInt = -1 := rfl; have := i_eq q; omega)) (fun _ => ?_)
                  refine r_aload rfl rfl ?_
                  refine r_iload rfl rfl ?_
                  refine r_cv (y := 166) (ra := [.int (nI t8)]) (rest := []) rfl ⟨⟨rfl, rfl⟩, rfl, by decide⟩ (fx_t30 fx) rfl rfl (Nat.le_of_ble_eq_true rfl) ?_
                  refine in_166 (Nat.le_of_ble_eq_true rfl) ?_
                  show WR _ cd_166 0 [some (.ref (ad 30)), some (.int (nI t8))] [] (sR (sI h (ad 0) 6 0) (mid t8 + 1) k10 none) _
                  refine r_iload rfl rfl ?_
                  refine r_ic (x := (-1)) rfl rfl ?_
                  refine r_icmp_ne (tg := 9) rfl rfl (fun _ => ?_) (fun q => False.elim (by have : (nI t8).toInt = ((t8 : Nat) : Int) := nI_toInt (by omega); have : (-1 : Int32).toInt = -1 := rfl; have := i_eq q; omega))
                  refine r_iload rfl rfl ?_
                  refine r_ic (x := 1000) rfl rfl ?_
                  refine r_icmp_lt (tg := 21) rfl rfl (fun _ => ?_) (fun q => False.elim (by have : (nI t8).toInt = ((t8 : Nat) : Int) := nI_toInt (by omega); have : (1000 : Int32).toInt = 1000 := rfl; have := i_nlt q; omega))
                  refine r_aload rfl rfl ?_
                  refine r_getA (b := ad 33) rfl ⟨rfl, rfl, rfl⟩ (fx_t30 fx) (fx_r30_2 fx) ?_
                  refine r_iload rfl rfl ?_
                  refine r_iaload rfl (.inl (fx_t33 fx)) (vp_ct (fx_n33 fx) (vp_in_nI (by omega) (by omega))) ?_
                  refine WR_tI (congrArg (hI (sR (sI h (ad 0) 6 0) (mid t8 + 1) k10 none) (ad 33)) ((nI_clamp (by omega)) : _ = t8)) ?_
                  refine WR_tI (y := 8) (Eq.trans I_oR (Eq.trans (I_ne (fx_ne fx (by decide))) l2_8)) ?_
                  refine r_iret rfl ?_
                  show WR _ cd_168 10 [some (.ref (ad 30)), some (.int (nI t8)), some (.int 8), some (.int (nI k10))] [.int 8] (sR (sI h (ad 0) 6 0) (mid t8 + 1) k10 none) _
                  refine r_iload rfl rfl ?_
                  refine r_icmp_eq (tg := 18) rfl rfl (fun _ => ?_) (fun q => absurd q (by decide))
                  refine r_iload rfl rfl ?_
                  refine r_ic (x := (-1)) rfl rfl ?_
                  refine r_icmp_ne (tg := 27) rfl rfl (fun _ => ?_) (fun q => False.elim (by have : (nI t8).toInt = ((t8 : Nat) : Int) := nI_toInt (by omega); have : (-1 : Int32).toInt = -1 := rfl; have := i_eq q; omega))
                  refine r_iload rfl rfl ?_
                  refine r_i2l rfl ?_
                  refine WR_tL (y := lN k10) (nI_l (by have := i_nlt c9; have := i_rg i; have : (0 : Int32).toInt = 0 := rfl; have := i_eq ek10; have : (nI k10).toInt = ((k10 : Nat) : Int) := nI_toInt (by omega); have := i_nlt c11; have : (1 : Int32).toInt = 1 := rfl; have : (nI sz8).toInt = ((sz8 : Nat) : Int) := nI_toInt (by omega); have := sub_t (x := nI sz8) (y := nI k10) (by have := i_nlt c9; have := i_rg i; have : (0 : Int32).toInt = 0 := rfl; have := i_eq ek10; have : (nI k10).toInt = ((k10 : Nat) : Int) := nI_toInt (by omega); have : (nI sz8).toInt = ((sz8 : Nat) : Int) := nI_toInt (by omega); omega) (by have := i_nlt c9; have := i_rg i; have : (0 : Int32).toInt = 0 := rfl; have := i_eq ek10; have : (nI k10).toInt = ((k10 : Nat) : Int) := nI_toInt (by omega); have : (nI sz8).toInt = ((sz8 : Nat) : Int) := nI_toInt (by omega); omega); omega)) ?_
                  refine r_lc (x := 0) rfl rfl ?_
                  refine r_aload rfl rfl ?_
                  refine r_getA (b := ad 35) rfl ⟨rfl, rfl, rfl⟩ (fx_t30 fx) (fx_r30_4 fx) ?_
                  refine r_iload rfl rfl ?_
                  refine r_iaload rfl (.inl (fx_t35 fx)) (vp_ct (fx_n35 fx) (vp_in_nI (by omega) (by omega))) ?_
                  refine WR_tI (congrArg (hI (sR (sI h (ad 0) 6 0) (mid t8 + 1) k10 none) (ad 35)) ((nI_clamp (by omega)) : _ = t8)) ?_
                  refine WR_tI (y := nI sz8) (Eq.trans I_oR (Eq.trans (I_ne (fx_ne fx (by decide))) sz_8)) ?_
                  refine r_ic (x := 1) rfl rfl ?_
                  refine r_isub rfl ?_
                  refine WR_tI (y := nI (sz8 - 1)) (Eq.trans (pk_sub (a := sz8) (b := 1) (by have := i_nlt c9; have := i_rg i; have : (0 : Int32).toInt = 0 := rfl; have := i_eq ek10; have : (nI k10).toInt = ((k10 : Nat) : Int) := nI_toInt (by omega); have := i_nlt c11; have : (1 : Int32).toInt = 1 := rfl; have : (nI sz8).toInt = ((sz8 : Nat) : Int) := nI_toInt (by omega); have := sub_t (x := nI sz8) (y := nI k10) (by have := i_nlt c9; have := i_rg i; have : (0 : Int32).toInt = 0 := rfl; have := i_eq ek10; have : (nI k10).toInt = ((k10 : Nat) : Int) := nI_toInt (by omega); have : (nI sz8).toInt = ((sz8 : Nat) : Int) := nI_toInt (by omega); omega) (by have := i_nlt c9; have := i_rg i; have : (0 : Int32).toInt = 0 := rfl; have := i_eq ek10; have : (nI k10).toInt = ((k10 : Nat) : Int) := nI_toInt (by omega); have : (nI sz8).toInt = ((sz8 : Nat) : Int) := nI_toInt (by omega); omega); omega)) (congrArg nI (by have := i_nlt c9; have := i_rg i; have : (0 : Int32).toInt = 0 := rfl; have := i_eq ek10; have : (nI k10).toInt = ((k10 : Nat) : Int) := nI_toInt (by omega); have := i_nlt c11; have : (1 : Int32).toInt = 1 := rfl; have : (nI sz8).toInt = ((sz8 : Nat) : Int) := nI_toInt (by omega); have := sub_t (x := nI sz8) (y := nI k10) (by have := i_nlt c9; have := i_rg i; have : (0 : Int32).toInt = 0 := rfl; have := i_eq ek10; have : (nI k10).toInt = ((k10 : Nat) : Int) := nI_toInt (by omega); have : (nI sz8).toInt = ((sz8 : Nat) : Int) := nI_toInt (by omega); omega) (by have := i_nlt c9; have := i_rg i; have : (0 : Int32).toInt = 0 := rfl; have := i_eq ek10; have : (nI k10).toInt = ((k10 : Nat) : Int) := nI_toInt (by omega); have : (nI sz8).toInt = ((sz8 : Nat) : Int) := nI_toInt (by omega); omega); omega))) ?_
                  refine r_i2l rfl ?_
                  refine WR_tL (y := lN (sz8 - 1)) (nI_l (by have := i_nlt c9; have := i_rg i; have : (0 : Int32).toInt = 0 := rfl; have := i_eq ek10; have : (nI k10).toInt = ((k10 : Nat) : Int) := nI_toInt (by omega); have := i_nlt c11; have : (1 : Int32).toInt = 1 := rfl; have : (nI sz8).toInt = ((sz8 : Nat) : Int) := nI_toInt (by omega); have := sub_t (x := nI sz8) (y := nI k10) (by have := i_nlt c9; have := i_rg i; have : (0 : Int32).toInt = 0 := rfl; have := i_eq ek10; have : (nI k10).toInt = ((k10 : Nat) : Int) := nI_toInt (by omega); have : (nI sz8).toInt = ((sz8 : Nat) : Int) := nI_toInt (by omega); omega) (by have := i_nlt c9; have := i_rg i; have : (0 : Int32).toInt = 0 := rfl; have := i_eq ek10; have : (nI k10).toInt = ((k10 : Nat) : Int) := nI_toInt (by omega); have : (nI sz8).toInt = ((sz8 : Nat) : Int) := nI_toInt (by omega); omega); omega)) ?_
                  refine r_cs (y := 155) (ra := [.long (lN (sz8 - 1)), .long 0, .long (lN k10)]) (rest := []) rfl ⟨⟨rfl, rfl⟩, by decide⟩ rfl rfl (Nat.le_of_ble_eq_true rfl) ?_
                  refine in_155 (Nat.le_of_ble_eq_true rfl) ?_
                  show WR _ cd_155 0 [some (.long (lN k10)), none, some (.long 0), none, some (.long (lN (sz8 - 1))), none] [] (sR (sI h (ad 0) 6 0) (mid t8 + 1) k10 none) _
                  refine r_lload rfl rfl ?_
                  refine r_lload rfl rfl ?_
                  refine r_lif_lt (tg := 17) rfl rfl rfl (fun q => False.elim (by have := i_nlt c9; have := i_rg i; have : (0 : Int32).toInt = 0 := rfl; have := i_eq ek10; have : (nI k10).toInt = ((k10 : Nat) : Int) := nI_toInt (by omega); have := i_nlt c11; have : (1 : Int32).toInt = 1 := rfl; have : (nI sz8).toInt = ((sz8 : Nat) : Int) := nI_toInt (by omega); have := sub_t (x := nI sz8) (y := nI k10) (by have := i_nlt c9; have := i_rg i; have : (0 : Int32).toInt = 0 := rfl; have := i_eq ek10; have : (nI k10).toInt = ((k10 : Nat) : Int) := nI_toInt (by omega); have : (nI sz8).toInt = ((sz8 : Nat) : Int) := nI_toInt (by omega); omega) (by have := i_nlt c9; have := i_rg i; have : (0 : Int32).toInt = 0 := rfl; have := i_eq ek10; have : (nI k10).toInt = ((k10 : Nat) : Int) := nI_toInt (by omega); have : (nI sz8).toInt = ((sz8 : Nat) : Int) := nI_toInt (by omega); omega); have : (lN k10).toInt = ((k10 : Nat) : Int) := lN_toInt (by omega); have : (0 : Int64).toInt = 0 := rfl; have := l_lt q; omega)) (fun _ => ?_)
                  refine r_lload rfl rfl ?_
                  refine r_lload rfl rfl ?_
                  refine r_lif_gt (tg := 17) rfl rfl rfl (fun q => False.elim (by have := i_nlt c9; have := i_rg i; have : (0 : Int32).toInt = 0 := rfl; have := i_eq ek10; have : (nI k10).toInt = ((k10 : Nat) : Int) := nI_toInt (by omega); have := i_nlt c11; have : (1 : Int32).toInt = 1 := rfl; have : (nI sz8).toInt = ((sz8 : Nat) : Int) := nI_toInt (by omega); have := sub_t (x := nI sz8) (y := nI k10) (by have := i_nlt c9; have := i_rg i; have : (0 : Int32).toInt = 0 := rfl; have := i_eq ek10; have : (nI k10).toInt = ((k10 : Nat) : Int) := nI_toInt (by omega); have : (nI sz8).toInt = ((sz8 : Nat) : Int) := nI_toInt (by omega); omega) (by have := i_nlt c9; have := i_rg i; have : (0 : Int32).toInt = 0 := rfl; have := i_eq ek10; have : (nI k10).toInt = ((k10 : Nat) : Int) := nI_toInt (by omega); have : (nI sz8).toInt = ((sz8 : Nat) : Int) := nI_toInt (by omega); omega); have : (lN k10).toInt = ((k10 : Nat) : Int) := lN_toInt (by omega); have : (lN (sz8 - 1)).toInt = ((sz8 - 1 : Nat) : Int) := lN_toInt (by omega); have := l_lt q; omega)) (fun _ => ?_)
                  refine r_ic (x := 1) rfl rfl ?_
                  refine r_goto (tg := 18) rfl rfl ?_
                  refine r_zret rfl (.inr rfl) ?_
                  show WR _ cd_168 42 [some (.ref (ad 30)), some (.int (nI t8)), some (.int 8), some (.int (nI k10))] [.int 1] (sR (sI h (ad 0) 6 0) (mid t8 + 1) k10 none) _
                  refine r_if_ne (tg := 49) rfl rfl (fun _ => ?_) (fun q => absurd q (by decide))
                  refine r_ic (x := 0) rfl rfl ?_
                  refine r_iret rfl ?_
                  show WR _ cd_175 85 [some (.ref (ad 30)), some (.int c), some (.int i), some (.int d), some (.int (nI t8)), some (.int (-1)), none] [.int 0] (sR (sI h (ad 0) 6 0) (mid t8 + 1) k10 none) _
                  refine r_istore (lv' := [some (.ref (ad 30)), some (.int c), some (.int i), some (.int d), some (.int (nI t8)), some (.int (-1)), some (.int 0)]) rfl (Nat.le_of_ble_eq_true rfl) rfl ?_
                  refine r_iload rfl rfl ?_
                  refine r_if_le (tg := 99) rfl rfl (fun _ => ?_) (fun q => absurd q (by decide))
                  refine r_aload rfl rfl ?_
                  refine r_getA (b := ad 36) rfl ⟨rfl, rfl, rfl⟩ (fx_t30 fx) (fx_r30_5 fx) ?_
                  refine r_ic (x := 30) rfl rfl ?_
                  refine r_iload rfl rfl ?_
                  refine r_imul rfl ?_
                  refine WR_tI (y := nI (30 * t8)) (Eq.trans (pk_mul 30 t8) (congrArg nI (by omega))) ?_
                  refine r_iload rfl rfl ?_
                  refine WR_tI (y := nI k10) ek10 ?_
                  refine r_iadd rfl ?_
                  refine WR_tI (y := nI (30 * t8 + k10)) (Eq.trans (nI_add (30 * t8) k10) (congrArg nI (by have := i_nlt c9; have := i_rg i; have : (0 : Int32).toInt = 0 := rfl; have := i_eq ek10; have : (nI k10).toInt = ((k10 : Nat) : Int) := nI_toInt (by omega); have := i_nlt c11; have : (1 : Int32).toInt = 1 := rfl; have : (nI sz8).toInt = ((sz8 : Nat) : Int) := nI_toInt (by omega); have := sub_t (x := nI sz8) (y := nI k10) (by have := i_nlt c9; have := i_rg i; have : (0 : Int32).toInt = 0 := rfl; have := i_eq ek10; have : (nI k10).toInt = ((k10 : Nat) : Int) := nI_toInt (by omega); have : (nI sz8).toInt = ((sz8 : Nat) : Int) := nI_toInt (by omega); omega) (by have := i_nlt c9; have := i_rg i; have : (0 : Int32).toInt = 0 := rfl; have := i_eq ek10; have : (nI k10).toInt = ((k10 : Nat) : Int) := nI_toInt (by omega); have : (nI sz8).toInt = ((sz8 : Nat) : Int) := nI_toInt (by omega); omega); omega))) ?_
                  refine r_iload rfl rfl ?_
                  refine r_i2l rfl ?_
                  refine WR_tL (y := (-1)) rfl ?_
                  refine r_lastore rfl (fx_t36 fx) (vp_ct (fx_n36 fx) (vp_in_nI (by have := i_nlt c9; have := i_rg i; have : (0 : Int32).toInt = 0 := rfl; have := i_eq ek10; have : (nI k10).toInt = ((k10 : Nat) : Int) := nI_toInt (by omega); have := i_nlt c11; have : (1 : Int32).toInt = 1 := rfl; have : (nI sz8).toInt = ((sz8 : Nat) : Int) := nI_toInt (by omega); have := sub_t (x := nI sz8) (y := nI k10) (by have := i_nlt c9; have := i_rg i; have : (0 : Int32).toInt = 0 := rfl; have := i_eq ek10; have : (nI k10).toInt = ((k10 : Nat) : Int) := nI_toInt (by omega); have : (nI sz8).toInt = ((sz8 : Nat) : Int) := nI_toInt (by omega); omega) (by have := i_nlt c9; have := i_rg i; have : (0 : Int32).toInt = 0 := rfl; have := i_eq ek10; have : (nI k10).toInt = ((k10 : Nat) : Int) := nI_toInt (by omega); have : (nI sz8).toInt = ((sz8 : Nat) : Int) := nI_toInt (by omega); omega); omega) (by omega))) ?_
                  refine WR_h (h2 := sL (sR (sI h (ad 0) 6 0) (mid t8 + 1) k10 none) (ad 36) (30 * t8 + k10) (-1)) (congrArg (fun z => sL (sR (sI h (ad 0) 6 0) (mid t8 + 1) k10 none) (ad 36) z (-1)) ((nI_clamp (by have := i_nlt c9; have := i_rg i; have : (0 : Int32).toInt = 0 := rfl; have := i_eq ek10; have : (nI k10).toInt = ((k10 : Nat) : Int) := nI_toInt (by omega); have := i_nlt c11; have : (1 : Int32).toInt = 1 := rfl; have : (nI sz8).toInt = ((sz8 : Nat) : Int) := nI_toInt (by omega); have := sub_t (x := nI sz8) (y := nI k10) (by have := i_nlt c9; have := i_rg i; have : (0 : Int32).toInt = 0 := rfl; have := i_eq ek10; have : (nI k10).toInt = ((k10 : Nat) : Int) := nI_toInt (by omega); have : (nI sz8).toInt = ((sz8 : Nat) : Int) := nI_toInt (by omega); omega) (by have := i_nlt c9; have := i_rg i; have : (0 : Int32).toInt = 0 := rfl; have := i_eq ek10; have : (nI k10).toInt = ((k10 : Nat) : Int) := nI_toInt (by omega); have : (nI sz8).toInt = ((sz8 : Nat) : Int) := nI_toInt (by omega); omega); omega)) : _ = 30 * t8 + k10)) ?_
                  have fx : FX n ad sa z0 (sL (sR (sI h (ad 0) 6 0) (mid t8 + 1) k10 none) (ad 36) (30 * t8 + k10) (-1)) := (FX.sL fx)
                  refine r_aload rfl rfl ?_
                  refine r_ic (x := 1) rfl rfl ?_
                  refine r_cv (y := 154) (ra := [.int 1]) (rest := []) rfl ⟨⟨rfl, rfl⟩, rfl, by decide⟩ (fx_t30 fx) rfl rfl (Nat.le_of_ble_eq_true rfl) ?_
                  refine in_154 (Nat.le_of_ble_eq_true rfl) ?_
                  show WR _ cd_154 0 [some (.ref (ad 30)), some (.int 1)] [] (sL (sR (sI h (ad 0) 6 0) (mid t8 + 1) k10 none) (ad 36) (30 * t8 + k10) (-1)) _
                  refine r_aload rfl rfl ?_
                  refine r_iload rfl rfl ?_
                  refine r_ic (x := (-1)) rfl rfl ?_
                  refine r_icmp_ge (tg := 10) rfl rfl (fun _ => ?_) (fun q => absurd q (by decide))
                  refine r_ic (x := 0) rfl rfl ?_
                  refine r_putI rfl ⟨rfl, rfl, rfl⟩ (fx_t30 fx) ?_
                  have fx : FX n ad sa z0 (sI (sL (sR (sI h (ad 0) 6 0) (mid t8 + 1) k10 none) (ad 36) (30 * t8 + k10) (-1)) (ad 30) 11 0) := (FX.sI fx)
                  refine r_iload rfl rfl ?_
                  refine r_iret rfl ?_
                  show WR _ cd_175 119 [some (.ref (ad 30)), some (.int c), some (.int i), some (.int d), some (.int (nI t8)), some (.int (-1)), some (.int 0)] [.int 1] (sI (sL (sR (sI h (ad 0) 6 0) (mid t8 + 1) k10 none) (ad 36) (30 * t8 + k10) (-1)) (ad 30) 11 0) _
                  refine r_iret rfl ?_
                  have rI : Rel n ad sa z0 (sL (sR h (mid t8 + 1) k10 (none)) (ad 36) (30 * t8 + k10) (-1)) := Rel_own fx0 ry rt ra rp rf rst ru dz8 (Rs.link fx0 rs ht8 (.inl ⟨k2, (by have := i_nlt c1; have := i_rg c; have : (0 : Int32).toInt = 0 := rfl; have := i_eq ek2; have : (nI k2).toInt = ((k2 : Nat) : Int) := nI_toInt (by omega); have := i_nle c3; have : (24 : Int32).toInt = 24 := rfl; omega), v8⟩) rw8 sz_8 (by have := i_nlt c9; have := i_rg i; have : (0 : Int32).toInt = 0 := rfl; have := i_eq ek10; have : (nI k10).toInt = ((k10 : Nat) : Int) := nI_toInt (by omega); have := i_nlt c11; have : (1 : Int32).toInt = 1 := rfl; have : (nI sz8).toInt = ((sz8 : Nat) : Int) := nI_toInt (by omega); have := sub_t (x := nI sz8) (y := nI k10) (by have := i_nlt c9; have := i_rg i; have : (0 : Int32).toInt = 0 := rfl; have := i_eq ek10; have : (nI k10).toInt = ((k10 : Nat) : Int) := nI_toInt (by omega); have : (nI sz8).toInt = ((sz8 : Nat) : Int) := nI_toInt (by omega); omega) (by have := i_nlt c9; have := i_rg i; have : (0 : Int32).toInt = 0 := rfl; have := i_eq ek10; have : (nI k10).toInt = ((k10 : Nat) : Int) := nI_toInt (by omega); have : (nI sz8).toInt = ((sz8 : Nat) : Int) := nI_toInt (by omega); omega); omega) hs_8 (.inl ⟨rfl, rfl⟩))
                  exact ⟨rfl, Rel.why rI ((Chg.rf.sI (fx_j fx0) (k := 6) (v := 0) (.inl (by decide))).sI (fx_j fx0) (k := 11) (v := 0) (.inl (by decide))) ⟨rfl, by decide⟩ (Eq.trans (Eq.trans (I_ne (fx_ne fx (by decide))) I_eq) (Eq.symm I_eq)), (by (try simp only [hZ_sI, hZ_sL, hZ_sD, hZ_sR]); omega), (by (try simp only [hU_sI, hU_sL, hU_sD, hU_sR]); omega)⟩
            · refine r_aaloadA (b := mid t8) rfl (isQ_of (fx_t1 fx) (by decide)) (vp_ct (fx_n1 fx) (vp_in_nI (by have := i_nlt c1; have := i_rg c; have : (0 : Int32).toInt = 0 := rfl; have := i_eq ek2; have : (nI k2).toInt = ((k2 : Nat) : Int) := nI_toInt (by omega); have := i_nle c3; have : (24 : Int32).toInt = 24 := rfl; omega) (by omega))) (Eq.trans (congrArg (hR (sI h (ad 0) 6 0) (ad 1)) ((nI_clamp (by have := i_nlt c1; have := i_rg c; have : (0 : Int32).toInt = 0 := rfl; have := i_eq ek2; have : (nI k2).toInt = ((k2 : Nat) : Int) := nI_toInt (by omega); have := i_nle c3; have : (24 : Int32).toInt = 24 := rfl; omega)) : _ = k2)) (Eq.trans R_oI w8)) ?_
              refine r_astore (lv' := [some (.ref (ad 0)), some (.int (nI k2)), some (.int 8), some (.ref (mid t8)), none]) rfl (Nat.le_of_ble_eq_true rfl) rfl ?_
              refine r_aload rfl rfl ?_
              refine r_instY rfl (by decide) tg8 ?_
              refine r_if_eq (tg := 32) rfl rfl (fun q => absurd q (by decide)) (fun _ => ?_)
              refine r_aload rfl rfl ?_
              refine r_cast rfl tg8 ?_
              refine r_astore (lv' := [some (.ref (ad 0)), some (.int (nI k2)), some (.int 8), some (.ref (mid t8)), some (.ref (mid t8))]) rfl (Nat.le_of_ble_eq_true rfl) rfl ?_
              refine r_aload rfl rfl ?_
              refine r_cv (y := 28) (ra := []) (rest := []) rfl ⟨⟨rfl, rfl⟩, rfl, by decide⟩ tg8 rfl rfl (Nat.le_of_ble_eq_true rfl) ?_
              refine in_28 (Nat.le_of_ble_eq_true rfl) ?_
              show WR _ cd_28 0 [some (.ref (mid t8))] [] (sI h (ad 0) 6 0) _
              refine r_aload rfl rfl ?_
              refine r_getI rfl ⟨rfl, rfl, rfl⟩ tg8 ?_
              refine WR_tI (y := nI kd8) (Eq.trans (I_ne (dy_ad fx (.inl (by decide)) dz8)) k1_8) ?_
              refine r_ic (x := (-1)) rfl rfl ?_
              refine r_icmp_ne (tg := 13) rfl rfl (fun _ => ?_) (fun q => False.elim (by have : (nI kd8).toInt = ((kd8 : Nat) : Int) := nI_toInt (by omega); have : (-1 : Int32).toInt = -1 := rfl; have := i_eq q; omega))
              refine r_ic (x := 9) rfl rfl ?_
              refine r_iret rfl ?_
              show WR _ cd_43 25 [some (.ref (ad 0)), some (.int (nI k2)), some (.int 8), some (.ref (mid t8)), some (.ref (mid t8))] [.int 9] (sI h (ad 0) 6 0) _
              refine r_iload rfl rfl ?_
              refine r_icmp_ne (tg := 32) rfl rfl (fun _ => ?_) (fun q => absurd q (by decide))
              refine r_aload rfl rfl ?_
              refine r_aload rfl rfl ?_
              refine r_ifnonnullA (tg := 42) rfl rfl ?_
              refine r_ic (x := (-14)) rfl rfl ?_
              refine r_putI rfl ⟨rfl, rfl, rfl⟩ (fx_t0 fx) ?_
              have fx : FX n ad sa z0 (sI (sI h (ad 0) 6 0) (ad 0) 6 (-14)) := (FX.sI fx)
              refine r_null rfl ?_
              refine r_aret0 rfl ?_
              show WR _ cd_46 15 [some (.ref (ad 0)), some (.int (nI k2)), some (.int 8), some (.int i), some (.int (nI k5)), some (.int 3), some (.null), none] [.null] (sI (sI h (ad 0) 6 0) (ad 0) 6 (-14)) _
              refine r_astore0 (lv' := [some (.ref (ad 0)), some (.int (nI k2)), some (.int 8), some (.int i), some (.int (nI k5)), some (.int 3), some (.null), some (.null)]) rfl (Nat.le_of_ble_eq_true rfl) rfl ?_
              refine r_aload rfl rfl ?_
              refine r_getI rfl ⟨rfl, rfl, rfl⟩ (fx_t0 fx) ?_
              refine WR_tI (y := (-14)) I_eq ?_
              refine r_ic (x := (-14)) rfl rfl ?_
              refine r_icmp_eq (tg := 41) rfl rfl (fun _ => ?_) (fun q => absurd q (by decide))
              refine r_aload rfl rfl ?_
              refine r_ic (x := (-14)) rfl rfl ?_
              refine r_cv (y := 13) (ra := [.int (-14)]) (rest := []) rfl ⟨⟨rfl, rfl⟩, rfl, by decide⟩ (fx_t0 fx) rfl rfl (Nat.le_of_ble_eq_true rfl) ?_
              refine in_13 (Nat.le_of_ble_eq_true rfl) ?_
              show WR _ cd_13 0 [some (.ref (ad 0)), some (.int (-14))] [] (sI (sI h (ad 0) 6 0) (ad 0) 6 (-14)) _
              refine r_aload rfl rfl ?_
              refine r_iload rfl rfl ?_
              refine r_putI rfl ⟨rfl, rfl, rfl⟩ (fx_t0 fx) ?_
              have fx : FX n ad sa z0 (sI (sI (sI h (ad 0) 6 0) (ad 0) 6 (-14)) (ad 0) 6 (-14)) := (FX.sI fx)
              refine r_iload rfl rfl ?_
              refine r_iret rfl ?_
              show WR _ cd_46 47 [some (.ref (ad 0)), some (.int (nI k2)), some (.int 8), some (.int i), some (.int (nI k5)), some (.int 3), some (.null), some (.null)] [.int (-14)] (sI (sI (sI h (ad 0) 6 0) (ad 0) 6 (-14)) (ad 0) 6 (-14)) _
              refine r_iret rfl ?_
              show WR _ cd_45 36 [some (.ref (ad 0)), some (.int c), some (.int i), some (.int d)] [.int (-14)] (sI (sI (sI h (ad 0) 6 0) (ad 0) 6 (-14)) (ad 0) 6 (-14)) _
              refine r_iret rfl ?_
              show EV _ 175 [.ref (ad 30), .int c, .int i, .int d] (sI (sI (sI h (ad 0) 6 0) (ad 0) 6 (-14)) (ad 0) 6 (-14)) _
              refine in_175 (Nat.le_of_ble_eq_true rfl) ?_
              show WR _ cd_175 0 [some (.ref (ad 30)), some (.int c), some (.int i), some (.int d), none, none, none] [] (sI (sI (sI h (ad 0) 6 0) (ad 0) 6 (-14)) (ad 0) 6 (-14)) _
              refine r_iload rfl rfl ?_
              refine WR_tI (y := nI k2) ek2 ?_
              refine r_cs (y := 153) (ra := [.int (nI k2)]) (rest := []) rfl ⟨⟨rfl, rfl⟩, by decide⟩ rfl rfl (Nat.le_of_ble_eq_true rfl) ?_
              refine in_153 (Nat.le_of_ble_eq_true rfl) ?_
              show WR _ cd_153 0 [some (.int (nI k2))] [] (sI (sI (sI h (ad 0) 6 0) (ad 0) 6 (-14)) (ad 0) 6 (-14)) _
              refine r_iload rfl rfl ?_
              refine r_if_lt (tg := 14) rfl rfl (fun q => False.elim (by have := i_nlt c1; have := i_rg c; have : (0 : Int32).toInt = 0 := rfl; have := i_eq ek2; have : (nI k2).toInt = ((k2 : Nat) : Int) := nI_toInt (by omega); have := i_nle c3; have : (24 : Int32).toInt = 24 := rfl; have := i_lt q; omega)) (fun _ => ?_)
              refine r_iload rfl rfl ?_
              refine r_ic (x := 24) rfl rfl ?_
              refine r_icmp_ge (tg := 14) rfl rfl (fun q => False.elim (by have := i_nlt c1; have := i_rg c; have : (0 : Int32).toInt = 0 := rfl; have := i_eq ek2; have : (nI k2).toInt = ((k2 : Nat) : Int) := nI_toInt (by omega); have := i_nle c3; have : (24 : Int32).toInt = 24 := rfl; have := i_le q; omega)) (fun _ => ?_)
              refine r_ic (x := 1) rfl rfl ?_
              refine r_goto (tg := 15) rfl rfl ?_
              refine r_zret rfl (.inr rfl) ?_
              show WR _ cd_175 4 [some (.ref (ad 30)), some (.int c), some (.int i), some (.int d), none, none, none] [.int 1] (sI (sI (sI h (ad 0) 6 0) (ad 0) 6 (-14)) (ad 0) 6 (-14)) _
              refine r_if_eq (tg := 14) rfl rfl (fun q => absurd q (by decide)) (fun _ => ?_)
              refine r_iload rfl rfl ?_
              refine WR_tI (y := nI k5) ek5 ?_
              refine r_cs (y := 153) (ra := [.int (nI k5)]) (rest := []) rfl ⟨⟨rfl, rfl⟩, by decide⟩ rfl rfl (Nat.le_of_ble_eq_true rfl) ?_
              refine in_153 (Nat.le_of_ble_eq_true rfl) ?_
              show WR _ cd_153 0 [some (.int (nI k5))] [] (sI (sI (sI h (ad 0) 6 0) (ad 0) 6 (-14)) (ad 0) 6 (-14)) _
              refine r_iload rfl rfl ?_
              refine r_if_lt (tg := 14) rfl rfl (fun q => False.elim (by have := i_nlt c4; have := i_rg d; have : (0 : Int32).toInt = 0 := rfl; have := i_eq ek5; have : (nI k5).toInt = ((k5 : Nat) : Int) := nI_toInt (by omega); have := i_nle c6; have : (24 : Int32).toInt = 24 := rfl; have := i_lt q; omega)) (fun _ => ?_)
              refine r_iload rfl rfl ?_
              refine r_ic (x := 24) rfl rfl ?_
              refine r_icmp_ge (tg := 14) rfl rfl (fun q => False.elim (by have := i_nlt c4; have := i_rg d; have : (0 : Int32).toInt = 0 := rfl; have := i_eq ek5; have : (nI k5).toInt = ((k5 : Nat) : Int) := nI_toInt (by omega); have := i_nle c6; have : (24 : Int32).toInt = 24 := rfl; have := i_le q; omega)) (fun _ => ?_)
              refine r_ic (x := 1) rfl rfl ?_
              refine r_goto (tg := 15) rfl rfl ?_
              refine r_zret rfl (.inr rfl) ?_
              show WR _ cd_175 11 [some (.ref (ad 30)), some (.int c), some (.int i), some (.int d), none, none, none] [.int 1] (sI (sI (sI h (ad 0) 6 0) (ad 0) 6 (-14)) (ad 0) 6 (-14)) _
              refine r_if_ne (tg := 21) rfl rfl (fun _ => ?_) (fun q => absurd q (by decide))
              refine r_aload rfl rfl ?_
              refine r_getA (b := ad 31) rfl ⟨rfl, rfl, rfl⟩ (fx_t30 fx) (fx_r30_0 fx) ?_
              refine r_iload rfl rfl ?_
              refine WR_tI (y := nI k2) ek2 ?_
              refine r_iaload rfl (.inl (fx_t31 fx)) (vp_ct (fx_n31 fx) (vp_in_nI (by have := i_nlt c1; have := i_rg c; have : (0 : Int32).toInt = 0 := rfl; have := i_eq ek2; have : (nI k2).toInt = ((k2 : Nat) : Int) := nI_toInt (by omega); have := i_nle c3; have : (24 : Int32).toInt = 24 := rfl; omega) (by omega))) ?_
              refine WR_tI (congrArg (hI (sI (sI (sI h (ad 0) 6 0) (ad 0) 6 (-14)) (ad 0) 6 (-14)) (ad 31)) ((nI_clamp (by have := i_nlt c1; have := i_rg c; have : (0 : Int32).toInt = 0 := rfl; have := i_eq ek2; have : (nI k2).toInt = ((k2 : Nat) : Int) := nI_toInt (by omega); have := i_nle c3; have : (24 : Int32).toInt = 24 := rfl; omega)) : _ = k2)) ?_
              refine WR_tI (y := nI t8) (Eq.trans (I_ne (fx_ne fx (by decide))) (Eq.trans (I_ne (fx_ne fx (by decide))) (Eq.trans (I_ne (fx_ne fx (by decide))) v8))) ?_
              refine r_istore (lv' := [some (.ref (ad 30)), some (.int c), some (.int i), some (.int d), some (.int (nI t8)), none, none]) rfl (Nat.le_of_ble_eq_true rfl) rfl ?_
              refine r_aload rfl rfl ?_
              refine r_getA (b := ad 31) rfl ⟨rfl, rfl, rfl⟩ (fx_t30 fx) (fx_r30_0 fx) ?_
              refine r_iload rfl rfl ?_
              refine WR_tI (y := nI k5) ek5 ?_
              refine r_iaload rfl (.inl (fx_t31 fx)) (vp_ct (fx_n31 fx) (vp_in_nI (by have := i_nlt c4; have := i_rg d; have : (0 : Int32).toInt = 0 := rfl; have := i_eq ek5; have : (nI k5).toInt = ((k5 : Nat) : Int) := nI_toInt (by omega); have := i_nle c6; have : (24 : Int32).toInt = 24 := rfl; omega) (by omega))) ?_
              refine WR_tI (congrArg (hI (sI (sI (sI h (ad 0) 6 0) (ad 0) 6 (-14)) (ad 0) 6 (-14)) (ad 31)) ((nI_clamp (by have := i_nlt c4; have := i_rg d; have : (0 : Int32).toInt = 0 := rfl; have := i_eq ek5; have : (nI k5).toInt = ((k5 : Nat) : Int) := nI_toInt (by omega); have := i_nle c6; have : (24 : Int32).toInt = 24 := rfl; omega)) : _ = k5)) ?_
              refine WR_tI (y := (-1)) (Eq.trans (I_ne (fx_ne fx (by decide))) (Eq.trans (I_ne (fx_ne fx (by decide))) (Eq.trans (I_ne (fx_ne fx (by decide))) v7))) ?_
              refine r_istore (lv' := [some (.ref (ad 30)), some (.int c), some (.int i), some (.int d), some (.int (nI t8)), some (.int (-1)), none]) rfl (Nat.le_of_ble_eq_true rfl) rfl ?_
              refine r_iload rfl rfl ?_
              refine r_ic (x := (-1)) rfl rfl ?_
              refine r_icmp_eq (tg := 54) rfl rfl (fun q => False.elim (by have : (nI t8).toInt = ((t8 : Nat) : Int) := nI_toInt (by omega); have : (-1 : Int32).toInt = -1 := rfl; have := i_eq q; omega)) (fun _ => ?_)
              refine r_aload rfl rfl ?_
              refine r_iload rfl rfl ?_
              refine r_cv (y := 166) (ra := [.int (nI t8)]) (rest := []) rfl ⟨⟨rfl, rfl⟩, rfl, by decide⟩ (fx_t30 fx) rfl rfl (Nat.le_of_ble_eq_true rfl) ?_
              refine in_166 (Nat.le_of_ble_eq_true rfl) ?_
              show WR _ cd_166 0 [some (.ref (ad 30)), some (.int (nI t8))] [] (sI (sI (sI h (ad 0) 6 0) (ad 0) 6 (-14)) (ad 0) 6 (-14)) _
              refine r_iload rfl rfl ?_
              refine r_ic (x := (-1)) rfl rfl ?_
              refine r_icmp_ne (tg := 9) rfl rfl (fun _ => ?_) (fun q => False.elim (by have : (nI t8).toInt = ((t8 : Nat) : Int) := nI_toInt (by omega); have : (-1 : Int32).toInt = -1 := rfl; have := i_eq q; omega))
              refine r_iload rfl rfl ?_
              refine r_ic (x := 1000) rfl rfl ?_
              refine r_icmp_lt (tg := 21) rfl rfl (fun _ => ?_) (fun q => False.elim (by have : (nI t8).toInt = ((t8 : Nat) : Int) := nI_toInt (by omega); have : (1000 : Int32).toInt = 1000 := rfl; have := i_nlt q; omega))
              refine r_aload rfl rfl ?_
              refine r_getA (b := ad 33) rfl ⟨rfl, rfl, rfl⟩ (fx_t30 fx) (fx_r30_2 fx) ?_
              refine r_iload rfl rfl ?_
              refine r_iaload rfl (.inl (fx_t33 fx)) (vp_ct (fx_n33 fx) (vp_in_nI (by omega) (by omega))) ?_
              refine WR_tI (congrArg (hI (sI (sI (sI h (ad 0) 6 0) (ad 0) 6 (-14)) (ad 0) 6 (-14)) (ad 33)) ((nI_clamp (by omega)) : _ = t8)) ?_
              refine WR_tI (y := 9) (Eq.trans (I_ne (fx_ne fx (by decide))) (Eq.trans (I_ne (fx_ne fx (by decide))) (Eq.trans (I_ne (fx_ne fx (by decide))) l2_8))) ?_
              refine r_iret rfl ?_
              show WR _ cd_175 49 [some (.ref (ad 30)), some (.int c), some (.int i), some (.int d), some (.int (nI t8)), some (.int (-1)), none] [.int 9] (sI (sI (sI h (ad 0) 6 0) (ad 0) 6 (-14)) (ad 0) 6 (-14)) _
              refine r_ic (x := 8) rfl rfl ?_
              refine r_icmp_ne (tg := 70) rfl rfl (fun _ => ?_) (fun q => absurd q (by decide))
              refine r_aload rfl rfl ?_
              refine r_ic (x := 4) rfl rfl ?_
              refine r_cv (y := 156) (ra := [.int 4]) (rest := []) rfl ⟨⟨rfl, rfl⟩, rfl, by decide⟩ (fx_t30 fx) rfl rfl (Nat.le_of_ble_eq_true rfl) ?_
              refine in_156 (Nat.le_of_ble_eq_true rfl) ?_
              show WR _ cd_156 0 [some (.ref (ad 30)), some (.int 4)] [] (sI (sI (sI h (ad 0) 6 0) (ad 0) 6 (-14)) (ad 0) 6 (-14)) _
              refine r_aload rfl rfl ?_
              refine r_ic (x := (-10)) rfl rfl ?_
              refine r_iload rfl rfl ?_
              refine r_isub rfl ?_
              refine WR_tI (y := (-14)) rfl ?_
              refine r_cv (y := 154) (ra := [.int (-14)]) (rest := []) rfl ⟨⟨rfl, rfl⟩, rfl, by decide⟩ (fx_t30 fx) rfl rfl (Nat.le_of_ble_eq_true rfl) ?_
              refine in_154 (Nat.le_of_ble_eq_true rfl) ?_
              show WR _ cd_154 0 [some (.ref (ad 30)), some (.int (-14))] [] (sI (sI (sI h (ad 0) 6 0) (ad 0) 6 (-14)) (ad 0) 6 (-14)) _
              refine r_aload rfl rfl ?_
              refine r_iload rfl rfl ?_
              refine r_ic (x := (-1)) rfl rfl ?_
              refine r_icmp_ge (tg := 10) rfl rfl (fun q => absurd q (by decide)) (fun _ => ?_)
              refine r_iload rfl rfl ?_
              refine r_goto (tg := 11) rfl rfl ?_
              refine r_putI rfl ⟨rfl, rfl, rfl⟩ (fx_t30 fx) ?_
              have fx : FX n ad sa z0 (sI (sI (sI (sI h (ad 0) 6 0) (ad 0) 6 (-14)) (ad 0) 6 (-14)) (ad 30) 11 (-14)) := (FX.sI fx)
              refine r_iload rfl rfl ?_
              refine r_iret rfl ?_
              show WR _ cd_156 8 [some (.ref (ad 30)), some (.int 4)] [.int (-14)] (sI (sI (sI (sI h (ad 0) 6 0) (ad 0) 6 (-14)) (ad 0) 6 (-14)) (ad 30) 11 (-14)) _
              refine r_iret rfl ?_
              show WR _ cd_175 75 [some (.ref (ad 30)), some (.int c), some (.int i), some (.int d), some (.int (nI t8)), some (.int (-1)), none] [.int (-14)] (sI (sI (sI (sI h (ad 0) 6 0) (ad 0) 6 (-14)) (ad 0) 6 (-14)) (ad 30) 11 (-14)) _
              refine r_iret rfl ?_
              exact ⟨rfl, Rel.why r ((((Chg.rf.sI (fx_j fx) (.inl (by decide))).sI (fx_j fx) (.inl (by decide))).sI (fx_j fx) (.inl (by decide))).sI (fx_j fx) (.inl (by decide))) ⟨rfl, by decide⟩ (Eq.trans (Eq.trans (I_ne (fx_ne fx (by decide))) I_eq) (Eq.symm I_eq)), (by (try simp only [hZ_sI, hZ_sL, hZ_sD, hZ_sR]); omega), (by (try simp only [hU_sI, hU_sL, hU_sD, hU_sR]); omega)⟩
          · refine r_aaloadA (b := pa q7) rfl (isQ_of (fx_t1 fx) (by decide)) (vp_ct (fx_n1 fx) (vp_in_nI (by have := i_nlt c4; have := i_rg d; have : (0 : Int32).toInt = 0 := rfl; have := i_eq ek5; have : (nI k5).toInt = ((k5 : Nat) : Int) := nI_toInt (by omega); have := i_nle c6; have : (24 : Int32).toInt = 24 := rfl; omega) (by omega))) (Eq.trans (congrArg (hR (sI h (ad 0) 6 0) (ad 1)) ((nI_clamp (by have := i_nlt c4; have := i_rg d; have : (0 : Int32).toInt = 0 := rfl; have := i_eq ek5; have : (nI k5).toInt = ((k5 : Nat) : Int) := nI_toInt (by omega); have := i_nle c6; have : (24 : Int32).toInt = 24 := rfl; omega)) : _ = k5)) (Eq.trans R_oI w7)) ?_
            refine r_astore (lv' := [some (.ref (ad 0)), some (.int (nI k2)), some (.int 8), some (.int i), some (.int (nI k5)), some (.int 3), some (.ref (pa q7)), none]) rfl (Nat.le_of_ble_eq_true rfl) rfl ?_
            refine r_aload rfl rfl ?_
            refine r_iload rfl rfl ?_
            refine r_iload rfl rfl ?_
            refine r_cv (y := 43) (ra := [.int 8, .int (nI k2)]) (rest := []) rfl ⟨⟨rfl, rfl⟩, rfl, by decide⟩ (fx_t0 fx) rfl rfl (Nat.le_of_ble_eq_true rfl) ?_
            refine in_43 (Nat.le_of_ble_eq_true rfl) ?_
            show WR _ cd_43 0 [some (.ref (ad 0)), some (.int (nI k2)), some (.int 8), none, none] [] (sI h (ad 0) 6 0) _
            refine r_aload rfl rfl ?_
            refine r_getA (b := ad 1) rfl ⟨rfl, rfl, rfl⟩ (fx_t0 fx) (fx_r0_0 fx) ?_
            refine r_iload rfl rfl ?_
            rcases rs.cs (n := n) (sa := sa) (c := k2) (by have := i_nlt c1; have := i_rg c; have : (0 : Int32).toInt = 0 := rfl; have := i_eq ek2; have : (nI k2).toInt = ((k2 : Nat) : Int) := nI_toInt (by omega); have := i_nle c3; have : (24 : Int32).toInt = 24 := rfl; omega) with ⟨v12, w12⟩ | ⟨q12, kd12, hq12, hn12, v12, w12, dz12, tg12, s1_12, k1_12, k2_12, hk_12, we12⟩ | ⟨t12, ln12, sz12, ht12, v12, w12, dz12, tg12, r_12, tg2_12, l1_12, l2_12, hl_12, kd_12, n_12, sz_12, hs_12, al12, rw12⟩ | ⟨t12, sz12, ht12, v12, w12, dz12, tg12, r_12, tg2_12, k1_12, l2_12, k2_12, n_12, sz_12, hs_12, al12, rw12⟩ | ⟨t12, kd12, sz12, ht12, v12, w12, dz12, tg12, r_12, tg2_12, k1_12, l2_12, k2_12, hk_12, n_12, sz_12, hs_12, al12, rw12⟩
            · refine r_aaload0 rfl (isQ_of (fx_t1 fx) (by decide)) (vp_ct (fx_n1 fx) (vp_in_nI (by have := i_nlt c1; have := i_rg c; have : (0 : Int32).toInt = 0 := rfl; have := i_eq ek2; have : (nI k2).toInt = ((k2 : Nat) : Int) := nI_toInt (by omega); have := i_nle c3; have : (24 : Int32).toInt = 24 := rfl; omega) (by omega))) (Eq.trans (congrArg (hR (sI h (ad 0) 6 0) (ad 1)) ((nI_clamp (by have := i_nlt c1; have := i_rg c; have : (0 : Int32).toInt = 0 := rfl; have := i_eq ek2; have : (nI k2).toInt = ((k2 : Nat) : Int) := nI_toInt (by omega); have := i_nle c3; have : (24 : Int32).toInt = 24 := rfl; omega)) : _ = k2)) (Eq.trans R_oI w12)) ?_
              refine r_astore0 (lv' := [some (.ref (ad 0)), some (.int (nI k2)), some (.int 8), some (.null), none]) rfl (Nat.le_of_ble_eq_true rfl) rfl ?_
              refine r_aload0 rfl rfl ?_
              refine r_instN rfl (by decide) ?_
              refine r_if_eq (tg := 32) rfl rfl (fun _ => ?_) (fun q => absurd q (by decide))
              refine r_aload rfl rfl ?_
              refine r_aload0 rfl rfl ?_
              refine r_ifnonnullN (tg := 42) rfl rfl ?_
              refine r_ic (x := (-11)) rfl rfl ?_
              refine r_goto (tg := 44) rfl rfl ?_
              refine r_putI rfl ⟨rfl, rfl, rfl⟩ (fx_t0 fx) ?_
              have fx : FX n ad sa z0 (sI (sI h (ad 0) 6 0) (ad 0) 6 (-11)) := (FX.sI fx)
              refine r_null rfl ?_
              refine r_aret0 rfl ?_
              show WR _ cd_46 15 [some (.ref (ad 0)), some (.int (nI k2)), some (.int 8), some (.int i), some (.int (nI k5)), some (.int 3), some (.ref (pa q7)), none] [.null] (sI (sI h (ad 0) 6 0) (ad 0) 6 (-11)) _
              refine r_astore0 (lv' := [some (.ref (ad 0)), some (.int (nI k2)), some (.int 8), some (.int i), some (.int (nI k5)), some (.int 3), some (.ref (pa q7)), some (.null)]) rfl (Nat.le_of_ble_eq_true rfl) rfl ?_
              refine r_aload rfl rfl ?_
              refine r_getI rfl ⟨rfl, rfl, rfl⟩ (fx_t0 fx) ?_
              refine WR_tI (y := (-11)) I_eq ?_
              refine r_ic (x := (-14)) rfl rfl ?_
              refine r_icmp_eq (tg := 41) rfl rfl (fun q => absurd q (by decide)) (fun _ => ?_)
              refine r_aload rfl rfl ?_
              refine r_ifnullA (tg := 48) rfl rfl ?_
              refine r_aload rfl rfl ?_
              refine r_cw (y := 26) (ra := []) (rest := []) rfl ⟨rfl, rfl⟩ (by rw [show hT (sI (sI h (ad 0) 6 0) (ad 0) 6 (-11)) (pa q7) = 4 from tg7]; rfl) rfl rfl (Nat.le_of_ble_eq_true rfl) ?_
              refine in_26 (Nat.le_of_ble_eq_true rfl) ?_
              show WR _ cd_26 0 [some (.ref (pa q7))] [] (sI (sI h (ad 0) 6 0) (ad 0) 6 (-11)) _
              refine r_ic (x := 10) rfl rfl ?_
              refine r_iret rfl ?_
              show WR _ cd_46 36 [some (.ref (ad 0)), some (.int (nI k2)), some (.int 8), some (.int i), some (.int (nI k5)), some (.int 3), some (.ref (pa q7)), some (.null)] [.int 10] (sI (sI h (ad 0) 6 0) (ad 0) 6 (-11)) _
              refine r_iload rfl rfl ?_
              refine r_icmp_eq (tg := 48) rfl rfl (fun q => absurd q (by decide)) (fun _ => ?_)
              refine r_aload rfl rfl ?_
              refine r_ic (x := (-14)) rfl rfl ?_
              refine r_cv (y := 13) (ra := [.int (-14)]) (rest := []) rfl ⟨⟨rfl, rfl⟩, rfl, by decide⟩ (fx_t0 fx) rfl rfl (Nat.le_of_ble_eq_true rfl) ?_
              refine in_13 (Nat.le_of_ble_eq_true rfl) ?_
              show WR _ cd_13 0 [some (.ref (ad 0)), some (.int (-14))] [] (sI (sI h (ad 0) 6 0) (ad 0) 6 (-11)) _
              refine r_aload rfl rfl ?_
              refine r_iload rfl rfl ?_
              refine r_putI rfl ⟨rfl, rfl, rfl⟩ (fx_t0 fx) ?_
              have fx : FX n ad sa z0 (sI (sI (sI h (ad 0) 6 0) (ad 0) 6 (-11)) (ad 0) 6 (-14)) := (FX.sI fx)
              refine r_iload rfl rfl ?_
              refine r_iret rfl ?_
              show WR _ cd_46 47 [some (.ref (ad 0)), some (.int (nI k2)), some (.int 8), some (.int i), some (.int (nI k5)), some (.int 3), some (.ref (pa q7)), some (.null)] [.int (-14)] (sI (sI (sI h (ad 0) 6 0) (ad 0) 6 (-11)) (ad 0) 6 (-14)) _
              refine r_iret rfl ?_
              show WR _ cd_45 36 [some (.ref (ad 0)), some (.int c), some (.int i), some (.int d)] [.int (-14)] (sI (sI (sI h (ad 0) 6 0) (ad 0) 6 (-11)) (ad 0) 6 (-14)) _
              refine r_iret rfl ?_
              show EV _ 175 [.ref (ad 30), .int c, .int i, .int d] (sI (sI (sI h (ad 0) 6 0) (ad 0) 6 (-11)) (ad 0) 6 (-14)) _
              refine in_175 (Nat.le_of_ble_eq_true rfl) ?_
              show WR _ cd_175 0 [some (.ref (ad 30)), some (.int c), some (.int i), some (.int d), none, none, none] [] (sI (sI (sI h (ad 0) 6 0) (ad 0) 6 (-11)) (ad 0) 6 (-14)) _
              refine r_iload rfl rfl ?_
              refine WR_tI (y := nI k2) ek2 ?_
              refine r_cs (y := 153) (ra := [.int (nI k2)]) (rest := []) rfl ⟨⟨rfl, rfl⟩, by decide⟩ rfl rfl (Nat.le_of_ble_eq_true rfl) ?_
              refine in_153 (Nat.le_of_ble_eq_true rfl) ?_
              show WR _ cd_153 0 [some (.int (nI k2))] [] (sI (sI (sI h (ad 0) 6 0) (ad 0) 6 (-11)) (ad 0) 6 (-14)) _
              refine r_iload rfl rfl ?_
              refine r_if_lt (tg := 14) rfl rfl (fun q => False.elim (by have := i_nlt c1; have := i_rg c; have : (0 : Int32).toInt = 0 := rfl; have := i_eq ek2; have : (nI k2).toInt = ((k2 : Nat) : Int) := nI_toInt (by omega); have := i_nle c3; have : (24 : Int32).toInt = 24 := rfl; have := i_lt q; omega)) (fun _ => ?_)
              refine r_iload rfl rfl ?_
              refine r_ic (x := 24) rfl rfl ?_
              refine r_icmp_ge (tg := 14) rfl rfl (fun q => False.elim (by have := i_nlt c1; have := i_rg c; have : (0 : Int32).toInt = 0 := rfl; have := i_eq ek2; have : (nI k2).toInt = ((k2 : Nat) : Int) := nI_toInt (by omega); have := i_nle c3; have : (24 : Int32).toInt = 24 := rfl; have := i_le q; omega)) (fun _ => ?_)
              refine r_ic (x := 1) rfl rfl ?_
              refine r_goto (tg := 15) rfl rfl ?_
              refine r_zret rfl (.inr rfl) ?_
              show WR _ cd_175 4 [some (.ref (ad 30)), some (.int c), some (.int i), some (.int d), none, none, none] [.int 1] (sI (sI (sI h (ad 0) 6 0) (ad 0) 6 (-11)) (ad 0) 6 (-14)) _
              refine r_if_eq (tg := 14) rfl rfl (fun q => absurd q (by decide)) (fun _ => ?_)
              refine r_iload rfl rfl ?_
              refine WR_tI (y := nI k5) ek5 ?_
              refine r_cs (y := 153) (ra := [.int (nI k5)]) (rest := []) rfl ⟨⟨rfl, rfl⟩, by decide⟩ rfl rfl (Nat.le_of_ble_eq_true rfl) ?_
              refine in_153 (Nat.le_of_ble_eq_true rfl) ?_
              show WR _ cd_153 0 [some (.int (nI k5))] [] (sI (sI (sI h (ad 0) 6 0) (ad 0) 6 (-11)) (ad 0) 6 (-14)) _
              refine r_iload rfl rfl ?_
              refine r_if_lt (tg := 14) rfl rfl (fun q => False.elim (by have := i_nlt c4; have := i_rg d; have : (0 : Int32).toInt = 0 := rfl; have := i_eq ek5; have : (nI k5).toInt = ((k5 : Nat) : Int) := nI_toInt (by omega); have := i_nle c6; have : (24 : Int32).toInt = 24 := rfl; have := i_lt q; omega)) (fun _ => ?_)
              refine r_iload rfl rfl ?_
              refine r_ic (x := 24) rfl rfl ?_
              refine r_icmp_ge (tg := 14) rfl rfl (fun q => False.elim (by have := i_nlt c4; have := i_rg d; have : (0 : Int32).toInt = 0 := rfl; have := i_eq ek5; have : (nI k5).toInt = ((k5 : Nat) : Int) := nI_toInt (by omega); have := i_nle c6; have : (24 : Int32).toInt = 24 := rfl; have := i_le q; omega)) (fun _ => ?_)
              refine r_ic (x := 1) rfl rfl ?_
              refine r_goto (tg := 15) rfl rfl ?_
              refine r_zret rfl (.inr rfl) ?_
              show WR _ cd_175 11 [some (.ref (ad 30)), some (.int c), some (.int i), some (.int d), none, none, none] [.int 1] (sI (sI (sI h (ad 0) 6 0) (ad 0) 6 (-11)) (ad 0) 6 (-14)) _
              refine r_if_ne (tg := 21) rfl rfl (fun _ => ?_) (fun q => absurd q (by decide))
              refine r_aload rfl rfl ?_
              refine r_getA (b := ad 31) rfl ⟨rfl, rfl, rfl⟩ (fx_t30 fx) (fx_r30_0 fx) ?_
              refine r_iload rfl rfl ?_
              refine WR_tI (y := nI k2) ek2 ?_
              refine r_iaload rfl (.inl (fx_t31 fx)) (vp_ct (fx_n31 fx) (vp_in_nI (by have := i_nlt c1; have := i_rg c; have : (0 : Int32).toInt = 0 := rfl; have := i_eq ek2; have : (nI k2).toInt = ((k2 : Nat) : Int) := nI_toInt (by omega); have := i_nle c3; have : (24 : Int32).toInt = 24 := rfl; omega) (by omega))) ?_
              refine WR_tI (congrArg (hI (sI (sI (sI h (ad 0) 6 0) (ad 0) 6 (-11)) (ad 0) 6 (-14)) (ad 31)) ((nI_clamp (by have := i_nlt c1; have := i_rg c; have : (0 : Int32).toInt = 0 := rfl; have := i_eq ek2; have : (nI k2).toInt = ((k2 : Nat) : Int) := nI_toInt (by omega); have := i_nle c3; have : (24 : Int32).toInt = 24 := rfl; omega)) : _ = k2)) ?_
              refine WR_tI (y := (-1)) (Eq.trans (I_ne (fx_ne fx (by decide))) (Eq.trans (I_ne (fx_ne fx (by decide))) (Eq.trans (I_ne (fx_ne fx (by decide))) v12))) ?_
              refine r_istore (lv' := [some (.ref (ad 30)), some (.int c), some (.int i), some (.int d), some (.int (-1)), none, none]) rfl (Nat.le_of_ble_eq_true rfl) rfl ?_
              refine r_aload rfl rfl ?_
              refine r_getA (b := ad 31) rfl ⟨rfl, rfl, rfl⟩ (fx_t30 fx) (fx_r30_0 fx) ?_
              refine r_iload rfl rfl ?_
              refine WR_tI (y := nI k5) ek5 ?_
              refine r_iaload rfl (.inl (fx_t31 fx)) (vp_ct (fx_n31 fx) (vp_in_nI (by have := i_nlt c4; have := i_rg d; have : (0 : Int32).toInt = 0 := rfl; have := i_eq ek5; have : (nI k5).toInt = ((k5 : Nat) : Int) := nI_toInt (by omega); have := i_nle c6; have : (24 : Int32).toInt = 24 := rfl; omega) (by omega))) ?_
              refine WR_tI (congrArg (hI (sI (sI (sI h (ad 0) 6 0) (ad 0) 6 (-11)) (ad 0) 6 (-14)) (ad 31)) ((nI_clamp (by have := i_nlt c4; have := i_rg d; have : (0 : Int32).toInt = 0 := rfl; have := i_eq ek5; have : (nI k5).toInt = ((k5 : Nat) : Int) := nI_toInt (by omega); have := i_nle c6; have : (24 : Int32).toInt = 24 := rfl; omega)) : _ = k5)) ?_
              refine WR_tI (y := nI (q7 + 1000)) (Eq.trans (I_ne (fx_ne fx (by decide))) (Eq.trans (I_ne (fx_ne fx (by decide))) (Eq.trans (I_ne (fx_ne fx (by decide))) v7))) ?_
              refine r_istore (lv' := [some (.ref (ad 30)), some (.int c), some (.int i), some (.int d), some (.int (-1)), some (.int (nI (q7 + 1000))), none]) rfl (Nat.le_of_ble_eq_true rfl) rfl ?_
              refine r_iload rfl rfl ?_
              refine r_ic (x := (-1)) rfl rfl ?_
              refine r_icmp_eq (tg := 54) rfl rfl (fun _ => ?_) (fun q => absurd q (by decide))
              refine r_iload rfl rfl ?_
              refine r_ic (x := (-1)) rfl rfl ?_
              refine r_icmp_eq (tg := 76) rfl rfl (fun q => False.elim (by have : (nI (q7 + 1000)).toInt = ((q7 + 1000 : Nat) : Int) := nI_toInt (by omega); have : (-1 : Int32).toInt = -1 := rfl; have := i_eq q; omega)) (fun _ => ?_)
              refine r_aload rfl rfl ?_
              refine r_iload rfl rfl ?_
              refine r_cv (y := 166) (ra := [.int (nI (q7 + 1000))]) (rest := []) rfl ⟨⟨rfl, rfl⟩, rfl, by decide⟩ (fx_t30 fx) rfl rfl (Nat.le_of_ble_eq_true rfl) ?_
              refine in_166 (Nat.le_of_ble_eq_true rfl) ?_
              show WR _ cd_166 0 [some (.ref (ad 30)), some (.int (nI (q7 + 1000)))] [] (sI (sI (sI h (ad 0) 6 0) (ad 0) 6 (-11)) (ad 0) 6 (-14)) _
              refine r_iload rfl rfl ?_
              refine r_ic (x := (-1)) rfl rfl ?_
              refine r_icmp_ne (tg := 9) rfl rfl (fun _ => ?_) (fun q => False.elim (by have : (nI (q7 + 1000)).toInt = ((q7 + 1000 : Nat) : Int) := nI_toInt (by omega); have : (-1 : Int32).toInt = -1 := rfl; have := i_eq q; omega))
              refine r_iload rfl rfl ?_
              refine r_ic (x := 1000) rfl rfl ?_
              refine r_icmp_lt (tg := 21) rfl rfl (fun q => False.elim (by have : (nI (q7 + 1000)).toInt = ((q7 + 1000 : Nat) : Int) := nI_toInt (by omega); have : (1000 : Int32).toInt = 1000 := rfl; have := i_lt q; omega)) (fun _ => ?_)
              refine r_ic (x := 10) rfl rfl ?_
              refine r_goto (tg := 27) rfl rfl ?_
              refine r_iret rfl ?_
              show WR _ cd_175 66 [some (.ref (ad 30)), some (.int c), some (.int i), some (.int d), some (.int (-1)), some (.int (nI (q7 + 1000))), none] [.int 10] (sI (sI (sI h (ad 0) 6 0) (ad 0) 6 (-11)) (ad 0) 6 (-14)) _
              refine r_ic (x := 3) rfl rfl ?_
              refine r_icmp_eq (tg := 76) rfl rfl (fun q => absurd q (by decide)) (fun _ => ?_)
              refine r_aload rfl rfl ?_
              refine r_ic (x := 4) rfl rfl ?_
              refine r_cv (y := 156) (ra := [.int 4]) (rest := []) rfl ⟨⟨rfl, rfl⟩, rfl, by decide⟩ (fx_t30 fx) rfl rfl (Nat.le_of_ble_eq_true rfl) ?_
              refine in_156 (Nat.le_of_ble_eq_true rfl) ?_
              show WR _ cd_156 0 [some (.ref (ad 30)), some (.int 4)] [] (sI (sI (sI h (ad 0) 6 0) (ad 0) 6 (-11)) (ad 0) 6 (-14)) _
              refine r_aload rfl rfl ?_
              refine r_ic (x := (-10)) rfl rfl ?_
              refine r_iload rfl rfl ?_
              refine r_isub rfl ?_
              refine WR_tI (y := (-14)) rfl ?_
              refine r_cv (y := 154) (ra := [.int (-14)]) (rest := []) rfl ⟨⟨rfl, rfl⟩, rfl, by decide⟩ (fx_t30 fx) rfl rfl (Nat.le_of_ble_eq_true rfl) ?_
              refine in_154 (Nat.le_of_ble_eq_true rfl) ?_
              show WR _ cd_154 0 [some (.ref (ad 30)), some (.int (-14))] [] (sI (sI (sI h (ad 0) 6 0) (ad 0) 6 (-11)) (ad 0) 6 (-14)) _
              refine r_aload rfl rfl ?_
              refine r_iload rfl rfl ?_
              refine r_ic (x := (-1)) rfl rfl ?_
              refine r_icmp_ge (tg := 10) rfl rfl (fun q => absurd q (by decide)) (fun _ => ?_)
              refine r_iload rfl rfl ?_
              refine r_goto (tg := 11) rfl rfl ?_
              refine r_putI rfl ⟨rfl, rfl, rfl⟩ (fx_t30 fx) ?_
              have fx : FX n ad sa z0 (sI (sI (sI (sI h (ad 0) 6 0) (ad 0) 6 (-11)) (ad 0) 6 (-14)) (ad 30) 11 (-14)) := (FX.sI fx)
              refine r_iload rfl rfl ?_
              refine r_iret rfl ?_
              show WR _ cd_156 8 [some (.ref (ad 30)), some (.int 4)] [.int (-14)] (sI (sI (sI (sI h (ad 0) 6 0) (ad 0) 6 (-11)) (ad 0) 6 (-14)) (ad 30) 11 (-14)) _
              refine r_iret rfl ?_
              show WR _ cd_175 75 [some (.ref (ad 30)), some (.int c), some (.int i), some (.int d), some (.int (-1)), some (.int (nI (q7 + 1000))), none] [.int (-14)] (sI (sI (sI (sI h (ad 0) 6 0) (ad 0) 6 (-11)) (ad 0) 6 (-14)) (ad 30) 11 (-14)) _
              refine r_iret rfl ?_
              exact ⟨rfl, Rel.why r ((((Chg.rf.sI (fx_j fx) (.inl (by decide))).sI (fx_j fx) (.inl (by decide))).sI (fx_j fx) (.inl (by decide))).sI (fx_j fx) (.inl (by decide))) ⟨rfl, by decide⟩ (Eq.trans (Eq.trans (I_ne (fx_ne fx (by decide))) I_eq) (Eq.symm I_eq)), (by (try simp only [hZ_sI, hZ_sL, hZ_sD, hZ_sR]); omega), (by (try simp only [hU_sI, hU_sL, hU_sD, hU_sR]); omega)⟩
            · refine r_aaloadA (b := pa q12) rfl (isQ_of (fx_t1 fx) (by decide)) (vp_ct (fx_n1 fx) (vp_in_nI (by have := i_nlt c1; have := i_rg c; have : (0 : Int32).toInt = 0 := rfl; have := i_eq ek2; have : (nI k2).toInt = ((k2 : Nat) : Int) := nI_toInt (by omega); have := i_nle c3; have : (24 : Int32).toInt = 24 := rfl; omega) (by omega))) (Eq.trans (congrArg (hR (sI h (ad 0) 6 0) (ad 1)) ((nI_clamp (by have := i_nlt c1; have := i_rg c; have : (0 : Int32).toInt = 0 := rfl; have := i_eq ek2; have : (nI k2).toInt = ((k2 : Nat) : Int) := nI_toInt (by omega); have := i_nle c3; have : (24 : Int32).toInt = 24 := rfl; omega)) : _ = k2)) (Eq.trans R_oI w12)) ?_
              refine r_astore (lv' := [some (.ref (ad 0)), some (.int (nI k2)), some (.int 8), some (.ref (pa q12)), none]) rfl (Nat.le_of_ble_eq_true rfl) rfl ?_
              refine r_aload rfl rfl ?_
              refine r_instW rfl (by decide) tg12 (by decide) ?_
              refine r_if_eq (tg := 32) rfl rfl (fun _ => ?_) (fun q => absurd q (by decide))
              refine r_aload rfl rfl ?_
              refine r_aload rfl rfl ?_
              refine r_ifnonnullA (tg := 42) rfl rfl ?_
              refine r_ic (x := (-14)) rfl rfl ?_
              refine r_putI rfl ⟨rfl, rfl, rfl⟩ (fx_t0 fx) ?_
              have fx : FX n ad sa z0 (sI (sI h (ad 0) 6 0) (ad 0) 6 (-14)) := (FX.sI fx)
              refine r_null rfl ?_
              refine r_aret0 rfl ?_
              show WR _ cd_46 15 [some (.ref (ad 0)), some (.int (nI k2)), some (.int 8), some (.int i), some (.int (nI k5)), some (.int 3), some (.ref (pa q7)), none] [.null] (sI (sI h (ad 0) 6 0) (ad 0) 6 (-14)) _
              refine r_astore0 (lv' := [some (.ref (ad 0)), some (.int (nI k2)), some (.int 8), some (.int i), some (.int (nI k5)), some (.int 3), some (.ref (pa q7)), some (.null)]) rfl (Nat.le_of_ble_eq_true rfl) rfl ?_
              refine r_aload rfl rfl ?_
              refine r_getI rfl ⟨rfl, rfl, rfl⟩ (fx_t0 fx) ?_
              refine WR_tI (y := (-14)) I_eq ?_
              refine r_ic (x := (-14)) rfl rfl ?_
              refine r_icmp_eq (tg := 41) rfl rfl (fun _ => ?_) (fun q => absurd q (by decide))
              refine r_aload rfl rfl ?_
              refine r_ic (x := (-14)) rfl rfl ?_
              refine r_cv (y := 13) (ra := [.int (-14)]) (rest := []) rfl ⟨⟨rfl, rfl⟩, rfl, by decide⟩ (fx_t0 fx) rfl rfl (Nat.le_of_ble_eq_true rfl) ?_
              refine in_13 (Nat.le_of_ble_eq_true rfl) ?_
              show WR _ cd_13 0 [some (.ref (ad 0)), some (.int (-14))] [] (sI (sI h (ad 0) 6 0) (ad 0) 6 (-14)) _
              refine r_aload rfl rfl ?_
              refine r_iload rfl rfl ?_
              refine r_putI rfl ⟨rfl, rfl, rfl⟩ (fx_t0 fx) ?_
              have fx : FX n ad sa z0 (sI (sI (sI h (ad 0) 6 0) (ad 0) 6 (-14)) (ad 0) 6 (-14)) := (FX.sI fx)
              refine r_iload rfl rfl ?_
              refine r_iret rfl ?_
              show WR _ cd_46 47 [some (.ref (ad 0)), some (.int (nI k2)), some (.int 8), some (.int i), some (.int (nI k5)), some (.int 3), some (.ref (pa q7)), some (.null)] [.int (-14)] (sI (sI (sI h (ad 0) 6 0) (ad 0) 6 (-14)) (ad 0) 6 (-14)) _
              refine r_iret rfl ?_
              show WR _ cd_45 36 [some (.ref (ad 0)), some (.int c), some (.int i), some (.int d)] [.int (-14)] (sI (sI (sI h (ad 0) 6 0) (ad 0) 6 (-14)) (ad 0) 6 (-14)) _
              refine r_iret rfl ?_
              show EV _ 175 [.ref (ad 30), .int c, .int i, .int d] (sI (sI (sI h (ad 0) 6 0) (ad 0) 6 (-14)) (ad 0) 6 (-14)) _
              refine in_175 (Nat.le_of_ble_eq_true rfl) ?_
              show WR _ cd_175 0 [some (.ref (ad 30)), some (.int c), some (.int i), some (.int d), none, none, none] [] (sI (sI (sI h (ad 0) 6 0) (ad 0) 6 (-14)) (ad 0) 6 (-14)) _
              refine r_iload rfl rfl ?_
              refine WR_tI (y := nI k2) ek2 ?_
              refine r_cs (y := 153) (ra := [.int (nI k2)]) (rest := []) rfl ⟨⟨rfl, rfl⟩, by decide⟩ rfl rfl (Nat.le_of_ble_eq_true rfl) ?_
              refine in_153 (Nat.le_of_ble_eq_true rfl) ?_
              show WR _ cd_153 0 [some (.int (nI k2))] [] (sI (sI (sI h (ad 0) 6 0) (ad 0) 6 (-14)) (ad 0) 6 (-14)) _
              refine r_iload rfl rfl ?_
              refine r_if_lt (tg := 14) rfl rfl (fun q => False.elim (by have := i_nlt c1; have := i_rg c; have : (0 : Int32).toInt = 0 := rfl; have := i_eq ek2; have : (nI k2).toInt = ((k2 : Nat) : Int) := nI_toInt (by omega); have := i_nle c3; have : (24 : Int32).toInt = 24 := rfl; have := i_lt q; omega)) (fun _ => ?_)
              refine r_iload rfl rfl ?_
              refine r_ic (x := 24) rfl rfl ?_
              refine r_icmp_ge (tg := 14) rfl rfl (fun q => False.elim (by have := i_nlt c1; have := i_rg c; have : (0 : Int32).toInt = 0 := rfl; have := i_eq ek2; have : (nI k2).toInt = ((k2 : Nat) : Int) := nI_toInt (by omega); have := i_nle c3; have : (24 : Int32).toInt = 24 := rfl; have := i_le q; omega)) (fun _ => ?_)
              refine r_ic (x := 1) rfl rfl ?_
              refine r_goto (tg := 15) rfl rfl ?_
              refine r_zret rfl (.inr rfl) ?_
              show WR _ cd_175 4 [some (.ref (ad 30)), some (.int c), some (.int i), some (.int d), none, none, none] [.int 1] (sI (sI (sI h (ad 0) 6 0) (ad 0) 6 (-14)) (ad 0) 6 (-14)) _
              refine r_if_eq (tg := 14) rfl rfl (fun q => absurd q (by decide)) (fun _ => ?_)
              refine r_iload rfl rfl ?_
              refine WR_tI (y := nI k5) ek5 ?_
              refine r_cs (y := 153) (ra := [.int (nI k5)]) (rest := []) rfl ⟨⟨rfl, rfl⟩, by decide⟩ rfl rfl (Nat.le_of_ble_eq_true rfl) ?_
              refine in_153 (Nat.le_of_ble_eq_true rfl) ?_
              show WR _ cd_153 0 [some (.int (nI k5))] [] (sI (sI (sI h (ad 0) 6 0) (ad 0) 6 (-14)) (ad 0) 6 (-14)) _
              refine r_iload rfl rfl ?_
              refine r_if_lt (tg := 14) rfl rfl (fun q => False.elim (by have := i_nlt c4; have := i_rg d; have : (0 : Int32).toInt = 0 := rfl; have := i_eq ek5; have : (nI k5).toInt = ((k5 : Nat) : Int) := nI_toInt (by omega); have := i_nle c6; have : (24 : Int32).toInt = 24 := rfl; have := i_lt q; omega)) (fun _ => ?_)
              refine r_iload rfl rfl ?_
              refine r_ic (x := 24) rfl rfl ?_
              refine r_icmp_ge (tg := 14) rfl rfl (fun q => False.elim (by have := i_nlt c4; have := i_rg d; have : (0 : Int32).toInt = 0 := rfl; have := i_eq ek5; have : (nI k5).toInt = ((k5 : Nat) : Int) := nI_toInt (by omega); have := i_nle c6; have : (24 : Int32).toInt = 24 := rfl; have := i_le q; omega)) (fun _ => ?_)
              refine r_ic (x := 1) rfl rfl ?_
              refine r_goto (tg := 15) rfl rfl ?_
              refine r_zret rfl (.inr rfl) ?_
              show WR _ cd_175 11 [some (.ref (ad 30)), some (.int c), some (.int i), some (.int d), none, none, none] [.int 1] (sI (sI (sI h (ad 0) 6 0) (ad 0) 6 (-14)) (ad 0) 6 (-14)) _
              refine r_if_ne (tg := 21) rfl rfl (fun _ => ?_) (fun q => absurd q (by decide))
              refine r_aload rfl rfl ?_
              refine r_getA (b := ad 31) rfl ⟨rfl, rfl, rfl⟩ (fx_t30 fx) (fx_r30_0 fx) ?_
              refine r_iload rfl rfl ?_
              refine WR_tI (y := nI k2) ek2 ?_
              refine r_iaload rfl (.inl (fx_t31 fx)) (vp_ct (fx_n31 fx) (vp_in_nI (by have := i_nlt c1; have := i_rg c; have : (0 : Int32).toInt = 0 := rfl; have := i_eq ek2; have : (nI k2).toInt = ((k2 : Nat) : Int) := nI_toInt (by omega); have := i_nle c3; have : (24 : Int32).toInt = 24 := rfl; omega) (by omega))) ?_
              refine WR_tI (congrArg (hI (sI (sI (sI h (ad 0) 6 0) (ad 0) 6 (-14)) (ad 0) 6 (-14)) (ad 31)) ((nI_clamp (by have := i_nlt c1; have := i_rg c; have : (0 : Int32).toInt = 0 := rfl; have := i_eq ek2; have : (nI k2).toInt = ((k2 : Nat) : Int) := nI_toInt (by omega); have := i_nle c3; have : (24 : Int32).toInt = 24 := rfl; omega)) : _ = k2)) ?_
              refine WR_tI (y := nI (q12 + 1000)) (Eq.trans (I_ne (fx_ne fx (by decide))) (Eq.trans (I_ne (fx_ne fx (by decide))) (Eq.trans (I_ne (fx_ne fx (by decide))) v12))) ?_
              refine r_istore (lv' := [some (.ref (ad 30)), some (.int c), some (.int i), some (.int d), some (.int (nI (q12 + 1000))), none, none]) rfl (Nat.le_of_ble_eq_true rfl) rfl ?_
              refine r_aload rfl rfl ?_
              refine r_getA (b := ad 31) rfl ⟨rfl, rfl, rfl⟩ (fx_t30 fx) (fx_r30_0 fx) ?_
              refine r_iload rfl rfl ?_
              refine WR_tI (y := nI k5) ek5 ?_
              refine r_iaload rfl (.inl (fx_t31 fx)) (vp_ct (fx_n31 fx) (vp_in_nI (by have := i_nlt c4; have := i_rg d; have : (0 : Int32).toInt = 0 := rfl; have := i_eq ek5; have : (nI k5).toInt = ((k5 : Nat) : Int) := nI_toInt (by omega); have := i_nle c6; have : (24 : Int32).toInt = 24 := rfl; omega) (by omega))) ?_
              refine WR_tI (congrArg (hI (sI (sI (sI h (ad 0) 6 0) (ad 0) 6 (-14)) (ad 0) 6 (-14)) (ad 31)) ((nI_clamp (by have := i_nlt c4; have := i_rg d; have : (0 : Int32).toInt = 0 := rfl; have := i_eq ek5; have : (nI k5).toInt = ((k5 : Nat) : Int) := nI_toInt (by omega); have := i_nle c6; have : (24 : Int32).toInt = 24 := rfl; omega)) : _ = k5)) ?_
              refine WR_tI (y := nI (q7 + 1000)) (Eq.trans (I_ne (fx_ne fx (by decide))) (Eq.trans (I_ne (fx_ne fx (by decide))) (Eq.trans (I_ne (fx_ne fx (by decide))) v7))) ?_
              refine r_istore (lv' := [some (.ref (ad 30)), some (.int c), some (.int i), some (.int d), some (.int (nI (q12 + 1000))), some (.int (nI (q7 + 1000))), none]) rfl (Nat.le_of_ble_eq_true rfl) rfl ?_
              refine r_iload rfl rfl ?_
              refine r_ic (x := (-1)) rfl rfl ?_
              refine r_icmp_eq (tg := 54) rfl rfl (fun q => False.elim (by have : (nI (q12 + 1000)).toInt = ((q12 + 1000 : Nat) : Int) := nI_toInt (by omega); have : (-1 : Int32).toInt = -1 := rfl; have := i_eq q; omega)) (fun _ => ?_)
              refine r_aload rfl rfl ?_
              refine r_iload rfl rfl ?_
              refine r_cv (y := 166) (ra := [.int (nI (q12 + 1000))]) (rest := []) rfl ⟨⟨rfl, rfl⟩, rfl, by decide⟩ (fx_t30 fx) rfl rfl (Nat.le_of_ble_eq_true rfl) ?_
              refine in_166 (Nat.le_of_ble_eq_true rfl) ?_
              show WR _ cd_166 0 [some (.ref (ad 30)), some (.int (nI (q12 + 1000)))] [] (sI (sI (sI h (ad 0) 6 0) (ad 0) 6 (-14)) (ad 0) 6 (-14)) _
              refine r_iload rfl rfl ?_
              refine r_ic (x := (-1)) rfl rfl ?_
              refine r_icmp_ne (tg := 9) rfl rfl (fun _ => ?_) (fun q => False.elim (by have : (nI (q12 + 1000)).toInt = ((q12 + 1000 : Nat) : Int) := nI_toInt (by omega); have : (-1 : Int32).toInt = -1 := rfl; have := i_eq q; omega))
              refine r_iload rfl rfl ?_
              refine r_ic (x := 1000) rfl rfl ?_
              refine r_icmp_lt (tg := 21) rfl rfl (fun q => False.elim (by have : (nI (q12 + 1000)).toInt = ((q12 + 1000 : Nat) : Int) := nI_toInt (by omega); have : (1000 : Int32).toInt = 1000 := rfl; have := i_lt q; omega)) (fun _ => ?_)
              refine r_ic (x := 10) rfl rfl ?_
              refine r_goto (tg := 27) rfl rfl ?_
              refine r_iret rfl ?_
              show WR _ cd_175 49 [some (.ref (ad 30)), some (.int c), some (.int i), some (.int d), some (.int (nI (q12 + 1000))), some (.int (nI (q7 + 1000))), none] [.int 10] (sI (sI (sI h (ad 0) 6 0) (ad 0) 6 (-14)) (ad 0) 6 (-14)) _
              refine r_ic (x := 8) rfl rfl ?_
              refine r_icmp_ne (tg := 70) rfl rfl (fun _ => ?_) (fun q => absurd q (by decide))
              refine r_aload rfl rfl ?_
              refine r_ic (x := 4) rfl rfl ?_
              refine r_cv (y := 156) (ra := [.int 4]) (rest := []) rfl ⟨⟨rfl, rfl⟩, rfl, by decide⟩ (fx_t30 fx) rfl rfl (Nat.le_of_ble_eq_true rfl) ?_
              refine in_156 (Nat.le_of_ble_eq_true rfl) ?_
              show WR _ cd_156 0 [some (.ref (ad 30)), some (.int 4)] [] (sI (sI (sI h (ad 0) 6 0) (ad 0) 6 (-14)) (ad 0) 6 (-14)) _
              refine r_aload rfl rfl ?_
              refine r_ic (x := (-10)) rfl rfl ?_
              refine r_iload rfl rfl ?_
              refine r_isub rfl ?_
              refine WR_tI (y := (-14)) rfl ?_
              refine r_cv (y := 154) (ra := [.int (-14)]) (rest := []) rfl ⟨⟨rfl, rfl⟩, rfl, by decide⟩ (fx_t30 fx) rfl rfl (Nat.le_of_ble_eq_true rfl) ?_
              refine in_154 (Nat.le_of_ble_eq_true rfl) ?_
              show WR _ cd_154 0 [some (.ref (ad 30)), some (.int (-14))] [] (sI (sI (sI h (ad 0) 6 0) (ad 0) 6 (-14)) (ad 0) 6 (-14)) _
              refine r_aload rfl rfl ?_
              refine r_iload rfl rfl ?_
              refine r_ic (x := (-1)) rfl rfl ?_
              refine r_icmp_ge (tg := 10) rfl rfl (fun q => absurd q (by decide)) (fun _ => ?_)
              refine r_iload rfl rfl ?_
              refine r_goto (tg := 11) rfl rfl ?_
              refine r_putI rfl ⟨rfl, rfl, rfl⟩ (fx_t30 fx) ?_
              have fx : FX n ad sa z0 (sI (sI (sI (sI h (ad 0) 6 0) (ad 0) 6 (-14)) (ad 0) 6 (-14)) (ad 30) 11 (-14)) := (FX.sI fx)
              refine r_iload rfl rfl ?_
              refine r_iret rfl ?_
              show WR _ cd_156 8 [some (.ref (ad 30)), some (.int 4)] [.int (-14)] (sI (sI (sI (sI h (ad 0) 6 0) (ad 0) 6 (-14)) (ad 0) 6 (-14)) (ad 30) 11 (-14)) _
              refine r_iret rfl ?_
              show WR _ cd_175 75 [some (.ref (ad 30)), some (.int c), some (.int i), some (.int d), some (.int (nI (q12 + 1000))), some (.int (nI (q7 + 1000))), none] [.int (-14)] (sI (sI (sI (sI h (ad 0) 6 0) (ad 0) 6 (-14)) (ad 0) 6 (-14)) (ad 30) 11 (-14)) _
              refine r_iret rfl ?_
              exact ⟨rfl, Rel.why r ((((Chg.rf.sI (fx_j fx) (.inl (by decide))).sI (fx_j fx) (.inl (by decide))).sI (fx_j fx) (.inl (by decide))).sI (fx_j fx) (.inl (by decide))) ⟨rfl, by decide⟩ (Eq.trans (Eq.trans (I_ne (fx_ne fx (by decide))) I_eq) (Eq.symm I_eq)), (by (try simp only [hZ_sI, hZ_sL, hZ_sD, hZ_sR]); omega), (by (try simp only [hU_sI, hU_sL, hU_sD, hU_sR]); omega)⟩
            · refine r_aaloadA (b := mid t12) rfl (isQ_of (fx_t1 fx) (by decide)) (vp_ct (fx_n1 fx) (vp_in_nI (by have := i_nlt c1; have := i_rg c; have : (0 : Int32).toInt = 0 := rfl; have := i_eq ek2; have : (nI k2).toInt = ((k2 : Nat) : Int) := nI_toInt (by omega); have := i_nle c3; have : (24 : Int32).toInt = 24 := rfl; omega) (by omega))) (Eq.trans (congrArg (hR (sI h (ad 0) 6 0) (ad 1)) ((nI_clamp (by have := i_nlt c1; have := i_rg c; have : (0 : Int32).toInt = 0 := rfl; have := i_eq ek2; have : (nI k2).toInt = ((k2 : Nat) : Int) := nI_toInt (by omega); have := i_nle c3; have : (24 : Int32).toInt = 24 := rfl; omega)) : _ = k2)) (Eq.trans R_oI w12)) ?_
              refine r_astore (lv' := [some (.ref (ad 0)), some (.int (nI k2)), some (.int 8), some (.ref (mid t12)), none]) rfl (Nat.le_of_ble_eq_true rfl) rfl ?_
              refine r_aload rfl rfl ?_
              refine r_instW rfl (by decide) tg12 (by decide) ?_
              refine r_if_eq (tg := 32) rfl rfl (fun _ => ?_) (fun q => absurd q (by decide))
              refine r_aload rfl rfl ?_
              refine r_aload rfl rfl ?_
              refine r_ifnonnullA (tg := 42) rfl rfl ?_
              refine r_ic (x := (-14)) rfl rfl ?_
              refine r_putI rfl ⟨rfl, rfl, rfl⟩ (fx_t0 fx) ?_
              have fx : FX n ad sa z0 (sI (sI h (ad 0) 6 0) (ad 0) 6 (-14)) := (FX.sI fx)
              refine r_null rfl ?_
              refine r_aret0 rfl ?_
              show WR _ cd_46 15 [some (.ref (ad 0)), some (.int (nI k2)), some (.int 8), some (.int i), some (.int (nI k5)), some (.int 3), some (.ref (pa q7)), none] [.null] (sI (sI h (ad 0) 6 0) (ad 0) 6 (-14)) _
              refine r_astore0 (lv' := [some (.ref (ad 0)), some (.int (nI k2)), some (.int 8), some (.int i), some (.int (nI k5)), some (.int 3), some (.ref (pa q7)), some (.null)]) rfl (Nat.le_of_ble_eq_true rfl) rfl ?_
              refine r_aload rfl rfl ?_
              refine r_getI rfl ⟨rfl, rfl, rfl⟩ (fx_t0 fx) ?_
              refine WR_tI (y := (-14)) I_eq ?_
              refine r_ic (x := (-14)) rfl rfl ?_
              refine r_icmp_eq (tg := 41) rfl rfl (fun _ => ?_) (fun q => absurd q (by decide))
              refine r_aload rfl rfl ?_
              refine r_ic (x := (-14)) rfl rfl ?_
              refine r_cv (y := 13) (ra := [.int (-14)]) (rest := []) rfl ⟨⟨rfl, rfl⟩, rfl, by decide⟩ (fx_t0 fx) rfl rfl (Nat.le_of_ble_eq_true rfl) ?_
              refine in_13 (Nat.le_of_ble_eq_true rfl) ?_
              show WR _ cd_13 0 [some (.ref (ad 0)), some (.int (-14))] [] (sI (sI h (ad 0) 6 0) (ad 0) 6 (-14)) _
              refine r_aload rfl rfl ?_
              refine r_iload rfl rfl ?_
              refine r_putI rfl ⟨rfl, rfl, rfl⟩ (fx_t0 fx) ?_
              have fx : FX n ad sa z0 (sI (sI (sI h (ad 0) 6 0) (ad 0) 6 (-14)) (ad 0) 6 (-14)) := (FX.sI fx)
              refine r_iload rfl rfl ?_
              refine r_iret rfl ?_
              show WR _ cd_46 47 [some (.ref (ad 0)), some (.int (nI k2)), some (.int 8), some (.int i), some (.int (nI k5)), some (.int 3), some (.ref (pa q7)), some (.null)] [.int (-14)] (sI (sI (sI h (ad 0) 6 0) (ad 0) 6 (-14)) (ad 0) 6 (-14)) _
              refine r_iret rfl ?_
              show WR _ cd_45 36 [some (.ref (ad 0)), some (.int c), some (.int i), some (.int d)] [.int (-14)] (sI (sI (sI h (ad 0) 6 0) (ad 0) 6 (-14)) (ad 0) 6 (-14)) _
              refine r_iret rfl ?_
              show EV _ 175 [.ref (ad 30), .int c, .int i, .int d] (sI (sI (sI h (ad 0) 6 0) (ad 0) 6 (-14)) (ad 0) 6 (-14)) _
              refine in_175 (Nat.le_of_ble_eq_true rfl) ?_
              show WR _ cd_175 0 [some (.ref (ad 30)), some (.int c), some (.int i), some (.int d), none, none, none] [] (sI (sI (sI h (ad 0) 6 0) (ad 0) 6 (-14)) (ad 0) 6 (-14)) _
              refine r_iload rfl rfl ?_
              refine WR_tI (y := nI k2) ek2 ?_
              refine r_cs (y := 153) (ra := [.int (nI k2)]) (rest := []) rfl ⟨⟨rfl, rfl⟩, by decide⟩ rfl rfl (Nat.le_of_ble_eq_true rfl) ?_
              refine in_153 (Nat.le_of_ble_eq_true rfl) ?_
              show WR _ cd_153 0 [some (.int (nI k2))] [] (sI (sI (sI h (ad 0) 6 0) (ad 0) 6 (-14)) (ad 0) 6 (-14)) _
              refine r_iload rfl rfl ?_
              refine r_if_lt (tg := 14) rfl rfl (fun q => False.elim (by have := i_nlt c1; have := i_rg c; have : (0 : Int32).toInt = 0 := rfl; have := i_eq ek2; have : (nI k2).toInt = ((k2 : Nat) : Int) := nI_toInt (by omega); have := i_nle c3; have : (24 : Int32).toInt = 24 := rfl; have := i_lt q; omega)) (fun _ => ?_)
              refine r_iload rfl rfl ?_
              refine r_ic (x := 24) rfl rfl ?_
              refine r_icmp_ge (tg := 14) rfl rfl (fun q => False.elim (by have := i_nlt c1; have := i_rg c; have : (0 : Int32).toInt = 0 := rfl; have := i_eq ek2; have : (nI k2).toInt = ((k2 : Nat) : Int) := nI_toInt (by omega); have := i_nle c3; have : (24 : Int32).toInt = 24 := rfl; have := i_le q; omega)) (fun _ => ?_)
              refine r_ic (x := 1) rfl rfl ?_
              refine r_goto (tg := 15) rfl rfl ?_
              refine r_zret rfl (.inr rfl) ?_
              show WR _ cd_175 4 [some (.ref (ad 30)), some (.int c), some (.int i), some (.int d), none, none, none] [.int 1] (sI (sI (sI h (ad 0) 6 0) (ad 0) 6 (-14)) (ad 0) 6 (-14)) _
              refine r_if_eq (tg := 14) rfl rfl (fun q => absurd q (by decide)) (fun _ => ?_)
              refine r_iload rfl rfl ?_
              refine WR_tI (y := nI k5) ek5 ?_
              refine r_cs (y := 153) (ra := [.int (nI k5)]) (rest := []) rfl ⟨⟨rfl, rfl⟩, by decide⟩ rfl rfl (Nat.le_of_ble_eq_true rfl) ?_
              refine in_153 (Nat.le_of_ble_eq_true rfl) ?_
              show WR _ cd_153 0 [some (.int (nI k5))] [] (sI (sI (sI h (ad 0) 6 0) (ad 0) 6 (-14)) (ad 0) 6 (-14)) _
              refine r_iload rfl rfl ?_
              refine r_if_lt (tg := 14) rfl rfl (fun q => False.elim (by have := i_nlt c4; have := i_rg d; have : (0 : Int32).toInt = 0 := rfl; have := i_eq ek5; have : (nI k5).toInt = ((k5 : Nat) : Int) := nI_toInt (by omega); have := i_nle c6; have : (24 : Int32).toInt = 24 := rfl; have := i_lt q; omega)) (fun _ => ?_)
              refine r_iload rfl rfl ?_
              refine r_ic (x := 24) rfl rfl ?_
              refine r_icmp_ge (tg := 14) rfl rfl (fun q => False.elim (by have := i_nlt c4; have := i_rg d; have : (0 : Int32).toInt = 0 := rfl; have := i_eq ek5; have : (nI k5).toInt = ((k5 : Nat) : Int) := nI_toInt (by omega); have := i_nle c6; have : (24 : Int32).toInt = 24 := rfl; have := i_le q; omega)) (fun _ => ?_)
              refine r_ic (x := 1) rfl rfl ?_
              refine r_goto (tg := 15) rfl rfl ?_
              refine r_zret rfl (.inr rfl) ?_
              show WR _ cd_175 11 [some (.ref (ad 30)), some (.int c), some (.int i), some (.int d), none, none, none] [.int 1] (sI (sI (sI h (ad 0) 6 0) (ad 0) 6 (-14)) (ad 0) 6 (-14)) _
              refine r_if_ne (tg := 21) rfl rfl (fun _ => ?_) (fun q => absurd q (by decide))
              refine r_aload rfl rfl ?_
              refine r_getA (b := ad 31) rfl ⟨rfl, rfl, rfl⟩ (fx_t30 fx) (fx_r30_0 fx) ?_
              refine r_iload rfl rfl ?_
              refine WR_tI (y := nI k2) ek2 ?_
              refine r_iaload rfl (.inl (fx_t31 fx)) (vp_ct (fx_n31 fx) (vp_in_nI (by have := i_nlt c1; have := i_rg c; have : (0 : Int32).toInt = 0 := rfl; have := i_eq ek2; have : (nI k2).toInt = ((k2 : Nat) : Int) := nI_toInt (by omega); have := i_nle c3; have : (24 : Int32).toInt = 24 := rfl; omega) (by omega))) ?_
              refine WR_tI (congrArg (hI (sI (sI (sI h (ad 0) 6 0) (ad 0) 6 (-14)) (ad 0) 6 (-14)) (ad 31)) ((nI_clamp (by have := i_nlt c1; have := i_rg c; have : (0 : Int32).toInt = 0 := rfl; have := i_eq ek2; have : (nI k2).toInt = ((k2 : Nat) : Int) := nI_toInt (by omega); have := i_nle c3; have : (24 : Int32).toInt = 24 := rfl; omega)) : _ = k2)) ?_
              refine WR_tI (y := nI t12) (Eq.trans (I_ne (fx_ne fx (by decide))) (Eq.trans (I_ne (fx_ne fx (by decide))) (Eq.trans (I_ne (fx_ne fx (by decide))) v12))) ?_
              refine r_istore (lv' := [some (.ref (ad 30)), some (.int c), some (.int i), some (.int d), some (.int (nI t12)), none, none]) rfl (Nat.le_of_ble_eq_true rfl) rfl ?_
              refine r_aload rfl rfl ?_
              refine r_getA (b := ad 31) rfl ⟨rfl, rfl, rfl⟩ (fx_t30 fx) (fx_r30_0 fx) ?_
              refine r_iload rfl rfl ?_
              refine WR_tI (y := nI k5) ek5 ?_
              refine r_iaload rfl (.inl (fx_t31 fx)) (vp_ct (fx_n31 fx) (vp_in_nI (by have := i_nlt c4; have := i_rg d; have : (0 : Int32).toInt = 0 := rfl; have := i_eq ek5; have : (nI k5).toInt = ((k5 : Nat) : Int) := nI_toInt (by omega); have := i_nle c6; have : (24 : Int32).toInt = 24 := rfl; omega) (by omega))) ?_
              refine WR_tI (congrArg (hI (sI (sI (sI h (ad 0) 6 0) (ad 0) 6 (-14)) (ad 0) 6 (-14)) (ad 31)) ((nI_clamp (by have := i_nlt c4; have := i_rg d; have : (0 : Int32).toInt = 0 := rfl; have := i_eq ek5; have : (nI k5).toInt = ((k5 : Nat) : Int) := nI_toInt (by omega); have := i_nle c6; have : (24 : Int32).toInt = 24 := rfl; omega)) : _ = k5)) ?_
              refine WR_tI (y := nI (q7 + 1000)) (Eq.trans (I_ne (fx_ne fx (by decide))) (Eq.trans (I_ne (fx_ne fx (by decide))) (Eq.trans (I_ne (fx_ne fx (by decide))) v7))) ?_
              refine r_istore (lv' := [some (.ref (ad 30)), some (.int c), some (.int i), some (.int d), some (.int (nI t12)), some (.int (nI (q7 + 1000))), none]) rfl (Nat.le_of_ble_eq_true rfl) rfl ?_
              refine r_iload rfl rfl ?_
              refine r_ic (x := (-1)) rfl rfl ?_
              refine r_icmp_eq (tg := 54) rfl rfl (fun q => False.elim (by have : (nI t12).toInt = ((t12 : Nat) : Int) := nI_toInt (by omega); have : (-1 : Int32).toInt = -1 := rfl; have := i_eq q; omega)) (fun _ => ?_)
              refine r_aload rfl rfl ?_
              refine r_iload rfl rfl ?_
              refine r_cv (y := 166) (ra := [.int (nI t12)]) (rest := []) rfl ⟨⟨rfl, rfl⟩, rfl, by decide⟩ (fx_t30 fx) rfl rfl (Nat.le_of_ble_eq_true rfl) ?_
              refine in_166 (Nat.le_of_ble_eq_true rfl) ?_
              show WR _ cd_166 0 [some (.ref (ad 30)), some (.int (nI t12))] [] (sI (sI (sI h (ad 0) 6 0) (ad 0) 6 (-14)) (ad 0) 6 (-14)) _
              refine r_iload rfl rfl ?_
              refine r_ic (x := (-1)) rfl rfl ?_
              refine r_icmp_ne (tg := 9) rfl rfl (fun _ => ?_) (fun q => False.elim (by have : (nI t12).toInt = ((t12 : Nat) : Int) := nI_toInt (by omega); have : (-1 : Int32).toInt = -1 := rfl; have := i_eq q; omega))
              refine r_iload rfl rfl ?_
              refine r_ic (x := 1000) rfl rfl ?_
              refine r_icmp_lt (tg := 21) rfl rfl (fun _ => ?_) (fun q => False.elim (by have : (nI t12).toInt = ((t12 : Nat) : Int) := nI_toInt (by omega); have : (1000 : Int32).toInt = 1000 := rfl; have := i_nlt q; omega))
              refine r_aload rfl rfl ?_
              refine r_getA (b := ad 33) rfl ⟨rfl, rfl, rfl⟩ (fx_t30 fx) (fx_r30_2 fx) ?_
              refine r_iload rfl rfl ?_
              refine r_iaload rfl (.inl (fx_t33 fx)) (vp_ct (fx_n33 fx) (vp_in_nI (by omega) (by omega))) ?_
              refine WR_tI (congrArg (hI (sI (sI (sI h (ad 0) 6 0) (ad 0) 6 (-14)) (ad 0) 6 (-14)) (ad 33)) ((nI_clamp (by omega)) : _ = t12)) ?_
              refine WR_tI (y := nI ln12) (Eq.trans (I_ne (fx_ne fx (by decide))) (Eq.trans (I_ne (fx_ne fx (by decide))) (Eq.trans (I_ne (fx_ne fx (by decide))) l2_12))) ?_
              refine r_iret rfl ?_
              show WR _ cd_175 49 [some (.ref (ad 30)), some (.int c), some (.int i), some (.int d), some (.int (nI t12)), some (.int (nI (q7 + 1000))), none] [.int (nI ln12)] (sI (sI (sI h (ad 0) 6 0) (ad 0) 6 (-14)) (ad 0) 6 (-14)) _
              refine r_ic (x := 8) rfl rfl ?_
              refine r_icmp_ne (tg := 70) rfl rfl (fun _ => ?_) (fun q => False.elim (by have : (nI ln12).toInt = ((ln12 : Nat) : Int) := nI_toInt (by omega); have : (8 : Int32).toInt = 8 := rfl; have := i_eq q; omega))
              refine r_aload rfl rfl ?_
              refine r_ic (x := 4) rfl rfl ?_
              refine r_cv (y := 156) (ra := [.int 4]) (rest := []) rfl ⟨⟨rfl, rfl⟩, rfl, by decide⟩ (fx_t30 fx) rfl rfl (Nat.le_of_ble_eq_true rfl) ?_
              refine in_156 (Nat.le_of_ble_eq_true rfl) ?_
              show WR _ cd_156 0 [some (.ref (ad 30)), some (.int 4)] [] (sI (sI (sI h (ad 0) 6 0) (ad 0) 6 (-14)) (ad 0) 6 (-14)) _
              refine r_aload rfl rfl ?_
              refine r_ic (x := (-10)) rfl rfl ?_
              refine r_iload rfl rfl ?_
              refine r_isub rfl ?_
              refine WR_tI (y := (-14)) rfl ?_
              refine r_cv (y := 154) (ra := [.int (-14)]) (rest := []) rfl ⟨⟨rfl, rfl⟩, rfl, by decide⟩ (fx_t30 fx) rfl rfl (Nat.le_of_ble_eq_true rfl) ?_
              refine in_154 (Nat.le_of_ble_eq_true rfl) ?_
              show WR _ cd_154 0 [some (.ref (ad 30)), some (.int (-14))] [] (sI (sI (sI h (ad 0) 6 0) (ad 0) 6 (-14)) (ad 0) 6 (-14)) _
              refine r_aload rfl rfl ?_
              refine r_iload rfl rfl ?_
              refine r_ic (x := (-1)) rfl rfl ?_
              refine r_icmp_ge (tg := 10) rfl rfl (fun q => absurd q (by decide)) (fun _ => ?_)
              refine r_iload rfl rfl ?_
              refine r_goto (tg := 11) rfl rfl ?_
              refine r_putI rfl ⟨rfl, rfl, rfl⟩ (fx_t30 fx) ?_
              have fx : FX n ad sa z0 (sI (sI (sI (sI h (ad 0) 6 0) (ad 0) 6 (-14)) (ad 0) 6 (-14)) (ad 30) 11 (-14)) := (FX.sI fx)
              refine r_iload rfl rfl ?_
              refine r_iret rfl ?_
              show WR _ cd_156 8 [some (.ref (ad 30)), some (.int 4)] [.int (-14)] (sI (sI (sI (sI h (ad 0) 6 0) (ad 0) 6 (-14)) (ad 0) 6 (-14)) (ad 30) 11 (-14)) _
              refine r_iret rfl ?_
              show WR _ cd_175 75 [some (.ref (ad 30)), some (.int c), some (.int i), some (.int d), some (.int (nI t12)), some (.int (nI (q7 + 1000))), none] [.int (-14)] (sI (sI (sI (sI h (ad 0) 6 0) (ad 0) 6 (-14)) (ad 0) 6 (-14)) (ad 30) 11 (-14)) _
              refine r_iret rfl ?_
              exact ⟨rfl, Rel.why r ((((Chg.rf.sI (fx_j fx) (.inl (by decide))).sI (fx_j fx) (.inl (by decide))).sI (fx_j fx) (.inl (by decide))).sI (fx_j fx) (.inl (by decide))) ⟨rfl, by decide⟩ (Eq.trans (Eq.trans (I_ne (fx_ne fx (by decide))) I_eq) (Eq.symm I_eq)), (by (try simp only [hZ_sI, hZ_sL, hZ_sD, hZ_sR]); omega), (by (try simp only [hU_sI, hU_sL, hU_sD, hU_sR]); omega)⟩
            · refine r_aaloadA (b := mid t12) rfl (isQ_of (fx_t1 fx) (by decide)) (vp_ct (fx_n1 fx) (vp_in_nI (by have := i_nlt c1; have := i_rg c; have : (0 : Int32).toInt = 0 := rfl; have := i_eq ek2; have : (nI k2).toInt = ((k2 : Nat) : Int) := nI_toInt (by omega); have := i_nle c3; have : (24 : Int32).toInt = 24 := rfl; omega) (by omega))) (Eq.trans (congrArg (hR (sI h (ad 0) 6 0) (ad 1)) ((nI_clamp (by have := i_nlt c1; have := i_rg c; have : (0 : Int32).toInt = 0 := rfl; have := i_eq ek2; have : (nI k2).toInt = ((k2 : Nat) : Int) := nI_toInt (by omega); have := i_nle c3; have : (24 : Int32).toInt = 24 := rfl; omega)) : _ = k2)) (Eq.trans R_oI w12)) ?_
              refine r_astore (lv' := [some (.ref (ad 0)), some (.int (nI k2)), some (.int 8), some (.ref (mid t12)), none]) rfl (Nat.le_of_ble_eq_true rfl) rfl ?_
              refine r_aload rfl rfl ?_
              refine r_instY rfl (by decide) tg12 ?_
              refine r_if_eq (tg := 32) rfl rfl (fun q => absurd q (by decide)) (fun _ => ?_)
              refine r_aload rfl rfl ?_
              refine r_cast rfl tg12 ?_
              refine r_astore (lv' := [some (.ref (ad 0)), some (.int (nI k2)), some (.int 8), some (.ref (mid t12)), some (.ref (mid t12))]) rfl (Nat.le_of_ble_eq_true rfl) rfl ?_
              refine r_aload rfl rfl ?_
              refine r_cv (y := 28) (ra := []) (rest := []) rfl ⟨⟨rfl, rfl⟩, rfl, by decide⟩ tg12 rfl rfl (Nat.le_of_ble_eq_true rfl) ?_
              refine in_28 (Nat.le_of_ble_eq_true rfl) ?_
              show WR _ cd_28 0 [some (.ref (mid t12))] [] (sI h (ad 0) 6 0) _
              refine r_aload rfl rfl ?_
              refine r_getI rfl ⟨rfl, rfl, rfl⟩ tg12 ?_
              refine WR_tI (y := (-1)) (Eq.trans (I_ne (dy_ad fx (.inl (by decide)) dz12)) k1_12) ?_
              refine r_ic (x := (-1)) rfl rfl ?_
              refine r_icmp_ne (tg := 13) rfl rfl (fun q => absurd q (by decide)) (fun _ => ?_)
              refine r_ic (x := 8) rfl rfl ?_
              refine r_goto (tg := 15) rfl rfl ?_
              refine r_iret rfl ?_
              show WR _ cd_43 25 [some (.ref (ad 0)), some (.int (nI k2)), some (.int 8), some (.ref (mid t12)), some (.ref (mid t12))] [.int 8] (sI h (ad 0) 6 0) _
              refine r_iload rfl rfl ?_
              refine r_icmp_ne (tg := 32) rfl rfl (fun q => absurd q (by decide)) (fun _ => ?_)
              refine r_aload rfl rfl ?_
              refine r_aret rfl ?_
              show WR _ cd_46 15 [some (.ref (ad 0)), some (.int (nI k2)), some (.int 8), some (.int i), some (.int (nI k5)), some (.int 3), some (.ref (pa q7)), none] [.ref (mid t12)] (sI h (ad 0) 6 0) _
              refine r_astore (lv' := [some (.ref (ad 0)), some (.int (nI k2)), some (.int 8), some (.int i), some (.int (nI k5)), some (.int 3), some (.ref (pa q7)), some (.ref (mid t12))]) rfl (Nat.le_of_ble_eq_true rfl) rfl ?_
              refine r_aload rfl rfl ?_
              refine r_getI rfl ⟨rfl, rfl, rfl⟩ (fx_t0 fx) ?_
              refine WR_tI (y := 0) I_eq ?_
              refine r_ic (x := (-14)) rfl rfl ?_
              refine r_icmp_eq (tg := 41) rfl rfl (fun q => absurd q (by decide)) (fun _ => ?_)
              refine r_aload rfl rfl ?_
              refine r_ifnullA (tg := 48) rfl rfl ?_
              refine r_aload rfl rfl ?_
              refine r_cw (y := 26) (ra := []) (rest := []) rfl ⟨rfl, rfl⟩ (by rw [show hT (sI h (ad 0) 6 0) (pa q7) = 4 from tg7]; rfl) rfl rfl (Nat.le_of_ble_eq_true rfl) ?_
              refine in_26 (Nat.le_of_ble_eq_true rfl) ?_
              show WR _ cd_26 0 [some (.ref (pa q7))] [] (sI h (ad 0) 6 0) _
              refine r_ic (x := 10) rfl rfl ?_
              refine r_iret rfl ?_
              show WR _ cd_46 36 [some (.ref (ad 0)), some (.int (nI k2)), some (.int 8), some (.int i), some (.int (nI k5)), some (.int 3), some (.ref (pa q7)), some (.ref (mid t12))] [.int 10] (sI h (ad 0) 6 0) _
              refine r_iload rfl rfl ?_
              refine r_icmp_eq (tg := 48) rfl rfl (fun q => absurd q (by decide)) (fun _ => ?_)
              refine r_aload rfl rfl ?_
              refine r_ic (x := (-14)) rfl rfl ?_
              refine r_cv (y := 13) (ra := [.int (-14)]) (rest := []) rfl ⟨⟨rfl, rfl⟩, rfl, by decide⟩ (fx_t0 fx) rfl rfl (Nat.le_of_ble_eq_true rfl) ?_
              refine in_13 (Nat.le_of_ble_eq_true rfl) ?_
              show WR _ cd_13 0 [some (.ref (ad 0)), some (.int (-14))] [] (sI h (ad 0) 6 0) _
              refine r_aload rfl rfl ?_
              refine r_iload rfl rfl ?_
              refine r_putI rfl ⟨rfl, rfl, rfl⟩ (fx_t0 fx) ?_
              have fx : FX n ad sa z0 (sI (sI h (ad 0) 6 0) (ad 0) 6 (-14)) := (FX.sI fx)
              refine r_iload rfl rfl ?_
              refine r_iret rfl ?_
              show WR _ cd_46 47 [some (.ref (ad 0)), some (.int (nI k2)), some (.int 8), some (.int i), some (.int (nI k5)), some (.int 3), some (.ref (pa q7)), some (.ref (mid t12))] [.int (-14)] (sI (sI h (ad 0) 6 0) (ad 0) 6 (-14)) _
              refine r_iret rfl ?_
              show WR _ cd_45 36 [some (.ref (ad 0)), some (.int c), some (.int i), some (.int d)] [.int (-14)] (sI (sI h (ad 0) 6 0) (ad 0) 6 (-14)) _
              refine r_iret rfl ?_
              show EV _ 175 [.ref (ad 30), .int c, .int i, .int d] (sI (sI h (ad 0) 6 0) (ad 0) 6 (-14)) _
              refine in_175 (Nat.le_of_ble_eq_true rfl) ?_
              show WR _ cd_175 0 [some (.ref (ad 30)), some (.int c), some (.int i), some (.int d), none, none, none] [] (sI (sI h (ad 0) 6 0) (ad 0) 6 (-14)) _
              refine r_iload rfl rfl ?_
              refine WR_tI (y := nI k2) ek2 ?_
              refine r_cs (y := 153) (ra := [.int (nI k2)]) (rest := []) rfl ⟨⟨rfl, rfl⟩, by decide⟩ rfl rfl (Nat.le_of_ble_eq_true rfl) ?_
              refine in_153 (Nat.le_of_ble_eq_true rfl) ?_
              show WR _ cd_153 0 [some (.int (nI k2))] [] (sI (sI h (ad 0) 6 0) (ad 0) 6 (-14)) _
              refine r_iload rfl rfl ?_
              refine r_if_lt (tg := 14) rfl rfl (fun q => False.elim (by have := i_nlt c1; have := i_rg c; have : (0 : Int32).toInt = 0 := rfl; have := i_eq ek2; have : (nI k2).toInt = ((k2 : Nat) : Int) := nI_toInt (by omega); have := i_nle c3; have : (24 : Int32).toInt = 24 := rfl; have := i_lt q; omega)) (fun _ => ?_)
              refine r_iload rfl rfl ?_
              refine r_ic (x := 24) rfl rfl ?_
              refine r_icmp_ge (tg := 14) rfl rfl (fun q => False.elim (by have := i_nlt c1; have := i_rg c; have : (0 : Int32).toInt = 0 := rfl; have := i_eq ek2; have : (nI k2).toInt = ((k2 : Nat) : Int) := nI_toInt (by omega); have := i_nle c3; have : (24 : Int32).toInt = 24 := rfl; have := i_le q; omega)) (fun _ => ?_)
              refine r_ic (x := 1) rfl rfl ?_
              refine r_goto (tg := 15) rfl rfl ?_
              refine r_zret rfl (.inr rfl) ?_
              show WR _ cd_175 4 [some (.ref (ad 30)), some (.int c), some (.int i), some (.int d), none, none, none] [.int 1] (sI (sI h (ad 0) 6 0) (ad 0) 6 (-14)) _
              refine r_if_eq (tg := 14) rfl rfl (fun q => absurd q (by decide)) (fun _ => ?_)
              refine r_iload rfl rfl ?_
              refine WR_tI (y := nI k5) ek5 ?_
              refine r_cs (y := 153) (ra := [.int (nI k5)]) (rest := []) rfl ⟨⟨rfl, rfl⟩, by decide⟩ rfl rfl (Nat.le_of_ble_eq_true rfl) ?_
              refine in_153 (Nat.le_of_ble_eq_true rfl) ?_
              show WR _ cd_153 0 [some (.int (nI k5))] [] (sI (sI h (ad 0) 6 0) (ad 0) 6 (-14)) _
              refine r_iload rfl rfl ?_
              refine r_if_lt (tg := 14) rfl rfl (fun q => False.elim (by have := i_nlt c4; have := i_rg d; have : (0 : Int32).toInt = 0 := rfl; have := i_eq ek5; have : (nI k5).toInt = ((k5 : Nat) : Int) := nI_toInt (by omega); have := i_nle c6; have : (24 : Int32).toInt = 24 := rfl; have := i_lt q; omega)) (fun _ => ?_)
              refine r_iload rfl rfl ?_
              refine r_ic (x := 24) rfl rfl ?_
              refine r_icmp_ge (tg := 14) rfl rfl (fun q => False.elim (by have := i_nlt c4; have := i_rg d; have : (0 : Int32).toInt = 0 := rfl; have := i_eq ek5; have : (nI k5).toInt = ((k5 : Nat) : Int) := nI_toInt (by omega); have := i_nle c6; have : (24 : Int32).toInt = 24 := rfl; have := i_le q; omega)) (fun _ => ?_)
              refine r_ic (x := 1) rfl rfl ?_
              refine r_goto (tg := 15) rfl rfl ?_
              refine r_zret rfl (.inr rfl) ?_
              show WR _ cd_175 11 [some (.ref (ad 30)), some (.int c), some (.int i), some (.int d), none, none, none] [.int 1] (sI (sI h (ad 0) 6 0) (ad 0) 6 (-14)) _
              refine r_if_ne (tg := 21) rfl rfl (fun _ => ?_) (fun q => absurd q (by decide))
              refine r_aload rfl rfl ?_
              refine r_getA (b := ad 31) rfl ⟨rfl, rfl, rfl⟩ (fx_t30 fx) (fx_r30_0 fx) ?_
              refine r_iload rfl rfl ?_
              refine WR_tI (y := nI k2) ek2 ?_
              refine r_iaload rfl (.inl (fx_t31 fx)) (vp_ct (fx_n31 fx) (vp_in_nI (by have := i_nlt c1; have := i_rg c; have : (0 : Int32).toInt = 0 := rfl; have := i_eq ek2; have : (nI k2).toInt = ((k2 : Nat) : Int) := nI_toInt (by omega); have := i_nle c3; have : (24 : Int32).toInt = 24 := rfl; omega) (by omega))) ?_
              refine WR_tI (congrArg (hI (sI (sI h (ad 0) 6 0) (ad 0) 6 (-14)) (ad 31)) ((nI_clamp (by have := i_nlt c1; have := i_rg c; have : (0 : Int32).toInt = 0 := rfl; have := i_eq ek2; have : (nI k2).toInt = ((k2 : Nat) : Int) := nI_toInt (by omega); have := i_nle c3; have : (24 : Int32).toInt = 24 := rfl; omega)) : _ = k2)) ?_
              refine WR_tI (y := nI t12) (Eq.trans (I_ne (fx_ne fx (by decide))) (Eq.trans (I_ne (fx_ne fx (by decide))) v12)) ?_
              refine r_istore (lv' := [some (.ref (ad 30)), some (.int c), some (.int i), some (.int d), some (.int (nI t12)), none, none]) rfl (Nat.le_of_ble_eq_true rfl) rfl ?_
              refine r_aload rfl rfl ?_
              refine r_getA (b := ad 31) rfl ⟨rfl, rfl, rfl⟩ (fx_t30 fx) (fx_r30_0 fx) ?_
              refine r_iload rfl rfl ?_
              refine WR_tI (y := nI k5) ek5 ?_
              refine r_iaload rfl (.inl (fx_t31 fx)) (vp_ct (fx_n31 fx) (vp_in_nI (by have := i_nlt c4; have := i_rg d; have : (0 : Int32).toInt = 0 := rfl; have := i_eq ek5; have : (nI k5).toInt = ((k5 : Nat) : Int) := nI_toInt (by omega); have := i_nle c6; have : (24 : Int32).toInt = 24 := rfl; omega) (by omega))) ?_
              refine WR_tI (congrArg (hI (sI (sI h (ad 0) 6 0) (ad 0) 6 (-14)) (ad 31)) ((nI_clamp (by have := i_nlt c4; have := i_rg d; have : (0 : Int32).toInt = 0 := rfl; have := i_eq ek5; have : (nI k5).toInt = ((k5 : Nat) : Int) := nI_toInt (by omega); have := i_nle c6; have : (24 : Int32).toInt = 24 := rfl; omega)) : _ = k5)) ?_
              refine WR_tI (y := nI (q7 + 1000)) (Eq.trans (I_ne (fx_ne fx (by decide))) (Eq.trans (I_ne (fx_ne fx (by decide))) v7)) ?_
              refine r_istore (lv' := [some (.ref (ad 30)), some (.int c), some (.int i), some (.int d), some (.int (nI t12)), some (.int (nI (q7 + 1000))), none]) rfl (Nat.le_of_ble_eq_true rfl) rfl ?_
              refine r_iload rfl rfl ?_
              refine r_ic (x := (-1)) rfl rfl ?_
              refine r_icmp_eq (tg := 54) rfl rfl (fun q => False.elim (by have : (nI t12).toInt = ((t12 : Nat) : Int) := nI_toInt (by omega); have : (-1 : Int32).toInt = -1 := rfl; have := i_eq q; omega)) (fun _ => ?_)
              refine r_aload rfl rfl ?_
              refine r_iload rfl rfl ?_
              refine r_cv (y := 166) (ra := [.int (nI t12)]) (rest := []) rfl ⟨⟨rfl, rfl⟩, rfl, by decide⟩ (fx_t30 fx) rfl rfl (Nat.le_of_ble_eq_true rfl) ?_
              refine in_166 (Nat.le_of_ble_eq_true rfl) ?_
              show WR _ cd_166 0 [some (.ref (ad 30)), some (.int (nI t12))] [] (sI (sI h (ad 0) 6 0) (ad 0) 6 (-14)) _
              refine r_iload rfl rfl ?_
              refine r_ic (x := (-1)) rfl rfl ?_
              refine r_icmp_ne (tg := 9) rfl rfl (fun _ => ?_) (fun q => False.elim (by have : (nI t12).toInt = ((t12 : Nat) : Int) := nI_toInt (by omega); have : (-1 : Int32).toInt = -1 := rfl; have := i_eq q; omega))
              refine r_iload rfl rfl ?_
              refine r_ic (x := 1000) rfl rfl ?_
              refine r_icmp_lt (tg := 21) rfl rfl (fun _ => ?_) (fun q => False.elim (by have : (nI t12).toInt = ((t12 : Nat) : Int) := nI_toInt (by omega); have : (1000 : Int32).toInt = 1000 := rfl; have := i_nlt q; omega))
              refine r_aload rfl rfl ?_
              refine r_getA (b := ad 33) rfl ⟨rfl, rfl, rfl⟩ (fx_t30 fx) (fx_r30_2 fx) ?_
              refine r_iload rfl rfl ?_
              refine r_iaload rfl (.inl (fx_t33 fx)) (vp_ct (fx_n33 fx) (vp_in_nI (by omega) (by omega))) ?_
              refine WR_tI (congrArg (hI (sI (sI h (ad 0) 6 0) (ad 0) 6 (-14)) (ad 33)) ((nI_clamp (by omega)) : _ = t12)) ?_
              refine WR_tI (y := 8) (Eq.trans (I_ne (fx_ne fx (by decide))) (Eq.trans (I_ne (fx_ne fx (by decide))) l2_12)) ?_
              refine r_iret rfl ?_
              show WR _ cd_175 49 [some (.ref (ad 30)), some (.int c), some (.int i), some (.int d), some (.int (nI t12)), some (.int (nI (q7 + 1000))), none] [.int 8] (sI (sI h (ad 0) 6 0) (ad 0) 6 (-14)) _
              refine r_ic (x := 8) rfl rfl ?_
              refine r_icmp_ne (tg := 70) rfl rfl (fun q => absurd q (by decide)) (fun _ => ?_)
              refine r_iload rfl rfl ?_
              refine r_ic (x := (-1)) rfl rfl ?_
              refine r_icmp_eq (tg := 76) rfl rfl (fun q => False.elim (by have : (nI (q7 + 1000)).toInt = ((q7 + 1000 : Nat) : Int) := nI_toInt (by omega); have : (-1 : Int32).toInt = -1 := rfl; have := i_eq q; omega)) (fun _ => ?_)
              refine r_aload rfl rfl ?_
              refine r_iload rfl rfl ?_
              refine r_cv (y := 166) (ra := [.int (nI (q7 + 1000))]) (rest := []) rfl ⟨⟨rfl, rfl⟩, rfl, by decide⟩ (fx_t30 fx) rfl rfl (Nat.le_of_ble_eq_true rfl) ?_
              refine in_166 (Nat.le_of_ble_eq_true rfl) ?_
              show WR _ cd_166 0 [some (.ref (ad 30)), some (.int (nI (q7 + 1000)))] [] (sI (sI h (ad 0) 6 0) (ad 0) 6 (-14)) _
              refine r_iload rfl rfl ?_
              refine r_ic (x := (-1)) rfl rfl ?_
              refine r_icmp_ne (tg := 9) rfl rfl (fun _ => ?_) (fun q => False.elim (by have : (nI (q7 + 1000)).toInt = ((q7 + 1000 : Nat) : Int) := nI_toInt (by omega); have : (-1 : Int32).toInt = -1 := rfl; have := i_eq q; omega))
              refine r_iload rfl rfl ?_
              refine r_ic (x := 1000) rfl rfl ?_
              refine r_icmp_lt (tg := 21) rfl rfl (fun q => False.elim (by have : (nI (q7 + 1000)).toInt = ((q7 + 1000 : Nat) : Int) := nI_toInt (by omega); have : (1000 : Int32).toInt = 1000 := rfl; have := i_lt q; omega)) (fun _ => ?_)
              refine r_ic (x := 10) rfl rfl ?_
              refine r_goto (tg := 27) rfl rfl ?_
              refine r_iret rfl ?_
              show WR _ cd_175 66 [some (.ref (ad 30)), some (.int c), some (.int i), some (.int d), some (.int (nI t12)), some (.int (nI (q7 + 1000))), none] [.int 10] (sI (sI h (ad 0) 6 0) (ad 0) 6 (-14)) _
              refine r_ic (x := 3) rfl rfl ?_
              refine r_icmp_eq (tg := 76) rfl rfl (fun q => absurd q (by decide)) (fun _ => ?_)
              refine r_aload rfl rfl ?_
              refine r_ic (x := 4) rfl rfl ?_
              refine r_cv (y := 156) (ra := [.int 4]) (rest := []) rfl ⟨⟨rfl, rfl⟩, rfl, by decide⟩ (fx_t30 fx) rfl rfl (Nat.le_of_ble_eq_true rfl) ?_
              refine in_156 (Nat.le_of_ble_eq_true rfl) ?_
              show WR _ cd_156 0 [some (.ref (ad 30)), some (.int 4)] [] (sI (sI h (ad 0) 6 0) (ad 0) 6 (-14)) _
              refine r_aload rfl rfl ?_
              refine r_ic (x := (-10)) rfl rfl ?_
              refine r_iload rfl rfl ?_
              refine r_isub rfl ?_
              refine WR_tI (y := (-14)) rfl ?_
              refine r_cv (y := 154) (ra := [.int (-14)]) (rest := []) rfl ⟨⟨rfl, rfl⟩, rfl, by decide⟩ (fx_t30 fx) rfl rfl (Nat.le_of_ble_eq_true rfl) ?_
              refine in_154 (Nat.le_of_ble_eq_true rfl) ?_
              show WR _ cd_154 0 [some (.ref (ad 30)), some (.int (-14))] [] (sI (sI h (ad 0) 6 0) (ad 0) 6 (-14)) _
              refine r_aload rfl rfl ?_
              refine r_iload rfl rfl ?_
              refine r_ic (x := (-1)) rfl rfl ?_
              refine r_icmp_ge (tg := 10) rfl rfl (fun q => absurd q (by decide)) (fun _ => ?_)
              refine r_iload rfl rfl ?_
              refine r_goto (tg := 11) rfl rfl ?_
              refine r_putI rfl ⟨rfl, rfl, rfl⟩ (fx_t30 fx) ?_
              have fx : FX n ad sa z0 (sI (sI (sI h (ad 0) 6 0) (ad 0) 6 (-14)) (ad 30) 11 (-14)) := (FX.sI fx)
              refine r_iload rfl rfl ?_
              refine r_iret rfl ?_
              show WR _ cd_156 8 [some (.ref (ad 30)), some (.int 4)] [.int (-14)] (sI (sI (sI h (ad 0) 6 0) (ad 0) 6 (-14)) (ad 30) 11 (-14)) _
              refine r_iret rfl ?_
              show WR _ cd_175 75 [some (.ref (ad 30)), some (.int c), some (.int i), some (.int d), some (.int (nI t12)), some (.int (nI (q7 + 1000))), none] [.int (-14)] (sI (sI (sI h (ad 0) 6 0) (ad 0) 6 (-14)) (ad 30) 11 (-14)) _
              refine r_iret rfl ?_
              exact ⟨rfl, Rel.why r (((Chg.rf.sI (fx_j fx) (.inl (by decide))).sI (fx_j fx) (.inl (by decide))).sI (fx_j fx) (.inl (by decide))) ⟨rfl, by decide⟩ (Eq.trans (Eq.trans (I_ne (fx_ne fx (by decide))) I_eq) (Eq.symm I_eq)), (by (try simp only [hZ_sI, hZ_sL, hZ_sD, hZ_sR]); omega), (by (try simp only [hU_sI, hU_sL, hU_sD, hU_sR]); omega)⟩
            · refine r_aaloadA (b := mid t12) rfl (isQ_of (fx_t1 fx) (by decide)) (vp_ct (fx_n1 fx) (vp_in_nI (by have := i_nlt c1; have := i_rg c; have : (0 : Int32).toInt = 0 := rfl; have := i_eq ek2; have : (nI k2).toInt = ((k2 : Nat) : Int) := nI_toInt (by omega); have := i_nle c3; have : (24 : Int32).toInt = 24 := rfl; omega) (by omega))) (Eq.trans (congrArg (hR (sI h (ad 0) 6 0) (ad 1)) ((nI_clamp (by have := i_nlt c1; have := i_rg c; have : (0 : Int32).toInt = 0 := rfl; have := i_eq ek2; have : (nI k2).toInt = ((k2 : Nat) : Int) := nI_toInt (by omega); have := i_nle c3; have : (24 : Int32).toInt = 24 := rfl; omega)) : _ = k2)) (Eq.trans R_oI w12)) ?_
              refine r_astore (lv' := [some (.ref (ad 0)), some (.int (nI k2)), some (.int 8), some (.ref (mid t12)), none]) rfl (Nat.le_of_ble_eq_true rfl) rfl ?_
              refine r_aload rfl rfl ?_
              refine r_instY rfl (by decide) tg12 ?_
              refine r_if_eq (tg := 32) rfl rfl (fun q => absurd q (by decide)) (fun _ => ?_)
              refine r_aload rfl rfl ?_
              refine r_cast rfl tg12 ?_
              refine r_astore (lv' := [some (.ref (ad 0)), some (.int (nI k2)), some (.int 8), some (.ref (mid t12)), some (.ref (mid t12))]) rfl (Nat.le_of_ble_eq_true rfl) rfl ?_
              refine r_aload rfl rfl ?_
              refine r_cv (y := 28) (ra := []) (rest := []) rfl ⟨⟨rfl, rfl⟩, rfl, by decide⟩ tg12 rfl rfl (Nat.le_of_ble_eq_true rfl) ?_
              refine in_28 (Nat.le_of_ble_eq_true rfl) ?_
              show WR _ cd_28 0 [some (.ref (mid t12))] [] (sI h (ad 0) 6 0) _
              refine r_aload rfl rfl ?_
              refine r_getI rfl ⟨rfl, rfl, rfl⟩ tg12 ?_
              refine WR_tI (y := nI kd12) (Eq.trans (I_ne (dy_ad fx (.inl (by decide)) dz12)) k1_12) ?_
              refine r_ic (x := (-1)) rfl rfl ?_
              refine r_icmp_ne (tg := 13) rfl rfl (fun _ => ?_) (fun q => False.elim (by have : (nI kd12).toInt = ((kd12 : Nat) : Int) := nI_toInt (by omega); have : (-1 : Int32).toInt = -1 := rfl; have := i_eq q; omega))
              refine r_ic (x := 9) rfl rfl ?_
              refine r_iret rfl ?_
              show WR _ cd_43 25 [some (.ref (ad 0)), some (.int (nI k2)), some (.int 8), some (.ref (mid t12)), some (.ref (mid t12))] [.int 9] (sI h (ad 0) 6 0) _
              refine r_iload rfl rfl ?_
              refine r_icmp_ne (tg := 32) rfl rfl (fun _ => ?_) (fun q => absurd q (by decide))
              refine r_aload rfl rfl ?_
              refine r_aload rfl rfl ?_
              refine r_ifnonnullA (tg := 42) rfl rfl ?_
              refine r_ic (x := (-14)) rfl rfl ?_
              refine r_putI rfl ⟨rfl, rfl, rfl⟩ (fx_t0 fx) ?_
              have fx : FX n ad sa z0 (sI (sI h (ad 0) 6 0) (ad 0) 6 (-14)) := (FX.sI fx)
              refine r_null rfl ?_
              refine r_aret0 rfl ?_
              show WR _ cd_46 15 [some (.ref (ad 0)), some (.int (nI k2)), some (.int 8), some (.int i), some (.int (nI k5)), some (.int 3), some (.ref (pa q7)), none] [.null] (sI (sI h (ad 0) 6 0) (ad 0) 6 (-14)) _
              refine r_astore0 (lv' := [some (.ref (ad 0)), some (.int (nI k2)), some (.int 8), some (.int i), some (.int (nI k5)), some (.int 3), some (.ref (pa q7)), some (.null)]) rfl (Nat.le_of_ble_eq_true rfl) rfl ?_
              refine r_aload rfl rfl ?_
              refine r_getI rfl ⟨rfl, rfl, rfl⟩ (fx_t0 fx) ?_
              refine WR_tI (y := (-14)) I_eq ?_
              refine r_ic (x := (-14)) rfl rfl ?_
              refine r_icmp_eq (tg := 41) rfl rfl (fun _ => ?_) (fun q => absurd q (by decide))
              refine r_aload rfl rfl ?_
              refine r_ic (x := (-14)) rfl rfl ?_
              refine r_cv (y := 13) (ra := [.int (-14)]) (rest := []) rfl ⟨⟨rfl, rfl⟩, rfl, by decide⟩ (fx_t0 fx) rfl rfl (Nat.le_of_ble_eq_true rfl) ?_
              refine in_13 (Nat.le_of_ble_eq_true rfl) ?_
              show WR _ cd_13 0 [some (.ref (ad 0)), some (.int (-14))] [] (sI (sI h (ad 0) 6 0) (ad 0) 6 (-14)) _
              refine r_aload rfl rfl ?_
              refine r_iload rfl rfl ?_
              refine r_putI rfl ⟨rfl, rfl, rfl⟩ (fx_t0 fx) ?_
              have fx : FX n ad sa z0 (sI (sI (sI h (ad 0) 6 0) (ad 0) 6 (-14)) (ad 0) 6 (-14)) := (FX.sI fx)
              refine r_iload rfl rfl ?_
              refine r_iret rfl ?_
              show WR _ cd_46 47 [some (.ref (ad 0)), some (.int (nI k2)), some (.int 8), some (.int i), some (.int (nI k5)), some (.int 3), some (.ref (pa q7)), some (.null)] [.int (-14)] (sI (sI (sI h (ad 0) 6 0) (ad 0) 6 (-14)) (ad 0) 6 (-14)) _
              refine r_iret rfl ?_
              show WR _ cd_45 36 [some (.ref (ad 0)), some (.int c), some (.int i), some (.int d)] [.int (-14)] (sI (sI (sI h (ad 0) 6 0) (ad 0) 6 (-14)) (ad 0) 6 (-14)) _
              refine r_iret rfl ?_
              show EV _ 175 [.ref (ad 30), .int c, .int i, .int d] (sI (sI (sI h (ad 0) 6 0) (ad 0) 6 (-14)) (ad 0) 6 (-14)) _
              refine in_175 (Nat.le_of_ble_eq_true rfl) ?_
              show WR _ cd_175 0 [some (.ref (ad 30)), some (.int c), some (.int i), some (.int d), none, none, none] [] (sI (sI (sI h (ad 0) 6 0) (ad 0) 6 (-14)) (ad 0) 6 (-14)) _
              refine r_iload rfl rfl ?_
              refine WR_tI (y := nI k2) ek2 ?_
              refine r_cs (y := 153) (ra := [.int (nI k2)]) (rest := []) rfl ⟨⟨rfl, rfl⟩, by decide⟩ rfl rfl (Nat.le_of_ble_eq_true rfl) ?_
              refine in_153 (Nat.le_of_ble_eq_true rfl) ?_
              show WR _ cd_153 0 [some (.int (nI k2))] [] (sI (sI (sI h (ad 0) 6 0) (ad 0) 6 (-14)) (ad 0) 6 (-14)) _
              refine r_iload rfl rfl ?_
              refine r_if_lt (tg := 14) rfl rfl (fun q => False.elim (by have := i_nlt c1; have := i_rg c; have : (0 : Int32).toInt = 0 := rfl; have := i_eq ek2; have : (nI k2).toInt = ((k2 : Nat) : Int) := nI_toInt (by omega); have := i_nle c3; have : (24 : Int32).toInt = 24 := rfl; have := i_lt q; omega)) (fun _ => ?_)
              refine r_iload rfl rfl ?_
              refine r_ic (x := 24) rfl rfl ?_
              refine r_icmp_ge (tg := 14) rfl rfl (fun q => False.elim (by have := i_nlt c1; have := i_rg c; have : (0 : Int32).toInt = 0 := rfl; have := i_eq ek2; have : (nI k2).toInt = ((k2 : Nat) : Int) := nI_toInt (by omega); have := i_nle c3; have : (24 : Int32).toInt = 24 := rfl; have := i_le q; omega)) (fun _ => ?_)
              refine r_ic (x := 1) rfl rfl ?_
              refine r_goto (tg := 15) rfl rfl ?_
              refine r_zret rfl (.inr rfl) ?_
              show WR _ cd_175 4 [some (.ref (ad 30)), some (.int c), some (.int i), some (.int d), none, none, none] [.int 1] (sI (sI (sI h (ad 0) 6 0) (ad 0) 6 (-14)) (ad 0) 6 (-14)) _
              refine r_if_eq (tg := 14) rfl rfl (fun q => absurd q (by decide)) (fun _ => ?_)
              refine r_iload rfl rfl ?_
              refine WR_tI (y := nI k5) ek5 ?_
              refine r_cs (y := 153) (ra := [.int (nI k5)]) (rest := []) rfl ⟨⟨rfl, rfl⟩, by decide⟩ rfl rfl (Nat.le_of_ble_eq_true rfl) ?_
              refine in_153 (Nat.le_of_ble_eq_true rfl) ?_
              show WR _ cd_153 0 [some (.int (nI k5))] [] (sI (sI (sI h (ad 0) 6 0) (ad 0) 6 (-14)) (ad 0) 6 (-14)) _
              refine r_iload rfl rfl ?_
              refine r_if_lt (tg := 14) rfl rfl (fun q => False.elim (by have := i_nlt c4; have := i_rg d; have : (0 : Int32).toInt = 0 := rfl; have := i_eq ek5; have : (nI k5).toInt = ((k5 : Nat) : Int) := nI_toInt (by omega); have := i_nle c6; have : (24 : Int32).toInt = 24 := rfl; have := i_lt q; omega)) (fun _ => ?_)
              refine r_iload rfl rfl ?_
              refine r_ic (x := 24) rfl rfl ?_
              refine r_icmp_ge (tg := 14) rfl rfl (fun q => False.elim (by have := i_nlt c4; have := i_rg d; have : (0 : Int32).toInt = 0 := rfl; have := i_eq ek5; have : (nI k5).toInt = ((k5 : Nat) : Int) := nI_toInt (by omega); have := i_nle c6; have : (24 : Int32).toInt = 24 := rfl; have := i_le q; omega)) (fun _ => ?_)
              refine r_ic (x := 1) rfl rfl ?_
              refine r_goto (tg := 15) rfl rfl ?_
              refine r_zret rfl (.inr rfl) ?_
              show WR _ cd_175 11 [some (.ref (ad 30)), some (.int c), some (.int i), some (.int d), none, none, none] [.int 1] (sI (sI (sI h (ad 0) 6 0) (ad 0) 6 (-14)) (ad 0) 6 (-14)) _
              refine r_if_ne (tg := 21) rfl rfl (fun _ => ?_) (fun q => absurd q (by decide))
              refine r_aload rfl rfl ?_
              refine r_getA (b := ad 31) rfl ⟨rfl, rfl, rfl⟩ (fx_t30 fx) (fx_r30_0 fx) ?_
              refine r_iload rfl rfl ?_
              refine WR_tI (y := nI k2) ek2 ?_
              refine r_iaload rfl (.inl (fx_t31 fx)) (vp_ct (fx_n31 fx) (vp_in_nI (by have := i_nlt c1; have := i_rg c; have : (0 : Int32).toInt = 0 := rfl; have := i_eq ek2; have : (nI k2).toInt = ((k2 : Nat) : Int) := nI_toInt (by omega); have := i_nle c3; have : (24 : Int32).toInt = 24 := rfl; omega) (by omega))) ?_
              refine WR_tI (congrArg (hI (sI (sI (sI h (ad 0) 6 0) (ad 0) 6 (-14)) (ad 0) 6 (-14)) (ad 31)) ((nI_clamp (by have := i_nlt c1; have := i_rg c; have : (0 : Int32).toInt = 0 := rfl; have := i_eq ek2; have : (nI k2).toInt = ((k2 : Nat) : Int) := nI_toInt (by omega); have := i_nle c3; have : (24 : Int32).toInt = 24 := rfl; omega)) : _ = k2)) ?_
              refine WR_tI (y := nI t12) (Eq.trans (I_ne (fx_ne fx (by decide))) (Eq.trans (I_ne (fx_ne fx (by decide))) (Eq.trans (I_ne (fx_ne fx (by decide))) v12))) ?_
              refine r_istore (lv' := [some (.ref (ad 30)), some (.int c), some (.int i), some (.int d), some (.int (nI t12)), none, none]) rfl (Nat.le_of_ble_eq_true rfl) rfl ?_
              refine r_aload rfl rfl ?_
              refine r_getA (b := ad 31) rfl ⟨rfl, rfl, rfl⟩ (fx_t30 fx) (fx_r30_0 fx) ?_
              refine r_iload rfl rfl ?_
              refine WR_tI (y := nI k5) ek5 ?_
              refine r_iaload rfl (.inl (fx_t31 fx)) (vp_ct (fx_n31 fx) (vp_in_nI (by have := i_nlt c4; have := i_rg d; have : (0 : Int32).toInt = 0 := rfl; have := i_eq ek5; have : (nI k5).toInt = ((k5 : Nat) : Int) := nI_toInt (by omega); have := i_nle c6; have : (24 : Int32).toInt = 24 := rfl; omega) (by omega))) ?_
              refine WR_tI (congrArg (hI (sI (sI (sI h (ad 0) 6 0) (ad 0) 6 (-14)) (ad 0) 6 (-14)) (ad 31)) ((nI_clamp (by have := i_nlt c4; have := i_rg d; have : (0 : Int32).toInt = 0 := rfl; have := i_eq ek5; have : (nI k5).toInt = ((k5 : Nat) : Int) := nI_toInt (by omega); have := i_nle c6; have : (24 : Int32).toInt = 24 := rfl; omega)) : _ = k5)) ?_
              refine WR_tI (y := nI (q7 + 1000)) (Eq.trans (I_ne (fx_ne fx (by decide))) (Eq.trans (I_ne (fx_ne fx (by decide))) (Eq.trans (I_ne (fx_ne fx (by decide))) v7))) ?_
              refine r_istore (lv' := [some (.ref (ad 30)), some (.int c), some (.int i), some (.int d), some (.int (nI t12)), some (.int (nI (q7 + 1000))), none]) rfl (Nat.le_of_ble_eq_true rfl) rfl ?_
              refine r_iload rfl rfl ?_
              refine r_ic (x := (-1)) rfl rfl ?_
              refine r_icmp_eq (tg := 54) rfl rfl (fun q => False.elim (by have : (nI t12).toInt = ((t12 : Nat) : Int) := nI_toInt (by omega); have : (-1 : Int32).toInt = -1 := rfl; have := i_eq q; omega)) (fun _ => ?_)
              refine r_aload rfl rfl ?_
              refine r_iload rfl rfl ?_
              refine r_cv (y := 166) (ra := [.int (nI t12)]) (rest := []) rfl ⟨⟨rfl, rfl⟩, rfl, by decide⟩ (fx_t30 fx) rfl rfl (Nat.le_of_ble_eq_true rfl) ?_
              refine in_166 (Nat.le_of_ble_eq_true rfl) ?_
              show WR _ cd_166 0 [some (.ref (ad 30)), some (.int (nI t12))] [] (sI (sI (sI h (ad 0) 6 0) (ad 0) 6 (-14)) (ad 0) 6 (-14)) _
              refine r_iload rfl rfl ?_
              refine r_ic (x := (-1)) rfl rfl ?_
              refine r_icmp_ne (tg := 9) rfl rfl (fun _ => ?_) (fun q => False.elim (by have : (nI t12).toInt = ((t12 : Nat) : Int) := nI_toInt (by omega); have : (-1 : Int32).toInt = -1 := rfl; have := i_eq q; omega))
              refine r_iload rfl rfl ?_
              refine r_ic (x := 1000) rfl rfl ?_
              refine r_icmp_lt (tg := 21) rfl rfl (fun _ => ?_) (fun q => False.elim (by have : (nI t12).toInt = ((t12 : Nat) : Int) := nI_toInt (by omega); have : (1000 : Int32).toInt = 1000 := rfl; have := i_nlt q; omega))
              refine r_aload rfl rfl ?_
              refine r_getA (b := ad 33) rfl ⟨rfl, rfl, rfl⟩ (fx_t30 fx) (fx_r30_2 fx) ?_
              refine r_iload rfl rfl ?_
              refine r_iaload rfl (.inl (fx_t33 fx)) (vp_ct (fx_n33 fx) (vp_in_nI (by omega) (by omega))) ?_
              refine WR_tI (congrArg (hI (sI (sI (sI h (ad 0) 6 0) (ad 0) 6 (-14)) (ad 0) 6 (-14)) (ad 33)) ((nI_clamp (by omega)) : _ = t12)) ?_
              refine WR_tI (y := 9) (Eq.trans (I_ne (fx_ne fx (by decide))) (Eq.trans (I_ne (fx_ne fx (by decide))) (Eq.trans (I_ne (fx_ne fx (by decide))) l2_12))) ?_
              refine r_iret rfl ?_
              show WR _ cd_175 49 [some (.ref (ad 30)), some (.int c), some (.int i), some (.int d), some (.int (nI t12)), some (.int (nI (q7 + 1000))), none] [.int 9] (sI (sI (sI h (ad 0) 6 0) (ad 0) 6 (-14)) (ad 0) 6 (-14)) _
              refine r_ic (x := 8) rfl rfl ?_
              refine r_icmp_ne (tg := 70) rfl rfl (fun _ => ?_) (fun q => absurd q (by decide))
              refine r_aload rfl rfl ?_
              refine r_ic (x := 4) rfl rfl ?_
              refine r_cv (y := 156) (ra := [.int 4]) (rest := []) rfl ⟨⟨rfl, rfl⟩, rfl, by decide⟩ (fx_t30 fx) rfl rfl (Nat.le_of_ble_eq_true rfl) ?_
              refine in_156 (Nat.le_of_ble_eq_true rfl) ?_
              show WR _ cd_156 0 [some (.ref (ad 30)), some (.int 4)] [] (sI (sI (sI h (ad 0) 6 0) (ad 0) 6 (-14)) (ad 0) 6 (-14)) _
              refine r_aload rfl rfl ?_
              refine r_ic (x := (-10)) rfl rfl ?_
              refine r_iload rfl rfl ?_
              refine r_isub rfl ?_
              refine WR_tI (y := (-14)) rfl ?_
              refine r_cv (y := 154) (ra := [.int (-14)]) (rest := []) rfl ⟨⟨rfl, rfl⟩, rfl, by decide⟩ (fx_t30 fx) rfl rfl (Nat.le_of_ble_eq_true rfl) ?_
              refine in_154 (Nat.le_of_ble_eq_true rfl) ?_
              show WR _ cd_154 0 [some (.ref (ad 30)), some (.int (-14))] [] (sI (sI (sI h (ad 0) 6 0) (ad 0) 6 (-14)) (ad 0) 6 (-14)) _
              refine r_aload rfl rfl ?_
              refine r_iload rfl rfl ?_
              refine r_ic (x := (-1)) rfl rfl ?_
              refine r_icmp_ge (tg := 10) rfl rfl (fun q => absurd q (by decide)) (fun _ => ?_)
              refine r_iload rfl rfl ?_
              refine r_goto (tg := 11) rfl rfl ?_
              refine r_putI rfl ⟨rfl, rfl, rfl⟩ (fx_t30 fx) ?_
              have fx : FX n ad sa z0 (sI (sI (sI (sI h (ad 0) 6 0) (ad 0) 6 (-14)) (ad 0) 6 (-14)) (ad 30) 11 (-14)) := (FX.sI fx)
              refine r_iload rfl rfl ?_
              refine r_iret rfl ?_
              show WR _ cd_156 8 [some (.ref (ad 30)), some (.int 4)] [.int (-14)] (sI (sI (sI (sI h (ad 0) 6 0) (ad 0) 6 (-14)) (ad 0) 6 (-14)) (ad 30) 11 (-14)) _
              refine r_iret rfl ?_
              show WR _ cd_175 75 [some (.ref (ad 30)), some (.int c), some (.int i), some (.int d), some (.int (nI t12)), some (.int (nI (q7 + 1000))), none] [.int (-14)] (sI (sI (sI (sI h (ad 0) 6 0) (ad 0) 6 (-14)) (ad 0) 6 (-14)) (ad 30) 11 (-14)) _
              refine r_iret rfl ?_
              exact ⟨rfl, Rel.why r ((((Chg.rf.sI (fx_j fx) (.inl (by decide))).sI (fx_j fx) (.inl (by decide))).sI (fx_j fx) (.inl (by decide))).sI (fx_j fx) (.inl (by decide))) ⟨rfl, by decide⟩ (Eq.trans (Eq.trans (I_ne (fx_ne fx (by decide))) I_eq) (Eq.symm I_eq)), (by (try simp only [hZ_sI, hZ_sL, hZ_sD, hZ_sR]); omega), (by (try simp only [hU_sI, hU_sL, hU_sD, hU_sR]); omega)⟩
          · refine r_aaloadA (b := mid t7) rfl (isQ_of (fx_t1 fx) (by decide)) (vp_ct (fx_n1 fx) (vp_in_nI (by have := i_nlt c4; have := i_rg d; have : (0 : Int32).toInt = 0 := rfl; have := i_eq ek5; have : (nI k5).toInt = ((k5 : Nat) : Int) := nI_toInt (by omega); have := i_nle c6; have : (24 : Int32).toInt = 24 := rfl; omega) (by omega))) (Eq.trans (congrArg (hR (sI h (ad 0) 6 0) (ad 1)) ((nI_clamp (by have := i_nlt c4; have := i_rg d; have : (0 : Int32).toInt = 0 := rfl; have := i_eq ek5; have : (nI k5).toInt = ((k5 : Nat) : Int) := nI_toInt (by omega); have := i_nle c6; have : (24 : Int32).toInt = 24 := rfl; omega)) : _ = k5)) (Eq.trans R_oI w7)) ?_
            refine r_astore (lv' := [some (.ref (ad 0)), some (.int (nI k2)), some (.int 8), some (.int i), some (.int (nI k5)), some (.int 3), some (.ref (mid t7)), none]) rfl (Nat.le_of_ble_eq_true rfl) rfl ?_
            refine r_aload rfl rfl ?_
            refine r_iload rfl rfl ?_
            refine r_iload rfl rfl ?_
            refine r_cv (y := 43) (ra := [.int 8, .int (nI k2)]) (rest := []) rfl ⟨⟨rfl, rfl⟩, rfl, by decide⟩ (fx_t0 fx) rfl rfl (Nat.le_of_ble_eq_true rfl) ?_
            refine in_43 (Nat.le_of_ble_eq_true rfl) ?_
            show WR _ cd_43 0 [some (.ref (ad 0)), some (.int (nI k2)), some (.int 8), none, none] [] (sI h (ad 0) 6 0) _
            refine r_aload rfl rfl ?_
            refine r_getA (b := ad 1) rfl ⟨rfl, rfl, rfl⟩ (fx_t0 fx) (fx_r0_0 fx) ?_
            refine r_iload rfl rfl ?_
            rcases rs.cs (n := n) (sa := sa) (c := k2) (by have := i_nlt c1; have := i_rg c; have : (0 : Int32).toInt = 0 := rfl; have := i_eq ek2; have : (nI k2).toInt = ((k2 : Nat) : Int) := nI_toInt (by omega); have := i_nle c3; have : (24 : Int32).toInt = 24 := rfl; omega) with ⟨v13, w13⟩ | ⟨q13, kd13, hq13, hn13, v13, w13, dz13, tg13, s1_13, k1_13, k2_13, hk_13, we13⟩ | ⟨t13, ln13, sz13, ht13, v13, w13, dz13, tg13, r_13, tg2_13, l1_13, l2_13, hl_13, kd_13, n_13, sz_13, hs_13, al13, rw13⟩ | ⟨t13, sz13, ht13, v13, w13, dz13, tg13, r_13, tg2_13, k1_13, l2_13, k2_13, n_13, sz_13, hs_13, al13, rw13⟩ | ⟨t13, kd13, sz13, ht13, v13, w13, dz13, tg13, r_13, tg2_13, k1_13, l2_13, k2_13, hk_13, n_13, sz_13, hs_13, al13, rw13⟩
            · refine r_aaload0 rfl (isQ_of (fx_t1 fx) (by decide)) (vp_ct (fx_n1 fx) (vp_in_nI (by have := i_nlt c1; have := i_rg c; have : (0 : Int32).toInt = 0 := rfl; have := i_eq ek2; have : (nI k2).toInt = ((k2 : Nat) : Int) := nI_toInt (by omega); have := i_nle c3; have : (24 : Int32).toInt = 24 := rfl; omega) (by omega))) (Eq.trans (congrArg (hR (sI h (ad 0) 6 0) (ad 1)) ((nI_clamp (by have := i_nlt c1; have := i_rg c; have : (0 : Int32).toInt = 0 := rfl; have := i_eq ek2; have : (nI k2).toInt = ((k2 : Nat) : Int) := nI_toInt (by omega); have := i_nle c3; have : (24 : Int32).toInt = 24 := rfl; omega)) : _ = k2)) (Eq.trans R_oI w13)) ?_
              refine r_astore0 (lv' := [some (.ref (ad 0)), some (.int (nI k2)), some (.int 8), some (.null), none]) rfl (Nat.le_of_ble_eq_true rfl) rfl ?_
              refine r_aload0 rfl rfl ?_
              refine r_instN rfl (by decide) ?_
              refine r_if_eq (tg := 32) rfl rfl (fun _ => ?_) (fun q => absurd q (by decide))
              refine r_aload rfl rfl ?_
              refine r_aload0 rfl rfl ?_
              refine r_ifnonnullN (tg := 42) rfl rfl ?_
              refine r_ic (x := (-11)) rfl rfl ?_
              refine r_goto (tg := 44) rfl rfl ?_
              refine r_putI rfl ⟨rfl, rfl, rfl⟩ (fx_t0 fx) ?_
              have fx : FX n ad sa z0 (sI (sI h (ad 0) 6 0) (ad 0) 6 (-11)) := (FX.sI fx)
              refine r_null rfl ?_
              refine r_aret0 rfl ?_
              show WR _ cd_46 15 [some (.ref (ad 0)), some (.int (nI k2)), some (.int 8), some (.int i), some (.int (nI k5)), some (.int 3), some (.ref (mid t7)), none] [.null] (sI (sI h (ad 0) 6 0) (ad 0) 6 (-11)) _
              refine r_astore0 (lv' := [some (.ref (ad 0)), some (.int (nI k2)), some (.int 8), some (.int i), some (.int (nI k5)), some (.int 3), some (.ref (mid t7)), some (.null)]) rfl (Nat.le_of_ble_eq_true rfl) rfl ?_
              refine r_aload rfl rfl ?_
              refine r_getI rfl ⟨rfl, rfl, rfl⟩ (fx_t0 fx) ?_
              refine WR_tI (y := (-11)) I_eq ?_
              refine r_ic (x := (-14)) rfl rfl ?_
              refine r_icmp_eq (tg := 41) rfl rfl (fun q => absurd q (by decide)) (fun _ => ?_)
              refine r_aload rfl rfl ?_
              refine r_ifnullA (tg := 48) rfl rfl ?_
              refine r_aload rfl rfl ?_
              refine r_cw (y := 27) (ra := []) (rest := []) rfl ⟨rfl, rfl⟩ (by rw [show hT (sI (sI h (ad 0) 6 0) (ad 0) 6 (-11)) (mid t7) = 5 from tg7]; rfl) rfl rfl (Nat.le_of_ble_eq_true rfl) ?_
              refine in_27 (Nat.le_of_ble_eq_true rfl) ?_
              show WR _ cd_27 0 [some (.ref (mid t7))] [] (sI (sI h (ad 0) 6 0) (ad 0) 6 (-11)) _
              refine r_aload rfl rfl ?_
              refine r_getI rfl ⟨rfl, rfl, rfl⟩ tg7 ?_
              refine WR_tI (y := nI ln7) (Eq.trans (I_ne (dy_ad fx (.inl (by decide)) dz7)) (Eq.trans (I_ne (dy_ad fx (.inl (by decide)) dz7)) l1_7)) ?_
              refine r_iret rfl ?_
              show WR _ cd_46 36 [some (.ref (ad 0)), some (.int (nI k2)), some (.int 8), some (.int i), some (.int (nI k5)), some (.int 3), some (.ref (mid t7)), some (.null)] [.int (nI ln7)] (sI (sI h (ad 0) 6 0) (ad 0) 6 (-11)) _
              refine r_iload rfl rfl ?_
              refine r_icmp_eq (tg := 48) rfl rfl (fun c14 => ?_) (fun c14 => ?_)
              · refine r_aload0 rfl rfl ?_
                refine r_ifnonnullN (tg := 60) rfl rfl ?_
                refine r_aload rfl rfl ?_
                refine r_ic (x := (-11)) rfl rfl ?_
                refine r_cv (y := 13) (ra := [.int (-11)]) (rest := []) rfl ⟨⟨rfl, rfl⟩, rfl, by decide⟩ (fx_t0 fx) rfl rfl (Nat.le_of_ble_eq_true rfl) ?_
                refine in_13 (Nat.le_of_ble_eq_true rfl) ?_
                show WR _ cd_13 0 [some (.ref (ad 0)), some (.int (-11))] [] (sI (sI h (ad 0) 6 0) (ad 0) 6 (-11)) _
                refine r_aload rfl rfl ?_
                refine r_iload rfl rfl ?_
                refine r_putI rfl ⟨rfl, rfl, rfl⟩ (fx_t0 fx) ?_
                have fx : FX n ad sa z0 (sI (sI (sI h (ad 0) 6 0) (ad 0) 6 (-11)) (ad 0) 6 (-11)) := (FX.sI fx)
                refine r_iload rfl rfl ?_
                refine r_iret rfl ?_
                show WR _ cd_46 59 [some (.ref (ad 0)), some (.int (nI k2)), some (.int 8), some (.int i), some (.int (nI k5)), some (.int 3), some (.ref (mid t7)), some (.null)] [.int (-11)] (sI (sI (sI h (ad 0) 6 0) (ad 0) 6 (-11)) (ad 0) 6 (-11)) _
                refine r_iret rfl ?_
                show WR _ cd_45 36 [some (.ref (ad 0)), some (.int c), some (.int i), some (.int d)] [.int (-11)] (sI (sI (sI h (ad 0) 6 0) (ad 0) 6 (-11)) (ad 0) 6 (-11)) _
                refine r_iret rfl ?_
                show EV _ 175 [.ref (ad 30), .int c, .int i, .int d] (sI (sI (sI h (ad 0) 6 0) (ad 0) 6 (-11)) (ad 0) 6 (-11)) _
                refine in_175 (Nat.le_of_ble_eq_true rfl) ?_
                show WR _ cd_175 0 [some (.ref (ad 30)), some (.int c), some (.int i), some (.int d), none, none, none] [] (sI (sI (sI h (ad 0) 6 0) (ad 0) 6 (-11)) (ad 0) 6 (-11)) _
                refine r_iload rfl rfl ?_
                refine WR_tI (y := nI k2) ek2 ?_
                refine r_cs (y := 153) (ra := [.int (nI k2)]) (rest := []) rfl ⟨⟨rfl, rfl⟩, by decide⟩ rfl rfl (Nat.le_of_ble_eq_true rfl) ?_
                refine in_153 (Nat.le_of_ble_eq_true rfl) ?_
                show WR _ cd_153 0 [some (.int (nI k2))] [] (sI (sI (sI h (ad 0) 6 0) (ad 0) 6 (-11)) (ad 0) 6 (-11)) _
                refine r_iload rfl rfl ?_
                refine r_if_lt (tg := 14) rfl rfl (fun q => False.elim (by have := i_nlt c1; have := i_rg c; have : (0 : Int32).toInt = 0 := rfl; have := i_eq ek2; have : (nI k2).toInt = ((k2 : Nat) : Int) := nI_toInt (by omega); have := i_nle c3; have : (24 : Int32).toInt = 24 := rfl; have := i_lt q; omega)) (fun _ => ?_)
                refine r_iload rfl rfl ?_
                refine r_ic (x := 24) rfl rfl ?_
                refine r_icmp_ge (tg := 14) rfl rfl (fun q => False.elim (by have := i_nlt c1; have := i_rg c; have : (0 : Int32).toInt = 0 := rfl; have := i_eq ek2; have : (nI k2).toInt = ((k2 : Nat) : Int) := nI_toInt (by omega); have := i_nle c3; have : (24 : Int32).toInt = 24 := rfl; have := i_le q; omega)) (fun _ => ?_)
                refine r_ic (x := 1) rfl rfl ?_
                refine r_goto (tg := 15) rfl rfl ?_
                refine r_zret rfl (.inr rfl) ?_
                show WR _ cd_175 4 [some (.ref (ad 30)), some (.int c), some (.int i), some (.int d), none, none, none] [.int 1] (sI (sI (sI h (ad 0) 6 0) (ad 0) 6 (-11)) (ad 0) 6 (-11)) _
                refine r_if_eq (tg := 14) rfl rfl (fun q => absurd q (by decide)) (fun _ => ?_)
                refine r_iload rfl rfl ?_
                refine WR_tI (y := nI k5) ek5 ?_
                refine r_cs (y := 153) (ra := [.int (nI k5)]) (rest := []) rfl ⟨⟨rfl, rfl⟩, by decide⟩ rfl rfl (Nat.le_of_ble_eq_true rfl) ?_
                refine in_153 (Nat.le_of_ble_eq_true rfl) ?_
                show WR _ cd_153 0 [some (.int (nI k5))] [] (sI (sI (sI h (ad 0) 6 0) (ad 0) 6 (-11)) (ad 0) 6 (-11)) _
                refine r_iload rfl rfl ?_
                refine r_if_lt (tg := 14) rfl rfl (fun q => False.elim (by have := i_nlt c4; have := i_rg d; have : (0 : Int32).toInt = 0 := rfl; have := i_eq ek5; have : (nI k5).toInt = ((k5 : Nat) : Int) := nI_toInt (by omega); have := i_nle c6; have : (24 : Int32).toInt = 24 := rfl; have := i_lt q; omega)) (fun _ => ?_)
                refine r_iload rfl rfl ?_
                refine r_ic (x := 24) rfl rfl ?_
                refine r_icmp_ge (tg := 14) rfl rfl (fun q => False.elim (by have := i_nlt c4; have := i_rg d; have : (0 : Int32).toInt = 0 := rfl; have := i_eq ek5; have : (nI k5).toInt = ((k5 : Nat) : Int) := nI_toInt (by omega); have := i_nle c6; have : (24 : Int32).toInt = 24 := rfl; have := i_le q; omega)) (fun _ => ?_)
                refine r_ic (x := 1) rfl rfl ?_
                refine r_goto (tg := 15) rfl rfl ?_
                refine r_zret rfl (.inr rfl) ?_
                show WR _ cd_175 11 [some (.ref (ad 30)), some (.int c), some (.int i), some (.int d), none, none, none] [.int 1] (sI (sI (sI h (ad 0) 6 0) (ad 0) 6 (-11)) (ad 0) 6 (-11)) _
                refine r_if_ne (tg := 21) rfl rfl (fun _ => ?_) (fun q => absurd q (by decide))
                refine r_aload rfl rfl ?_
                refine r_getA (b := ad 31) rfl ⟨rfl, rfl, rfl⟩ (fx_t30 fx) (fx_r30_0 fx) ?_
                refine r_iload rfl rfl ?_
                refine WR_tI (y := nI k2) ek2 ?_
                refine r_iaload rfl (.inl (fx_t31 fx)) (vp_ct (fx_n31 fx) (vp_in_nI (by have := i_nlt c1; have := i_rg c; have : (0 : Int32).toInt = 0 := rfl; have := i_eq ek2; have : (nI k2).toInt = ((k2 : Nat) : Int) := nI_toInt (by omega); have := i_nle c3; have : (24 : Int32).toInt = 24 := rfl; omega) (by omega))) ?_
                refine WR_tI (congrArg (hI (sI (sI (sI h (ad 0) 6 0) (ad 0) 6 (-11)) (ad 0) 6 (-11)) (ad 31)) ((nI_clamp (by have := i_nlt c1; have := i_rg c; have : (0 : Int32).toInt = 0 := rfl; have := i_eq ek2; have : (nI k2).toInt = ((k2 : Nat) : Int) := nI_toInt (by omega); have := i_nle c3; have : (24 : Int32).toInt = 24 := rfl; omega)) : _ = k2)) ?_
                refine WR_tI (y := (-1)) (Eq.trans (I_ne (fx_ne fx (by decide))) (Eq.trans (I_ne (fx_ne fx (by decide))) (Eq.trans (I_ne (fx_ne fx (by decide))) v13))) ?_
                refine r_istore (lv' := [some (.ref (ad 30)), some (.int c), some (.int i), some (.int d), some (.int (-1)), none, none]) rfl (Nat.le_of_ble_eq_true rfl) rfl ?_
                refine r_aload rfl rfl ?_
                refine r_getA (b := ad 31) rfl ⟨rfl, rfl, rfl⟩ (fx_t30 fx) (fx_r30_0 fx) ?_
                refine r_iload rfl rfl ?_
                refine WR_tI (y := nI k5) ek5 ?_
                refine r_iaload rfl (.inl (fx_t31 fx)) (vp_ct (fx_n31 fx) (vp_in_nI (by have := i_nlt c4; have := i_rg d; have : (0 : Int32).toInt = 0 := rfl; have := i_eq ek5; have : (nI k5).toInt = ((k5 : Nat) : Int) := nI_toInt (by omega); have := i_nle c6; have : (24 : Int32).toInt = 24 := rfl; omega) (by omega))) ?_
                refine WR_tI (congrArg (hI (sI (sI (sI h (ad 0) 6 0) (ad 0) 6 (-11)) (ad 0) 6 (-11)) (ad 31)) ((nI_clamp (by have := i_nlt c4; have := i_rg d; have : (0 : Int32).toInt = 0 := rfl; have := i_eq ek5; have : (nI k5).toInt = ((k5 : Nat) : Int) := nI_toInt (by omega); have := i_nle c6; have : (24 : Int32).toInt = 24 := rfl; omega)) : _ = k5)) ?_
                refine WR_tI (y := nI t7) (Eq.trans (I_ne (fx_ne fx (by decide))) (Eq.trans (I_ne (fx_ne fx (by decide))) (Eq.trans (I_ne (fx_ne fx (by decide))) v7))) ?_
                refine r_istore (lv' := [some (.ref (ad 30)), some (.int c), some (.int i), some (.int d), some (.int (-1)), some (.int (nI t7)), none]) rfl (Nat.le_of_ble_eq_true rfl) rfl ?_
                refine r_iload rfl rfl ?_
                refine r_ic (x := (-1)) rfl rfl ?_
                refine r_icmp_eq (tg := 54) rfl rfl (fun _ => ?_) (fun q => absurd q (by decide))
                refine r_iload rfl rfl ?_
                refine r_ic (x := (-1)) rfl rfl ?_
                refine r_icmp_eq (tg := 76) rfl rfl (fun q => False.elim (by have : (nI t7).toInt = ((t7 : Nat) : Int) := nI_toInt (by omega); have : (-1 : Int32).toInt = -1 := rfl; have := i_eq q; omega)) (fun _ => ?_)
                refine r_aload rfl rfl ?_
                refine r_iload rfl rfl ?_
                refine r_cv (y := 166) (ra := [.int (nI t7)]) (rest := []) rfl ⟨⟨rfl, rfl⟩, rfl, by decide⟩ (fx_t30 fx) rfl rfl (Nat.le_of_ble_eq_true rfl) ?_
                refine in_166 (Nat.le_of_ble_eq_true rfl) ?_
                show WR _ cd_166 0 [some (.ref (ad 30)), some (.int (nI t7))] [] (sI (sI (sI h (ad 0) 6 0) (ad 0) 6 (-11)) (ad 0) 6 (-11)) _
                refine r_iload rfl rfl ?_
                refine r_ic (x := (-1)) rfl rfl ?_
                refine r_icmp_ne (tg := 9) rfl rfl (fun _ => ?_) (fun q => False.elim (by have : (nI t7).toInt = ((t7 : Nat) : Int) := nI_toInt (by omega); have : (-1 : Int32).toInt = -1 := rfl; have := i_eq q; omega))
                refine r_iload rfl rfl ?_
                refine r_ic (x := 1000) rfl rfl ?_
                refine r_icmp_lt (tg := 21) rfl rfl (fun _ => ?_) (fun q => False.elim (by have : (nI t7).toInt = ((t7 : Nat) : Int) := nI_toInt (by omega); have : (1000 : Int32).toInt = 1000 := rfl; have := i_nlt q; omega))
                refine r_aload rfl rfl ?_
                refine r_getA (b := ad 33) rfl ⟨rfl, rfl, rfl⟩ (fx_t30 fx) (fx_r30_2 fx) ?_
                refine r_iload rfl rfl ?_
                refine r_iaload rfl (.inl (fx_t33 fx)) (vp_ct (fx_n33 fx) (vp_in_nI (by omega) (by omega))) ?_
                refine WR_tI (congrArg (hI (sI (sI (sI h (ad 0) 6 0) (ad 0) 6 (-11)) (ad 0) 6 (-11)) (ad 33)) ((nI_clamp (by omega)) : _ = t7)) ?_
                refine WR_tI (y := nI ln7) (Eq.trans (I_ne (fx_ne fx (by decide))) (Eq.trans (I_ne (fx_ne fx (by decide))) (Eq.trans (I_ne (fx_ne fx (by decide))) l2_7))) ?_
                refine r_iret rfl ?_
                show WR _ cd_175 66 [some (.ref (ad 30)), some (.int c), some (.int i), some (.int d), some (.int (-1)), some (.int (nI t7)), none] [.int (nI ln7)] (sI (sI (sI h (ad 0) 6 0) (ad 0) 6 (-11)) (ad 0) 6 (-11)) _
                refine r_ic (x := 3) rfl rfl ?_
                refine r_icmp_eq (tg := 76) rfl rfl (fun _ => ?_) (fun q => False.elim (by have := i_eq c14; have : (nI ln7).toInt = ((ln7 : Nat) : Int) := nI_toInt (by omega); have : (3 : Int32).toInt = 3 := rfl; have := i_neq q; omega))
                refine r_aload rfl rfl ?_
                refine r_iload rfl rfl ?_
                refine r_ic (x := 8) rfl rfl ?_
                refine r_iload rfl rfl ?_
                refine r_cv (y := 168) (ra := [.int i, .int 8, .int (-1)]) (rest := []) rfl ⟨⟨rfl, rfl⟩, rfl, by decide⟩ (fx_t30 fx) rfl rfl (Nat.le_of_ble_eq_true rfl) ?_
                refine in_168 (Nat.le_of_ble_eq_true rfl) ?_
                show WR _ cd_168 0 [some (.ref (ad 30)), some (.int (-1)), some (.int 8), some (.int i)] [] (sI (sI (sI h (ad 0) 6 0) (ad 0) 6 (-11)) (ad 0) 6 (-11)) _
                refine r_iload rfl rfl ?_
                refine r_ic (x := (-1)) rfl rfl ?_
                refine r_icmp_eq (tg := 18) rfl rfl (fun _ => ?_) (fun q => absurd q (by decide))
                refine r_iload rfl rfl ?_
                refine r_ic (x := (-1)) rfl rfl ?_
                refine r_icmp_ne (tg := 27) rfl rfl (fun q => absurd q (by decide)) (fun _ => ?_)
                refine r_ic (x := 1) rfl rfl ?_
                refine r_goto (tg := 50) rfl rfl ?_
                refine r_iret rfl ?_
                show WR _ cd_175 85 [some (.ref (ad 30)), some (.int c), some (.int i), some (.int d), some (.int (-1)), some (.int (nI t7)), none] [.int 1] (sI (sI (sI h (ad 0) 6 0) (ad 0) 6 (-11)) (ad 0) 6 (-11)) _
                refine r_istore (lv' := [some (.ref (ad 30)), some (.int c), some (.int i), some (.int d), some (.int (-1)), some (.int (nI t7)), some (.int 1)]) rfl (Nat.le_of_ble_eq_true rfl) rfl ?_
                refine r_iload rfl rfl ?_
                refine r_if_le (tg := 99) rfl rfl (fun q => absurd q (by decide)) (fun _ => ?_)
                refine r_aload rfl rfl ?_
                refine r_iload rfl rfl ?_
                refine r_cv (y := 156) (ra := [.int 1]) (rest := []) rfl ⟨⟨rfl, rfl⟩, rfl, by decide⟩ (fx_t30 fx) rfl rfl (Nat.le_of_ble_eq_true rfl) ?_
                refine in_156 (Nat.le_of_ble_eq_true rfl) ?_
                show WR _ cd_156 0 [some (.ref (ad 30)), some (.int 1)] [] (sI (sI (sI h (ad 0) 6 0) (ad 0) 6 (-11)) (ad 0) 6 (-11)) _
                refine r_aload rfl rfl ?_
                refine r_ic (x := (-10)) rfl rfl ?_
                refine r_iload rfl rfl ?_
                refine r_isub rfl ?_
                refine WR_tI (y := (-11)) rfl ?_
                refine r_cv (y := 154) (ra := [.int (-11)]) (rest := []) rfl ⟨⟨rfl, rfl⟩, rfl, by decide⟩ (fx_t30 fx) rfl rfl (Nat.le_of_ble_eq_true rfl) ?_
                refine in_154 (Nat.le_of_ble_eq_true rfl) ?_
                show WR _ cd_154 0 [some (.ref (ad 30)), some (.int (-11))] [] (sI (sI (sI h (ad 0) 6 0) (ad 0) 6 (-11)) (ad 0) 6 (-11)) _
                refine r_aload rfl rfl ?_
                refine r_iload rfl rfl ?_
                refine r_ic (x := (-1)) rfl rfl ?_
                refine r_icmp_ge (tg := 10) rfl rfl (fun q => absurd q (by decide)) (fun _ => ?_)
                refine r_iload rfl rfl ?_
                refine r_goto (tg := 11) rfl rfl ?_
                refine r_putI rfl ⟨rfl, rfl, rfl⟩ (fx_t30 fx) ?_
                have fx : FX n ad sa z0 (sI (sI (sI (sI h (ad 0) 6 0) (ad 0) 6 (-11)) (ad 0) 6 (-11)) (ad 30) 11 (-11)) := (FX.sI fx)
                refine r_iload rfl rfl ?_
                refine r_iret rfl ?_
                show WR _ cd_156 8 [some (.ref (ad 30)), some (.int 1)] [.int (-11)] (sI (sI (sI (sI h (ad 0) 6 0) (ad 0) 6 (-11)) (ad 0) 6 (-11)) (ad 30) 11 (-11)) _
                refine r_iret rfl ?_
                show WR _ cd_175 98 [some (.ref (ad 30)), some (.int c), some (.int i), some (.int d), some (.int (-1)), some (.int (nI t7)), some (.int 1)] [.int (-11)] (sI (sI (sI (sI h (ad 0) 6 0) (ad 0) 6 (-11)) (ad 0) 6 (-11)) (ad 30) 11 (-11)) _
                refine r_iret rfl ?_
                exact ⟨rfl, Rel.why r ((((Chg.rf.sI (fx_j fx) (.inl (by decide))).sI (fx_j fx) (.inl (by decide))).sI (fx_j fx) (.inl (by decide))).sI (fx_j fx) (.inl (by decide))) ⟨rfl, by decide⟩ (Eq.trans (Eq.trans (I_ne (fx_ne fx (by decide))) I_eq) (Eq.symm I_eq)), (by (try simp only [hZ_sI, hZ_sL, hZ_sD, hZ_sR]); omega), (by (try simp only [hU_sI, hU_sL, hU_sD, hU_sR]); omega)⟩
              · refine r_aload rfl rfl ?_
                refine r_ic (x := (-14)) rfl rfl ?_
                refine r_cv (y := 13) (ra := [.int (-14)]) (rest := []) rfl ⟨⟨rfl, rfl⟩, rfl, by decide⟩ (fx_t0 fx) rfl rfl (Nat.le_of_ble_eq_true rfl) ?_
                refine in_13 (Nat.le_of_ble_eq_true rfl) ?_
                show WR _ cd_13 0 [some (.ref (ad 0)), some (.int (-14))] [] (sI (sI h (ad 0) 6 0) (ad 0) 6 (-11)) _
                refine r_aload rfl rfl ?_
                refine r_iload rfl rfl ?_
                refine r_putI rfl ⟨rfl, rfl, rfl⟩ (fx_t0 fx) ?_
                have fx : FX n ad sa z0 (sI (sI (sI h (ad 0) 6 0) (ad 0) 6 (-11)) (ad 0) 6 (-14)) := (FX.sI fx)
                refine r_iload rfl rfl ?_
                refine r_iret rfl ?_
                show WR _ cd_46 47 [some (.ref (ad 0)), some (.int (nI k2)), some (.int 8), some (.int i), some (.int (nI k5)), some (.int 3), some (.ref (mid t7)), some (.null)] [.int (-14)] (sI (sI (sI h (ad 0) 6 0) (ad 0) 6 (-11)) (ad 0) 6 (-14)) _
                refine r_iret rfl ?_
                show WR _ cd_45 36 [some (.ref (ad 0)), some (.int c), some (.int i), some (.int d)] [.int (-14)] (sI (sI (sI h (ad 0) 6 0) (ad 0) 6 (-11)) (ad 0) 6 (-14)) _
                refine r_iret rfl ?_
                show EV _ 175 [.ref (ad 30), .int c, .int i, .int d] (sI (sI (sI h (ad 0) 6 0) (ad 0) 6 (-11)) (ad 0) 6 (-14)) _
                refine in_175 (Nat.le_of_ble_eq_true rfl) ?_
                show WR _ cd_175 0 [some (.ref (ad 30)), some (.int c), some (.int i), some (.int d), none, none, none] [] (sI (sI (sI h (ad 0) 6 0) (ad 0) 6 (-11)) (ad 0) 6 (-14)) _
                refine r_iload rfl rfl ?_
                refine WR_tI (y := nI k2) ek2 ?_
                refine r_cs (y := 153) (ra := [.int (nI k2)]) (rest := []) rfl ⟨⟨rfl, rfl⟩, by decide⟩ rfl rfl (Nat.le_of_ble_eq_true rfl) ?_
                refine in_153 (Nat.le_of_ble_eq_true rfl) ?_
                show WR _ cd_153 0 [some (.int (nI k2))] [] (sI (sI (sI h (ad 0) 6 0) (ad 0) 6 (-11)) (ad 0) 6 (-14)) _
                refine r_iload rfl rfl ?_
                refine r_if_lt (tg := 14) rfl rfl (fun q => False.elim (by have := i_nlt c1; have := i_rg c; have : (0 : Int32).toInt = 0 := rfl; have := i_eq ek2; have : (nI k2).toInt = ((k2 : Nat) : Int) := nI_toInt (by omega); have := i_nle c3; have : (24 : Int32).toInt = 24 := rfl; have := i_lt q; omega)) (fun _ => ?_)
                refine r_iload rfl rfl ?_
                refine r_ic (x := 24) rfl rfl ?_
                refine r_icmp_ge (tg := 14) rfl rfl (fun q => False.elim (by have := i_nlt c1; have := i_rg c; have : (0 : Int32).toInt = 0 := rfl; have := i_eq ek2; have : (nI k2).toInt = ((k2 : Nat) : Int) := nI_toInt (by omega); have := i_nle c3; have : (24 : Int32).toInt = 24 := rfl; have := i_le q; omega)) (fun _ => ?_)
                refine r_ic (x := 1) rfl rfl ?_
                refine r_goto (tg := 15) rfl rfl ?_
                refine r_zret rfl (.inr rfl) ?_
                show WR _ cd_175 4 [some (.ref (ad 30)), some (.int c), some (.int i), some (.int d), none, none, none] [.int 1] (sI (sI (sI h (ad 0) 6 0) (ad 0) 6 (-11)) (ad 0) 6 (-14)) _
                refine r_if_eq (tg := 14) rfl rfl (fun q => absurd q (by decide)) (fun _ => ?_)
                refine r_iload rfl rfl ?_
                refine WR_tI (y := nI k5) ek5 ?_
                refine r_cs (y := 153) (ra := [.int (nI k5)]) (rest := []) rfl ⟨⟨rfl, rfl⟩, by decide⟩ rfl rfl (Nat.le_of_ble_eq_true rfl) ?_
                refine in_153 (Nat.le_of_ble_eq_true rfl) ?_
                show WR _ cd_153 0 [some (.int (nI k5))] [] (sI (sI (sI h (ad 0) 6 0) (ad 0) 6 (-11)) (ad 0) 6 (-14)) _
                refine r_iload rfl rfl ?_
                refine r_if_lt (tg := 14) rfl rfl (fun q => False.elim (by have := i_nlt c4; have := i_rg d; have : (0 : Int32).toInt = 0 := rfl; have := i_eq ek5; have : (nI k5).toInt = ((k5 : Nat) : Int) := nI_toInt (by omega); have := i_nle c6; have : (24 : Int32).toInt = 24 := rfl; have := i_lt q; omega)) (fun _ => ?_)
                refine r_iload rfl rfl ?_
                refine r_ic (x := 24) rfl rfl ?_
                refine r_icmp_ge (tg := 14) rfl rfl (fun q => False.elim (by have := i_nlt c4; have := i_rg d; have : (0 : Int32).toInt = 0 := rfl; have := i_eq ek5; have : (nI k5).toInt = ((k5 : Nat) : Int) := nI_toInt (by omega); have := i_nle c6; have : (24 : Int32).toInt = 24 := rfl; have := i_le q; omega)) (fun _ => ?_)
                refine r_ic (x := 1) rfl rfl ?_
                refine r_goto (tg := 15) rfl rfl ?_
                refine r_zret rfl (.inr rfl) ?_
                show WR _ cd_175 11 [some (.ref (ad 30)), some (.int c), some (.int i), some (.int d), none, none, none] [.int 1] (sI (sI (sI h (ad 0) 6 0) (ad 0) 6 (-11)) (ad 0) 6 (-14)) _
                refine r_if_ne (tg := 21) rfl rfl (fun _ => ?_) (fun q => absurd q (by decide))
                refine r_aload rfl rfl ?_
                refine r_getA (b := ad 31) rfl ⟨rfl, rfl, rfl⟩ (fx_t30 fx) (fx_r30_0 fx) ?_
                refine r_iload rfl rfl ?_
                refine WR_tI (y := nI k2) ek2 ?_
                refine r_iaload rfl (.inl (fx_t31 fx)) (vp_ct (fx_n31 fx) (vp_in_nI (by have := i_nlt c1; have := i_rg c; have : (0 : Int32).toInt = 0 := rfl; have := i_eq ek2; have : (nI k2).toInt = ((k2 : Nat) : Int) := nI_toInt (by omega); have := i_nle c3; have : (24 : Int32).toInt = 24 := rfl; omega) (by omega))) ?_
                refine WR_tI (congrArg (hI (sI (sI (sI h (ad 0) 6 0) (ad 0) 6 (-11)) (ad 0) 6 (-14)) (ad 31)) ((nI_clamp (by have := i_nlt c1; have := i_rg c; have : (0 : Int32).toInt = 0 := rfl; have := i_eq ek2; have : (nI k2).toInt = ((k2 : Nat) : Int) := nI_toInt (by omega); have := i_nle c3; have : (24 : Int32).toInt = 24 := rfl; omega)) : _ = k2)) ?_
                refine WR_tI (y := (-1)) (Eq.trans (I_ne (fx_ne fx (by decide))) (Eq.trans (I_ne (fx_ne fx (by decide))) (Eq.trans (I_ne (fx_ne fx (by decide))) v13))) ?_
                refine r_istore (lv' := [some (.ref (ad 30)), some (.int c), some (.int i), some (.int d), some (.int (-1)), none, none]) rfl (Nat.le_of_ble_eq_true rfl) rfl ?_
                refine r_aload rfl rfl ?_
                refine r_getA (b := ad 31) rfl ⟨rfl, rfl, rfl⟩ (fx_t30 fx) (fx_r30_0 fx) ?_
                refine r_iload rfl rfl ?_
                refine WR_tI (y := nI k5) ek5 ?_
                refine r_iaload rfl (.inl (fx_t31 fx)) (vp_ct (fx_n31 fx) (vp_in_nI (by have := i_nlt c4; have := i_rg d; have : (0 : Int32).toInt = 0 := rfl; have := i_eq ek5; have : (nI k5).toInt = ((k5 : Nat) : Int) := nI_toInt (by omega); have := i_nle c6; have : (24 : Int32).toInt = 24 := rfl; omega) (by omega))) ?_
                refine WR_tI (congrArg (hI (sI (sI (sI h (ad 0) 6 0) (ad 0) 6 (-11)) (ad 0) 6 (-14)) (ad 31)) ((nI_clamp (by have := i_nlt c4; have := i_rg d; have : (0 : Int32).toInt = 0 := rfl; have := i_eq ek5; have : (nI k5).toInt = ((k5 : Nat) : Int) := nI_toInt (by omega); have := i_nle c6; have : (24 : Int32).toInt = 24 := rfl; omega)) : _ = k5)) ?_
                refine WR_tI (y := nI t7) (Eq.trans (I_ne (fx_ne fx (by decide))) (Eq.trans (I_ne (fx_ne fx (by decide))) (Eq.trans (I_ne (fx_ne fx (by decide))) v7))) ?_
                refine r_istore (lv' := [some (.ref (ad 30)), some (.int c), some (.int i), some (.int d), some (.int (-1)), some (.int (nI t7)), none]) rfl (Nat.le_of_ble_eq_true rfl) rfl ?_
                refine r_iload rfl rfl ?_
                refine r_ic (x := (-1)) rfl rfl ?_
                refine r_icmp_eq (tg := 54) rfl rfl (fun _ => ?_) (fun q => absurd q (by decide))
                refine r_iload rfl rfl ?_
                refine r_ic (x := (-1)) rfl rfl ?_
                refine r_icmp_eq (tg := 76) rfl rfl (fun q => False.elim (by have : (nI t7).toInt = ((t7 : Nat) : Int) := nI_toInt (by omega); have : (-1 : Int32).toInt = -1 := rfl; have := i_eq q; omega)) (fun _ => ?_)
                refine r_aload rfl rfl ?_
                refine r_iload rfl rfl ?_
                refine r_cv (y := 166) (ra := [.int (nI t7)]) (rest := []) rfl ⟨⟨rfl, rfl⟩, rfl, by decide⟩ (fx_t30 fx) rfl rfl (Nat.le_of_ble_eq_true rfl) ?_
                refine in_166 (Nat.le_of_ble_eq_true rfl) ?_
                show WR _ cd_166 0 [some (.ref (ad 30)), some (.int (nI t7))] [] (sI (sI (sI h (ad 0) 6 0) (ad 0) 6 (-11)) (ad 0) 6 (-14)) _
                refine r_iload rfl rfl ?_
                refine r_ic (x := (-1)) rfl rfl ?_
                refine r_icmp_ne (tg := 9) rfl rfl (fun _ => ?_) (fun q => False.elim (by have : (nI t7).toInt = ((t7 : Nat) : Int) := nI_toInt (by omega); have : (-1 : Int32).toInt = -1 := rfl; have := i_eq q; omega))
                refine r_iload rfl rfl ?_
                refine r_ic (x := 1000) rfl rfl ?_
                refine r_icmp_lt (tg := 21) rfl rfl (fun _ => ?_) (fun q => False.elim (by have : (nI t7).toInt = ((t7 : Nat) : Int) := nI_toInt (by omega); have : (1000 : Int32).toInt = 1000 := rfl; have := i_nlt q; omega))
                refine r_aload rfl rfl ?_
                refine r_getA (b := ad 33) rfl ⟨rfl, rfl, rfl⟩ (fx_t30 fx) (fx_r30_2 fx) ?_
                refine r_iload rfl rfl ?_
                refine r_iaload rfl (.inl (fx_t33 fx)) (vp_ct (fx_n33 fx) (vp_in_nI (by omega) (by omega))) ?_
                refine WR_tI (congrArg (hI (sI (sI (sI h (ad 0) 6 0) (ad 0) 6 (-11)) (ad 0) 6 (-14)) (ad 33)) ((nI_clamp (by omega)) : _ = t7)) ?_
                refine WR_tI (y := nI ln7) (Eq.trans (I_ne (fx_ne fx (by decide))) (Eq.trans (I_ne (fx_ne fx (by decide))) (Eq.trans (I_ne (fx_ne fx (by decide))) l2_7))) ?_
                refine r_iret rfl ?_
                show WR _ cd_175 66 [some (.ref (ad 30)), some (.int c), some (.int i), some (.int d), some (.int (-1)), some (.int (nI t7)), none] [.int (nI ln7)] (sI (sI (sI h (ad 0) 6 0) (ad 0) 6 (-11)) (ad 0) 6 (-14)) _
                refine r_ic (x := 3) rfl rfl ?_
                refine r_icmp_eq (tg := 76) rfl rfl (fun q => False.elim (by have := i_neq c14; have : (nI ln7).toInt = ((ln7 : Nat) : Int) := nI_toInt (by omega); have : (3 : Int32).toInt = 3 := rfl; have := i_eq q; omega)) (fun _ => ?_)
                refine r_aload rfl rfl ?_
                refine r_ic (x := 4) rfl rfl ?_
                refine r_cv (y := 156) (ra := [.int 4]) (rest := []) rfl ⟨⟨rfl, rfl⟩, rfl, by decide⟩ (fx_t30 fx) rfl rfl (Nat.le_of_ble_eq_true rfl) ?_
                refine in_156 (Nat.le_of_ble_eq_true rfl) ?_
                show WR _ cd_156 0 [some (.ref (ad 30)), some (.int 4)] [] (sI (sI (sI h (ad 0) 6 0) (ad 0) 6 (-11)) (ad 0) 6 (-14)) _
                refine r_aload rfl rfl ?_
                refine r_ic (x := (-10)) rfl rfl ?_
                refine r_iload rfl rfl ?_
                refine r_isub rfl ?_
                refine WR_tI (y := (-14)) rfl ?_
                refine r_cv (y := 154) (ra := [.int (-14)]) (rest := []) rfl ⟨⟨rfl, rfl⟩, rfl, by decide⟩ (fx_t30 fx) rfl rfl (Nat.le_of_ble_eq_true rfl) ?_
                refine in_154 (Nat.le_of_ble_eq_true rfl) ?_
                show WR _ cd_154 0 [some (.ref (ad 30)), some (.int (-14))] [] (sI (sI (sI h (ad 0) 6 0) (ad 0) 6 (-11)) (ad 0) 6 (-14)) _
                refine r_aload rfl rfl ?_
                refine r_iload rfl rfl ?_
                refine r_ic (x := (-1)) rfl rfl ?_
                refine r_icmp_ge (tg := 10) rfl rfl (fun q => absurd q (by decide)) (fun _ => ?_)
                refine r_iload rfl rfl ?_
                refine r_goto (tg := 11) rfl rfl ?_
                refine r_putI rfl ⟨rfl, rfl, rfl⟩ (fx_t30 fx) ?_
                have fx : FX n ad sa z0 (sI (sI (sI (sI h (ad 0) 6 0) (ad 0) 6 (-11)) (ad 0) 6 (-14)) (ad 30) 11 (-14)) := (FX.sI fx)
                refine r_iload rfl rfl ?_
                refine r_iret rfl ?_
                show WR _ cd_156 8 [some (.ref (ad 30)), some (.int 4)] [.int (-14)] (sI (sI (sI (sI h (ad 0) 6 0) (ad 0) 6 (-11)) (ad 0) 6 (-14)) (ad 30) 11 (-14)) _
                refine r_iret rfl ?_
                show WR _ cd_175 75 [some (.ref (ad 30)), some (.int c), some (.int i), some (.int d), some (.int (-1)), some (.int (nI t7)), none] [.int (-14)] (sI (sI (sI (sI h (ad 0) 6 0) (ad 0) 6 (-11)) (ad 0) 6 (-14)) (ad 30) 11 (-14)) _
                refine r_iret rfl ?_
                exact ⟨rfl, Rel.why r ((((Chg.rf.sI (fx_j fx) (.inl (by decide))).sI (fx_j fx) (.inl (by decide))).sI (fx_j fx) (.inl (by decide))).sI (fx_j fx) (.inl (by decide))) ⟨rfl, by decide⟩ (Eq.trans (Eq.trans (I_ne (fx_ne fx (by decide))) I_eq) (Eq.symm I_eq)), (by (try simp only [hZ_sI, hZ_sL, hZ_sD, hZ_sR]); omega), (by (try simp only [hU_sI, hU_sL, hU_sD, hU_sR]); omega)⟩
            · refine r_aaloadA (b := pa q13) rfl (isQ_of (fx_t1 fx) (by decide)) (vp_ct (fx_n1 fx) (vp_in_nI (by have := i_nlt c1; have := i_rg c; have : (0 : Int32).toInt = 0 := rfl; have := i_eq ek2; have : (nI k2).toInt = ((k2 : Nat) : Int) := nI_toInt (by omega); have := i_nle c3; have : (24 : Int32).toInt = 24 := rfl; omega) (by omega))) (Eq.trans (congrArg (hR (sI h (ad 0) 6 0) (ad 1)) ((nI_clamp (by have := i_nlt c1; have := i_rg c; have : (0 : Int32).toInt = 0 := rfl; have := i_eq ek2; have : (nI k2).toInt = ((k2 : Nat) : Int) := nI_toInt (by omega); have := i_nle c3; have : (24 : Int32).toInt = 24 := rfl; omega)) : _ = k2)) (Eq.trans R_oI w13)) ?_
              refine r_astore (lv' := [some (.ref (ad 0)), some (.int (nI k2)), some (.int 8), some (.ref (pa q13)), none]) rfl (Nat.le_of_ble_eq_true rfl) rfl ?_
              refine r_aload rfl rfl ?_
              refine r_instW rfl (by decide) tg13 (by decide) ?_
              refine r_if_eq (tg := 32) rfl rfl (fun _ => ?_) (fun q => absurd q (by decide))
              refine r_aload rfl rfl ?_
              refine r_aload rfl rfl ?_
              refine r_ifnonnullA (tg := 42) rfl rfl ?_
              refine r_ic (x := (-14)) rfl rfl ?_
              refine r_putI rfl ⟨rfl, rfl, rfl⟩ (fx_t0 fx) ?_
              have fx : FX n ad sa z0 (sI (sI h (ad 0) 6 0) (ad 0) 6 (-14)) := (FX.sI fx)
              refine r_null rfl ?_
              refine r_aret0 rfl ?_
              show WR _ cd_46 15 [some (.ref (ad 0)), some (.int (nI k2)), some (.int 8), some (.int i), some (.int (nI k5)), some (.int 3), some (.ref (mid t7)), none] [.null] (sI (sI h (ad 0) 6 0) (ad 0) 6 (-14)) _
              refine r_astore0 (lv' := [some (.ref (ad 0)), some (.int (nI k2)), some (.int 8), some (.int i), some (.int (nI k5)), some (.int 3), some (.ref (mid t7)), some (.null)]) rfl (Nat.le_of_ble_eq_true rfl) rfl ?_
              refine r_aload rfl rfl ?_
              refine r_getI rfl ⟨rfl, rfl, rfl⟩ (fx_t0 fx) ?_
              refine WR_tI (y := (-14)) I_eq ?_
              refine r_ic (x := (-14)) rfl rfl ?_
              refine r_icmp_eq (tg := 41) rfl rfl (fun _ => ?_) (fun q => absurd q (by decide))
              refine r_aload rfl rfl ?_
              refine r_ic (x := (-14)) rfl rfl ?_
              refine r_cv (y := 13) (ra := [.int (-14)]) (rest := []) rfl ⟨⟨rfl, rfl⟩, rfl, by decide⟩ (fx_t0 fx) rfl rfl (Nat.le_of_ble_eq_true rfl) ?_
              refine in_13 (Nat.le_of_ble_eq_true rfl) ?_
              show WR _ cd_13 0 [some (.ref (ad 0)), some (.int (-14))] [] (sI (sI h (ad 0) 6 0) (ad 0) 6 (-14)) _
              refine r_aload rfl rfl ?_
              refine r_iload rfl rfl ?_
              refine r_putI rfl ⟨rfl, rfl, rfl⟩ (fx_t0 fx) ?_
              have fx : FX n ad sa z0 (sI (sI (sI h (ad 0) 6 0) (ad 0) 6 (-14)) (ad 0) 6 (-14)) := (FX.sI fx)
              refine r_iload rfl rfl ?_
              refine r_iret rfl ?_
              show WR _ cd_46 47 [some (.ref (ad 0)), some (.int (nI k2)), some (.int 8), some (.int i), some (.int (nI k5)), some (.int 3), some (.ref (mid t7)), some (.null)] [.int (-14)] (sI (sI (sI h (ad 0) 6 0) (ad 0) 6 (-14)) (ad 0) 6 (-14)) _
              refine r_iret rfl ?_
              show WR _ cd_45 36 [some (.ref (ad 0)), some (.int c), some (.int i), some (.int d)] [.int (-14)] (sI (sI (sI h (ad 0) 6 0) (ad 0) 6 (-14)) (ad 0) 6 (-14)) _
              refine r_iret rfl ?_
              show EV _ 175 [.ref (ad 30), .int c, .int i, .int d] (sI (sI (sI h (ad 0) 6 0) (ad 0) 6 (-14)) (ad 0) 6 (-14)) _
              refine in_175 (Nat.le_of_ble_eq_true rfl) ?_
              show WR _ cd_175 0 [some (.ref (ad 30)), some (.int c), some (.int i), some (.int d), none, none, none] [] (sI (sI (sI h (ad 0) 6 0) (ad 0) 6 (-14)) (ad 0) 6 (-14)) _
              refine r_iload rfl rfl ?_
              refine WR_tI (y := nI k2) ek2 ?_
              refine r_cs (y := 153) (ra := [.int (nI k2)]) (rest := []) rfl ⟨⟨rfl, rfl⟩, by decide⟩ rfl rfl (Nat.le_of_ble_eq_true rfl) ?_
              refine in_153 (Nat.le_of_ble_eq_true rfl) ?_
              show WR _ cd_153 0 [some (.int (nI k2))] [] (sI (sI (sI h (ad 0) 6 0) (ad 0) 6 (-14)) (ad 0) 6 (-14)) _
              refine r_iload rfl rfl ?_
              refine r_if_lt (tg := 14) rfl rfl (fun q => False.elim (by have := i_nlt c1; have := i_rg c; have : (0 : Int32).toInt = 0 := rfl; have := i_eq ek2; have : (nI k2).toInt = ((k2 : Nat) : Int) := nI_toInt (by omega); have := i_nle c3; have : (24 : Int32).toInt = 24 := rfl; have := i_lt q; omega)) (fun _ => ?_)
              refine r_iload rfl rfl ?_
              refine r_ic (x := 24) rfl rfl ?_
              refine r_icmp_ge (tg := 14) rfl rfl (fun q => False.elim (by have := i_nlt c1; have := i_rg c; have : (0 : Int32).toInt = 0 := rfl; have := i_eq ek2; have : (nI k2).toInt = ((k2 : Nat) : Int) := nI_toInt (by omega); have := i_nle c3; have : (24 : Int32).toInt = 24 := rfl; have := i_le q; omega)) (fun _ => ?_)
              refine r_ic (x := 1) rfl rfl ?_
              refine r_goto (tg := 15) rfl rfl ?_
              refine r_zret rfl (.inr rfl) ?_
              show WR _ cd_175 4 [some (.ref (ad 30)), some (.int c), some (.int i), some (.int d), none, none, none] [.int 1] (sI (sI (sI h (ad 0) 6 0) (ad 0) 6 (-14)) (ad 0) 6 (-14)) _
              refine r_if_eq (tg := 14) rfl rfl (fun q => absurd q (by decide)) (fun _ => ?_)
              refine r_iload rfl rfl ?_
              refine WR_tI (y := nI k5) ek5 ?_
              refine r_cs (y := 153) (ra := [.int (nI k5)]) (rest := []) rfl ⟨⟨rfl, rfl⟩, by decide⟩ rfl rfl (Nat.le_of_ble_eq_true rfl) ?_
              refine in_153 (Nat.le_of_ble_eq_true rfl) ?_
              show WR _ cd_153 0 [some (.int (nI k5))] [] (sI (sI (sI h (ad 0) 6 0) (ad 0) 6 (-14)) (ad 0) 6 (-14)) _
              refine r_iload rfl rfl ?_
              refine r_if_lt (tg := 14) rfl rfl (fun q => False.elim (by have := i_nlt c4; have := i_rg d; have : (0 : Int32).toInt = 0 := rfl; have := i_eq ek5; have : (nI k5).toInt = ((k5 : Nat) : Int) := nI_toInt (by omega); have := i_nle c6; have : (24 : Int32).toInt = 24 := rfl; have := i_lt q; omega)) (fun _ => ?_)
              refine r_iload rfl rfl ?_
              refine r_ic (x := 24) rfl rfl ?_
              refine r_icmp_ge (tg := 14) rfl rfl (fun q => False.elim (by have := i_nlt c4; have := i_rg d; have : (0 : Int32).toInt = 0 := rfl; have := i_eq ek5; have : (nI k5).toInt = ((k5 : Nat) : Int) := nI_toInt (by omega); have := i_nle c6; have : (24 : Int32).toInt = 24 := rfl; have := i_le q; omega)) (fun _ => ?_)
              refine r_ic (x := 1) rfl rfl ?_
              refine r_goto (tg := 15) rfl rfl ?_
              refine r_zret rfl (.inr rfl) ?_
              show WR _ cd_175 11 [some (.ref (ad 30)), some (.int c), some (.int i), some (.int d), none, none, none] [.int 1] (sI (sI (sI h (ad 0) 6 0) (ad 0) 6 (-14)) (ad 0) 6 (-14)) _
              refine r_if_ne (tg := 21) rfl rfl (fun _ => ?_) (fun q => absurd q (by decide))
              refine r_aload rfl rfl ?_
              refine r_getA (b := ad 31) rfl ⟨rfl, rfl, rfl⟩ (fx_t30 fx) (fx_r30_0 fx) ?_
              refine r_iload rfl rfl ?_
              refine WR_tI (y := nI k2) ek2 ?_
              refine r_iaload rfl (.inl (fx_t31 fx)) (vp_ct (fx_n31 fx) (vp_in_nI (by have := i_nlt c1; have := i_rg c; have : (0 : Int32).toInt = 0 := rfl; have := i_eq ek2; have : (nI k2).toInt = ((k2 : Nat) : Int) := nI_toInt (by omega); have := i_nle c3; have : (24 : Int32).toInt = 24 := rfl; omega) (by omega))) ?_
              refine WR_tI (congrArg (hI (sI (sI (sI h (ad 0) 6 0) (ad 0) 6 (-14)) (ad 0) 6 (-14)) (ad 31)) ((nI_clamp (by have := i_nlt c1; have := i_rg c; have : (0 : Int32).toInt = 0 := rfl; have := i_eq ek2; have : (nI k2).toInt = ((k2 : Nat) : Int) := nI_toInt (by omega); have := i_nle c3; have : (24 : Int32).toInt = 24 := rfl; omega)) : _ = k2)) ?_
              refine WR_tI (y := nI (q13 + 1000)) (Eq.trans (I_ne (fx_ne fx (by decide))) (Eq.trans (I_ne (fx_ne fx (by decide))) (Eq.trans (I_ne (fx_ne fx (by decide))) v13))) ?_
              refine r_istore (lv' := [some (.ref (ad 30)), some (.int c), some (.int i), some (.int d), some (.int (nI (q13 + 1000))), none, none]) rfl (Nat.le_of_ble_eq_true rfl) rfl ?_
              refine r_aload rfl rfl ?_
              refine r_getA (b := ad 31) rfl ⟨rfl, rfl, rfl⟩ (fx_t30 fx) (fx_r30_0 fx) ?_
              refine r_iload rfl rfl ?_
              refine WR_tI (y := nI k5) ek5 ?_
              refine r_iaload rfl (.inl (fx_t31 fx)) (vp_ct (fx_n31 fx) (vp_in_nI (by have := i_nlt c4; have := i_rg d; have : (0 : Int32).toInt = 0 := rfl; have := i_eq ek5; have : (nI k5).toInt = ((k5 : Nat) : Int) := nI_toInt (by omega); have := i_nle c6; have : (24 : Int32).toInt = 24 := rfl; omega) (by omega))) ?_
              refine WR_tI (congrArg (hI (sI (sI (sI h (ad 0) 6 0) (ad 0) 6 (-14)) (ad 0) 6 (-14)) (ad 31)) ((nI_clamp (by have := i_nlt c4; have := i_rg d; have : (0 : Int32).toInt = 0 := rfl; have := i_eq ek5; have : (nI k5).toInt = ((k5 : Nat) : Int) := nI_toInt (by omega); have := i_nle c6; have : (24 : Int32).toInt = 24 := rfl; omega)) : _ = k5)) ?_
              refine WR_tI (y := nI t7) (Eq.trans (I_ne (fx_ne fx (by decide))) (Eq.trans (I_ne (fx_ne fx (by decide))) (Eq.trans (I_ne (fx_ne fx (by decide))) v7))) ?_
              refine r_istore (lv' := [some (.ref (ad 30)), some (.int c), some (.int i), some (.int d), some (.int (nI (q13 + 1000))), some (.int (nI t7)), none]) rfl (Nat.le_of_ble_eq_true rfl) rfl ?_
              refine r_iload rfl rfl ?_
              refine r_ic (x := (-1)) rfl rfl ?_
              refine r_icmp_eq (tg := 54) rfl rfl (fun q => False.elim (by have : (nI (q13 + 1000)).toInt = ((q13 + 1000 : Nat) : Int) := nI_toInt (by omega); have : (-1 : Int32).toInt = -1 := rfl; have := i_eq q; omega)) (fun _ => ?_)
              refine r_aload rfl rfl ?_
              refine r_iload rfl rfl ?_
              refine r_cv (y := 166) (ra := [.int (nI (q13 + 1000))]) (rest := []) rfl ⟨⟨rfl, rfl⟩, rfl, by decide⟩ (fx_t30 fx) rfl rfl (Nat.le_of_ble_eq_true rfl) ?_
              refine in_166 (Nat.le_of_ble_eq_true rfl) ?_
              show WR _ cd_166 0 [some (.ref (ad 30)), some (.int (nI (q13 + 1000)))] [] (sI (sI (sI h (ad 0) 6 0) (ad 0) 6 (-14)) (ad 0) 6 (-14)) _
              refine r_iload rfl rfl ?_
              refine r_ic (x := (-1)) rfl rfl ?_
              refine r_icmp_ne (tg := 9) rfl rfl (fun _ => ?_) (fun q => False.elim (by have : (nI (q13 + 1000)).toInt = ((q13 + 1000 : Nat) : Int) := nI_toInt (by omega); have : (-1 : Int32).toInt = -1 := rfl; have := i_eq q; omega))
              refine r_iload rfl rfl ?_
              refine r_ic (x := 1000) rfl rfl ?_
              refine r_icmp_lt (tg := 21) rfl rfl (fun q => False.elim (by have : (nI (q13 + 1000)).toInt = ((q13 + 1000 : Nat) : Int) := nI_toInt (by omega); have : (1000 : Int32).toInt = 1000 := rfl; have := i_lt q; omega)) (fun _ => ?_)
              refine r_ic (x := 10) rfl rfl ?_
              refine r_goto (tg := 27) rfl rfl ?_
              refine r_iret rfl ?_
              show WR _ cd_175 49 [some (.ref (ad 30)), some (.int c), some (.int i), some (.int d), some (.int (nI (q13 + 1000))), some (.int (nI t7)), none] [.int 10] (sI (sI (sI h (ad 0) 6 0) (ad 0) 6 (-14)) (ad 0) 6 (-14)) _
              refine r_ic (x := 8) rfl rfl ?_
              refine r_icmp_ne (tg := 70) rfl rfl (fun _ => ?_) (fun q => absurd q (by decide))
              refine r_aload rfl rfl ?_
              refine r_ic (x := 4) rfl rfl ?_
              refine r_cv (y := 156) (ra := [.int 4]) (rest := []) rfl ⟨⟨rfl, rfl⟩, rfl, by decide⟩ (fx_t30 fx) rfl rfl (Nat.le_of_ble_eq_true rfl) ?_
              refine in_156 (Nat.le_of_ble_eq_true rfl) ?_
              show WR _ cd_156 0 [some (.ref (ad 30)), some (.int 4)] [] (sI (sI (sI h (ad 0) 6 0) (ad 0) 6 (-14)) (ad 0) 6 (-14)) _
              refine r_aload rfl rfl ?_
              refine r_ic (x := (-10)) rfl rfl ?_
              refine r_iload rfl rfl ?_
              refine r_isub rfl ?_
              refine WR_tI (y := (-14)) rfl ?_
              refine r_cv (y := 154) (ra := [.int (-14)]) (rest := []) rfl ⟨⟨rfl, rfl⟩, rfl, by decide⟩ (fx_t30 fx) rfl rfl (Nat.le_of_ble_eq_true rfl) ?_
              refine in_154 (Nat.le_of_ble_eq_true rfl) ?_
              show WR _ cd_154 0 [some (.ref (ad 30)), some (.int (-14))] [] (sI (sI (sI h (ad 0) 6 0) (ad 0) 6 (-14)) (ad 0) 6 (-14)) _
              refine r_aload rfl rfl ?_
              refine r_iload rfl rfl ?_
              refine r_ic (x := (-1)) rfl rfl ?_
              refine r_icmp_ge (tg := 10) rfl rfl (fun q => absurd q (by decide)) (fun _ => ?_)
              refine r_iload rfl rfl ?_
              refine r_goto (tg := 11) rfl rfl ?_
              refine r_putI rfl ⟨rfl, rfl, rfl⟩ (fx_t30 fx) ?_
              have fx : FX n ad sa z0 (sI (sI (sI (sI h (ad 0) 6 0) (ad 0) 6 (-14)) (ad 0) 6 (-14)) (ad 30) 11 (-14)) := (FX.sI fx)
              refine r_iload rfl rfl ?_
              refine r_iret rfl ?_
              show WR _ cd_156 8 [some (.ref (ad 30)), some (.int 4)] [.int (-14)] (sI (sI (sI (sI h (ad 0) 6 0) (ad 0) 6 (-14)) (ad 0) 6 (-14)) (ad 30) 11 (-14)) _
              refine r_iret rfl ?_
              show WR _ cd_175 75 [some (.ref (ad 30)), some (.int c), some (.int i), some (.int d), some (.int (nI (q13 + 1000))), some (.int (nI t7)), none] [.int (-14)] (sI (sI (sI (sI h (ad 0) 6 0) (ad 0) 6 (-14)) (ad 0) 6 (-14)) (ad 30) 11 (-14)) _
              refine r_iret rfl ?_
              exact ⟨rfl, Rel.why r ((((Chg.rf.sI (fx_j fx) (.inl (by decide))).sI (fx_j fx) (.inl (by decide))).sI (fx_j fx) (.inl (by decide))).sI (fx_j fx) (.inl (by decide))) ⟨rfl, by decide⟩ (Eq.trans (Eq.trans (I_ne (fx_ne fx (by decide))) I_eq) (Eq.symm I_eq)), (by (try simp only [hZ_sI, hZ_sL, hZ_sD, hZ_sR]); omega), (by (try simp only [hU_sI, hU_sL, hU_sD, hU_sR]); omega)⟩
            · refine r_aaloadA (b := mid t13) rfl (isQ_of (fx_t1 fx) (by decide)) (vp_ct (fx_n1 fx) (vp_in_nI (by have := i_nlt c1; have := i_rg c; have : (0 : Int32).toInt = 0 := rfl; have := i_eq ek2; have : (nI k2).toInt = ((k2 : Nat) : Int) := nI_toInt (by omega); have := i_nle c3; have : (24 : Int32).toInt = 24 := rfl; omega) (by omega))) (Eq.trans (congrArg (hR (sI h (ad 0) 6 0) (ad 1)) ((nI_clamp (by have := i_nlt c1; have := i_rg c; have : (0 : Int32).toInt = 0 := rfl; have := i_eq ek2; have : (nI k2).toInt = ((k2 : Nat) : Int) := nI_toInt (by omega); have := i_nle c3; have : (24 : Int32).toInt = 24 := rfl; omega)) : _ = k2)) (Eq.trans R_oI w13)) ?_
              refine r_astore (lv' := [some (.ref (ad 0)), some (.int (nI k2)), some (.int 8), some (.ref (mid t13)), none]) rfl (Nat.le_of_ble_eq_true rfl) rfl ?_
              refine r_aload rfl rfl ?_
              refine r_instW rfl (by decide) tg13 (by decide) ?_
              refine r_if_eq (tg := 32) rfl rfl (fun _ => ?_) (fun q => absurd q (by decide))
              refine r_aload rfl rfl ?_
              refine r_aload rfl rfl ?_
              refine r_ifnonnullA (tg := 42) rfl rfl ?_
              refine r_ic (x := (-14)) rfl rfl ?_
              refine r_putI rfl ⟨rfl, rfl, rfl⟩ (fx_t0 fx) ?_
              have fx : FX n ad sa z0 (sI (sI h (ad 0) 6 0) (ad 0) 6 (-14)) := (FX.sI fx)
              refine r_null rfl ?_
              refine r_aret0 rfl ?_
              show WR _ cd_46 15 [some (.ref (ad 0)), some (.int (nI k2)), some (.int 8), some (.int i), some (.int (nI k5)), some (.int 3), some (.ref (mid t7)), none] [.null] (sI (sI h (ad 0) 6 0) (ad 0) 6 (-14)) _
              refine r_astore0 (lv' := [some (.ref (ad 0)), some (.int (nI k2)), some (.int 8), some (.int i), some (.int (nI k5)), some (.int 3), some (.ref (mid t7)), some (.null)]) rfl (Nat.le_of_ble_eq_true rfl) rfl ?_
              refine r_aload rfl rfl ?_
              refine r_getI rfl ⟨rfl, rfl, rfl⟩ (fx_t0 fx) ?_
              refine WR_tI (y := (-14)) I_eq ?_
              refine r_ic (x := (-14)) rfl rfl ?_
              refine r_icmp_eq (tg := 41) rfl rfl (fun _ => ?_) (fun q => absurd q (by decide))
              refine r_aload rfl rfl ?_
              refine r_ic (x := (-14)) rfl rfl ?_
              refine r_cv (y := 13) (ra := [.int (-14)]) (rest := []) rfl ⟨⟨rfl, rfl⟩, rfl, by decide⟩ (fx_t0 fx) rfl rfl (Nat.le_of_ble_eq_true rfl) ?_
              refine in_13 (Nat.le_of_ble_eq_true rfl) ?_
              show WR _ cd_13 0 [some (.ref (ad 0)), some (.int (-14))] [] (sI (sI h (ad 0) 6 0) (ad 0) 6 (-14)) _
              refine r_aload rfl rfl ?_
              refine r_iload rfl rfl ?_
              refine r_putI rfl ⟨rfl, rfl, rfl⟩ (fx_t0 fx) ?_
              have fx : FX n ad sa z0 (sI (sI (sI h (ad 0) 6 0) (ad 0) 6 (-14)) (ad 0) 6 (-14)) := (FX.sI fx)
              refine r_iload rfl rfl ?_
              refine r_iret rfl ?_
              show WR _ cd_46 47 [some (.ref (ad 0)), some (.int (nI k2)), some (.int 8), some (.int i), some (.int (nI k5)), some (.int 3), some (.ref (mid t7)), some (.null)] [.int (-14)] (sI (sI (sI h (ad 0) 6 0) (ad 0) 6 (-14)) (ad 0) 6 (-14)) _
              refine r_iret rfl ?_
              show WR _ cd_45 36 [some (.ref (ad 0)), some (.int c), some (.int i), some (.int d)] [.int (-14)] (sI (sI (sI h (ad 0) 6 0) (ad 0) 6 (-14)) (ad 0) 6 (-14)) _
              refine r_iret rfl ?_
              show EV _ 175 [.ref (ad 30), .int c, .int i, .int d] (sI (sI (sI h (ad 0) 6 0) (ad 0) 6 (-14)) (ad 0) 6 (-14)) _
              refine in_175 (Nat.le_of_ble_eq_true rfl) ?_
              show WR _ cd_175 0 [some (.ref (ad 30)), some (.int c), some (.int i), some (.int d), none, none, none] [] (sI (sI (sI h (ad 0) 6 0) (ad 0) 6 (-14)) (ad 0) 6 (-14)) _
              refine r_iload rfl rfl ?_
              refine WR_tI (y := nI k2) ek2 ?_
              refine r_cs (y := 153) (ra := [.int (nI k2)]) (rest := []) rfl ⟨⟨rfl, rfl⟩, by decide⟩ rfl rfl (Nat.le_of_ble_eq_true rfl) ?_
              refine in_153 (Nat.le_of_ble_eq_true rfl) ?_
              show WR _ cd_153 0 [some (.int (nI k2))] [] (sI (sI (sI h (ad 0) 6 0) (ad 0) 6 (-14)) (ad 0) 6 (-14)) _
              refine r_iload rfl rfl ?_
              refine r_if_lt (tg := 14) rfl rfl (fun q => False.elim (by have := i_nlt c1; have := i_rg c; have : (0 : Int32).toInt = 0 := rfl; have := i_eq ek2; have : (nI k2).toInt = ((k2 : Nat) : Int) := nI_toInt (by omega); have := i_nle c3; have : (24 : Int32).toInt = 24 := rfl; have := i_lt q; omega)) (fun _ => ?_)
              refine r_iload rfl rfl ?_
              refine r_ic (x := 24) rfl rfl ?_
              refine r_icmp_ge (tg := 14) rfl rfl (fun q => False.elim (by have := i_nlt c1; have := i_rg c; have : (0 : Int32).toInt = 0 := rfl; have := i_eq ek2; have : (nI k2).toInt = ((k2 : Nat) : Int) := nI_toInt (by omega); have := i_nle c3; have : (24 : Int32).toInt = 24 := rfl; have := i_le q; omega)) (fun _ => ?_)
              refine r_ic (x := 1) rfl rfl ?_
              refine r_goto (tg := 15) rfl rfl ?_
              refine r_zret rfl (.inr rfl) ?_
              show WR _ cd_175 4 [some (.ref (ad 30)), some (.int c), some (.int i), some (.int d), none, none, none] [.int 1] (sI (sI (sI h (ad 0) 6 0) (ad 0) 6 (-14)) (ad 0) 6 (-14)) _
              refine r_if_eq (tg := 14) rfl rfl (fun q => absurd q (by decide)) (fun _ => ?_)
              refine r_iload rfl rfl ?_
              refine WR_tI (y := nI k5) ek5 ?_
              refine r_cs (y := 153) (ra := [.int (nI k5)]) (rest := []) rfl ⟨⟨rfl, rfl⟩, by decide⟩ rfl rfl (Nat.le_of_ble_eq_true rfl) ?_
              refine in_153 (Nat.le_of_ble_eq_true rfl) ?_
              show WR _ cd_153 0 [some (.int (nI k5))] [] (sI (sI (sI h (ad 0) 6 0) (ad 0) 6 (-14)) (ad 0) 6 (-14)) _
              refine r_iload rfl rfl ?_
              refine r_if_lt (tg := 14) rfl rfl (fun q => False.elim (by have := i_nlt c4; have := i_rg d; have : (0 : Int32).toInt = 0 := rfl; have := i_eq ek5; have : (nI k5).toInt = ((k5 : Nat) : Int) := nI_toInt (by omega); have := i_nle c6; have : (24 : Int32).toInt = 24 := rfl; have := i_lt q; omega)) (fun _ => ?_)
              refine r_iload rfl rfl ?_
              refine r_ic (x := 24) rfl rfl ?_
              refine r_icmp_ge (tg := 14) rfl rfl (fun q => False.elim (by have := i_nlt c4; have := i_rg d; have : (0 : Int32).toInt = 0 := rfl; have := i_eq ek5; have : (nI k5).toInt = ((k5 : Nat) : Int) := nI_toInt (by omega); have := i_nle c6; have : (24 : Int32).toInt = 24 := rfl; have := i_le q; omega)) (fun _ => ?_)
              refine r_ic (x := 1) rfl rfl ?_
              refine r_goto (tg := 15) rfl rfl ?_
              refine r_zret rfl (.inr rfl) ?_
              show WR _ cd_175 11 [some (.ref (ad 30)), some (.int c), some (.int i), some (.int d), none, none, none] [.int 1] (sI (sI (sI h (ad 0) 6 0) (ad 0) 6 (-14)) (ad 0) 6 (-14)) _
              refine r_if_ne (tg := 21) rfl rfl (fun _ => ?_) (fun q => absurd q (by decide))
              refine r_aload rfl rfl ?_
              refine r_getA (b := ad 31) rfl ⟨rfl, rfl, rfl⟩ (fx_t30 fx) (fx_r30_0 fx) ?_
              refine r_iload rfl rfl ?_
              refine WR_tI (y := nI k2) ek2 ?_
              refine r_iaload rfl (.inl (fx_t31 fx)) (vp_ct (fx_n31 fx) (vp_in_nI (by have := i_nlt c1; have := i_rg c; have : (0 : Int32).toInt = 0 := rfl; have := i_eq ek2; have : (nI k2).toInt = ((k2 : Nat) : Int) := nI_toInt (by omega); have := i_nle c3; have : (24 : Int32).toInt = 24 := rfl; omega) (by omega))) ?_
              refine WR_tI (congrArg (hI (sI (sI (sI h (ad 0) 6 0) (ad 0) 6 (-14)) (ad 0) 6 (-14)) (ad 31)) ((nI_clamp (by have := i_nlt c1; have := i_rg c; have : (0 : Int32).toInt = 0 := rfl; have := i_eq ek2; have : (nI k2).toInt = ((k2 : Nat) : Int) := nI_toInt (by omega); have := i_nle c3; have : (24 : Int32).toInt = 24 := rfl; omega)) : _ = k2)) ?_
              refine WR_tI (y := nI t13) (Eq.trans (I_ne (fx_ne fx (by decide))) (Eq.trans (I_ne (fx_ne fx (by decide))) (Eq.trans (I_ne (fx_ne fx (by decide))) v13))) ?_
              refine r_istore (lv' := [some (.ref (ad 30)), some (.int c), some (.int i), some (.int d), some (.int (nI t13)), none, none]) rfl (Nat.le_of_ble_eq_true rfl) rfl ?_
              refine r_aload rfl rfl ?_
              refine r_getA (b := ad 31) rfl ⟨rfl, rfl, rfl⟩ (fx_t30 fx) (fx_r30_0 fx) ?_
              refine r_iload rfl rfl ?_
              refine WR_tI (y := nI k5) ek5 ?_
              refine r_iaload rfl (.inl (fx_t31 fx)) (vp_ct (fx_n31 fx) (vp_in_nI (by have := i_nlt c4; have := i_rg d; have : (0 : Int32).toInt = 0 := rfl; have := i_eq ek5; have : (nI k5).toInt = ((k5 : Nat) : Int) := nI_toInt (by omega); have := i_nle c6; have : (24 : Int32).toInt = 24 := rfl; omega) (by omega))) ?_
              refine WR_tI (congrArg (hI (sI (sI (sI h (ad 0) 6 0) (ad 0) 6 (-14)) (ad 0) 6 (-14)) (ad 31)) ((nI_clamp (by have := i_nlt c4; have := i_rg d; have : (0 : Int32).toInt = 0 := rfl; have := i_eq ek5; have : (nI k5).toInt = ((k5 : Nat) : Int) := nI_toInt (by omega); have := i_nle c6; have : (24 : Int32).toInt = 24 := rfl; omega)) : _ = k5)) ?_
              refine WR_tI (y := nI t7) (Eq.trans (I_ne (fx_ne fx (by decide))) (Eq.trans (I_ne (fx_ne fx (by decide))) (Eq.trans (I_ne (fx_ne fx (by decide))) v7))) ?_
              refine r_istore (lv' := [some (.ref (ad 30)), some (.int c), some (.int i), some (.int d), some (.int (nI t13)), some (.int (nI t7)), none]) rfl (Nat.le_of_ble_eq_true rfl) rfl ?_
              refine r_iload rfl rfl ?_
              refine r_ic (x := (-1)) rfl rfl ?_
              refine r_icmp_eq (tg := 54) rfl rfl (fun q => False.elim (by have : (nI t13).toInt = ((t13 : Nat) : Int) := nI_toInt (by omega); have : (-1 : Int32).toInt = -1 := rfl; have := i_eq q; omega)) (fun _ => ?_)
              refine r_aload rfl rfl ?_
              refine r_iload rfl rfl ?_
              refine r_cv (y := 166) (ra := [.int (nI t13)]) (rest := []) rfl ⟨⟨rfl, rfl⟩, rfl, by decide⟩ (fx_t30 fx) rfl rfl (Nat.le_of_ble_eq_true rfl) ?_
              refine in_166 (Nat.le_of_ble_eq_true rfl) ?_
              show WR _ cd_166 0 [some (.ref (ad 30)), some (.int (nI t13))] [] (sI (sI (sI h (ad 0) 6 0) (ad 0) 6 (-14)) (ad 0) 6 (-14)) _
              refine r_iload rfl rfl ?_
              refine r_ic (x := (-1)) rfl rfl ?_
              refine r_icmp_ne (tg := 9) rfl rfl (fun _ => ?_) (fun q => False.elim (by have : (nI t13).toInt = ((t13 : Nat) : Int) := nI_toInt (by omega); have : (-1 : Int32).toInt = -1 := rfl; have := i_eq q; omega))
              refine r_iload rfl rfl ?_
              refine r_ic (x := 1000) rfl rfl ?_
              refine r_icmp_lt (tg := 21) rfl rfl (fun _ => ?_) (fun q => False.elim (by have : (nI t13).toInt = ((t13 : Nat) : Int) := nI_toInt (by omega); have : (1000 : Int32).toInt = 1000 := rfl; have := i_nlt q; omega))
              refine r_aload rfl rfl ?_
              refine r_getA (b := ad 33) rfl ⟨rfl, rfl, rfl⟩ (fx_t30 fx) (fx_r30_2 fx) ?_
              refine r_iload rfl rfl ?_
              refine r_iaload rfl (.inl (fx_t33 fx)) (vp_ct (fx_n33 fx) (vp_in_nI (by omega) (by omega))) ?_
              refine WR_tI (congrArg (hI (sI (sI (sI h (ad 0) 6 0) (ad 0) 6 (-14)) (ad 0) 6 (-14)) (ad 33)) ((nI_clamp (by omega)) : _ = t13)) ?_
              refine WR_tI (y := nI ln13) (Eq.trans (I_ne (fx_ne fx (by decide))) (Eq.trans (I_ne (fx_ne fx (by decide))) (Eq.trans (I_ne (fx_ne fx (by decide))) l2_13))) ?_
              refine r_iret rfl ?_
              show WR _ cd_175 49 [some (.ref (ad 30)), some (.int c), some (.int i), some (.int d), some (.int (nI t13)), some (.int (nI t7)), none] [.int (nI ln13)] (sI (sI (sI h (ad 0) 6 0) (ad 0) 6 (-14)) (ad 0) 6 (-14)) _
              refine r_ic (x := 8) rfl rfl ?_
              refine r_icmp_ne (tg := 70) rfl rfl (fun _ => ?_) (fun q => False.elim (by have : (nI ln13).toInt = ((ln13 : Nat) : Int) := nI_toInt (by omega); have : (8 : Int32).toInt = 8 := rfl; have := i_eq q; omega))
              refine r_aload rfl rfl ?_
              refine r_ic (x := 4) rfl rfl ?_
              refine r_cv (y := 156) (ra := [.int 4]) (rest := []) rfl ⟨⟨rfl, rfl⟩, rfl, by decide⟩ (fx_t30 fx) rfl rfl (Nat.le_of_ble_eq_true rfl) ?_
              refine in_156 (Nat.le_of_ble_eq_true rfl) ?_
              show WR _ cd_156 0 [some (.ref (ad 30)), some (.int 4)] [] (sI (sI (sI h (ad 0) 6 0) (ad 0) 6 (-14)) (ad 0) 6 (-14)) _
              refine r_aload rfl rfl ?_
              refine r_ic (x := (-10)) rfl rfl ?_
              refine r_iload rfl rfl ?_
              refine r_isub rfl ?_
              refine WR_tI (y := (-14)) rfl ?_
              refine r_cv (y := 154) (ra := [.int (-14)]) (rest := []) rfl ⟨⟨rfl, rfl⟩, rfl, by decide⟩ (fx_t30 fx) rfl rfl (Nat.le_of_ble_eq_true rfl) ?_
              refine in_154 (Nat.le_of_ble_eq_true rfl) ?_
              show WR _ cd_154 0 [some (.ref (ad 30)), some (.int (-14))] [] (sI (sI (sI h (ad 0) 6 0) (ad 0) 6 (-14)) (ad 0) 6 (-14)) _
              refine r_aload rfl rfl ?_
              refine r_iload rfl rfl ?_
              refine r_ic (x := (-1)) rfl rfl ?_
              refine r_icmp_ge (tg := 10) rfl rfl (fun q => absurd q (by decide)) (fun _ => ?_)
              refine r_iload rfl rfl ?_
              refine r_goto (tg := 11) rfl rfl ?_
              refine r_putI rfl ⟨rfl, rfl, rfl⟩ (fx_t30 fx) ?_
              have fx : FX n ad sa z0 (sI (sI (sI (sI h (ad 0) 6 0) (ad 0) 6 (-14)) (ad 0) 6 (-14)) (ad 30) 11 (-14)) := (FX.sI fx)
              refine r_iload rfl rfl ?_
              refine r_iret rfl ?_
              show WR _ cd_156 8 [some (.ref (ad 30)), some (.int 4)] [.int (-14)] (sI (sI (sI (sI h (ad 0) 6 0) (ad 0) 6 (-14)) (ad 0) 6 (-14)) (ad 30) 11 (-14)) _
              refine r_iret rfl ?_
              show WR _ cd_175 75 [some (.ref (ad 30)), some (.int c), some (.int i), some (.int d), some (.int (nI t13)), some (.int (nI t7)), none] [.int (-14)] (sI (sI (sI (sI h (ad 0) 6 0) (ad 0) 6 (-14)) (ad 0) 6 (-14)) (ad 30) 11 (-14)) _
              refine r_iret rfl ?_
              exact ⟨rfl, Rel.why r ((((Chg.rf.sI (fx_j fx) (.inl (by decide))).sI (fx_j fx) (.inl (by decide))).sI (fx_j fx) (.inl (by decide))).sI (fx_j fx) (.inl (by decide))) ⟨rfl, by decide⟩ (Eq.trans (Eq.trans (I_ne (fx_ne fx (by decide))) I_eq) (Eq.symm I_eq)), (by (try simp only [hZ_sI, hZ_sL, hZ_sD, hZ_sR]); omega), (by (try simp only [hU_sI, hU_sL, hU_sD, hU_sR]); omega)⟩
            · refine r_aaloadA (b := mid t13) rfl (isQ_of (fx_t1 fx) (by decide)) (vp_ct (fx_n1 fx) (vp_in_nI (by have := i_nlt c1; have := i_rg c; have : (0 : Int32).toInt = 0 := rfl; have := i_eq ek2; have : (nI k2).toInt = ((k2 : Nat) : Int) := nI_toInt (by omega); have := i_nle c3; have : (24 : Int32).toInt = 24 := rfl; omega) (by omega))) (Eq.trans (congrArg (hR (sI h (ad 0) 6 0) (ad 1)) ((nI_clamp (by have := i_nlt c1; have := i_rg c; have : (0 : Int32).toInt = 0 := rfl; have := i_eq ek2; have : (nI k2).toInt = ((k2 : Nat) : Int) := nI_toInt (by omega); have := i_nle c3; have : (24 : Int32).toInt = 24 := rfl; omega)) : _ = k2)) (Eq.trans R_oI w13)) ?_
              refine r_astore (lv' := [some (.ref (ad 0)), some (.int (nI k2)), some (.int 8), some (.ref (mid t13)), none]) rfl (Nat.le_of_ble_eq_true rfl) rfl ?_
              refine r_aload rfl rfl ?_
              refine r_instY rfl (by decide) tg13 ?_
              refine r_if_eq (tg := 32) rfl rfl (fun q => absurd q (by decide)) (fun _ => ?_)
              refine r_aload rfl rfl ?_
              refine r_cast rfl tg13 ?_
              refine r_astore (lv' := [some (.ref (ad 0)), some (.int (nI k2)), some (.int 8), some (.ref (mid t13)), some (.ref (mid t13))]) rfl (Nat.le_of_ble_eq_true rfl) rfl ?_
              refine r_aload rfl rfl ?_
              refine r_cv (y := 28) (ra := []) (rest := []) rfl ⟨⟨rfl, rfl⟩, rfl, by decide⟩ tg13 rfl rfl (Nat.le_of_ble_eq_true rfl) ?_
              refine in_28 (Nat.le_of_ble_eq_true rfl) ?_
              show WR _ cd_28 0 [some (.ref (mid t13))] [] (sI h (ad 0) 6 0) _
              refine r_aload rfl rfl ?_
              refine r_getI rfl ⟨rfl, rfl, rfl⟩ tg13 ?_
              refine WR_tI (y := (-1)) (Eq.trans (I_ne (dy_ad fx (.inl (by decide)) dz13)) k1_13) ?_
              refine r_ic (x := (-1)) rfl rfl ?_
              refine r_icmp_ne (tg := 13) rfl rfl (fun q => absurd q (by decide)) (fun _ => ?_)
              refine r_ic (x := 8) rfl rfl ?_
              refine r_goto (tg := 15) rfl rfl ?_
              refine r_iret rfl ?_
              show WR _ cd_43 25 [some (.ref (ad 0)), some (.int (nI k2)), some (.int 8), some (.ref (mid t13)), some (.ref (mid t13))] [.int 8] (sI h (ad 0) 6 0) _
              refine r_iload rfl rfl ?_
              refine r_icmp_ne (tg := 32) rfl rfl (fun q => absurd q (by decide)) (fun _ => ?_)
              refine r_aload rfl rfl ?_
              refine r_aret rfl ?_
              show WR _ cd_46 15 [some (.ref (ad 0)), some (.int (nI k2)), some (.int 8), some (.int i), some (.int (nI k5)), some (.int 3), some (.ref (mid t7)), none] [.ref (mid t13)] (sI h (ad 0) 6 0) _
              refine r_astore (lv' := [some (.ref (ad 0)), some (.int (nI k2)), some (.int 8), some (.int i), some (.int (nI k5)), some (.int 3), some (.ref (mid t7)), some (.ref (mid t13))]) rfl (Nat.le_of_ble_eq_true rfl) rfl ?_
              refine r_aload rfl rfl ?_
              refine r_getI rfl ⟨rfl, rfl, rfl⟩ (fx_t0 fx) ?_
              refine WR_tI (y := 0) I_eq ?_
              refine r_ic (x := (-14)) rfl rfl ?_
              refine r_icmp_eq (tg := 41) rfl rfl (fun q => absurd q (by decide)) (fun _ => ?_)
              refine r_aload rfl rfl ?_
              refine r_ifnullA (tg := 48) rfl rfl ?_
              refine r_aload rfl rfl ?_
              refine r_cw (y := 27) (ra := []) (rest := []) rfl ⟨rfl, rfl⟩ (by rw [show hT (sI h (ad 0) 6 0) (mid t7) = 5 from tg7]; rfl) rfl rfl (Nat.le_of_ble_eq_true rfl) ?_
              refine in_27 (Nat.le_of_ble_eq_true rfl) ?_
              show WR _ cd_27 0 [some (.ref (mid t7))] [] (sI h (ad 0) 6 0) _
              refine r_aload rfl rfl ?_
              refine r_getI rfl ⟨rfl, rfl, rfl⟩ tg7 ?_
              refine WR_tI (y := nI ln7) (Eq.trans (I_ne (dy_ad fx (.inl (by decide)) dz7)) l1_7) ?_
              refine r_iret rfl ?_
              show WR _ cd_46 36 [some (.ref (ad 0)), some (.int (nI k2)), some (.int 8), some (.int i), some (.int (nI k5)), some (.int 3), some (.ref (mid t7)), some (.ref (mid t13))] [.int (nI ln7)] (sI h (ad 0) 6 0) _
              refine r_iload rfl rfl ?_
              refine r_icmp_eq (tg := 48) rfl rfl (fun c15 => ?_) (fun c15 => ?_)
              · refine r_aload rfl rfl ?_
                refine r_ifnonnullA (tg := 60) rfl rfl ?_
                refine r_aload rfl rfl ?_
                refine r_iload rfl rfl ?_
                refine r_ic (x := 1) rfl rfl ?_
                refine r_cv (y := 32) (ra := [.int 1, .int i]) (rest := []) rfl ⟨⟨rfl, rfl⟩, rfl, by decide⟩ tg13 rfl rfl (Nat.le_of_ble_eq_true rfl) ?_
                refine in_32 (Nat.le_of_ble_eq_true rfl) ?_
                show WR _ cd_32 0 [some (.ref (mid t13)), some (.int i), some (.int 1)] [] (sI h (ad 0) 6 0) _
                refine r_iload rfl rfl ?_
                refine r_if_lt (tg := 22) rfl rfl (fun c16 => ?_) (fun c16 => ?_)
                · refine r_ic (x := 0) rfl rfl ?_
                  refine r_zret rfl (.inl rfl) ?_
                  show WR _ cd_46 67 [some (.ref (ad 0)), some (.int (nI k2)), some (.int 8), some (.int i), some (.int (nI k5)), some (.int 3), some (.ref (mid t7)), some (.ref (mid t13))] [.int 0] (sI h (ad 0) 6 0) _
                  refine r_if_ne (tg := 77) rfl rfl (fun q => absurd q (by decide)) (fun _ => ?_)
                  refine r_aload rfl rfl ?_
                  refine r_ic (x := (-12)) rfl rfl ?_
                  refine r_cv (y := 13) (ra := [.int (-12)]) (rest := []) rfl ⟨⟨rfl, rfl⟩, rfl, by decide⟩ (fx_t0 fx) rfl rfl (Nat.le_of_ble_eq_true rfl) ?_
                  refine in_13 (Nat.le_of_ble_eq_true rfl) ?_
                  show WR _ cd_13 0 [some (.ref (ad 0)), some (.int (-12))] [] (sI h (ad 0) 6 0) _
                  refine r_aload rfl rfl ?_
                  refine r_iload rfl rfl ?_
                  refine r_putI rfl ⟨rfl, rfl, rfl⟩ (fx_t0 fx) ?_
                  have fx : FX n ad sa z0 (sI (sI h (ad 0) 6 0) (ad 0) 6 (-12)) := (FX.sI fx)
                  refine r_iload rfl rfl ?_
                  refine r_iret rfl ?_
                  show WR _ cd_46 76 [some (.ref (ad 0)), some (.int (nI k2)), some (.int 8), some (.int i), some (.int (nI k5)), some (.int 3), some (.ref (mid t7)), some (.ref (mid t13))] [.int (-12)] (sI (sI h (ad 0) 6 0) (ad 0) 6 (-12)) _
                  refine r_iret rfl ?_
                  show WR _ cd_45 36 [some (.ref (ad 0)), some (.int c), some (.int i), some (.int d)] [.int (-12)] (sI (sI h (ad 0) 6 0) (ad 0) 6 (-12)) _
                  refine r_iret rfl ?_
                  show EV _ 175 [.ref (ad 30), .int c, .int i, .int d] (sI (sI h (ad 0) 6 0) (ad 0) 6 (-12)) _
                  refine in_175 (Nat.le_of_ble_eq_true rfl) ?_
                  show WR _ cd_175 0 [some (.ref (ad 30)), some (.int c), some (.int i), some (.int d), none, none, none] [] (sI (sI h (ad 0) 6 0) (ad 0) 6 (-12)) _
                  refine r_iload rfl rfl ?_
                  refine WR_tI (y := nI k2) ek2 ?_
                  refine r_cs (y := 153) (ra := [.int (nI k2)]) (rest := []) rfl ⟨⟨rfl, rfl⟩, by decide⟩ rfl rfl (Nat.le_of_ble_eq_true rfl) ?_
                  refine in_153 (Nat.le_of_ble_eq_true rfl) ?_
                  show WR _ cd_153 0 [some (.int (nI k2))] [] (sI (sI h (ad 0) 6 0) (ad 0) 6 (-12)) _
                  refine r_iload rfl rfl ?_
                  refine r_if_lt (tg := 14) rfl rfl (fun q => False.elim (by have := i_nlt c1; have := i_rg c; have : (0 : Int32).toInt = 0 := rfl; have := i_eq ek2; have : (nI k2).toInt = ((k2 : Nat) : Int) := nI_toInt (by omega); have := i_nle c3; have : (24 : Int32).toInt = 24 := rfl; have := i_lt q; omega)) (fun _ => ?_)
                  refine r_iload rfl rfl ?_
                  refine r_ic (x := 24) rfl rfl ?_
                  refine r_icmp_ge (tg := 14) rfl rfl (fun q => False.elim (by have := i_nlt c1; have := i_rg c; have : (0 : Int32).toInt = 0 := rfl; have := i_eq ek2; have : (nI k2).toInt = ((k2 : Nat) : Int) := nI_toInt (by omega); have := i_nle c3; have : (24 : Int32).toInt = 24 := rfl; have := i_le q; omega)) (fun _ => ?_)
                  refine r_ic (x := 1) rfl rfl ?_
                  refine r_goto (tg := 15) rfl rfl ?_
                  refine r_zret rfl (.inr rfl) ?_
                  show WR _ cd_175 4 [some (.ref (ad 30)), some (.int c), some (.int i), some (.int d), none, none, none] [.int 1] (sI (sI h (ad 0) 6 0) (ad 0) 6 (-12)) _
                  refine r_if_eq (tg := 14) rfl rfl (fun q => absurd q (by decide)) (fun _ => ?_)
                  refine r_iload rfl rfl ?_
                  refine WR_tI (y := nI k5) ek5 ?_
                  refine r_cs (y := 153) (ra := [.int (nI k5)]) (rest := []) rfl ⟨⟨rfl, rfl⟩, by decide⟩ rfl rfl (Nat.le_of_ble_eq_true rfl) ?_
                  refine in_153 (Nat.le_of_ble_eq_true rfl) ?_
                  show WR _ cd_153 0 [some (.int (nI k5))] [] (sI (sI h (ad 0) 6 0) (ad 0) 6 (-12)) _
                  refine r_iload rfl rfl ?_
                  refine r_if_lt (tg := 14) rfl rfl (fun q => False.elim (by have := i_nlt c4; have := i_rg d; have : (0 : Int32).toInt = 0 := rfl; have := i_eq ek5; have : (nI k5).toInt = ((k5 : Nat) : Int) := nI_toInt (by omega); have := i_nle c6; have : (24 : Int32).toInt = 24 := rfl; have := i_lt q; omega)) (fun _ => ?_)
                  refine r_iload rfl rfl ?_
                  refine r_ic (x := 24) rfl rfl ?_
                  refine r_icmp_ge (tg := 14) rfl rfl (fun q => False.elim (by have := i_nlt c4; have := i_rg d; have : (0 : Int32).toInt = 0 := rfl; have := i_eq ek5; have : (nI k5).toInt = ((k5 : Nat) : Int) := nI_toInt (by omega); have := i_nle c6; have : (24 : Int32).toInt = 24 := rfl; have := i_le q; omega)) (fun _ => ?_)
                  refine r_ic (x := 1) rfl rfl ?_
                  refine r_goto (tg := 15) rfl rfl ?_
                  refine r_zret rfl (.inr rfl) ?_
                  show WR _ cd_175 11 [some (.ref (ad 30)), some (.int c), some (.int i), some (.int d), none, none, none] [.int 1] (sI (sI h (ad 0) 6 0) (ad 0) 6 (-12)) _
                  refine r_if_ne (tg := 21) rfl rfl (fun _ => ?_) (fun q => absurd q (by decide))
                  refine r_aload rfl rfl ?_
                  refine r_getA (b := ad 31) rfl ⟨rfl, rfl, rfl⟩ (fx_t30 fx) (fx_r30_0 fx) ?_
                  refine r_iload rfl rfl ?_
                  refine WR_tI (y := nI k2) ek2 ?_
                  refine r_iaload rfl (.inl (fx_t31 fx)) (vp_ct (fx_n31 fx) (vp_in_nI (by have := i_nlt c1; have := i_rg c; have : (0 : Int32).toInt = 0 := rfl; have := i_eq ek2; have : (nI k2).toInt = ((k2 : Nat) : Int) := nI_toInt (by omega); have := i_nle c3; have : (24 : Int32).toInt = 24 := rfl; omega) (by omega))) ?_
                  refine WR_tI (congrArg (hI (sI (sI h (ad 0) 6 0) (ad 0) 6 (-12)) (ad 31)) ((nI_clamp (by have := i_nlt c1; have := i_rg c; have : (0 : Int32).toInt = 0 := rfl; have := i_eq ek2; have : (nI k2).toInt = ((k2 : Nat) : Int) := nI_toInt (by omega); have := i_nle c3; have : (24 : Int32).toInt = 24 := rfl; omega)) : _ = k2)) ?_
                  refine WR_tI (y := nI t13) (Eq.trans (I_ne (fx_ne fx (by decide))) (Eq.trans (I_ne (fx_ne fx (by decide))) v13)) ?_
                  refine r_istore (lv' := [some (.ref (ad 30)), some (.int c), some (.int i), some (.int d), some (.int (nI t13)), none, none]) rfl (Nat.le_of_ble_eq_true rfl) rfl ?_
                  refine r_aload rfl rfl ?_
                  refine r_getA (b := ad 31) rfl ⟨rfl, rfl, rfl⟩ (fx_t30 fx) (fx_r30_0 fx) ?_
                  refine r_iload rfl rfl ?_
                  refine WR_tI (y := nI k5) ek5 ?_
                  refine r_iaload rfl (.inl (fx_t31 fx)) (vp_ct (fx_n31 fx) (vp_in_nI (by have := i_nlt c4; have := i_rg d; have : (0 : Int32).toInt = 0 := rfl; have := i_eq ek5; have : (nI k5).toInt = ((k5 : Nat) : Int) := nI_toInt (by omega); have := i_nle c6; have : (24 : Int32).toInt = 24 := rfl; omega) (by omega))) ?_
                  refine WR_tI (congrArg (hI (sI (sI h (ad 0) 6 0) (ad 0) 6 (-12)) (ad 31)) ((nI_clamp (by have := i_nlt c4; have := i_rg d; have : (0 : Int32).toInt = 0 := rfl; have := i_eq ek5; have : (nI k5).toInt = ((k5 : Nat) : Int) := nI_toInt (by omega); have := i_nle c6; have : (24 : Int32).toInt = 24 := rfl; omega)) : _ = k5)) ?_
                  refine WR_tI (y := nI t7) (Eq.trans (I_ne (fx_ne fx (by decide))) (Eq.trans (I_ne (fx_ne fx (by decide))) v7)) ?_
                  refine r_istore (lv' := [some (.ref (ad 30)), some (.int c), some (.int i), some (.int d), some (.int (nI t13)), some (.int (nI t7)), none]) rfl (Nat.le_of_ble_eq_true rfl) rfl ?_
                  refine r_iload rfl rfl ?_
                  refine r_ic (x := (-1)) rfl rfl ?_
                  refine r_icmp_eq (tg := 54) rfl rfl (fun q => False.elim (by have : (nI t13).toInt = ((t13 : Nat) : Int) := nI_toInt (by omega); have : (-1 : Int32).toInt = -1 := rfl; have := i_eq q; omega)) (fun _ => ?_)
                  refine r_aload rfl rfl ?_
                  refine r_iload rfl rfl ?_
                  refine r_cv (y := 166) (ra := [.int (nI t13)]) (rest := []) rfl ⟨⟨rfl, rfl⟩, rfl, by decide⟩ (fx_t30 fx) rfl rfl (Nat.le_of_ble_eq_true rfl) ?_
                  refine in_166 (Nat.le_of_ble_eq_true rfl) ?_
                  show WR _ cd_166 0 [some (.ref (ad 30)), some (.int (nI t13))] [] (sI (sI h (ad 0) 6 0) (ad 0) 6 (-12)) _
                  refine r_iload rfl rfl ?_
                  refine r_ic (x := (-1)) rfl rfl ?_
                  refine r_icmp_ne (tg := 9) rfl rfl (fun _ => ?_) (fun q => False.elim (by have : (nI t13).toInt = ((t13 : Nat) : Int) := nI_toInt (by omega); have : (-1 : Int32).toInt = -1 := rfl; have := i_eq q; omega))
                  refine r_iload rfl rfl ?_
                  refine r_ic (x := 1000) rfl rfl ?_
                  refine r_icmp_lt (tg := 21) rfl rfl (fun _ => ?_) (fun q => False.elim (by have : (nI t13).toInt = ((t13 : Nat) : Int) := nI_toInt (by omega); have : (1000 : Int32).toInt = 1000 := rfl; have := i_nlt q; omega))
                  refine r_aload rfl rfl ?_
                  refine r_getA (b := ad 33) rfl ⟨rfl, rfl, rfl⟩ (fx_t30 fx) (fx_r30_2 fx) ?_
                  refine r_iload rfl rfl ?_
                  refine r_iaload rfl (.inl (fx_t33 fx)) (vp_ct (fx_n33 fx) (vp_in_nI (by omega) (by omega))) ?_
                  refine WR_tI (congrArg (hI (sI (sI h (ad 0) 6 0) (ad 0) 6 (-12)) (ad 33)) ((nI_clamp (by omega)) : _ = t13)) ?_
                  refine WR_tI (y := 8) (Eq.trans (I_ne (fx_ne fx (by decide))) (Eq.trans (I_ne (fx_ne fx (by decide))) l2_13)) ?_
                  refine r_iret rfl ?_
                  show WR _ cd_175 49 [some (.ref (ad 30)), some (.int c), some (.int i), some (.int d), some (.int (nI t13)), some (.int (nI t7)), none] [.int 8] (sI (sI h (ad 0) 6 0) (ad 0) 6 (-12)) _
                  refine r_ic (x := 8) rfl rfl ?_
                  refine r_icmp_ne (tg := 70) rfl rfl (fun q => absurd q (by decide)) (fun _ => ?_)
                  refine r_iload rfl rfl ?_
                  refine r_ic (x := (-1)) rfl rfl ?_
                  refine r_icmp_eq (tg := 76) rfl rfl (fun q => False.elim (by have : (nI t7).toInt = ((t7 : Nat) : Int) := nI_toInt (by omega); have : (-1 : Int32).toInt = -1 := rfl; have := i_eq q; omega)) (fun _ => ?_)
                  refine r_aload rfl rfl ?_
                  refine r_iload rfl rfl ?_
                  refine r_cv (y := 166) (ra := [.int (nI t7)]) (rest := []) rfl ⟨⟨rfl, rfl⟩, rfl, by decide⟩ (fx_t30 fx) rfl rfl (Nat.le_of_ble_eq_true rfl) ?_
                  refine in_166 (Nat.le_of_ble_eq_true rfl) ?_
                  show WR _ cd_166 0 [some (.ref (ad 30)), some (.int (nI t7))] [] (sI (sI h (ad 0) 6 0) (ad 0) 6 (-12)) _
                  refine r_iload rfl rfl ?_
                  refine r_ic (x := (-1)) rfl rfl ?_
                  refine r_icmp_ne (tg := 9) rfl rfl (fun _ => ?_) (fun q => False.elim (by have : (nI t7).toInt = ((t7 : Nat) : Int) := nI_toInt (by omega); have : (-1 : Int32).toInt = -1 := rfl; have := i_eq q; omega))
                  refine r_iload rfl rfl ?_
                  refine r_ic (x := 1000) rfl rfl ?_
                  refine r_icmp_lt (tg := 21) rfl rfl (fun _ => ?_) (fun q => False.elim (by have : (nI t7).toInt = ((t7 : Nat) : Int) := nI_toInt (by omega); have : (1000 : Int32).toInt = 1000 := rfl; have := i_nlt q; omega))
                  refine r_aload rfl rfl ?_
                  refine r_getA (b := ad 33) rfl ⟨rfl, rfl, rfl⟩ (fx_t30 fx) (fx_r30_2 fx) ?_
                  refine r_iload rfl rfl ?_
                  refine r_iaload rfl (.inl (fx_t33 fx)) (vp_ct (fx_n33 fx) (vp_in_nI (by omega) (by omega))) ?_
                  refine WR_tI (congrArg (hI (sI (sI h (ad 0) 6 0) (ad 0) 6 (-12)) (ad 33)) ((nI_clamp (by omega)) : _ = t7)) ?_
                  refine WR_tI (y := nI ln7) (Eq.trans (I_ne (fx_ne fx (by decide))) (Eq.trans (I_ne (fx_ne fx (by decide))) l2_7)) ?_
                  refine r_iret rfl ?_
                  show WR _ cd_175 66 [some (.ref (ad 30)), some (.int c), some (.int i), some (.int d), some (.int (nI t13)), some (.int (nI t7)), none] [.int (nI ln7)] (sI (sI h (ad 0) 6 0) (ad 0) 6 (-12)) _
                  refine r_ic (x := 3) rfl rfl ?_
                  refine r_icmp_eq (tg := 76) rfl rfl (fun _ => ?_) (fun q => False.elim (by have := i_eq c15; have : (nI ln7).toInt = ((ln7 : Nat) : Int) := nI_toInt (by omega); have : (3 : Int32).toInt = 3 := rfl; have := i_neq q; omega))
                  refine r_aload rfl rfl ?_
                  refine r_iload rfl rfl ?_
                  refine r_ic (x := 8) rfl rfl ?_
                  refine r_iload rfl rfl ?_
                  refine r_cv (y := 168) (ra := [.int i, .int 8, .int (nI t13)]) (rest := []) rfl ⟨⟨rfl, rfl⟩, rfl, by decide⟩ (fx_t30 fx) rfl rfl (Nat.le_of_ble_eq_true rfl) ?_
                  refine in_168 (Nat.le_of_ble_eq_true rfl) ?_
                  show WR _ cd_168 0 [some (.ref (ad 30)), some (.int (nI t13)), some (.int 8), some (.int i)] [] (sI (sI h (ad 0) 6 0) (ad 0) 6 (-12)) _
                  refine r_iload rfl rfl ?_
                  refine r_ic (x := (-1)) rfl rfl ?_
                  refine r_icmp_eq (tg := 18) rfl rfl (fun q => False.elim (by have : (nI t13).toInt = ((t13 : Nat) : Int) := nI_toInt (by omega); have : (-1 : Int32).toInt = -1 := rfl; have := i_eq q; omega)) (fun _ => ?_)
                  refine r_aload rfl rfl ?_
                  refine r_iload rfl rfl ?_
                  refine r_cv (y := 166) (ra := [.int (nI t13)]) (rest := []) rfl ⟨⟨rfl, rfl⟩, rfl, by decide⟩ (fx_t30 fx) rfl rfl (Nat.le_of_ble_eq_true rfl) ?_
                  refine in_166 (Nat.le_of_ble_eq_true rfl) ?_
                  show WR _ cd_166 0 [some (.ref (ad 30)), some (.int (nI t13))] [] (sI (sI h (ad 0) 6 0) (ad 0) 6 (-12)) _
                  refine r_iload rfl rfl ?_
                  refine r_ic (x := (-1)) rfl rfl ?_
                  refine r_icmp_ne (tg := 9) rfl rfl (fun _ => ?_) (fun q => False.elim (by have : (nI t13).toInt = ((t13 : Nat) : Int) := nI_toInt (by omega); have : (-1 : Int32).toInt = -1 := rfl; have := i_eq q; omega))
                  refine r_iload rfl rfl ?_
                  refine r_ic (x := 1000) rfl rfl ?_
                  refine r_icmp_lt (tg := 21) rfl rfl (fun _ => ?_) (fun q => False.elim (by have : (nI t13).toInt = ((t13 : Nat) : Int) := nI_toInt (by omega); have : (1000 : Int32).toInt = 1000 := rfl; have := i_nlt q; omega))
                  refine r_aload rfl rfl ?_
                  refine r_getA (b := ad 33) rfl ⟨rfl, rfl, rfl⟩ (fx_t30 fx) (fx_r30_2 fx) ?_
                  refine r_iload rfl rfl ?_
                  refine r_iaload rfl (.inl (fx_t33 fx)) (vp_ct (fx_n33 fx) (vp_in_nI (by omega) (by omega))) ?_
                  refine WR_tI (congrArg (hI (sI (sI h (ad 0) 6 0) (ad 0) 6 (-12)) (ad 33)) ((nI_clamp (by omega)) : _ = t13)) ?_
                  refine WR_tI (y := 8) (Eq.trans (I_ne (fx_ne fx (by decide))) (Eq.trans (I_ne (fx_ne fx (by decide))) l2_13)) ?_
                  refine r_iret rfl ?_
                  show WR _ cd_168 10 [some (.ref (ad 30)), some (.int (nI t13)), some (.int 8), some (.int i)] [.int 8] (sI (sI h (ad 0) 6 0) (ad 0) 6 (-12)) _
                  refine r_iload rfl rfl ?_
                  refine r_icmp_eq (tg := 18) rfl rfl (fun _ => ?_) (fun q => absurd q (by decide))
                  refine r_iload rfl rfl ?_
                  refine r_ic (x := (-1)) rfl rfl ?_
                  refine r_icmp_ne (tg := 27) rfl rfl (fun _ => ?_) (fun q => False.elim (by have : (nI t13).toInt = ((t13 : Nat) : Int) := nI_toInt (by omega); have : (-1 : Int32).toInt = -1 := rfl; have := i_eq q; omega))
                  refine r_iload rfl rfl ?_
                  refine r_i2l rfl ?_
                  refine r_lc (x := 0) rfl rfl ?_
                  refine r_aload rfl rfl ?_
                  refine r_getA (b := ad 35) rfl ⟨rfl, rfl, rfl⟩ (fx_t30 fx) (fx_r30_4 fx) ?_
                  refine r_iload rfl rfl ?_
                  refine r_iaload rfl (.inl (fx_t35 fx)) (vp_ct (fx_n35 fx) (vp_in_nI (by omega) (by omega))) ?_
                  refine WR_tI (congrArg (hI (sI (sI h (ad 0) 6 0) (ad 0) 6 (-12)) (ad 35)) ((nI_clamp (by omega)) : _ = t13)) ?_
                  refine WR_tI (y := nI sz13) (Eq.trans (I_ne (fx_ne fx (by decide))) (Eq.trans (I_ne (fx_ne fx (by decide))) sz_13)) ?_
                  refine r_ic (x := 1) rfl rfl ?_
                  refine r_isub rfl ?_
                  refine r_i2l rfl ?_
                  refine r_cs (y := 155) (ra := [.long (((nI sz13) - 1).toInt64), .long 0, .long i.toInt64]) (rest := []) rfl ⟨⟨rfl, rfl⟩, by decide⟩ rfl rfl (Nat.le_of_ble_eq_true rfl) ?_
                  refine in_155 (Nat.le_of_ble_eq_true rfl) ?_
                  show WR _ cd_155 0 [some (.long i.toInt64), none, some (.long 0), none, some (.long (((nI sz13) - 1).toInt64)), none] [] (sI (sI h (ad 0) 6 0) (ad 0) 6 (-12)) _
                  refine r_lload rfl rfl ?_
                  refine r_lload rfl rfl ?_
                  refine r_lif_lt (tg := 17) rfl rfl rfl (fun _ => ?_) (fun q => False.elim (by have := i_lt c16; have := i_rg i; have : (0 : Int32).toInt = 0 := rfl; have := w_t i; have : (0 : Int64).toInt = 0 := rfl; have := l_nlt q; omega))
                  refine r_ic (x := 0) rfl rfl ?_
                  refine r_zret rfl (.inl rfl) ?_
                  show WR _ cd_168 42 [some (.ref (ad 30)), some (.int (nI t13)), some (.int 8), some (.int i)] [.int 0] (sI (sI h (ad 0) 6 0) (ad 0) 6 (-12)) _
                  refine r_if_ne (tg := 49) rfl rfl (fun q => absurd q (by decide)) (fun _ => ?_)
                  refine r_ic (x := 2) rfl rfl ?_
                  refine r_goto (tg := 50) rfl rfl ?_
                  refine r_iret rfl ?_
                  show WR _ cd_175 85 [some (.ref (ad 30)), some (.int c), some (.int i), some (.int d), some (.int (nI t13)), some (.int (nI t7)), none] [.int 2] (sI (sI h (ad 0) 6 0) (ad 0) 6 (-12)) _
                  refine r_istore (lv' := [some (.ref (ad 30)), some (.int c), some (.int i), some (.int d), some (.int (nI t13)), some (.int (nI t7)), some (.int 2)]) rfl (Nat.le_of_ble_eq_true rfl) rfl ?_
                  refine r_iload rfl rfl ?_
                  refine r_if_le (tg := 99) rfl rfl (fun q => absurd q (by decide)) (fun _ => ?_)
                  refine r_aload rfl rfl ?_
                  refine r_iload rfl rfl ?_
                  refine r_cv (y := 156) (ra := [.int 2]) (rest := []) rfl ⟨⟨rfl, rfl⟩, rfl, by decide⟩ (fx_t30 fx) rfl rfl (Nat.le_of_ble_eq_true rfl) ?_
                  refine in_156 (Nat.le_of_ble_eq_true rfl) ?_
                  show WR _ cd_156 0 [some (.ref (ad 30)), some (.int 2)] [] (sI (sI h (ad 0) 6 0) (ad 0) 6 (-12)) _
                  refine r_aload rfl rfl ?_
                  refine r_ic (x := (-10)) rfl rfl ?_
                  refine r_iload rfl rfl ?_
                  refine r_isub rfl ?_
                  refine WR_tI (y := (-12)) rfl ?_
                  refine r_cv (y := 154) (ra := [.int (-12)]) (rest := []) rfl ⟨⟨rfl, rfl⟩, rfl, by decide⟩ (fx_t30 fx) rfl rfl (Nat.le_of_ble_eq_true rfl) ?_
                  refine in_154 (Nat.le_of_ble_eq_true rfl) ?_
                  show WR _ cd_154 0 [some (.ref (ad 30)), some (.int (-12))] [] (sI (sI h (ad 0) 6 0) (ad 0) 6 (-12)) _
                  refine r_aload rfl rfl ?_
                  refine r_iload rfl rfl ?_
                  refine r_ic (x := (-1)) rfl rfl ?_
                  refine r_icmp_ge (tg := 10) rfl rfl (fun q => absurd q (by decide)) (fun _ => ?_)
                  refine r_iload rfl rfl ?_
                  refine r_goto (tg := 11) rfl rfl ?_
                  refine r_putI rfl ⟨rfl, rfl, rfl⟩ (fx_t30 fx) ?_
                  have fx : FX n ad sa z0 (sI (sI (sI h (ad 0) 6 0) (ad 0) 6 (-12)) (ad 30) 11 (-12)) := (FX.sI fx)
                  refine r_iload rfl rfl ?_
                  refine r_iret rfl ?_
                  show WR _ cd_156 8 [some (.ref (ad 30)), some (.int 2)] [.int (-12)] (sI (sI (sI h (ad 0) 6 0) (ad 0) 6 (-12)) (ad 30) 11 (-12)) _
                  refine r_iret rfl ?_
                  show WR _ cd_175 98 [some (.ref (ad 30)), some (.int c), some (.int i), some (.int d), some (.int (nI t13)), some (.int (nI t7)), some (.int 2)] [.int (-12)] (sI (sI (sI h (ad 0) 6 0) (ad 0) 6 (-12)) (ad 30) 11 (-12)) _
                  refine r_iret rfl ?_
                  exact ⟨rfl, Rel.why r (((Chg.rf.sI (fx_j fx) (.inl (by decide))).sI (fx_j fx) (.inl (by decide))).sI (fx_j fx) (.inl (by decide))) ⟨rfl, by decide⟩ (Eq.trans (Eq.trans (I_ne (fx_ne fx (by decide))) I_eq) (Eq.symm I_eq)), (by (try simp only [hZ_sI, hZ_sL, hZ_sD, hZ_sR]); omega), (by (try simp only [hU_sI, hU_sL, hU_sD, hU_sR]); omega)⟩
                · refine r_iload rfl rfl ?_
                  refine r_if_lt (tg := 22) rfl rfl (fun q => absurd q (by decide)) (fun _ => ?_)
                  refine r_iload rfl rfl ?_
                  refine r_aload rfl rfl ?_
                  refine r_cw (y := 35) (ra := []) (rest := [.int 1]) rfl ⟨rfl, rfl⟩ (by rw [show hT (sI h (ad 0) 6 0) (mid t13) = 6 from tg13]; rfl) rfl rfl (Nat.le_of_ble_eq_true rfl) ?_
                  refine in_35 (Nat.le_of_ble_eq_true rfl) ?_
                  show WR _ cd_35 0 [some (.ref (mid t13))] [] (sI h (ad 0) 6 0) _
                  refine r_aload rfl rfl ?_
                  refine r_getA (b := mid t13 + 1) rfl ⟨rfl, rfl, rfl⟩ tg13 (Eq.trans R_oI r_13) ?_
                  refine r_alen rfl (isA_of tg2_13 (by decide)) ?_
                  refine WR_tI (y := nI sz13) (congrArg nI n_13) ?_
                  refine r_iret rfl ?_
                  show WR _ cd_32 13 [some (.ref (mid t13)), some (.int i), some (.int 1)] [.int (nI sz13), .int 1] (sI h (ad 0) 6 0) _
                  obtain ⟨k17, hk17, ek17⟩ := ix_of (x := i) (n := 2147483648) (by have := i_nlt c16; have := i_rg i; have : (0 : Int32).toInt = 0 := rfl; omega) (by have := i_nlt c16; have := i_rg i; have : (0 : Int32).toInt = 0 := rfl; omega)
                  refine r_iload rfl rfl ?_
                  refine WR_tI (y := nI k17) ek17 ?_
                  refine r_isub rfl ?_
                  refine r_icmp_gt (tg := 22) rfl rfl (fun c18 => ?_) (fun c18 => ?_)
                  · refine r_ic (x := 0) rfl rfl ?_
                    refine r_zret rfl (.inl rfl) ?_
                    show WR _ cd_46 67 [some (.ref (ad 0)), some (.int (nI k2)), some (.int 8), some (.int i), some (.int (nI k5)), some (.int 3), some (.ref (mid t7)), some (.ref (mid t13))] [.int 0] (sI h (ad 0) 6 0) _
                    refine r_if_ne (tg := 77) rfl rfl (fun q => absurd q (by decide)) (fun _ => ?_)
                    refine r_aload rfl rfl ?_
                    refine r_ic (x := (-12)) rfl rfl ?_
                    refine r_cv (y := 13) (ra := [.int (-12)]) (rest := []) rfl ⟨⟨rfl, rfl⟩, rfl, by decide⟩ (fx_t0 fx) rfl rfl (Nat.le_of_ble_eq_true rfl) ?_
                    refine in_13 (Nat.le_of_ble_eq_true rfl) ?_
                    show WR _ cd_13 0 [some (.ref (ad 0)), some (.int (-12))] [] (sI h (ad 0) 6 0) _
                    refine r_aload rfl rfl ?_
                    refine r_iload rfl rfl ?_
                    refine r_putI rfl ⟨rfl, rfl, rfl⟩ (fx_t0 fx) ?_
                    have fx : FX n ad sa z0 (sI (sI h (ad 0) 6 0) (ad 0) 6 (-12)) := (FX.sI fx)
                    refine r_iload rfl rfl ?_
                    refine r_iret rfl ?_
                    show WR _ cd_46 76 [some (.ref (ad 0)), some (.int (nI k2)), some (.int 8), some (.int i), some (.int (nI k5)), some (.int 3), some (.ref (mid t7)), some (.ref (mid t13))] [.int (-12)] (sI (sI h (ad 0) 6 0) (ad 0) 6 (-12)) _
                    refine r_iret rfl ?_
                    show WR _ cd_45 36 [some (.ref (ad 0)), some (.int c), some (.int i), some (.int d)] [.int (-12)] (sI (sI h (ad 0) 6 0) (ad 0) 6 (-12)) _
                    refine r_iret rfl ?_
                    show EV _ 175 [.ref (ad 30), .int c, .int i, .int d] (sI (sI h (ad 0) 6 0) (ad 0) 6 (-12)) _
                    refine in_175 (Nat.le_of_ble_eq_true rfl) ?_
                    show WR _ cd_175 0 [some (.ref (ad 30)), some (.int c), some (.int i), some (.int d), none, none, none] [] (sI (sI h (ad 0) 6 0) (ad 0) 6 (-12)) _
                    refine r_iload rfl rfl ?_
                    refine WR_tI (y := nI k2) ek2 ?_
                    refine r_cs (y := 153) (ra := [.int (nI k2)]) (rest := []) rfl ⟨⟨rfl, rfl⟩, by decide⟩ rfl rfl (Nat.le_of_ble_eq_true rfl) ?_
                    refine in_153 (Nat.le_of_ble_eq_true rfl) ?_
                    show WR _ cd_153 0 [some (.int (nI k2))] [] (sI (sI h (ad 0) 6 0) (ad 0) 6 (-12)) _
                    refine r_iload rfl rfl ?_
                    refine r_if_lt (tg := 14) rfl rfl (fun q => False.elim (by have := i_nlt c1; have := i_rg c; have : (0 : Int32).toInt = 0 := rfl; have := i_eq ek2; have : (nI k2).toInt = ((k2 : Nat) : Int) := nI_toInt (by omega); have := i_nle c3; have : (24 : Int32).toInt = 24 := rfl; have := i_lt q; omega)) (fun _ => ?_)
                    refine r_iload rfl rfl ?_
                    refine r_ic (x := 24) rfl rfl ?_
                    refine r_icmp_ge (tg := 14) rfl rfl (fun q => False.elim (by have := i_nlt c1; have := i_rg c; have : (0 : Int32).toInt = 0 := rfl; have := i_eq ek2; have : (nI k2).toInt = ((k2 : Nat) : Int) := nI_toInt (by omega); have := i_nle c3; have : (24 : Int32).toInt = 24 := rfl; have := i_le q; omega)) (fun _ => ?_)
                    refine r_ic (x := 1) rfl rfl ?_
                    refine r_goto (tg := 15) rfl rfl ?_
                    refine r_zret rfl (.inr rfl) ?_
                    show WR _ cd_175 4 [some (.ref (ad 30)), some (.int c), some (.int i), some (.int d), none, none, none] [.int 1] (sI (sI h (ad 0) 6 0) (ad 0) 6 (-12)) _
                    refine r_if_eq (tg := 14) rfl rfl (fun q => absurd q (by decide)) (fun _ => ?_)
                    refine r_iload rfl rfl ?_
                    refine WR_tI (y := nI k5) ek5 ?_
                    refine r_cs (y := 153) (ra := [.int (nI k5)]) (rest := []) rfl ⟨⟨rfl, rfl⟩, by decide⟩ rfl rfl (Nat.le_of_ble_eq_true rfl) ?_
                    refine in_153 (Nat.le_of_ble_eq_true rfl) ?_
                    show WR _ cd_153 0 [some (.int (nI k5))] [] (sI (sI h (ad 0) 6 0) (ad 0) 6 (-12)) _
                    refine r_iload rfl rfl ?_
                    refine r_if_lt (tg := 14) rfl rfl (fun q => False.elim (by have := i_nlt c4; have := i_rg d; have : (0 : Int32).toInt = 0 := rfl; have := i_eq ek5; have : (nI k5).toInt = ((k5 : Nat) : Int) := nI_toInt (by omega); have := i_nle c6; have : (24 : Int32).toInt = 24 := rfl; have := i_lt q; omega)) (fun _ => ?_)
                    refine r_iload rfl rfl ?_
                    refine r_ic (x := 24) rfl rfl ?_
                    refine r_icmp_ge (tg := 14) rfl rfl (fun q => False.elim (by have := i_nlt c4; have := i_rg d; have : (0 : Int32).toInt = 0 := rfl; have := i_eq ek5; have : (nI k5).toInt = ((k5 : Nat) : Int) := nI_toInt (by omega); have := i_nle c6; have : (24 : Int32).toInt = 24 := rfl; have := i_le q; omega)) (fun _ => ?_)
                    refine r_ic (x := 1) rfl rfl ?_
                    refine r_goto (tg := 15) rfl rfl ?_
                    refine r_zret rfl (.inr rfl) ?_
                    show WR _ cd_175 11 [some (.ref (ad 30)), some (.int c), some (.int i), some (.int d), none, none, none] [.int 1] (sI (sI h (ad 0) 6 0) (ad 0) 6 (-12)) _
                    refine r_if_ne (tg := 21) rfl rfl (fun _ => ?_) (fun q => absurd q (by decide))
                    refine r_aload rfl rfl ?_
                    refine r_getA (b := ad 31) rfl ⟨rfl, rfl, rfl⟩ (fx_t30 fx) (fx_r30_0 fx) ?_
                    refine r_iload rfl rfl ?_
                    refine WR_tI (y := nI k2) ek2 ?_
                    refine r_iaload rfl (.inl (fx_t31 fx)) (vp_ct (fx_n31 fx) (vp_in_nI (by have := i_nlt c1; have := i_rg c; have : (0 : Int32).toInt = 0 := rfl; have := i_eq ek2; have : (nI k2).toInt = ((k2 : Nat) : Int) := nI_toInt (by omega); have := i_nle c3; have : (24 : Int32).toInt = 24 := rfl; omega) (by omega))) ?_
                    refine WR_tI (congrArg (hI (sI (sI h (ad 0) 6 0) (ad 0) 6 (-12)) (ad 31)) ((nI_clamp (by have := i_nlt c1; have := i_rg c; have : (0 : Int32).toInt = 0 := rfl; have := i_eq ek2; have : (nI k2).toInt = ((k2 : Nat) : Int) := nI_toInt (by omega); have := i_nle c3; have : (24 : Int32).toInt = 24 := rfl; omega)) : _ = k2)) ?_
                    refine WR_tI (y := nI t13) (Eq.trans (I_ne (fx_ne fx (by decide))) (Eq.trans (I_ne (fx_ne fx (by decide))) v13)) ?_
                    refine r_istore (lv' := [some (.ref (ad 30)), some (.int c), some (.int i), some (.int d), some (.int (nI t13)), none, none]) rfl (Nat.le_of_ble_eq_true rfl) rfl ?_
                    refine r_aload rfl rfl ?_
                    refine r_getA (b := ad 31) rfl ⟨rfl, rfl, rfl⟩ (fx_t30 fx) (fx_r30_0 fx) ?_
                    refine r_iload rfl rfl ?_
                    refine WR_tI (y := nI k5) ek5 ?_
                    refine r_iaload rfl (.inl (fx_t31 fx)) (vp_ct (fx_n31 fx) (vp_in_nI (by have := i_nlt c4; have := i_rg d; have : (0 : Int32).toInt = 0 := rfl; have := i_eq ek5; have : (nI k5).toInt = ((k5 : Nat) : Int) := nI_toInt (by omega); have := i_nle c6; have : (24 : Int32).toInt = 24 := rfl; omega) (by omega))) ?_
                    refine WR_tI (congrArg (hI (sI (sI h (ad 0) 6 0) (ad 0) 6 (-12)) (ad 31)) ((nI_clamp (by have := i_nlt c4; have := i_rg d; have : (0 : Int32).toInt = 0 := rfl; have := i_eq ek5; have : (nI k5).toInt = ((k5 : Nat) : Int) := nI_toInt (by omega); have := i_nle c6; have : (24 : Int32).toInt = 24 := rfl; omega)) : _ = k5)) ?_
                    refine WR_tI (y := nI t7) (Eq.trans (I_ne (fx_ne fx (by decide))) (Eq.trans (I_ne (fx_ne fx (by decide))) v7)) ?_
                    refine r_istore (lv' := [some (.ref (ad 30)), some (.int c), some (.int i), some (.int d), some (.int (nI t13)), some (.int (nI t7)), none]) rfl (Nat.le_of_ble_eq_true rfl) rfl ?_
                    refine r_iload rfl rfl ?_
                    refine r_ic (x := (-1)) rfl rfl ?_
                    refine r_icmp_eq (tg := 54) rfl rfl (fun q => False.elim (by have : (nI t13).toInt = ((t13 : Nat) : Int) := nI_toInt (by omega); have : (-1 : Int32).toInt = -1 := rfl; have := i_eq q; omega)) (fun _ => ?_)
                    refine r_aload rfl rfl ?_
                    refine r_iload rfl rfl ?_
                    refine r_cv (y := 166) (ra := [.int (nI t13)]) (rest := []) rfl ⟨⟨rfl, rfl⟩, rfl, by decide⟩ (fx_t30 fx) rfl rfl (Nat.le_of_ble_eq_true rfl) ?_
                    refine in_166 (Nat.le_of_ble_eq_true rfl) ?_
                    show WR _ cd_166 0 [some (.ref (ad 30)), some (.int (nI t13))] [] (sI (sI h (ad 0) 6 0) (ad 0) 6 (-12)) _
                    refine r_iload rfl rfl ?_
                    refine r_ic (x := (-1)) rfl rfl ?_
                    refine r_icmp_ne (tg := 9) rfl rfl (fun _ => ?_) (fun q => False.elim (by have : (nI t13).toInt = ((t13 : Nat) : Int) := nI_toInt (by omega); have : (-1 : Int32).toInt = -1 := rfl; have := i_eq q; omega))
                    refine r_iload rfl rfl ?_
                    refine r_ic (x := 1000) rfl rfl ?_
                    refine r_icmp_lt (tg := 21) rfl rfl (fun _ => ?_) (fun q => False.elim (by have : (nI t13).toInt = ((t13 : Nat) : Int) := nI_toInt (by omega); have : (1000 : Int32).toInt = 1000 := rfl; have := i_nlt q; omega))
                    refine r_aload rfl rfl ?_
                    refine r_getA (b := ad 33) rfl ⟨rfl, rfl, rfl⟩ (fx_t30 fx) (fx_r30_2 fx) ?_
                    refine r_iload rfl rfl ?_
                    refine r_iaload rfl (.inl (fx_t33 fx)) (vp_ct (fx_n33 fx) (vp_in_nI (by omega) (by omega))) ?_
                    refine WR_tI (congrArg (hI (sI (sI h (ad 0) 6 0) (ad 0) 6 (-12)) (ad 33)) ((nI_clamp (by omega)) : _ = t13)) ?_
                    refine WR_tI (y := 8) (Eq.trans (I_ne (fx_ne fx (by decide))) (Eq.trans (I_ne (fx_ne fx (by decide))) l2_13)) ?_
                    refine r_iret rfl ?_
                    show WR _ cd_175 49 [some (.ref (ad 30)), some (.int c), some (.int i), some (.int d), some (.int (nI t13)), some (.int (nI t7)), none] [.int 8] (sI (sI h (ad 0) 6 0) (ad 0) 6 (-12)) _
                    refine r_ic (x := 8) rfl rfl ?_
                    refine r_icmp_ne (tg := 70) rfl rfl (fun q => absurd q (by decide)) (fun _ => ?_)
                    refine r_iload rfl rfl ?_
                    refine r_ic (x := (-1)) rfl rfl ?_
                    refine r_icmp_eq (tg := 76) rfl rfl (fun q => False.elim (by have : (nI t7).toInt = ((t7 : Nat) : Int) := nI_toInt (by omega); have : (-1 : Int32).toInt = -1 := rfl; have := i_eq q; omega)) (fun _ => ?_)
                    refine r_aload rfl rfl ?_
                    refine r_iload rfl rfl ?_
                    refine r_cv (y := 166) (ra := [.int (nI t7)]) (rest := []) rfl ⟨⟨rfl, rfl⟩, rfl, by decide⟩ (fx_t30 fx) rfl rfl (Nat.le_of_ble_eq_true rfl) ?_
                    refine in_166 (Nat.le_of_ble_eq_true rfl) ?_
                    show WR _ cd_166 0 [some (.ref (ad 30)), some (.int (nI t7))] [] (sI (sI h (ad 0) 6 0) (ad 0) 6 (-12)) _
                    refine r_iload rfl rfl ?_
                    refine r_ic (x := (-1)) rfl rfl ?_
                    refine r_icmp_ne (tg := 9) rfl rfl (fun _ => ?_) (fun q => False.elim (by have : (nI t7).toInt = ((t7 : Nat) : Int) := nI_toInt (by omega); have : (-1 : Int32).toInt = -1 := rfl; have := i_eq q; omega))
                    refine r_iload rfl rfl ?_
                    refine r_ic (x := 1000) rfl rfl ?_
                    refine r_icmp_lt (tg := 21) rfl rfl (fun _ => ?_) (fun q => False.elim (by have : (nI t7).toInt = ((t7 : Nat) : Int) := nI_toInt (by omega); have : (1000 : Int32).toInt = 1000 := rfl; have := i_nlt q; omega))
                    refine r_aload rfl rfl ?_
                    refine r_getA (b := ad 33) rfl ⟨rfl, rfl, rfl⟩ (fx_t30 fx) (fx_r30_2 fx) ?_
                    refine r_iload rfl rfl ?_
                    refine r_iaload rfl (.inl (fx_t33 fx)) (vp_ct (fx_n33 fx) (vp_in_nI (by omega) (by omega))) ?_
                    refine WR_tI (congrArg (hI (sI (sI h (ad 0) 6 0) (ad 0) 6 (-12)) (ad 33)) ((nI_clamp (by omega)) : _ = t7)) ?_
                    refine WR_tI (y := nI ln7) (Eq.trans (I_ne (fx_ne fx (by decide))) (Eq.trans (I_ne (fx_ne fx (by decide))) l2_7)) ?_
                    refine r_iret rfl ?_
                    show WR _ cd_175 66 [some (.ref (ad 30)), some (.int c), some (.int i), some (.int d), some (.int (nI t13)), some (.int (nI t7)), none] [.int (nI ln7)] (sI (sI h (ad 0) 6 0) (ad 0) 6 (-12)) _
                    refine r_ic (x := 3) rfl rfl ?_
                    refine r_icmp_eq (tg := 76) rfl rfl (fun _ => ?_) (fun q => False.elim (by have := i_eq c15; have : (nI ln7).toInt = ((ln7 : Nat) : Int) := nI_toInt (by omega); have : (3 : Int32).toInt = 3 := rfl; have := i_neq q; omega))
                    refine r_aload rfl rfl ?_
                    refine r_iload rfl rfl ?_
                    refine r_ic (x := 8) rfl rfl ?_
                    refine r_iload rfl rfl ?_
                    refine WR_tI (y := nI k17) ek17 ?_
                    refine r_cv (y := 168) (ra := [.int (nI k17), .int 8, .int (nI t13)]) (rest := []) rfl ⟨⟨rfl, rfl⟩, rfl, by decide⟩ (fx_t30 fx) rfl rfl (Nat.le_of_ble_eq_true rfl) ?_
                    refine in_168 (Nat.le_of_ble_eq_true rfl) ?_
                    show WR _ cd_168 0 [some (.ref (ad 30)), some (.int (nI t13)), some (.int 8), some (.int (nI k17))] [] (sI (sI h (ad 0) 6 0) (ad 0) 6 (-12)) _
                    refine r_iload rfl rfl ?_
                    refine r_ic (x := (-1)) rfl rfl ?_
                    refine r_icmp_eq (tg := 18) rfl rfl (fun q => False.elim (by have : (nI t13).toInt = ((t13 : Nat) : Int) := nI_toInt (by omega); have : (-1 : Int32).toInt = -1 := rfl; have := i_eq q; omega)) (fun _ => ?_)
                    refine r_aload rfl rfl ?_
                    refine r_iload rfl rfl ?_
                    refine r_cv (y := 166) (ra := [.int (nI t13)]) (rest := []) rfl ⟨⟨rfl, rfl⟩, rfl, by decide⟩ (fx_t30 fx) rfl rfl (Nat.le_of_ble_eq_true rfl) ?_
                    refine in_166 (Nat.le_of_ble_eq_true rfl) ?_
                    show WR _ cd_166 0 [some (.ref (ad 30)), some (.int (nI t13))] [] (sI (sI h (ad 0) 6 0) (ad 0) 6 (-12)) _
                    refine r_iload rfl rfl ?_
                    refine r_ic (x := (-1)) rfl rfl ?_
                    refine r_icmp_ne (tg := 9) rfl rfl (fun _ => ?_) (fun q => False.elim (by have : (nI t13).toInt = ((t13 : Nat) : Int) := nI_toInt (by omega); have : (-1 : Int32).toInt = -1 := rfl; have := i_eq q; omega))
                    refine r_iload rfl rfl ?_
                    refine r_ic (x := 1000) rfl rfl ?_
                    refine r_icmp_lt (tg := 21) rfl rfl (fun _ => ?_) (fun q => False.elim (by have : (nI t13).toInt = ((t13 : Nat) : Int) := nI_toInt (by omega); have : (1000 : Int32).toInt = 1000 := rfl; have := i_nlt q; omega))
                    refine r_aload rfl rfl ?_
                    refine r_getA (b := ad 33) rfl ⟨rfl, rfl, rfl⟩ (fx_t30 fx) (fx_r30_2 fx) ?_
                    refine r_iload rfl rfl ?_
                    refine r_iaload rfl (.inl (fx_t33 fx)) (vp_ct (fx_n33 fx) (vp_in_nI (by omega) (by omega))) ?_
                    refine WR_tI (congrArg (hI (sI (sI h (ad 0) 6 0) (ad 0) 6 (-12)) (ad 33)) ((nI_clamp (by omega)) : _ = t13)) ?_
                    refine WR_tI (y := 8) (Eq.trans (I_ne (fx_ne fx (by decide))) (Eq.trans (I_ne (fx_ne fx (by decide))) l2_13)) ?_
                    refine r_iret rfl ?_
                    show WR _ cd_168 10 [some (.ref (ad 30)), some (.int (nI t13)), some (.int 8), some (.int (nI k17))] [.int 8] (sI (sI h (ad 0) 6 0) (ad 0) 6 (-12)) _
                    refine r_iload rfl rfl ?_
                    refine r_icmp_eq (tg := 18) rfl rfl (fun _ => ?_) (fun q => absurd q (by decide))
                    refine r_iload rfl rfl ?_
                    refine r_ic (x := (-1)) rfl rfl ?_
                    refine r_icmp_ne (tg := 27) rfl rfl (fun _ => ?_) (fun q => False.elim (by have : (nI t13).toInt = ((t13 : Nat) : Int) := nI_toInt (by omega); have : (-1 : Int32).toInt = -1 := rfl; have := i_eq q; omega))
                    refine r_iload rfl rfl ?_
                    refine r_i2l rfl ?_
                    refine WR_tL (y := lN k17) (nI_l (by have := i_nlt c16; have := i_rg i; have : (0 : Int32).toInt = 0 := rfl; have := i_eq ek17; have : (nI k17).toInt = ((k17 : Nat) : Int) := nI_toInt (by omega); have := i_lt c18; have : (1 : Int32).toInt = 1 := rfl; have : (nI sz13).toInt = ((sz13 : Nat) : Int) := nI_toInt (by omega); have := sub_t (x := nI sz13) (y := nI k17) (by have := i_nlt c16; have := i_rg i; have : (0 : Int32).toInt = 0 := rfl; have := i_eq ek17; have : (nI k17).toInt = ((k17 : Nat) : Int) := nI_toInt (by omega); have : (nI sz13).toInt = ((sz13 : Nat) : Int) := nI_toInt (by omega); omega) (by have := i_nlt c16; have := i_rg i; have : (0 : Int32).toInt = 0 := rfl; have := i_eq ek17; have : (nI k17).toInt = ((k17 : Nat) : Int) := nI_toInt (by omega); have : (nI sz13).toInt = ((sz13 : Nat) : Int) := nI_toInt (by omega); omega); omega)) ?_
                    refine r_lc (x := 0) rfl rfl ?_
                    refine r_aload rfl rfl ?_
                    refine r_getA (b := ad 35) rfl ⟨rfl, rfl, rfl⟩ (fx_t30 fx) (fx_r30_4 fx) ?_
                    refine r_iload rfl rfl ?_
                    refine r_iaload rfl (.inl (fx_t35 fx)) (vp_ct (fx_n35 fx) (vp_in_nI (by omega) (by omega))) ?_
                    refine WR_tI (congrArg (hI (sI (sI h (ad 0) 6 0) (ad 0) 6 (-12)) (ad 35)) ((nI_clamp (by omega)) : _ = t13)) ?_
                    refine WR_tI (y := nI sz13) (Eq.trans (I_ne (fx_ne fx (by decide))) (Eq.trans (I_ne (fx_ne fx (by decide))) sz_13)) ?_
                    refine r_ic (x := 1) rfl rfl ?_
                    refine r_isub rfl ?_
                    refine r_i2l rfl ?_
                    refine r_cs (y := 155) (ra := [.long (((nI sz13) - 1).toInt64), .long 0, .long (lN k17)]) (rest := []) rfl ⟨⟨rfl, rfl⟩, by decide⟩ rfl rfl (Nat.le_of_ble_eq_true rfl) ?_
                    refine in_155 (Nat.le_of_ble_eq_true rfl) ?_
                    show WR _ cd_155 0 [some (.long (lN k17)), none, some (.long 0), none, some (.long (((nI sz13) - 1).toInt64)), none] [] (sI (sI h (ad 0) 6 0) (ad 0) 6 (-12)) _
                    refine r_lload rfl rfl ?_
                    refine r_lload rfl rfl ?_
                    refine r_lif_lt (tg := 17) rfl rfl rfl (fun q => False.elim (by have := i_nlt c16; have := i_rg i; have : (0 : Int32).toInt = 0 := rfl; have := i_eq ek17; have : (nI k17).toInt = ((k17 : Nat) : Int) := nI_toInt (by omega); have := i_lt c18; have : (1 : Int32).toInt = 1 := rfl; have : (nI sz13).toInt = ((sz13 : Nat) : Int) := nI_toInt (by omega); have := sub_t (x := nI sz13) (y := nI k17) (by have := i_nlt c16; have := i_rg i; have : (0 : Int32).toInt = 0 := rfl; have := i_eq ek17; have : (nI k17).toInt = ((k17 : Nat) : Int) := nI_toInt (by omega); have : (nI sz13).toInt = ((sz13 : Nat) : Int) := nI_toInt (by omega); omega) (by have := i_nlt c16; have := i_rg i; have : (0 : Int32).toInt = 0 := rfl; have := i_eq ek17; have : (nI k17).toInt = ((k17 : Nat) : Int) := nI_toInt (by omega); have : (nI sz13).toInt = ((sz13 : Nat) : Int) := nI_toInt (by omega); omega); have : (lN k17).toInt = ((k17 : Nat) : Int) := lN_toInt (by omega); have : (0 : Int64).toInt = 0 := rfl; have := l_lt q; omega)) (fun _ => ?_)
                    refine r_lload rfl rfl ?_
                    refine r_lload rfl rfl ?_
                    refine r_lif_gt (tg := 17) rfl rfl rfl (fun _ => ?_) (fun q => False.elim (by have := i_nlt c16; have := i_rg i; have : (0 : Int32).toInt = 0 := rfl; have := i_eq ek17; have : (nI k17).toInt = ((k17 : Nat) : Int) := nI_toInt (by omega); have := i_lt c18; have : (1 : Int32).toInt = 1 := rfl; have : (nI sz13).toInt = ((sz13 : Nat) : Int) := nI_toInt (by omega); have := sub_t (x := nI sz13) (y := nI k17) (by have := i_nlt c16; have := i_rg i; have : (0 : Int32).toInt = 0 := rfl; have := i_eq ek17; have : (nI k17).toInt = ((k17 : Nat) : Int) := nI_toInt (by omega); have : (nI sz13).toInt = ((sz13 : Nat) : Int) := nI_toInt (by omega); omega) (by have := i_nlt c16; have := i_rg i; have : (0 : Int32).toInt = 0 := rfl; have := i_eq ek17; have : (nI k17).toInt = ((k17 : Nat) : Int) := nI_toInt (by omega); have : (nI sz13).toInt = ((sz13 : Nat) : Int) := nI_toInt (by omega); omega); have : (lN k17).toInt = ((k17 : Nat) : Int) := lN_toInt (by omega); have := sub_t (x := nI sz13) (y := 1) (by have := i_nlt c16; have := i_rg i; have : (0 : Int32).toInt = 0 := rfl; have := i_eq ek17; have : (nI k17).toInt = ((k17 : Nat) : Int) := nI_toInt (by omega); have := i_lt c18; have : (1 : Int32).toInt = 1 := rfl; have : (nI sz13).toInt = ((sz13 : Nat) : Int) := nI_toInt (by omega); have := sub_t (x := nI sz13) (y := nI k17) (by have := i_nlt c16; have := i_rg i; have : (0 : Int32).toInt = 0 := rfl; have := i_eq ek17; have : (nI k17).toInt = ((k17 : Nat) : Int) := nI_toInt (by omega); have : (nI sz13).toInt = ((sz13 : Nat) : Int) := nI_toInt (by omega); omega) (by have := i_nlt c16; have := i_rg i; have : (0 : Int32).toInt = 0 := rfl; have := i_eq ek17; have : (nI k17).toInt = ((k17 : Nat) : Int) := nI_toInt (by omega); have : (nI sz13).toInt = ((sz13 : Nat) : Int) := nI_toInt (by omega); omega); omega) (by have := i_nlt c16; have := i_rg i; have : (0 : Int32).toInt = 0 := rfl; have := i_eq ek17; have : (nI k17).toInt = ((k17 : Nat) : Int) := nI_toInt (by omega); have := i_lt c18; have : (1 : Int32).toInt = 1 := rfl; have : (nI sz13).toInt = ((sz13 : Nat) : Int) := nI_toInt (by omega); have := sub_t (x := nI sz13) (y := nI k17) (by have := i_nlt c16; have := i_rg i; have : (0 : Int32).toInt = 0 := rfl; have := i_eq ek17; have : (nI k17).toInt = ((k17 : Nat) : Int) := nI_toInt (by omega); have : (nI sz13).toInt = ((sz13 : Nat) : Int) := nI_toInt (by omega); omega) (by have := i_nlt c16; have := i_rg i; have : (0 : Int32).toInt = 0 := rfl; have := i_eq ek17; have : (nI k17).toInt = ((k17 : Nat) : Int) := nI_toInt (by omega); have : (nI sz13).toInt = ((sz13 : Nat) : Int) := nI_toInt (by omega); omega); omega); have := w_t ((nI sz13) - 1); have := l_nlt q; omega))
                    refine r_ic (x := 0) rfl rfl ?_
                    refine r_zret rfl (.inl rfl) ?_
                    show WR _ cd_168 42 [some (.ref (ad 30)), some (.int (nI t13)), some (.int 8), some (.int (nI k17))] [.int 0] (sI (sI h (ad 0) 6 0) (ad 0) 6 (-12)) _
                    refine r_if_ne (tg := 49) rfl rfl (fun q => absurd q (by decide)) (fun _ => ?_)
                    refine r_ic (x := 2) rfl rfl ?_
                    refine r_goto (tg := 50) rfl rfl ?_
                    refine r_iret rfl ?_
                    show WR _ cd_175 85 [some (.ref (ad 30)), some (.int c), some (.int i), some (.int d), some (.int (nI t13)), some (.int (nI t7)), none] [.int 2] (sI (sI h (ad 0) 6 0) (ad 0) 6 (-12)) _
                    refine r_istore (lv' := [some (.ref (ad 30)), some (.int c), some (.int i), some (.int d), some (.int (nI t13)), some (.int (nI t7)), some (.int 2)]) rfl (Nat.le_of_ble_eq_true rfl) rfl ?_
                    refine r_iload rfl rfl ?_
                    refine r_if_le (tg := 99) rfl rfl (fun q => absurd q (by decide)) (fun _ => ?_)
                    refine r_aload rfl rfl ?_
                    refine r_iload rfl rfl ?_
                    refine r_cv (y := 156) (ra := [.int 2]) (rest := []) rfl ⟨⟨rfl, rfl⟩, rfl, by decide⟩ (fx_t30 fx) rfl rfl (Nat.le_of_ble_eq_true rfl) ?_
                    refine in_156 (Nat.le_of_ble_eq_true rfl) ?_
                    show WR _ cd_156 0 [some (.ref (ad 30)), some (.int 2)] [] (sI (sI h (ad 0) 6 0) (ad 0) 6 (-12)) _
                    refine r_aload rfl rfl ?_
                    refine r_ic (x := (-10)) rfl rfl ?_
                    refine r_iload rfl rfl ?_
                    refine r_isub rfl ?_
                    refine WR_tI (y := (-12)) rfl ?_
                    refine r_cv (y := 154) (ra := [.int (-12)]) (rest := []) rfl ⟨⟨rfl, rfl⟩, rfl, by decide⟩ (fx_t30 fx) rfl rfl (Nat.le_of_ble_eq_true rfl) ?_
                    refine in_154 (Nat.le_of_ble_eq_true rfl) ?_
                    show WR _ cd_154 0 [some (.ref (ad 30)), some (.int (-12))] [] (sI (sI h (ad 0) 6 0) (ad 0) 6 (-12)) _
                    refine r_aload rfl rfl ?_
                    refine r_iload rfl rfl ?_
                    refine r_ic (x := (-1)) rfl rfl ?_
                    refine r_icmp_ge (tg := 10) rfl rfl (fun q => absurd q (by decide)) (fun _ => ?_)
                    refine r_iload rfl rfl ?_
                    refine r_goto (tg := 11) rfl rfl ?_
                    refine r_putI rfl ⟨rfl, rfl, rfl⟩ (fx_t30 fx) ?_
                    have fx : FX n ad sa z0 (sI (sI (sI h (ad 0) 6 0) (ad 0) 6 (-12)) (ad 30) 11 (-12)) := (FX.sI fx)
                    refine r_iload rfl rfl ?_
                    refine r_iret rfl ?_
                    show WR _ cd_156 8 [some (.ref (ad 30)), some (.int 2)] [.int (-12)] (sI (sI (sI h (ad 0) 6 0) (ad 0) 6 (-12)) (ad 30) 11 (-12)) _
                    refine r_iret rfl ?_
                    show WR _ cd_175 98 [some (.ref (ad 30)), some (.int c), some (.int i), some (.int d), some (.int (nI t13)), some (.int (nI t7)), some (.int 2)] [.int (-12)] (sI (sI (sI h (ad 0) 6 0) (ad 0) 6 (-12)) (ad 30) 11 (-12)) _
                    refine r_iret rfl ?_
                    exact ⟨rfl, Rel.why r (((Chg.rf.sI (fx_j fx) (.inl (by decide))).sI (fx_j fx) (.inl (by decide))).sI (fx_j fx) (.inl (by decide))) ⟨rfl, by decide⟩ (Eq.trans (Eq.trans (I_ne (fx_ne fx (by decide))) I_eq) (Eq.symm I_eq)), (by (try simp only [hZ_sI, hZ_sL, hZ_sD, hZ_sR]); omega), (by (try simp only [hU_sI, hU_sL, hU_sD, hU_sR]); omega)⟩
                  · refine r_ic (x := 1) rfl rfl ?_
                    refine r_goto (tg := 23) rfl rfl ?_
                    refine r_zret rfl (.inr rfl) ?_
                    show WR _ cd_46 67 [some (.ref (ad 0)), some (.int (nI k2)), some (.int 8), some (.int i), some (.int (nI k5)), some (.int 3), some (.ref (mid t7)), some (.ref (mid t13))] [.int 1] (sI h (ad 0) 6 0) _
                    refine r_if_ne (tg := 77) rfl rfl (fun _ => ?_) (fun q => absurd q (by decide))
                    refine r_aload rfl rfl ?_
                    refine r_aload rfl rfl ?_
                    refine r_cv (y := 47) (ra := [.ref (mid t7)]) (rest := []) rfl ⟨⟨rfl, rfl⟩, rfl, by decide⟩ tg13 rfl rfl (Nat.le_of_ble_eq_true rfl) ?_
                    refine in_47 (Nat.le_of_ble_eq_true rfl) ?_
                    show WR _ cd_47 0 [some (.ref (mid t13)), some (.ref (mid t7)), none] [] (sI h (ad 0) 6 0) _
                    refine r_aload rfl rfl ?_
                    refine r_ifnonnullA (tg := 6) rfl rfl ?_
                    refine r_aload rfl rfl ?_
                    refine r_getI rfl ⟨rfl, rfl, rfl⟩ tg13 ?_
                    refine WR_tI (y := (-1)) (Eq.trans (I_ne (dy_ad fx (.inl (by decide)) dz13)) k1_13) ?_
                    refine r_ic (x := (-1)) rfl rfl ?_
                    refine r_icmp_ne (tg := 28) rfl rfl (fun q => absurd q (by decide)) (fun _ => ?_)
                    refine r_aload rfl rfl ?_
                    refine r_cw (y := 27) (ra := []) (rest := []) rfl ⟨rfl, rfl⟩ (by rw [show hT (sI h (ad 0) 6 0) (mid t7) = 5 from tg7]; rfl) rfl rfl (Nat.le_of_ble_eq_true rfl) ?_
                    refine in_27 (Nat.le_of_ble_eq_true rfl) ?_
                    show WR _ cd_27 0 [some (.ref (mid t7))] [] (sI h (ad 0) 6 0) _
                    refine r_aload rfl rfl ?_
                    refine r_getI rfl ⟨rfl, rfl, rfl⟩ tg7 ?_
                    refine WR_tI (y := nI ln7) (Eq.trans (I_ne (dy_ad fx (.inl (by decide)) dz7)) l1_7) ?_
                    refine r_iret rfl ?_
                    show WR _ cd_47 18 [some (.ref (mid t13)), some (.ref (mid t7)), none] [.int (nI ln7)] (sI h (ad 0) 6 0) _
                    refine r_ic (x := 3) rfl rfl ?_
                    refine r_icmp_ne (tg := 26) rfl rfl (fun q => False.elim (by have := i_eq c15; have : (nI ln7).toInt = ((ln7 : Nat) : Int) := nI_toInt (by omega); have : (3 : Int32).toInt = 3 := rfl; have := i_neq q; omega)) (fun _ => ?_)
                    refine r_ic (x := 1) rfl rfl ?_
                    refine r_goto (tg := 27) rfl rfl ?_
                    refine r_zret rfl (.inr rfl) ?_
                    show WR _ cd_46 84 [some (.ref (ad 0)), some (.int (nI k2)), some (.int 8), some (.int i), some (.int (nI k5)), some (.int 3), some (.ref (mid t7)), some (.ref (mid t13))] [.int 1] (sI h (ad 0) 6 0) _
                    refine r_if_ne (tg := 94) rfl rfl (fun _ => ?_) (fun q => absurd q (by decide))
                    refine r_aload rfl rfl ?_
                    refine r_getA (b := mid t13 + 1) rfl ⟨rfl, rfl, rfl⟩ tg13 (Eq.trans R_oI r_13) ?_
                    refine r_iload rfl rfl ?_
                    refine WR_tI (y := nI k17) ek17 ?_
                    refine r_aload rfl rfl ?_
                    refine r_aastoreA rfl (isQ_of tg2_13 (by decide)) (vp_ct n_13 (vp_in_nI (by have := i_nlt c16; have := i_rg i; have : (0 : Int32).toInt = 0 := rfl; have := i_eq ek17; have : (nI k17).toInt = ((k17 : Nat) : Int) := nI_toInt (by omega); have := i_nlt c18; have : (1 : Int32).toInt = 1 := rfl; have : (nI sz13).toInt = ((sz13 : Nat) : Int) := nI_toInt (by omega); have := sub_t (x := nI sz13) (y := nI k17) (by have := i_nlt c16; have := i_rg i; have : (0 : Int32).toInt = 0 := rfl; have := i_eq ek17; have : (nI k17).toInt = ((k17 : Nat) : Int) := nI_toInt (by omega); have : (nI sz13).toInt = ((sz13 : Nat) : Int) := nI_toInt (by omega); omega) (by have := i_nlt c16; have := i_rg i; have : (0 : Int32).toInt = 0 := rfl; have := i_eq ek17; have : (nI k17).toInt = ((k17 : Nat) : Int) := nI_toInt (by omega); have : (nI sz13).toInt = ((sz13 : Nat) : Int) := nI_toInt (by omega); omega); omega) (by omega))) (okR_of tg2_13 tg7 (by decide)) ?_
                    refine WR_h (h2 := sR (sI h (ad 0) 6 0) (mid t13 + 1) k17 (some (mid t7))) (congrArg (fun z => sR (sI h (ad 0) 6 0) (mid t13 + 1) z (some (mid t7))) ((nI_clamp (by have := i_nlt c16; have := i_rg i; have : (0 : Int32).toInt = 0 := rfl; have := i_eq ek17; have : (nI k17).toInt = ((k17 : Nat) : Int) := nI_toInt (by omega); have := i_nlt c18; have : (1 : Int32).toInt = 1 := rfl; have : (nI sz13).toInt = ((sz13 : Nat) : Int) := nI_toInt (by omega); have := sub_t (x := nI sz13) (y := nI k17) (by have := i_nlt c16; have := i_rg i; have : (0 : Int32).toInt = 0 := rfl; have := i_eq ek17; have : (nI k17).toInt = ((k17 : Nat) : Int) := nI_toInt (by omega); have : (nI sz13).toInt = ((sz13 : Nat) : Int) := nI_toInt (by omega); omega) (by have := i_nlt c16; have := i_rg i; have : (0 : Int32).toInt = 0 := rfl; have := i_eq ek17; have : (nI k17).toInt = ((k17 : Nat) : Int) := nI_toInt (by omega); have : (nI sz13).toInt = ((sz13 : Nat) : Int) := nI_toInt (by omega); omega); omega)) : _ = k17)) ?_
                    have fx : FX n ad sa z0 (sR (sI h (ad 0) 6 0) (mid t13 + 1) k17 (some (mid t7))) := FX.dyR fx (Nat.le_succ_of_le dz13)
                    refine r_ic (x := 1) rfl rfl ?_
                    refine r_iret rfl ?_
                    show WR _ cd_45 36 [some (.ref (ad 0)), some (.int c), some (.int i), some (.int d)] [.int 1] (sR (sI h (ad 0) 6 0) (mid t13 + 1) k17 (some (mid t7))) _
                    refine r_iret rfl ?_
                    show EV _ 175 [.ref (ad 30), .int c, .int i, .int d] (sR (sI h (ad 0) 6 0) (mid t13 + 1) k17 (some (mid t7))) _
                    refine in_175 (Nat.le_of_ble_eq_true rfl) ?_
                    show WR _ cd_175 0 [some (.ref (ad 30)), some (.int c), some (.int i), some (.int d), none, none, none] [] (sR (sI h (ad 0) 6 0) (mid t13 + 1) k17 (some (mid t7))) _
                    refine r_iload rfl rfl ?_
                    refine WR_tI (y := nI k2) ek2 ?_
                    refine r_cs (y := 153) (ra := [.int (nI k2)]) (rest := []) rfl ⟨⟨rfl, rfl⟩, by decide⟩ rfl rfl (Nat.le_of_ble_eq_true rfl) ?_
                    refine in_153 (Nat.le_of_ble_eq_true rfl) ?_
                    show WR _ cd_153 0 [some (.int (nI k2))] [] (sR (sI h (ad 0) 6 0) (mid t13 + 1) k17 (some (mid t7))) _
                    refine r_iload rfl rfl ?_
                    refine r_if_lt (tg := 14) rfl rfl (fun q => False.elim (by have := i_nlt c1; have := i_rg c; have : (0 : Int32).toInt = 0 := rfl; have := i_eq ek2; have : (nI k2).toInt = ((k2 : Nat) : Int) := nI_toInt (by omega); have := i_nle c3; have : (24 : Int32).toInt = 24 := rfl; have := i_lt q; omega)) (fun _ => ?_)
                    refine r_iload rfl rfl ?_
                    refine r_ic (x := 24) rfl rfl ?_
                    refine r_icmp_ge (tg := 14) rfl rfl (fun q => False.elim (by have := i_nlt c1; have := i_rg c; have : (0 : Int32).toInt = 0 := rfl; have := i_eq ek2; have : (nI k2).toInt = ((k2 : Nat) : Int) := nI_toInt (by omega); have := i_nle c3; have : (24 : Int32).toInt = 24 := rfl; have := i_le q; omega)) (fun _ => ?_)
                    refine r_ic (x := 1) rfl rfl ?_
                    refine r_goto (tg := 15) rfl rfl ?_
                    refine r_zret rfl (.inr rfl) ?_
                    show WR _ cd_175 4 [some (.ref (ad 30)), some (.int c), some (.int i), some (.int d), none, none, none] [.int 1] (sR (sI h (ad 0) 6 0) (mid t13 + 1) k17 (some (mid t7))) _
                    refine r_if_eq (tg := 14) rfl rfl (fun q => absurd q (by decide)) (fun _ => ?_)
                    refine r_iload rfl rfl ?_
                    refine WR_tI (y := nI k5) ek5 ?_
                    refine r_cs (y := 153) (ra := [.int (nI k5)]) (rest := []) rfl ⟨⟨rfl, rfl⟩, by decide⟩ rfl rfl (Nat.le_of_ble_eq_true rfl) ?_
                    refine in_153 (Nat.le_of_ble_eq_true rfl) ?_
                    show WR _ cd_153 0 [some (.int (nI k5))] [] (sR (sI h (ad 0) 6 0) (mid t13 + 1) k17 (some (mid t7))) _
                    refine r_iload rfl rfl ?_
                    refine r_if_lt (tg := 14) rfl rfl (fun q => False.elim (by have := i_nlt c4; have := i_rg d; have : (0 : Int32).toInt = 0 := rfl; have := i_eq ek5; have : (nI k5).toInt = ((k5 : Nat) : Int) := nI_toInt (by omega); have := i_nle c6; have : (24 : Int32).toInt = 24 := rfl; have := i_lt q; omega)) (fun _ => ?_)
                    refine r_iload rfl rfl ?_
                    refine r_ic (x := 24) rfl rfl ?_
                    refine r_icmp_ge (tg := 14) rfl rfl (fun q => False.elim (by have := i_nlt c4; have := i_rg d; have : (0 : Int32).toInt = 0 := rfl; have := i_eq ek5; have : (nI k5).toInt = ((k5 : Nat) : Int) := nI_toInt (by omega); have := i_nle c6; have : (24 : Int32).toInt = 24 := rfl; have := i_le q; omega)) (fun _ => ?_)
                    refine r_ic (x := 1) rfl rfl ?_
                    refine r_goto (tg := 15) rfl rfl ?_
                    refine r_zret rfl (.inr rfl) ?_
                    show WR _ cd_175 11 [some (.ref (ad 30)), some (.int c), some (.int i), some (.int d), none, none, none] [.int 1] (sR (sI h (ad 0) 6 0) (mid t13 + 1) k17 (some (mid t7))) _
                    refine r_if_ne (tg := 21) rfl rfl (fun _ => ?_) (fun q => absurd q (by decide))
                    refine r_aload rfl rfl ?_
                    refine r_getA (b := ad 31) rfl ⟨rfl, rfl, rfl⟩ (fx_t30 fx) (fx_r30_0 fx) ?_
                    refine r_iload rfl rfl ?_
                    refine WR_tI (y := nI k2) ek2 ?_
                    refine r_iaload rfl (.inl (fx_t31 fx)) (vp_ct (fx_n31 fx) (vp_in_nI (by have := i_nlt c1; have := i_rg c; have : (0 : Int32).toInt = 0 := rfl; have := i_eq ek2; have : (nI k2).toInt = ((k2 : Nat) : Int) := nI_toInt (by omega); have := i_nle c3; have : (24 : Int32).toInt = 24 := rfl; omega) (by omega))) ?_
                    refine WR_tI (congrArg (hI (sR (sI h (ad 0) 6 0) (mid t13 + 1) k17 (some (mid t7))) (ad 31)) ((nI_clamp (by have := i_nlt c1; have := i_rg c; have : (0 : Int32).toInt = 0 := rfl; have := i_eq ek2; have : (nI k2).toInt = ((k2 : Nat) : Int) := nI_toInt (by omega); have := i_nle c3; have : (24 : Int32).toInt = 24 := rfl; omega)) : _ = k2)) ?_
                    refine WR_tI (y := nI t13) (Eq.trans I_oR (Eq.trans (I_ne (fx_ne fx (by decide))) v13)) ?_
                    refine r_istore (lv' := [some (.ref (ad 30)), some (.int c), some (.int i), some (.int d), some (.int (nI t13)), none, none]) rfl (Nat.le_of_ble_eq_true rfl) rfl ?_
                    refine r_aload rfl rfl ?_
                    refine r_getA (b := ad 31) rfl ⟨rfl, rfl, rfl⟩ (fx_t30 fx) (fx_r30_0 fx) ?_
                    refine r_iload rfl rfl ?_
                    refine WR_tI (y := nI k5) ek5 ?_
                    refine r_iaload rfl (.inl (fx_t31 fx)) (vp_ct (fx_n31 fx) (vp_in_nI (by have := i_nlt c4; have := i_rg d; have : (0 : Int32).toInt = 0 := rfl; have := i_eq ek5; have : (nI k5).toInt = ((k5 : Nat) : Int) := nI_toInt (by omega); have := i_nle c6; have : (24 : Int32).toInt = 24 := rfl; omega) (by omega))) ?_
                    refine WR_tI (congrArg (hI (sR (sI h (ad 0) 6 0) (mid t13 + 1) k17 (some (mid t7))) (ad 31)) ((nI_clamp (by have := i_nlt c4; have := i_rg d; have : (0 : Int32).toInt = 0 := rfl; have := i_eq ek5; have : (nI k5).toInt = ((k5 : Nat) : Int) := nI_toInt (by omega); have := i_nle c6; have : (24 : Int32).toInt = 24 := rfl; omega)) : _ = k5)) ?_
                    refine WR_tI (y := nI t7) (Eq.trans I_oR (Eq.trans (I_ne (fx_ne fx (by decide))) v7)) ?_
                    refine r_istore (lv' := [some (.ref (ad 30)), some (.int c), some (.int i), some (.int d), some (.int (nI t13)), some (.int (nI t7)), none]) rfl (Nat.le_of_ble_eq_true rfl) rfl ?_
                    refine r_iload rfl rfl ?_
                    refine r_ic (x := (-1)) rfl rfl ?_
                    refine r_icmp_eq (tg := 54) rfl rfl (fun q => False.elim (by have : (nI t13).toInt = ((t13 : Nat) : Int) := nI_toInt (by omega); have : (-1 : Int32).toInt = -1 := rfl; have := i_eq q; omega)) (fun _ => ?_)
                    refine r_aload rfl rfl ?_
                    refine r_iload rfl rfl ?_
                    refine r_cv (y := 166) (ra := [.int (nI t13)]) (rest := []) rfl ⟨⟨rfl, rfl⟩, rfl, by decide⟩ (fx_t30 fx) rfl rfl (Nat.le_of_ble_eq_true rfl) ?_
                    refine in_166 (Nat.le_of_ble_eq_true rfl) ?_
                    show WR _ cd_166 0 [some (.ref (ad 30)), some (.int (nI t13))] [] (sR (sI h (ad 0) 6 0) (mid t13 + 1) k17 (some (mid t7))) _
                    refine r_iload rfl rfl ?_
                    refine r_ic (x := (-1)) rfl rfl ?_
                    refine r_icmp_ne (tg := 9) rfl rfl (fun _ => ?_) (fun q => False.elim (by have : (nI t13).toInt = ((t13 : Nat) : Int) := nI_toInt (by omega); have : (-1 : Int32).toInt = -1 := rfl; have := i_eq q; omega))
                    refine r_iload rfl rfl ?_
                    refine r_ic (x := 1000) rfl rfl ?_
                    refine r_icmp_lt (tg := 21) rfl rfl (fun _ => ?_) (fun q => False.elim (by have : (nI t13).toInt = ((t13 : Nat) : Int) := nI_toInt (by omega); have : (1000 : Int32).toInt = 1000 := rfl; have := i_nlt q; omega))
                    refine r_aload rfl rfl ?_
                    refine r_getA (b := ad 33) rfl ⟨rfl, rfl, rfl⟩ (fx_t30 fx) (fx_r30_2 fx) ?_
                    refine r_iload rfl rfl ?_
                    refine r_iaload rfl (.inl (fx_t33 fx)) (vp_ct (fx_n33 fx) (vp_in_nI (by omega) (by omega))) ?_
                    refine WR_tI (congrArg (hI (sR (sI h (ad 0) 6 0) (mid t13 + 1) k17 (some (mid t7))) (ad 33)) ((nI_clamp (by omega)) : _ = t13)) ?_
                    refine WR_tI (y := 8) (Eq.trans I_oR (Eq.trans (I_ne (fx_ne fx (by decide))) l2_13)) ?_
                    refine r_iret rfl ?_
                    show WR _ cd_175 49 [some (.ref (ad 30)), some (.int c), some (.int i), some (.int d), some (.int (nI t13)), some (.int (nI t7)), none] [.int 8] (sR (sI h (ad 0) 6 0) (mid t13 + 1) k17 (some (mid t7))) _
                    refine r_ic (x := 8) rfl rfl ?_
                    refine r_icmp_ne (tg := 70) rfl rfl (fun q => absurd q (by decide)) (fun _ => ?_)
                    refine r_iload rfl rfl ?_
                    refine r_ic (x := (-1)) rfl rfl ?_
                    refine r_icmp_eq (tg := 76) rfl rfl (fun q => False.elim (by have : (nI t7).toInt = ((t7 : Nat) : Int) := nI_toInt (by omega); have : (-1 : Int32).toInt = -1 := rfl; have := i_eq q; omega)) (fun _ => ?_)
                    refine r_aload rfl rfl ?_
                    refine r_iload rfl rfl ?_
                    refine r_cv (y := 166) (ra := [.int (nI t7)]) (rest := []) rfl ⟨⟨rfl, rfl⟩, rfl, by decide⟩ (fx_t30 fx) rfl rfl (Nat.le_of_ble_eq_true rfl) ?_
                    refine in_166 (Nat.le_of_ble_eq_true rfl) ?_
                    show WR _ cd_166 0 [some (.ref (ad 30)), some (.int (nI t7))] [] (sR (sI h (ad 0) 6 0) (mid t13 + 1) k17 (some (mid t7))) _
                    refine r_iload rfl rfl ?_
                    refine r_ic (x := (-1)) rfl rfl ?_
                    refine r_icmp_ne (tg := 9) rfl rfl (fun _ => ?_) (fun q => False.elim (by have : (nI t7).toInt = ((t7 : Nat) : Int) := nI_toInt (by omega); have : (-1 : Int32).toInt = -1 := rfl; have := i_eq q; omega))
                    refine r_iload rfl rfl ?_
                    refine r_ic (x := 1000) rfl rfl ?_
                    refine r_icmp_lt (tg := 21) rfl rfl (fun _ => ?_) (fun q => False.elim (by have : (nI t7).toInt = ((t7 : Nat) : Int) := nI_toInt (by omega); have : (1000 : Int32).toInt = 1000 := rfl; have := i_nlt q; omega))
                    refine r_aload rfl rfl ?_
                    refine r_getA (b := ad 33) rfl ⟨rfl, rfl, rfl⟩ (fx_t30 fx) (fx_r30_2 fx) ?_
                    refine r_iload rfl rfl ?_
                    refine r_iaload rfl (.inl (fx_t33 fx)) (vp_ct (fx_n33 fx) (vp_in_nI (by omega) (by omega))) ?_
                    refine WR_tI (congrArg (hI (sR (sI h (ad 0) 6 0) (mid t13 + 1) k17 (some (mid t7))) (ad 33)) ((nI_clamp (by omega)) : _ = t7)) ?_
                    refine WR_tI (y := nI ln7) (Eq.trans I_oR (Eq.trans (I_ne (fx_ne fx (by decide))) l2_7)) ?_
                    refine r_iret rfl ?_
                    show WR _ cd_175 66 [some (.ref (ad 30)), some (.int c), some (.int i), some (.int d), some (.int (nI t13)), some (.int (nI t7)), none] [.int (nI ln7)] (sR (sI h (ad 0) 6 0) (mid t13 + 1) k17 (some (mid t7))) _
                    refine r_ic (x := 3) rfl rfl ?_
                    refine r_icmp_eq (tg := 76) rfl rfl (fun _ => ?_) (fun q => False.elim (by have := i_eq c15; have : (nI ln7).toInt = ((ln7 : Nat) : Int) := nI_toInt (by omega); have : (3 : Int32).toInt = 3 := rfl; have := i_neq q; omega))
                    refine r_aload rfl rfl ?_
                    refine r_iload rfl rfl ?_
                    refine r_ic (x := 8) rfl rfl ?_
                    refine r_iload rfl rfl ?_
                    refine WR_tI (y := nI k17) ek17 ?_
                    refine r_cv (y := 168) (ra := [.int (nI k17), .int 8, .int (nI t13)]) (rest := []) rfl ⟨⟨rfl, rfl⟩, rfl, by decide⟩ (fx_t30 fx) rfl rfl (Nat.le_of_ble_eq_true rfl) ?_
                    refine in_168 (Nat.le_of_ble_eq_true rfl) ?_
                    show WR _ cd_168 0 [some (.ref (ad 30)), some (.int (nI t13)), some (.int 8), some (.int (nI k17))] [] (sR (sI h (ad 0) 6 0) (mid t13 + 1) k17 (some (mid t7))) _
                    refine r_iload rfl rfl ?_
                    refine r_ic (x := (-1)) rfl rfl ?_
                    refine r_icmp_eq (tg := 18) rfl rfl (fun q => False.elim (by have : (nI t13).toInt = ((t13 : Nat) : Int) := nI_toInt (by omega); have : (-1 : Int32).toInt = -1 := rfl; have := i_eq q; omega)) (fun _ => ?_)
                    refine r_aload rfl rfl ?_
                    refine r_iload rfl rfl ?_
                    refine r_cv (y := 166) (ra := [.int (nI t13)]) (rest := []) rfl ⟨⟨rfl, rfl⟩, rfl, by decide⟩ (fx_t30 fx) rfl rfl (Nat.le_of_ble_eq_true rfl) ?_
                    refine in_166 (Nat.le_of_ble_eq_true rfl) ?_
                    show WR _ cd_166 0 [some (.ref (ad 30)), some (.int (nI t13))] [] (sR (sI h (ad 0) 6 0) (mid t13 + 1) k17 (some (mid t7))) _
                    refine r_iload rfl rfl ?_
                    refine r_ic (x := (-1)) rfl rfl ?_
                    refine r_icmp_ne (tg := 9) rfl rfl (fun _ => ?_) (fun q => False.elim (by have : (nI t13).toInt = ((t13 : Nat) : Int) := nI_toInt (by omega); have : (-1 : Int32).toInt = -1 := rfl; have := i_eq q; omega))
                    refine r_iload rfl rfl ?_
                    refine r_ic (x := 1000) rfl rfl ?_
                    refine r_icmp_lt (tg := 21) rfl rfl (fun _ => ?_) (fun q => False.elim (by have : (nI t13).toInt = ((t13 : Nat) : Int) := nI_toInt (by omega); have : (1000 : Int32).toInt = 1000 := rfl; have := i_nlt q; omega))
                    refine r_aload rfl rfl ?_
                    refine r_getA (b := ad 33) rfl ⟨rfl, rfl, rfl⟩ (fx_t30 fx) (fx_r30_2 fx) ?_
                    refine r_iload rfl rfl ?_
                    refine r_iaload rfl (.inl (fx_t33 fx)) (vp_ct (fx_n33 fx) (vp_in_nI (by omega) (by omega))) ?_
                    refine WR_tI (congrArg (hI (sR (sI h (ad 0) 6 0) (mid t13 + 1) k17 (some (mid t7))) (ad 33)) ((nI_clamp (by omega)) : _ = t13)) ?_
                    refine WR_tI (y := 8) (Eq.trans I_oR (Eq.trans (I_ne (fx_ne fx (by decide))) l2_13)) ?_
                    refine r_iret rfl ?_
                    show WR _ cd_168 10 [some (.ref (ad 30)), some (.int (nI t13)), some (.int 8), some (.int (nI k17))] [.int 8] (sR (sI h (ad 0) 6 0) (mid t13 + 1) k17 (some (mid t7))) _
                    refine r_iload rfl rfl ?_
                    refine r_icmp_eq (tg := 18) rfl rfl (fun _ => ?_) (fun q => absurd q (by decide))
                    refine r_iload rfl rfl ?_
                    refine r_ic (x := (-1)) rfl rfl ?_
                    refine r_icmp_ne (tg := 27) rfl rfl (fun _ => ?_) (fun q => False.elim (by have : (nI t13).toInt = ((t13 : Nat) : Int) := nI_toInt (by omega); have : (-1 : Int32).toInt = -1 := rfl; have := i_eq q; omega))
                    refine r_iload rfl rfl ?_
                    refine r_i2l rfl ?_
                    refine WR_tL (y := lN k17) (nI_l (by have := i_nlt c16; have := i_rg i; have : (0 : Int32).toInt = 0 := rfl; have := i_eq ek17; have : (nI k17).toInt = ((k17 : Nat) : Int) := nI_toInt (by omega); have := i_nlt c18; have : (1 : Int32).toInt = 1 := rfl; have : (nI sz13).toInt = ((sz13 : Nat) : Int) := nI_toInt (by omega); have := sub_t (x := nI sz13) (y := nI k17) (by have := i_nlt c16; have := i_rg i; have : (0 : Int32).toInt = 0 := rfl; have := i_eq ek17; have : (nI k17).toInt = ((k17 : Nat) : Int) := nI_toInt (by omega); have : (nI sz13).toInt = ((sz13 : Nat) : Int) := nI_toInt (by omega); omega) (by have := i_nlt c16; have := i_rg i; have : (0 : Int32).toInt = 0 := rfl; have := i_eq ek17; have : (nI k17).toInt = ((k17 : Nat) : Int) := nI_toInt (by omega); have : (nI sz13).toInt = ((sz13 : Nat) : Int) := nI_toInt (by omega); omega); omega)) ?_
                    refine r_lc (x := 0) rfl rfl ?_
                    refine r_aload rfl rfl ?_
                    refine r_getA (b := ad 35) rfl ⟨rfl, rfl, rfl⟩ (fx_t30 fx) (fx_r30_4 fx) ?_
                    refine r_iload rfl rfl ?_
                    refine r_iaload rfl (.inl (fx_t35 fx)) (vp_ct (fx_n35 fx) (vp_in_nI (by omega) (by omega))) ?_
                    refine WR_tI (congrArg (hI (sR (sI h (ad 0) 6 0) (mid t13 + 1) k17 (some (mid t7))) (ad 35)) ((nI_clamp (by omega)) : _ = t13)) ?_
                    refine WR_tI (y := nI sz13) (Eq.trans I_oR (Eq.trans (I_ne (fx_ne fx (by decide))) sz_13)) ?_
                    refine r_ic (x := 1) rfl rfl ?_
                    refine r_isub rfl ?_
                    refine WR_tI (y := nI (sz13 - 1)) (Eq.trans (pk_sub (a := sz13) (b := 1) (by have := i_nlt c16; have := i_rg i; have : (0 : Int32).toInt = 0 := rfl; have := i_eq ek17; have : (nI k17).toInt = ((k17 : Nat) : Int) := nI_toInt (by omega); have := i_nlt c18; have : (1 : Int32).toInt = 1 := rfl; have : (nI sz13).toInt = ((sz13 : Nat) : Int) := nI_toInt (by omega); have := sub_t (x := nI sz13) (y := nI k17) (by have := i_nlt c16; have := i_rg i; have : (0 : Int32).toInt = 0 := rfl; have := i_eq ek17; have : (nI k17).toInt = ((k17 : Nat) : Int) := nI_toInt (by omega); have : (nI sz13).toInt = ((sz13 : Nat) : Int) := nI_toInt (by omega); omega) (by have := i_nlt c16; have := i_rg i; have : (0 : Int32).toInt = 0 := rfl; have := i_eq ek17; have : (nI k17).toInt = ((k17 : Nat) : Int) := nI_toInt (by omega); have : (nI sz13).toInt = ((sz13 : Nat) : Int) := nI_toInt (by omega); omega); omega)) (congrArg nI (by have := i_nlt c16; have := i_rg i; have : (0 : Int32).toInt = 0 := rfl; have := i_eq ek17; have : (nI k17).toInt = ((k17 : Nat) : Int) := nI_toInt (by omega); have := i_nlt c18; have : (1 : Int32).toInt = 1 := rfl; have : (nI sz13).toInt = ((sz13 : Nat) : Int) := nI_toInt (by omega); have := sub_t (x := nI sz13) (y := nI k17) (by have := i_nlt c16; have := i_rg i; have : (0 : Int32).toInt = 0 := rfl; have := i_eq ek17; have : (nI k17).toInt = ((k17 : Nat) : Int) := nI_toInt (by omega); have : (nI sz13).toInt = ((sz13 : Nat) : Int) := nI_toInt (by omega); omega) (by have := i_nlt c16; have := i_rg i; have : (0 : Int32).toInt = 0 := rfl; have := i_eq ek17; have : (nI k17).toInt = ((k17 : Nat) : Int) := nI_toInt (by omega); have : (nI sz13).toInt = ((sz13 : Nat) : Int) := nI_toInt (by omega); omega); omega))) ?_
                    refine r_i2l rfl ?_
                    refine WR_tL (y := lN (sz13 - 1)) (nI_l (by have := i_nlt c16; have := i_rg i; have : (0 : Int32).toInt = 0 := rfl; have := i_eq ek17; have : (nI k17).toInt = ((k17 : Nat) : Int) := nI_toInt (by omega); have := i_nlt c18; have : (1 : Int32).toInt = 1 := rfl; have : (nI sz13).toInt = ((sz13 : Nat) : Int) := nI_toInt (by omega); have := sub_t (x := nI sz13) (y := nI k17) (by have := i_nlt c16; have := i_rg i; have : (0 : Int32).toInt = 0 := rfl; have := i_eq ek17; have : (nI k17).toInt = ((k17 : Nat) : Int) := nI_toInt (by omega); have : (nI sz13).toInt = ((sz13 : Nat) : Int) := nI_toInt (by omega); omega) (by have := i_nlt c16; have := i_rg i; have : (0 : Int32).toInt = 0 := rfl; have := i_eq ek17; have : (nI k17).toInt = ((k17 : Nat) : Int) := nI_toInt (by omega); have : (nI sz13).toInt = ((sz13 : Nat) : Int) := nI_toInt (by omega); omega); omega)) ?_
                    refine r_cs (y := 155) (ra := [.long (lN (sz13 - 1)), .long 0, .long (lN k17)]) (rest := []) rfl ⟨⟨rfl, rfl⟩, by decide⟩ rfl rfl (Nat.le_of_ble_eq_true rfl) ?_
                    refine in_155 (Nat.le_of_ble_eq_true rfl) ?_
                    show WR _ cd_155 0 [some (.long (lN k17)), none, some (.long 0), none, some (.long (lN (sz13 - 1))), none] [] (sR (sI h (ad 0) 6 0) (mid t13 + 1) k17 (some (mid t7))) _
                    refine r_lload rfl rfl ?_
                    refine r_lload rfl rfl ?_
                    refine r_lif_lt (tg := 17) rfl rfl rfl (fun q => False.elim (by have := i_nlt c16; have := i_rg i; have : (0 : Int32).toInt = 0 := rfl; have := i_eq ek17; have : (nI k17).toInt = ((k17 : Nat) : Int) := nI_toInt (by omega); have := i_nlt c18; have : (1 : Int32).toInt = 1 := rfl; have : (nI sz13).toInt = ((sz13 : Nat) : Int) := nI_toInt (by omega); have := sub_t (x := nI sz13) (y := nI k17) (by have := i_nlt c16; have := i_rg i; have : (0 : Int32).toInt = 0 := rfl; have := i_eq ek17; have : (nI k17).toInt = ((k17 : Nat) : Int) := nI_toInt (by omega); have : (nI sz13).toInt = ((sz13 : Nat) : Int) := nI_toInt (by omega); omega) (by have := i_nlt c16; have := i_rg i; have : (0 : Int32).toInt = 0 := rfl; have := i_eq ek17; have : (nI k17).toInt = ((k17 : Nat) : Int) := nI_toInt (by omega); have : (nI sz13).toInt = ((sz13 : Nat) : Int) := nI_toInt (by omega); omega); have : (lN k17).toInt = ((k17 : Nat) : Int) := lN_toInt (by omega); have : (0 : Int64).toInt = 0 := rfl; have := l_lt q; omega)) (fun _ => ?_)
                    refine r_lload rfl rfl ?_
                    refine r_lload rfl rfl ?_
                    refine r_lif_gt (tg := 17) rfl rfl rfl (fun q => False.elim (by have := i_nlt c16; have := i_rg i; have : (0 : Int32).toInt = 0 := rfl; have := i_eq ek17; have : (nI k17).toInt = ((k17 : Nat) : Int) := nI_toInt (by omega); have := i_nlt c18; have : (1 : Int32).toInt = 1 := rfl; have : (nI sz13).toInt = ((sz13 : Nat) : Int) := nI_toInt (by omega); have := sub_t (x := nI sz13) (y := nI k17) (by have := i_nlt c16; have := i_rg i; have : (0 : Int32).toInt = 0 := rfl; have := i_eq ek17; have : (nI k17).toInt = ((k17 : Nat) : Int) := nI_toInt (by omega); have : (nI sz13).toInt = ((sz13 : Nat) : Int) := nI_toInt (by omega); omega) (by have := i_nlt c16; have := i_rg i; have : (0 : Int32).toInt = 0 := rfl; have := i_eq ek17; have : (nI k17).toInt = ((k17 : Nat) : Int) := nI_toInt (by omega); have : (nI sz13).toInt = ((sz13 : Nat) : Int) := nI_toInt (by omega); omega); have : (lN k17).toInt = ((k17 : Nat) : Int) := lN_toInt (by omega); have : (lN (sz13 - 1)).toInt = ((sz13 - 1 : Nat) : Int) := lN_toInt (by omega); have := l_lt q; omega)) (fun _ => ?_)
                    refine r_ic (x := 1) rfl rfl ?_
                    refine r_goto (tg := 18) rfl rfl ?_
                    refine r_zret rfl (.inr rfl) ?_
                    show WR _ cd_168 42 [some (.ref (ad 30)), some (.int (nI t13)), some (.int 8), some (.int (nI k17))] [.int 1] (sR (sI h (ad 0) 6 0) (mid t13 + 1) k17 (some (mid t7))) _
                    refine r_if_ne (tg := 49) rfl rfl (fun _ => ?_) (fun q => absurd q (by decide))
                    refine r_ic (x := 0) rfl rfl ?_
                    refine r_iret rfl ?_
                    show WR _ cd_175 85 [some (.ref (ad 30)), some (.int c), some (.int i), some (.int d), some (.int (nI t13)), some (.int (nI t7)), none] [.int 0] (sR (sI h (ad 0) 6 0) (mid t13 + 1) k17 (some (mid t7))) _
                    refine r_istore (lv' := [some (.ref (ad 30)), some (.int c), some (.int i), some (.int d), some (.int (nI t13)), some (.int (nI t7)), some (.int 0)]) rfl (Nat.le_of_ble_eq_true rfl) rfl ?_
                    refine r_iload rfl rfl ?_
                    refine r_if_le (tg := 99) rfl rfl (fun _ => ?_) (fun q => absurd q (by decide))
                    refine r_aload rfl rfl ?_
                    refine r_getA (b := ad 36) rfl ⟨rfl, rfl, rfl⟩ (fx_t30 fx) (fx_r30_5 fx) ?_
                    refine r_ic (x := 30) rfl rfl ?_
                    refine r_iload rfl rfl ?_
                    refine r_imul rfl ?_
                    refine WR_tI (y := nI (30 * t13)) (Eq.trans (pk_mul 30 t13) (congrArg nI (by omega))) ?_
                    refine r_iload rfl rfl ?_
                    refine WR_tI (y := nI k17) ek17 ?_
                    refine r_iadd rfl ?_
                    refine WR_tI (y := nI (30 * t13 + k17)) (Eq.trans (nI_add (30 * t13) k17) (congrArg nI (by have := i_nlt c16; have := i_rg i; have : (0 : Int32).toInt = 0 := rfl; have := i_eq ek17; have : (nI k17).toInt = ((k17 : Nat) : Int) := nI_toInt (by omega); have := i_nlt c18; have : (1 : Int32).toInt = 1 := rfl; have : (nI sz13).toInt = ((sz13 : Nat) : Int) := nI_toInt (by omega); have := sub_t (x := nI sz13) (y := nI k17) (by have := i_nlt c16; have := i_rg i; have : (0 : Int32).toInt = 0 := rfl; have := i_eq ek17; have : (nI k17).toInt = ((k17 : Nat) : Int) := nI_toInt (by omega); have : (nI sz13).toInt = ((sz13 : Nat) : Int) := nI_toInt (by omega); omega) (by have := i_nlt c16; have := i_rg i; have : (0 : Int32).toInt = 0 := rfl; have := i_eq ek17; have : (nI k17).toInt = ((k17 : Nat) : Int) := nI_toInt (by omega); have : (nI sz13).toInt = ((sz13 : Nat) : Int) := nI_toInt (by omega); omega); omega))) ?_
                    refine r_iload rfl rfl ?_
                    refine r_i2l rfl ?_
                    refine WR_tL (y := lN t7) (nI_l (by omega)) ?_
                    refine r_lastore rfl (fx_t36 fx) (vp_ct (fx_n36 fx) (vp_in_nI (by have := i_nlt c16; have := i_rg i; have : (0 : Int32).toInt = 0 := rfl; have := i_eq ek17; have : (nI k17).toInt = ((k17 : Nat) : Int) := nI_toInt (by omega); have := i_nlt c18; have : (1 : Int32).toInt = 1 := rfl; have : (nI sz13).toInt = ((sz13 : Nat) : Int) := nI_toInt (by omega); have := sub_t (x := nI sz13) (y := nI k17) (by have := i_nlt c16; have := i_rg i; have : (0 : Int32).toInt = 0 := rfl; have := i_eq ek17; have : (nI k17).toInt = ((k17 : Nat) : Int) := nI_toInt (by omega); have : (nI sz13).toInt = ((sz13 : Nat) : Int) := nI_toInt (by omega); omega) (by have := i_nlt c16; have := i_rg i; have : (0 : Int32).toInt = 0 := rfl; have := i_eq ek17; have : (nI k17).toInt = ((k17 : Nat) : Int) := nI_toInt (by omega); have : (nI sz13).toInt = ((sz13 : Nat) : Int) := nI_toInt (by omega); omega); omega) (by omega))) ?_
                    refine WR_h (h2 := sL (sR (sI h (ad 0) 6 0) (mid t13 + 1) k17 (some (mid t7))) (ad 36) (30 * t13 + k17) (lN t7)) (congrArg (fun z => sL (sR (sI h (ad 0) 6 0) (mid t13 + 1) k17 (some (mid t7))) (ad 36) z (lN t7)) ((nI_clamp (by have := i_nlt c16; have := i_rg i; have : (0 : Int32).toInt = 0 := rfl; have := i_eq ek17; have : (nI k17).toInt = ((k17 : Nat) : Int) := nI_toInt (by omega); have := i_nlt c18; have : (1 : Int32).toInt = 1 := rfl; have : (nI sz13).toInt = ((sz13 : Nat) : Int) := nI_toInt (by omega); have := sub_t (x := nI sz13) (y := nI k17) (by have := i_nlt c16; have := i_rg i; have : (0 : Int32).toInt = 0 := rfl; have := i_eq ek17; have : (nI k17).toInt = ((k17 : Nat) : Int) := nI_toInt (by omega); have : (nI sz13).toInt = ((sz13 : Nat) : Int) := nI_toInt (by omega); omega) (by have := i_nlt c16; have := i_rg i; have : (0 : Int32).toInt = 0 := rfl; have := i_eq ek17; have : (nI k17).toInt = ((k17 : Nat) : Int) := nI_toInt (by omega); have : (nI sz13).toInt = ((sz13 : Nat) : Int) := nI_toInt (by omega); omega); omega)) : _ = 30 * t13 + k17)) ?_
                    have fx : FX n ad sa z0 (sL (sR (sI h (ad 0) 6 0) (mid t13 + 1) k17 (some (mid t7))) (ad 36) (30 * t13 + k17) (lN t7)) := (FX.sL fx)
                    refine r_aload rfl rfl ?_
                    refine r_ic (x := 1) rfl rfl ?_
                    refine r_cv (y := 154) (ra := [.int 1]) (rest := []) rfl ⟨⟨rfl, rfl⟩, rfl, by decide⟩ (fx_t30 fx) rfl rfl (Nat.le_of_ble_eq_true rfl) ?_
                    refine in_154 (Nat.le_of_ble_eq_true rfl) ?_
                    show WR _ cd_154 0 [some (.ref (ad 30)), some (.int 1)] [] (sL (sR (sI h (ad 0) 6 0) (mid t13 + 1) k17 (some (mid t7))) (ad 36) (30 * t13 + k17) (lN t7)) _
                    refine r_aload rfl rfl ?_
                    refine r_iload rfl rfl ?_
                    refine r_ic (x := (-1)) rfl rfl ?_
                    refine r_icmp_ge (tg := 10) rfl rfl (fun _ => ?_) (fun q => absurd q (by decide))
                    refine r_ic (x := 0) rfl rfl ?_
                    refine r_putI rfl ⟨rfl, rfl, rfl⟩ (fx_t30 fx) ?_
                    have fx : FX n ad sa z0 (sI (sL (sR (sI h (ad 0) 6 0) (mid t13 + 1) k17 (some (mid t7))) (ad 36) (30 * t13 + k17) (lN t7)) (ad 30) 11 0) := (FX.sI fx)
                    refine r_iload rfl rfl ?_
                    refine r_iret rfl ?_
                    show WR _ cd_175 119 [some (.ref (ad 30)), some (.int c), some (.int i), some (.int d), some (.int (nI t13)), some (.int (nI t7)), some (.int 0)] [.int 1] (sI (sL (sR (sI h (ad 0) 6 0) (mid t13 + 1) k17 (some (mid t7))) (ad 36) (30 * t13 + k17) (lN t7)) (ad 30) 11 0) _
                    refine r_iret rfl ?_
                    have rI : Rel n ad sa z0 (sL (sR h (mid t13 + 1) k17 (some (mid t7))) (ad 36) (30 * t13 + k17) (lN t7)) := Rel_own fx0 ry rt ra rp rf rst ru dz13 (Rs.link fx0 rs ht13 (.inl ⟨k2, (by have := i_nlt c1; have := i_rg c; have : (0 : Int32).toInt = 0 := rfl; have := i_eq ek2; have : (nI k2).toInt = ((k2 : Nat) : Int) := nI_toInt (by omega); have := i_nle c3; have : (24 : Int32).toInt = 24 := rfl; omega), v13⟩) rw13 sz_13 (by have := i_nlt c16; have := i_rg i; have : (0 : Int32).toInt = 0 := rfl; have := i_eq ek17; have : (nI k17).toInt = ((k17 : Nat) : Int) := nI_toInt (by omega); have := i_nlt c18; have : (1 : Int32).toInt = 1 := rfl; have : (nI sz13).toInt = ((sz13 : Nat) : Int) := nI_toInt (by omega); have := sub_t (x := nI sz13) (y := nI k17) (by have := i_nlt c16; have := i_rg i; have : (0 : Int32).toInt = 0 := rfl; have := i_eq ek17; have : (nI k17).toInt = ((k17 : Nat) : Int) := nI_toInt (by omega); have : (nI sz13).toInt = ((sz13 : Nat) : Int) := nI_toInt (by omega); omega) (by have := i_nlt c16; have := i_rg i; have : (0 : Int32).toInt = 0 := rfl; have := i_eq ek17; have : (nI k17).toInt = ((k17 : Nat) : Int) := nI_toInt (by omega); have : (nI sz13).toInt = ((sz13 : Nat) : Int) := nI_toInt (by omega); omega); omega) hs_13 (.inr ⟨t7, ht7, rfl, rfl, (by have q_ := rw7; rw [show ln7 = 3 from (by have := i_eq c15; have : (nI ln7).toInt = ((ln7 : Nat) : Int) := nI_toInt (by omega); have : (3 : Int32).toInt = 3 := rfl; omega)] at q_; exact q_), (.inl ⟨k5, (by have := i_nlt c4; have := i_rg d; have : (0 : Int32).toInt = 0 := rfl; have := i_eq ek5; have : (nI k5).toInt = ((k5 : Nat) : Int) := nI_toInt (by omega); have := i_nle c6; have : (24 : Int32).toInt = 24 := rfl; omega), v7⟩)⟩))
                    exact ⟨rfl, Rel.why rI ((Chg.rf.sI (fx_j fx0) (k := 6) (v := 0) (.inl (by decide))).sI (fx_j fx0) (k := 11) (v := 0) (.inl (by decide))) ⟨rfl, by decide⟩ (Eq.trans (Eq.trans (I_ne (fx_ne fx (by decide))) I_eq) (Eq.symm I_eq)), (by (try simp only [hZ_sI, hZ_sL, hZ_sD, hZ_sR]); omega), (by (try simp only [hU_sI, hU_sL, hU_sD, hU_sR]); omega)⟩
              · refine r_aload rfl rfl ?_
                refine r_ic (x := (-14)) rfl rfl ?_
                refine r_cv (y := 13) (ra := [.int (-14)]) (rest := []) rfl ⟨⟨rfl, rfl⟩, rfl, by decide⟩ (fx_t0 fx) rfl rfl (Nat.le_of_ble_eq_true rfl) ?_
                refine in_13 (Nat.le_of_ble_eq_true rfl) ?_
                show WR _ cd_13 0 [some (.ref (ad 0)), some (.int (-14))] [] (sI h (ad 0) 6 0) _
                refine r_aload rfl rfl ?_
                refine r_iload rfl rfl ?_
                refine r_putI rfl ⟨rfl, rfl, rfl⟩ (fx_t0 fx) ?_
                have fx : FX n ad sa z0 (sI (sI h (ad 0) 6 0) (ad 0) 6 (-14)) := (FX.sI fx)
                refine r_iload rfl rfl ?_
                refine r_iret rfl ?_
                show WR _ cd_46 47 [some (.ref (ad 0)), some (.int (nI k2)), some (.int 8), some (.int i), some (.int (nI k5)), some (.int 3), some (.ref (mid t7)), some (.ref (mid t13))] [.int (-14)] (sI (sI h (ad 0) 6 0) (ad 0) 6 (-14)) _
                refine r_iret rfl ?_
                show WR _ cd_45 36 [some (.ref (ad 0)), some (.int c), some (.int i), some (.int d)] [.int (-14)] (sI (sI h (ad 0) 6 0) (ad 0) 6 (-14)) _
                refine r_iret rfl ?_
                show EV _ 175 [.ref (ad 30), .int c, .int i, .int d] (sI (sI h (ad 0) 6 0) (ad 0) 6 (-14)) _
                refine in_175 (Nat.le_of_ble_eq_true rfl) ?_
                show WR _ cd_175 0 [some (.ref (ad 30)), some (.int c), some (.int i), some (.int d), none, none, none] [] (sI (sI h (ad 0) 6 0) (ad 0) 6 (-14)) _
                refine r_iload rfl rfl ?_
                refine WR_tI (y := nI k2) ek2 ?_
                refine r_cs (y := 153) (ra := [.int (nI k2)]) (rest := []) rfl ⟨⟨rfl, rfl⟩, by decide⟩ rfl rfl (Nat.le_of_ble_eq_true rfl) ?_
                refine in_153 (Nat.le_of_ble_eq_true rfl) ?_
                show WR _ cd_153 0 [some (.int (nI k2))] [] (sI (sI h (ad 0) 6 0) (ad 0) 6 (-14)) _
                refine r_iload rfl rfl ?_
                refine r_if_lt (tg := 14) rfl rfl (fun q => False.elim (by have := i_nlt c1; have := i_rg c; have : (0 : Int32).toInt = 0 := rfl; have := i_eq ek2; have : (nI k2).toInt = ((k2 : Nat) : Int) := nI_toInt (by omega); have := i_nle c3; have : (24 : Int32).toInt = 24 := rfl; have := i_lt q; omega)) (fun _ => ?_)
                refine r_iload rfl rfl ?_
                refine r_ic (x := 24) rfl rfl ?_
                refine r_icmp_ge (tg := 14) rfl rfl (fun q => False.elim (by have := i_nlt c1; have := i_rg c; have : (0 : Int32).toInt = 0 := rfl; have := i_eq ek2; have : (nI k2).toInt = ((k2 : Nat) : Int) := nI_toInt (by omega); have := i_nle c3; have : (24 : Int32).toInt = 24 := rfl; have := i_le q; omega)) (fun _ => ?_)
                refine r_ic (x := 1) rfl rfl ?_
                refine r_goto (tg := 15) rfl rfl ?_
                refine r_zret rfl (.inr rfl) ?_
                show WR _ cd_175 4 [some (.ref (ad 30)), some (.int c), some (.int i), some (.int d), none, none, none] [.int 1] (sI (sI h (ad 0) 6 0) (ad 0) 6 (-14)) _
                refine r_if_eq (tg := 14) rfl rfl (fun q => absurd q (by decide)) (fun _ => ?_)
                refine r_iload rfl rfl ?_
                refine WR_tI (y := nI k5) ek5 ?_
                refine r_cs (y := 153) (ra := [.int (nI k5)]) (rest := []) rfl ⟨⟨rfl, rfl⟩, by decide⟩ rfl rfl (Nat.le_of_ble_eq_true rfl) ?_
                refine in_153 (Nat.le_of_ble_eq_true rfl) ?_
                show WR _ cd_153 0 [some (.int (nI k5))] [] (sI (sI h (ad 0) 6 0) (ad 0) 6 (-14)) _
                refine r_iload rfl rfl ?_
                refine r_if_lt (tg := 14) rfl rfl (fun q => False.elim (by have := i_nlt c4; have := i_rg d; have : (0 : Int32).toInt = 0 := rfl; have := i_eq ek5; have : (nI k5).toInt = ((k5 : Nat) : Int) := nI_toInt (by omega); have := i_nle c6; have : (24 : Int32).toInt = 24 := rfl; have := i_lt q; omega)) (fun _ => ?_)
                refine r_iload rfl rfl ?_
                refine r_ic (x := 24) rfl rfl ?_
                refine r_icmp_ge (tg := 14) rfl rfl (fun q => False.elim (by have := i_nlt c4; have := i_rg d; have : (0 : Int32).toInt = 0 := rfl; have := i_eq ek5; have : (nI k5).toInt = ((k5 : Nat) : Int) := nI_toInt (by omega); have := i_nle c6; have : (24 : Int32).toInt = 24 := rfl; have := i_le q; omega)) (fun _ => ?_)
                refine r_ic (x := 1) rfl rfl ?_
                refine r_goto (tg := 15) rfl rfl ?_
                refine r_zret rfl (.inr rfl) ?_
                show WR _ cd_175 11 [some (.ref (ad 30)), some (.int c), some (.int i), some (.int d), none, none, none] [.int 1] (sI (sI h (ad 0) 6 0) (ad 0) 6 (-14)) _
                refine r_if_ne (tg := 21) rfl rfl (fun _ => ?_) (fun q => absurd q (by decide))
                refine r_aload rfl rfl ?_
                refine r_getA (b := ad 31) rfl ⟨rfl, rfl, rfl⟩ (fx_t30 fx) (fx_r30_0 fx) ?_
                refine r_iload rfl rfl ?_
                refine WR_tI (y := nI k2) ek2 ?_
                refine r_iaload rfl (.inl (fx_t31 fx)) (vp_ct (fx_n31 fx) (vp_in_nI (by have := i_nlt c1; have := i_rg c; have : (0 : Int32).toInt = 0 := rfl; have := i_eq ek2; have : (nI k2).toInt = ((k2 : Nat) : Int) := nI_toInt (by omega); have := i_nle c3; have : (24 : Int32).toInt = 24 := rfl; omega) (by omega))) ?_
                refine WR_tI (congrArg (hI (sI (sI h (ad 0) 6 0) (ad 0) 6 (-14)) (ad 31)) ((nI_clamp (by have := i_nlt c1; have := i_rg c; have : (0 : Int32).toInt = 0 := rfl; have := i_eq ek2; have : (nI k2).toInt = ((k2 : Nat) : Int) := nI_toInt (by omega); have := i_nle c3; have : (24 : Int32).toInt = 24 := rfl; omega)) : _ = k2)) ?_
                refine WR_tI (y := nI t13) (Eq.trans (I_ne (fx_ne fx (by decide))) (Eq.trans (I_ne (fx_ne fx (by decide))) v13)) ?_
                refine r_istore (lv' := [some (.ref (ad 30)), some (.int c), some (.int i), some (.int d), some (.int (nI t13)), none, none]) rfl (Nat.le_of_ble_eq_true rfl) rfl ?_
                refine r_aload rfl rfl ?_
                refine r_getA (b := ad 31) rfl ⟨rfl, rfl, rfl⟩ (fx_t30 fx) (fx_r30_0 fx) ?_
                refine r_iload rfl rfl ?_
                refine WR_tI (y := nI k5) ek5 ?_
                refine r_iaload rfl (.inl (fx_t31 fx)) (vp_ct (fx_n31 fx) (vp_in_nI (by have := i_nlt c4; have := i_rg d; have : (0 : Int32).toInt = 0 := rfl; have := i_eq ek5; have : (nI k5).toInt = ((k5 : Nat) : Int) := nI_toInt (by omega); have := i_nle c6; have : (24 : Int32).toInt = 24 := rfl; omega) (by omega))) ?_
                refine WR_tI (congrArg (hI (sI (sI h (ad 0) 6 0) (ad 0) 6 (-14)) (ad 31)) ((nI_clamp (by have := i_nlt c4; have := i_rg d; have : (0 : Int32).toInt = 0 := rfl; have := i_eq ek5; have : (nI k5).toInt = ((k5 : Nat) : Int) := nI_toInt (by omega); have := i_nle c6; have : (24 : Int32).toInt = 24 := rfl; omega)) : _ = k5)) ?_
                refine WR_tI (y := nI t7) (Eq.trans (I_ne (fx_ne fx (by decide))) (Eq.trans (I_ne (fx_ne fx (by decide))) v7)) ?_
                refine r_istore (lv' := [some (.ref (ad 30)), some (.int c), some (.int i), some (.int d), some (.int (nI t13)), some (.int (nI t7)), none]) rfl (Nat.le_of_ble_eq_true rfl) rfl ?_
                refine r_iload rfl rfl ?_
                refine r_ic (x := (-1)) rfl rfl ?_
                refine r_icmp_eq (tg := 54) rfl rfl (fun q => False.elim (by have : (nI t13).toInt = ((t13 : Nat) : Int) := nI_toInt (by omega); have : (-1 : Int32).toInt = -1 := rfl; have := i_eq q; omega)) (fun _ => ?_)
                refine r_aload rfl rfl ?_
                refine r_iload rfl rfl ?_
                refine r_cv (y := 166) (ra := [.int (nI t13)]) (rest := []) rfl ⟨⟨rfl, rfl⟩, rfl, by decide⟩ (fx_t30 fx) rfl rfl (Nat.le_of_ble_eq_true rfl) ?_
                refine in_166 (Nat.le_of_ble_eq_true rfl) ?_
                show WR _ cd_166 0 [some (.ref (ad 30)), some (.int (nI t13))] [] (sI (sI h (ad 0) 6 0) (ad 0) 6 (-14)) _
                refine r_iload rfl rfl ?_
                refine r_ic (x := (-1)) rfl rfl ?_
                refine r_icmp_ne (tg := 9) rfl rfl (fun _ => ?_) (fun q => False.elim (by have : (nI t13).toInt = ((t13 : Nat) : Int) := nI_toInt (by omega); have : (-1 : Int32).toInt = -1 := rfl; have := i_eq q; omega))
                refine r_iload rfl rfl ?_
                refine r_ic (x := 1000) rfl rfl ?_
                refine r_icmp_lt (tg := 21) rfl rfl (fun _ => ?_) (fun q => False.elim (by have : (nI t13).toInt = ((t13 : Nat) : Int) := nI_toInt (by omega); have : (1000 : Int32).toInt = 1000 := rfl; have := i_nlt q; omega))
                refine r_aload rfl rfl ?_
                refine r_getA (b := ad 33) rfl ⟨rfl, rfl, rfl⟩ (fx_t30 fx) (fx_r30_2 fx) ?_
                refine r_iload rfl rfl ?_
                refine r_iaload rfl (.inl (fx_t33 fx)) (vp_ct (fx_n33 fx) (vp_in_nI (by omega) (by omega))) ?_
                refine WR_tI (congrArg (hI (sI (sI h (ad 0) 6 0) (ad 0) 6 (-14)) (ad 33)) ((nI_clamp (by omega)) : _ = t13)) ?_
                refine WR_tI (y := 8) (Eq.trans (I_ne (fx_ne fx (by decide))) (Eq.trans (I_ne (fx_ne fx (by decide))) l2_13)) ?_
                refine r_iret rfl ?_
                show WR _ cd_175 49 [some (.ref (ad 30)), some (.int c), some (.int i), some (.int d), some (.int (nI t13)), some (.int (nI t7)), none] [.int 8] (sI (sI h (ad 0) 6 0) (ad 0) 6 (-14)) _
                refine r_ic (x := 8) rfl rfl ?_
                refine r_icmp_ne (tg := 70) rfl rfl (fun q => absurd q (by decide)) (fun _ => ?_)
                refine r_iload rfl rfl ?_
                refine r_ic (x := (-1)) rfl rfl ?_
                refine r_icmp_eq (tg := 76) rfl rfl (fun q => False.elim (by have : (nI t7).toInt = ((t7 : Nat) : Int) := nI_toInt (by omega); have : (-1 : Int32).toInt = -1 := rfl; have := i_eq q; omega)) (fun _ => ?_)
                refine r_aload rfl rfl ?_
                refine r_iload rfl rfl ?_
                refine r_cv (y := 166) (ra := [.int (nI t7)]) (rest := []) rfl ⟨⟨rfl, rfl⟩, rfl, by decide⟩ (fx_t30 fx) rfl rfl (Nat.le_of_ble_eq_true rfl) ?_
                refine in_166 (Nat.le_of_ble_eq_true rfl) ?_
                show WR _ cd_166 0 [some (.ref (ad 30)), some (.int (nI t7))] [] (sI (sI h (ad 0) 6 0) (ad 0) 6 (-14)) _
                refine r_iload rfl rfl ?_
                refine r_ic (x := (-1)) rfl rfl ?_
                refine r_icmp_ne (tg := 9) rfl rfl (fun _ => ?_) (fun q => False.elim (by have : (nI t7).toInt = ((t7 : Nat) : Int) := nI_toInt (by omega); have : (-1 : Int32).toInt = -1 := rfl; have := i_eq q; omega))
                refine r_iload rfl rfl ?_
                refine r_ic (x := 1000) rfl rfl ?_
                refine r_icmp_lt (tg := 21) rfl rfl (fun _ => ?_) (fun q => False.elim (by have : (nI t7).toInt = ((t7 : Nat) : Int) := nI_toInt (by omega); have : (1000 : Int32).toInt = 1000 := rfl; have := i_nlt q; omega))
                refine r_aload rfl rfl ?_
                refine r_getA (b := ad 33) rfl ⟨rfl, rfl, rfl⟩ (fx_t30 fx) (fx_r30_2 fx) ?_
                refine r_iload rfl rfl ?_
                refine r_iaload rfl (.inl (fx_t33 fx)) (vp_ct (fx_n33 fx) (vp_in_nI (by omega) (by omega))) ?_
                refine WR_tI (congrArg (hI (sI (sI h (ad 0) 6 0) (ad 0) 6 (-14)) (ad 33)) ((nI_clamp (by omega)) : _ = t7)) ?_
                refine WR_tI (y := nI ln7) (Eq.trans (I_ne (fx_ne fx (by decide))) (Eq.trans (I_ne (fx_ne fx (by decide))) l2_7)) ?_
                refine r_iret rfl ?_
                show WR _ cd_175 66 [some (.ref (ad 30)), some (.int c), some (.int i), some (.int d), some (.int (nI t13)), some (.int (nI t7)), none] [.int (nI ln7)] (sI (sI h (ad 0) 6 0) (ad 0) 6 (-14)) _
                refine r_ic (x := 3) rfl rfl ?_
                refine r_icmp_eq (tg := 76) rfl rfl (fun q => False.elim (by have := i_neq c15; have : (nI ln7).toInt = ((ln7 : Nat) : Int) := nI_toInt (by omega); have : (3 : Int32).toInt = 3 := rfl; have := i_eq q; omega)) (fun _ => ?_)
                refine r_aload rfl rfl ?_
                refine r_ic (x := 4) rfl rfl ?_
                refine r_cv (y := 156) (ra := [.int 4]) (rest := []) rfl ⟨⟨rfl, rfl⟩, rfl, by decide⟩ (fx_t30 fx) rfl rfl (Nat.le_of_ble_eq_true rfl) ?_
                refine in_156 (Nat.le_of_ble_eq_true rfl) ?_
                show WR _ cd_156 0 [some (.ref (ad 30)), some (.int 4)] [] (sI (sI h (ad 0) 6 0) (ad 0) 6 (-14)) _
                refine r_aload rfl rfl ?_
                refine r_ic (x := (-10)) rfl rfl ?_
                refine r_iload rfl rfl ?_
                refine r_isub rfl ?_
                refine WR_tI (y := (-14)) rfl ?_
                refine r_cv (y := 154) (ra := [.int (-14)]) (rest := []) rfl ⟨⟨rfl, rfl⟩, rfl, by decide⟩ (fx_t30 fx) rfl rfl (Nat.le_of_ble_eq_true rfl) ?_
                refine in_154 (Nat.le_of_ble_eq_true rfl) ?_
                show WR _ cd_154 0 [some (.ref (ad 30)), some (.int (-14))] [] (sI (sI h (ad 0) 6 0) (ad 0) 6 (-14)) _
                refine r_aload rfl rfl ?_
                refine r_iload rfl rfl ?_
                refine r_ic (x := (-1)) rfl rfl ?_
                refine r_icmp_ge (tg := 10) rfl rfl (fun q => absurd q (by decide)) (fun _ => ?_)
                refine r_iload rfl rfl ?_
                refine r_goto (tg := 11) rfl rfl ?_
                refine r_putI rfl ⟨rfl, rfl, rfl⟩ (fx_t30 fx) ?_
                have fx : FX n ad sa z0 (sI (sI (sI h (ad 0) 6 0) (ad 0) 6 (-14)) (ad 30) 11 (-14)) := (FX.sI fx)
                refine r_iload rfl rfl ?_
                refine r_iret rfl ?_
                show WR _ cd_156 8 [some (.ref (ad 30)), some (.int 4)] [.int (-14)] (sI (sI (sI h (ad 0) 6 0) (ad 0) 6 (-14)) (ad 30) 11 (-14)) _
                refine r_iret rfl ?_
                show WR _ cd_175 75 [some (.ref (ad 30)), some (.int c), some (.int i), some (.int d), some (.int (nI t13)), some (.int (nI t7)), none] [.int (-14)] (sI (sI (sI h (ad 0) 6 0) (ad 0) 6 (-14)) (ad 30) 11 (-14)) _
                refine r_iret rfl ?_
                exact ⟨rfl, Rel.why r (((Chg.rf.sI (fx_j fx) (.inl (by decide))).sI (fx_j fx) (.inl (by decide))).sI (fx_j fx) (.inl (by decide))) ⟨rfl, by decide⟩ (Eq.trans (Eq.trans (I_ne (fx_ne fx (by decide))) I_eq) (Eq.symm I_eq)), (by (try simp only [hZ_sI, hZ_sL, hZ_sD, hZ_sR]); omega), (by (try simp only [hU_sI, hU_sL, hU_sD, hU_sR]); omega)⟩
            · refine r_aaloadA (b := mid t13) rfl (isQ_of (fx_t1 fx) (by decide)) (vp_ct (fx_n1 fx) (vp_in_nI (by have := i_nlt c1; have := i_rg c; have : (0 : Int32).toInt = 0 := rfl; have := i_eq ek2; have : (nI k2).toInt = ((k2 : Nat) : Int) := nI_toInt (by omega); have := i_nle c3; have : (24 : Int32).toInt = 24 := rfl; omega) (by omega))) (Eq.trans (congrArg (hR (sI h (ad 0) 6 0) (ad 1)) ((nI_clamp (by have := i_nlt c1; have := i_rg c; have : (0 : Int32).toInt = 0 := rfl; have := i_eq ek2; have : (nI k2).toInt = ((k2 : Nat) : Int) := nI_toInt (by omega); have := i_nle c3; have : (24 : Int32).toInt = 24 := rfl; omega)) : _ = k2)) (Eq.trans R_oI w13)) ?_
              refine r_astore (lv' := [some (.ref (ad 0)), some (.int (nI k2)), some (.int 8), some (.ref (mid t13)), none]) rfl (Nat.le_of_ble_eq_true rfl) rfl ?_
              refine r_aload rfl rfl ?_
              refine r_instY rfl (by decide) tg13 ?_
              refine r_if_eq (tg := 32) rfl rfl (fun q => absurd q (by decide)) (fun _ => ?_)
              refine r_aload rfl rfl ?_
              refine r_cast rfl tg13 ?_
              refine r_astore (lv' := [some (.ref (ad 0)), some (.int (nI k2)), some (.int 8), some (.ref (mid t13)), some (.ref (mid t13))]) rfl (Nat.le_of_ble_eq_true rfl) rfl ?_
              refine r_aload rfl rfl ?_
              refine r_cv (y := 28) (ra := []) (rest := []) rfl ⟨⟨rfl, rfl⟩, rfl, by decide⟩ tg13 rfl rfl (Nat.le_of_ble_eq_true rfl) ?_
              refine in_28 (Nat.le_of_ble_eq_true rfl) ?_
              show WR _ cd_28 0 [some (.ref (mid t13))] [] (sI h (ad 0) 6 0) _
              refine r_aload rfl rfl ?_
              refine r_getI rfl ⟨rfl, rfl, rfl⟩ tg13 ?_
              refine WR_tI (y := nI kd13) (Eq.trans (I_ne (dy_ad fx (.inl (by decide)) dz13)) k1_13) ?_
              refine r_ic (x := (-1)) rfl rfl ?_
              refine r_icmp_ne (tg := 13) rfl rfl (fun _ => ?_) (fun q => False.elim (by have : (nI kd13).toInt = ((kd13 : Nat) : Int) := nI_toInt (by omega); have : (-1 : Int32).toInt = -1 := rfl; have := i_eq q; omega))
              refine r_ic (x := 9) rfl rfl ?_
              refine r_iret rfl ?_
              show WR _ cd_43 25 [some (.ref (ad 0)), some (.int (nI k2)), some (.int 8), some (.ref (mid t13)), some (.ref (mid t13))] [.int 9] (sI h (ad 0) 6 0) _
              refine r_iload rfl rfl ?_
              refine r_icmp_ne (tg := 32) rfl rfl (fun _ => ?_) (fun q => absurd q (by decide))
              refine r_aload rfl rfl ?_
              refine r_aload rfl rfl ?_
              refine r_ifnonnullA (tg := 42) rfl rfl ?_
              refine r_ic (x := (-14)) rfl rfl ?_
              refine r_putI rfl ⟨rfl, rfl, rfl⟩ (fx_t0 fx) ?_
              have fx : FX n ad sa z0 (sI (sI h (ad 0) 6 0) (ad 0) 6 (-14)) := (FX.sI fx)
              refine r_null rfl ?_
              refine r_aret0 rfl ?_
              show WR _ cd_46 15 [some (.ref (ad 0)), some (.int (nI k2)), some (.int 8), some (.int i), some (.int (nI k5)), some (.int 3), some (.ref (mid t7)), none] [.null] (sI (sI h (ad 0) 6 0) (ad 0) 6 (-14)) _
              refine r_astore0 (lv' := [some (.ref (ad 0)), some (.int (nI k2)), some (.int 8), some (.int i), some (.int (nI k5)), some (.int 3), some (.ref (mid t7)), some (.null)]) rfl (Nat.le_of_ble_eq_true rfl) rfl ?_
              refine r_aload rfl rfl ?_
              refine r_getI rfl ⟨rfl, rfl, rfl⟩ (fx_t0 fx) ?_
              refine WR_tI (y := (-14)) I_eq ?_
              refine r_ic (x := (-14)) rfl rfl ?_
              refine r_icmp_eq (tg := 41) rfl rfl (fun _ => ?_) (fun q => absurd q (by decide))
              refine r_aload rfl rfl ?_
              refine r_ic (x := (-14)) rfl rfl ?_
              refine r_cv (y := 13) (ra := [.int (-14)]) (rest := []) rfl ⟨⟨rfl, rfl⟩, rfl, by decide⟩ (fx_t0 fx) rfl rfl (Nat.le_of_ble_eq_true rfl) ?_
              refine in_13 (Nat.le_of_ble_eq_true rfl) ?_
              show WR _ cd_13 0 [some (.ref (ad 0)), some (.int (-14))] [] (sI (sI h (ad 0) 6 0) (ad 0) 6 (-14)) _
              refine r_aload rfl rfl ?_
              refine r_iload rfl rfl ?_
              refine r_putI rfl ⟨rfl, rfl, rfl⟩ (fx_t0 fx) ?_
              have fx : FX n ad sa z0 (sI (sI (sI h (ad 0) 6 0) (ad 0) 6 (-14)) (ad 0) 6 (-14)) := (FX.sI fx)
              refine r_iload rfl rfl ?_
              refine r_iret rfl ?_
              show WR _ cd_46 47 [some (.ref (ad 0)), some (.int (nI k2)), some (.int 8), some (.int i), some (.int (nI k5)), some (.int 3), some (.ref (mid t7)), some (.null)] [.int (-14)] (sI (sI (sI h (ad 0) 6 0) (ad 0) 6 (-14)) (ad 0) 6 (-14)) _
              refine r_iret rfl ?_
              show WR _ cd_45 36 [some (.ref (ad 0)), some (.int c), some (.int i), some (.int d)] [.int (-14)] (sI (sI (sI h (ad 0) 6 0) (ad 0) 6 (-14)) (ad 0) 6 (-14)) _
              refine r_iret rfl ?_
              show EV _ 175 [.ref (ad 30), .int c, .int i, .int d] (sI (sI (sI h (ad 0) 6 0) (ad 0) 6 (-14)) (ad 0) 6 (-14)) _
              refine in_175 (Nat.le_of_ble_eq_true rfl) ?_
              show WR _ cd_175 0 [some (.ref (ad 30)), some (.int c), some (.int i), some (.int d), none, none, none] [] (sI (sI (sI h (ad 0) 6 0) (ad 0) 6 (-14)) (ad 0) 6 (-14)) _
              refine r_iload rfl rfl ?_
              refine WR_tI (y := nI k2) ek2 ?_
              refine r_cs (y := 153) (ra := [.int (nI k2)]) (rest := []) rfl ⟨⟨rfl, rfl⟩, by decide⟩ rfl rfl (Nat.le_of_ble_eq_true rfl) ?_
              refine in_153 (Nat.le_of_ble_eq_true rfl) ?_
              show WR _ cd_153 0 [some (.int (nI k2))] [] (sI (sI (sI h (ad 0) 6 0) (ad 0) 6 (-14)) (ad 0) 6 (-14)) _
              refine r_iload rfl rfl ?_
              refine r_if_lt (tg := 14) rfl rfl (fun q => False.elim (by have := i_nlt c1; have := i_rg c; have : (0 : Int32).toInt = 0 := rfl; have := i_eq ek2; have : (nI k2).toInt = ((k2 : Nat) : Int) := nI_toInt (by omega); have := i_nle c3; have : (24 : Int32).toInt = 24 := rfl; have := i_lt q; omega)) (fun _ => ?_)
              refine r_iload rfl rfl ?_
              refine r_ic (x := 24) rfl rfl ?_
              refine r_icmp_ge (tg := 14) rfl rfl (fun q => False.elim (by have := i_nlt c1; have := i_rg c; have : (0 : Int32).toInt = 0 := rfl; have := i_eq ek2; have : (nI k2).toInt = ((k2 : Nat) : Int) := nI_toInt (by omega); have := i_nle c3; have : (24 : Int32).toInt = 24 := rfl; have := i_le q; omega)) (fun _ => ?_)
              refine r_ic (x := 1) rfl rfl ?_
              refine r_goto (tg := 15) rfl rfl ?_
              refine r_zret rfl (.inr rfl) ?_
              show WR _ cd_175 4 [some (.ref (ad 30)), some (.int c), some (.int i), some (.int d), none, none, none] [.int 1] (sI (sI (sI h (ad 0) 6 0) (ad 0) 6 (-14)) (ad 0) 6 (-14)) _
              refine r_if_eq (tg := 14) rfl rfl (fun q => absurd q (by decide)) (fun _ => ?_)
              refine r_iload rfl rfl ?_
              refine WR_tI (y := nI k5) ek5 ?_
              refine r_cs (y := 153) (ra := [.int (nI k5)]) (rest := []) rfl ⟨⟨rfl, rfl⟩, by decide⟩ rfl rfl (Nat.le_of_ble_eq_true rfl) ?_
              refine in_153 (Nat.le_of_ble_eq_true rfl) ?_
              show WR _ cd_153 0 [some (.int (nI k5))] [] (sI (sI (sI h (ad 0) 6 0) (ad 0) 6 (-14)) (ad 0) 6 (-14)) _
              refine r_iload rfl rfl ?_
              refine r_if_lt (tg := 14) rfl rfl (fun q => False.elim (by have := i_nlt c4; have := i_rg d; have : (0 : Int32).toInt = 0 := rfl; have := i_eq ek5; have : (nI k5).toInt = ((k5 : Nat) : Int) := nI_toInt (by omega); have := i_nle c6; have : (24 : Int32).toInt = 24 := rfl; have := i_lt q; omega)) (fun _ => ?_)
              refine r_iload rfl rfl ?_
              refine r_ic (x := 24) rfl rfl ?_
              refine r_icmp_ge (tg := 14) rfl rfl (fun q => False.elim (by have := i_nlt c4; have := i_rg d; have : (0 : Int32).toInt = 0 := rfl; have := i_eq ek5; have : (nI k5).toInt = ((k5 : Nat) : Int) := nI_toInt (by omega); have := i_nle c6; have : (24 : Int32).toInt = 24 := rfl; have := i_le q; omega)) (fun _ => ?_)
              refine r_ic (x := 1) rfl rfl ?_
              refine r_goto (tg := 15) rfl rfl ?_
              refine r_zret rfl (.inr rfl) ?_
              show WR _ cd_175 11 [some (.ref (ad 30)), some (.int c), some (.int i), some (.int d), none, none, none] [.int 1] (sI (sI (sI h (ad 0) 6 0) (ad 0) 6 (-14)) (ad 0) 6 (-14)) _
              refine r_if_ne (tg := 21) rfl rfl (fun _ => ?_) (fun q => absurd q (by decide))
              refine r_aload rfl rfl ?_
              refine r_getA (b := ad 31) rfl ⟨rfl, rfl, rfl⟩ (fx_t30 fx) (fx_r30_0 fx) ?_
              refine r_iload rfl rfl ?_
              refine WR_tI (y := nI k2) ek2 ?_
              refine r_iaload rfl (.inl (fx_t31 fx)) (vp_ct (fx_n31 fx) (vp_in_nI (by have := i_nlt c1; have := i_rg c; have : (0 : Int32).toInt = 0 := rfl; have := i_eq ek2; have : (nI k2).toInt = ((k2 : Nat) : Int) := nI_toInt (by omega); have := i_nle c3; have : (24 : Int32).toInt = 24 := rfl; omega) (by omega))) ?_
              refine WR_tI (congrArg (hI (sI (sI (sI h (ad 0) 6 0) (ad 0) 6 (-14)) (ad 0) 6 (-14)) (ad 31)) ((nI_clamp (by have := i_nlt c1; have := i_rg c; have : (0 : Int32).toInt = 0 := rfl; have := i_eq ek2; have : (nI k2).toInt = ((k2 : Nat) : Int) := nI_toInt (by omega); have := i_nle c3; have : (24 : Int32).toInt = 24 := rfl; omega)) : _ = k2)) ?_
              refine WR_tI (y := nI t13) (Eq.trans (I_ne (fx_ne fx (by decide))) (Eq.trans (I_ne (fx_ne fx (by decide))) (Eq.trans (I_ne (fx_ne fx (by decide))) v13))) ?_
              refine r_istore (lv' := [some (.ref (ad 30)), some (.int c), some (.int i), some (.int d), some (.int (nI t13)), none, none]) rfl (Nat.le_of_ble_eq_true rfl) rfl ?_
              refine r_aload rfl rfl ?_
              refine r_getA (b := ad 31) rfl ⟨rfl, rfl, rfl⟩ (fx_t30 fx) (fx_r30_0 fx) ?_
              refine r_iload rfl rfl ?_
              refine WR_tI (y := nI k5) ek5 ?_
              refine r_iaload rfl (.inl (fx_t31 fx)) (vp_ct (fx_n31 fx) (vp_in_nI (by have := i_nlt c4; have := i_rg d; have : (0 : Int32).toInt = 0 := rfl; have := i_eq ek5; have : (nI k5).toInt = ((k5 : Nat) : Int) := nI_toInt (by omega); have := i_nle c6; have : (24 : Int32).toInt = 24 := rfl; omega) (by omega))) ?_
              refine WR_tI (congrArg (hI (sI (sI (sI h (ad 0) 6 0) (ad 0) 6 (-14)) (ad 0) 6 (-14)) (ad 31)) ((nI_clamp (by have := i_nlt c4; have := i_rg d; have : (0 : Int32).toInt = 0 := rfl; have := i_eq ek5; have : (nI k5).toInt = ((k5 : Nat) : Int) := nI_toInt (by omega); have := i_nle c6; have : (24 : Int32).toInt = 24 := rfl; omega)) : _ = k5)) ?_
              refine WR_tI (y := nI t7) (Eq.trans (I_ne (fx_ne fx (by decide))) (Eq.trans (I_ne (fx_ne fx (by decide))) (Eq.trans (I_ne (fx_ne fx (by decide))) v7))) ?_
              refine r_istore (lv' := [some (.ref (ad 30)), some (.int c), some (.int i), some (.int d), some (.int (nI t13)), some (.int (nI t7)), none]) rfl (Nat.le_of_ble_eq_true rfl) rfl ?_
              refine r_iload rfl rfl ?_
              refine r_ic (x := (-1)) rfl rfl ?_
              refine r_icmp_eq (tg := 54) rfl rfl (fun q => False.elim (by have : (nI t13).toInt = ((t13 : Nat) : Int) := nI_toInt (by omega); have : (-1 : Int32).toInt = -1 := rfl; have := i_eq q; omega)) (fun _ => ?_)
              refine r_aload rfl rfl ?_
              refine r_iload rfl rfl ?_
              refine r_cv (y := 166) (ra := [.int (nI t13)]) (rest := []) rfl ⟨⟨rfl, rfl⟩, rfl, by decide⟩ (fx_t30 fx) rfl rfl (Nat.le_of_ble_eq_true rfl) ?_
              refine in_166 (Nat.le_of_ble_eq_true rfl) ?_
              show WR _ cd_166 0 [some (.ref (ad 30)), some (.int (nI t13))] [] (sI (sI (sI h (ad 0) 6 0) (ad 0) 6 (-14)) (ad 0) 6 (-14)) _
              refine r_iload rfl rfl ?_
              refine r_ic (x := (-1)) rfl rfl ?_
              refine r_icmp_ne (tg := 9) rfl rfl (fun _ => ?_) (fun q => False.elim (by have : (nI t13).toInt = ((t13 : Nat) : Int) := nI_toInt (by omega); have : (-1 : Int32).toInt = -1 := rfl; have := i_eq q; omega))
              refine r_iload rfl rfl ?_
              refine r_ic (x := 1000) rfl rfl ?_
              refine r_icmp_lt (tg := 21) rfl rfl (fun _ => ?_) (fun q => False.elim (by have : (nI t13).toInt = ((t13 : Nat) : Int) := nI_toInt (by omega); have : (1000 : Int32).toInt = 1000 := rfl; have := i_nlt q; omega))
              refine r_aload rfl rfl ?_
              refine r_getA (b := ad 33) rfl ⟨rfl, rfl, rfl⟩ (fx_t30 fx) (fx_r30_2 fx) ?_
              refine r_iload rfl rfl ?_
              refine r_iaload rfl (.inl (fx_t33 fx)) (vp_ct (fx_n33 fx) (vp_in_nI (by omega) (by omega))) ?_
              refine WR_tI (congrArg (hI (sI (sI (sI h (ad 0) 6 0) (ad 0) 6 (-14)) (ad 0) 6 (-14)) (ad 33)) ((nI_clamp (by omega)) : _ = t13)) ?_
              refine WR_tI (y := 9) (Eq.trans (I_ne (fx_ne fx (by decide))) (Eq.trans (I_ne (fx_ne fx (by decide))) (Eq.trans (I_ne (fx_ne fx (by decide))) l2_13))) ?_
              refine r_iret rfl ?_
              show WR _ cd_175 49 [some (.ref (ad 30)), some (.int c), some (.int i), some (.int d), some (.int (nI t13)), some (.int (nI t7)), none] [.int 9] (sI (sI (sI h (ad 0) 6 0) (ad 0) 6 (-14)) (ad 0) 6 (-14)) _
              refine r_ic (x := 8) rfl rfl ?_
              refine r_icmp_ne (tg := 70) rfl rfl (fun _ => ?_) (fun q => absurd q (by decide))
              refine r_aload rfl rfl ?_
              refine r_ic (x := 4) rfl rfl ?_
              refine r_cv (y := 156) (ra := [.int 4]) (rest := []) rfl ⟨⟨rfl, rfl⟩, rfl, by decide⟩ (fx_t30 fx) rfl rfl (Nat.le_of_ble_eq_true rfl) ?_
              refine in_156 (Nat.le_of_ble_eq_true rfl) ?_
              show WR _ cd_156 0 [some (.ref (ad 30)), some (.int 4)] [] (sI (sI (sI h (ad 0) 6 0) (ad 0) 6 (-14)) (ad 0) 6 (-14)) _
              refine r_aload rfl rfl ?_
              refine r_ic (x := (-10)) rfl rfl ?_
              refine r_iload rfl rfl ?_
              refine r_isub rfl ?_
              refine WR_tI (y := (-14)) rfl ?_
              refine r_cv (y := 154) (ra := [.int (-14)]) (rest := []) rfl ⟨⟨rfl, rfl⟩, rfl, by decide⟩ (fx_t30 fx) rfl rfl (Nat.le_of_ble_eq_true rfl) ?_
              refine in_154 (Nat.le_of_ble_eq_true rfl) ?_
              show WR _ cd_154 0 [some (.ref (ad 30)), some (.int (-14))] [] (sI (sI (sI h (ad 0) 6 0) (ad 0) 6 (-14)) (ad 0) 6 (-14)) _
              refine r_aload rfl rfl ?_
              refine r_iload rfl rfl ?_
              refine r_ic (x := (-1)) rfl rfl ?_
              refine r_icmp_ge (tg := 10) rfl rfl (fun q => absurd q (by decide)) (fun _ => ?_)
              refine r_iload rfl rfl ?_
              refine r_goto (tg := 11) rfl rfl ?_
              refine r_putI rfl ⟨rfl, rfl, rfl⟩ (fx_t30 fx) ?_
              have fx : FX n ad sa z0 (sI (sI (sI (sI h (ad 0) 6 0) (ad 0) 6 (-14)) (ad 0) 6 (-14)) (ad 30) 11 (-14)) := (FX.sI fx)
              refine r_iload rfl rfl ?_
              refine r_iret rfl ?_
              show WR _ cd_156 8 [some (.ref (ad 30)), some (.int 4)] [.int (-14)] (sI (sI (sI (sI h (ad 0) 6 0) (ad 0) 6 (-14)) (ad 0) 6 (-14)) (ad 30) 11 (-14)) _
              refine r_iret rfl ?_
              show WR _ cd_175 75 [some (.ref (ad 30)), some (.int c), some (.int i), some (.int d), some (.int (nI t13)), some (.int (nI t7)), none] [.int (-14)] (sI (sI (sI (sI h (ad 0) 6 0) (ad 0) 6 (-14)) (ad 0) 6 (-14)) (ad 30) 11 (-14)) _
              refine r_iret rfl ?_
              exact ⟨rfl, Rel.why r ((((Chg.rf.sI (fx_j fx) (.inl (by decide))).sI (fx_j fx) (.inl (by decide))).sI (fx_j fx) (.inl (by decide))).sI (fx_j fx) (.inl (by decide))) ⟨rfl, by decide⟩ (Eq.trans (Eq.trans (I_ne (fx_ne fx (by decide))) I_eq) (Eq.symm I_eq)), (by (try simp only [hZ_sI, hZ_sL, hZ_sD, hZ_sR]); omega), (by (try simp only [hU_sI, hU_sL, hU_sD, hU_sR]); omega)⟩
          · refine r_aaloadA (b := mid t7) rfl (isQ_of (fx_t1 fx) (by decide)) (vp_ct (fx_n1 fx) (vp_in_nI (by have := i_nlt c4; have := i_rg d; have : (0 : Int32).toInt = 0 := rfl; have := i_eq ek5; have : (nI k5).toInt = ((k5 : Nat) : Int) := nI_toInt (by omega); have := i_nle c6; have : (24 : Int32).toInt = 24 := rfl; omega) (by omega))) (Eq.trans (congrArg (hR (sI h (ad 0) 6 0) (ad 1)) ((nI_clamp (by have := i_nlt c4; have := i_rg d; have : (0 : Int32).toInt = 0 := rfl; have := i_eq ek5; have : (nI k5).toInt = ((k5 : Nat) : Int) := nI_toInt (by omega); have := i_nle c6; have : (24 : Int32).toInt = 24 := rfl; omega)) : _ = k5)) (Eq.trans R_oI w7)) ?_
            refine r_astore (lv' := [some (.ref (ad 0)), some (.int (nI k2)), some (.int 8), some (.int i), some (.int (nI k5)), some (.int 3), some (.ref (mid t7)), none]) rfl (Nat.le_of_ble_eq_true rfl) rfl ?_
            refine r_aload rfl rfl ?_
            refine r_iload rfl rfl ?_
            refine r_iload rfl rfl ?_
            refine r_cv (y := 43) (ra := [.int 8, .int (nI k2)]) (rest := []) rfl ⟨⟨rfl, rfl⟩, rfl, by decide⟩ (fx_t0 fx) rfl rfl (Nat.le_of_ble_eq_true rfl) ?_
            refine in_43 (Nat.le_of_ble_eq_true rfl) ?_
            show WR _ cd_43 0 [some (.ref (ad 0)), some (.int (nI k2)), some (.int 8), none, none] [] (sI h (ad 0) 6 0) _
            refine r_aload rfl rfl ?_
            refine r_getA (b := ad 1) rfl ⟨rfl, rfl, rfl⟩ (fx_t0 fx) (fx_r0_0 fx) ?_
            refine r_iload rfl rfl ?_
            rcases rs.cs (n := n) (sa := sa) (c := k2) (by have := i_nlt c1; have := i_rg c; have : (0 : Int32).toInt = 0 := rfl; have := i_eq ek2; have : (nI k2).toInt = ((k2 : Nat) : Int) := nI_toInt (by omega); have := i_nle c3; have : (24 : Int32).toInt = 24 := rfl; omega) with ⟨v19, w19⟩ | ⟨q19, kd19, hq19, hn19, v19, w19, dz19, tg19, s1_19, k1_19, k2_19, hk_19, we19⟩ | ⟨t19, ln19, sz19, ht19, v19, w19, dz19, tg19, r_19, tg2_19, l1_19, l2_19, hl_19, kd_19, n_19, sz_19, hs_19, al19, rw19⟩ | ⟨t19, sz19, ht19, v19, w19, dz19, tg19, r_19, tg2_19, k1_19, l2_19, k2_19, n_19, sz_19, hs_19, al19, rw19⟩ | ⟨t19, kd19, sz19, ht19, v19, w19, dz19, tg19, r_19, tg2_19, k1_19, l2_19, k2_19, hk_19, n_19, sz_19, hs_19, al19, rw19⟩
            · refine r_aaload0 rfl (isQ_of (fx_t1 fx) (by decide)) (vp_ct (fx_n1 fx) (vp_in_nI (by have := i_nlt c1; have := i_rg c; have : (0 : Int32).toInt = 0 := rfl; have := i_eq ek2; have : (nI k2).toInt = ((k2 : Nat) : Int) := nI_toInt (by omega); have := i_nle c3; have : (24 : Int32).toInt = 24 := rfl; omega) (by omega))) (Eq.trans (congrArg (hR (sI h (ad 0) 6 0) (ad 1)) ((nI_clamp (by have := i_nlt c1; have := i_rg c; have : (0 : Int32).toInt = 0 := rfl; have := i_eq ek2; have : (nI k2).toInt = ((k2 : Nat) : Int) := nI_toInt (by omega); have := i_nle c3; have : (24 : Int32).toInt = 24 := rfl; omega)) : _ = k2)) (Eq.trans R_oI w19)) ?_
              refine r_astore0 (lv' := [some (.ref (ad 0)), some (.int (nI k2)), some (.int 8), some (.null), none]) rfl (Nat.le_of_ble_eq_true rfl) rfl ?_
              refine r_aload0 rfl rfl ?_
              refine r_instN rfl (by decide) ?_
              refine r_if_eq (tg := 32) rfl rfl (fun _ => ?_) (fun q => absurd q (by decide))
              refine r_aload rfl rfl ?_
              refine r_aload0 rfl rfl ?_
              refine r_ifnonnullN (tg := 42) rfl rfl ?_
              refine r_ic (x := (-11)) rfl rfl ?_
              refine r_goto (tg := 44) rfl rfl ?_
              refine r_putI rfl ⟨rfl, rfl, rfl⟩ (fx_t0 fx) ?_
              have fx : FX n ad sa z0 (sI (sI h (ad 0) 6 0) (ad 0) 6 (-11)) := (FX.sI fx)
              refine r_null rfl ?_
              refine r_aret0 rfl ?_
              show WR _ cd_46 15 [some (.ref (ad 0)), some (.int (nI k2)), some (.int 8), some (.int i), some (.int (nI k5)), some (.int 3), some (.ref (mid t7)), none] [.null] (sI (sI h (ad 0) 6 0) (ad 0) 6 (-11)) _
              refine r_astore0 (lv' := [some (.ref (ad 0)), some (.int (nI k2)), some (.int 8), some (.int i), some (.int (nI k5)), some (.int 3), some (.ref (mid t7)), some (.null)]) rfl (Nat.le_of_ble_eq_true rfl) rfl ?_
              refine r_aload rfl rfl ?_
              refine r_getI rfl ⟨rfl, rfl, rfl⟩ (fx_t0 fx) ?_
              refine WR_tI (y := (-11)) I_eq ?_
              refine r_ic (x := (-14)) rfl rfl ?_
              refine r_icmp_eq (tg := 41) rfl rfl (fun q => absurd q (by decide)) (fun _ => ?_)
              refine r_aload rfl rfl ?_
              refine r_ifnullA (tg := 48) rfl rfl ?_
              refine r_aload rfl rfl ?_
              refine r_cw (y := 28) (ra := []) (rest := []) rfl ⟨rfl, rfl⟩ (by rw [show hT (sI (sI h (ad 0) 6 0) (ad 0) 6 (-11)) (mid t7) = 6 from tg7]; rfl) rfl rfl (Nat.le_of_ble_eq_true rfl) ?_
              refine in_28 (Nat.le_of_ble_eq_true rfl) ?_
              show WR _ cd_28 0 [some (.ref (mid t7))] [] (sI (sI h (ad 0) 6 0) (ad 0) 6 (-11)) _
              refine r_aload rfl rfl ?_
              refine r_getI rfl ⟨rfl, rfl, rfl⟩ tg7 ?_
              refine WR_tI (y := (-1)) (Eq.trans (I_ne (dy_ad fx (.inl (by decide)) dz7)) (Eq.trans (I_ne (dy_ad fx (.inl (by decide)) dz7)) k1_7)) ?_
              refine r_ic (x := (-1)) rfl rfl ?_
              refine r_icmp_ne (tg := 13) rfl rfl (fun q => absurd q (by decide)) (fun _ => ?_)
              refine r_ic (x := 8) rfl rfl ?_
              refine r_goto (tg := 15) rfl rfl ?_
              refine r_iret rfl ?_
              show WR _ cd_46 36 [some (.ref (ad 0)), some (.int (nI k2)), some (.int 8), some (.int i), some (.int (nI k5)), some (.int 3), some (.ref (mid t7)), some (.null)] [.int 8] (sI (sI h (ad 0) 6 0) (ad 0) 6 (-11)) _
              refine r_iload rfl rfl ?_
              refine r_icmp_eq (tg := 48) rfl rfl (fun q => absurd q (by decide)) (fun _ => ?_)
              refine r_aload rfl rfl ?_
              refine r_ic (x := (-14)) rfl rfl ?_
              refine r_cv (y := 13) (ra := [.int (-14)]) (rest := []) rfl ⟨⟨rfl, rfl⟩, rfl, by decide⟩ (fx_t0 fx) rfl rfl (Nat.le_of_ble_eq_true rfl) ?_
              refine in_13 (Nat.le_of_ble_eq_true rfl) ?_
              show WR _ cd_13 0 [some (.ref (ad 0)), some (.int (-14))] [] (sI (sI h (ad 0) 6 0) (ad 0) 6 (-11)) _
              refine r_aload rfl rfl ?_
              refine r_iload rfl rfl ?_
              refine r_putI rfl ⟨rfl, rfl, rfl⟩ (fx_t0 fx) ?_
              have fx : FX n ad sa z0 (sI (sI (sI h (ad 0) 6 0) (ad 0) 6 (-11)) (ad 0) 6 (-14)) := (FX.sI fx)
              refine r_iload rfl rfl ?_
              refine r_iret rfl ?_
              show WR _ cd_46 47 [some (.ref (ad 0)), some (.int (nI k2)), some (.int 8), some (.int i), some (.int (nI k5)), some (.int 3), some (.ref (mid t7)), some (.null)] [.int (-14)] (sI (sI (sI h (ad 0) 6 0) (ad 0) 6 (-11)) (ad 0) 6 (-14)) _
              refine r_iret rfl ?_
              show WR _ cd_45 36 [some (.ref (ad 0)), some (.int c), some (.int i), some (.int d)] [.int (-14)] (sI (sI (sI h (ad 0) 6 0) (ad 0) 6 (-11)) (ad 0) 6 (-14)) _
              refine r_iret rfl ?_
              show EV _ 175 [.ref (ad 30), .int c, .int i, .int d] (sI (sI (sI h (ad 0) 6 0) (ad 0) 6 (-11)) (ad 0) 6 (-14)) _
              refine in_175 (Nat.le_of_ble_eq_true rfl) ?_
              show WR _ cd_175 0 [some (.ref (ad 30)), some (.int c), some (.int i), some (.int d), none, none, none] [] (sI (sI (sI h (ad 0) 6 0) (ad 0) 6 (-11)) (ad 0) 6 (-14)) _
              refine r_iload rfl rfl ?_
              refine WR_tI (y := nI k2) ek2 ?_
              refine r_cs (y := 153) (ra := [.int (nI k2)]) (rest := []) rfl ⟨⟨rfl, rfl⟩, by decide⟩ rfl rfl (Nat.le_of_ble_eq_true rfl) ?_
              refine in_153 (Nat.le_of_ble_eq_true rfl) ?_
              show WR _ cd_153 0 [some (.int (nI k2))] [] (sI (sI (sI h (ad 0) 6 0) (ad 0) 6 (-11)) (ad 0) 6 (-14)) _
              refine r_iload rfl rfl ?_
              refine r_if_lt (tg := 14) rfl rfl (fun q => False.elim (by have := i_nlt c1; have := i_rg c; have : (0 : Int32).toInt = 0 := rfl; have := i_eq ek2; have : (nI k2).toInt = ((k2 : Nat) : Int) := nI_toInt (by omega); have := i_nle c3; have : (24 : Int32).toInt = 24 := rfl; have := i_lt q; omega)) (fun _ => ?_)
              refine r_iload rfl rfl ?_
              refine r_ic (x := 24) rfl rfl ?_
              refine r_icmp_ge (tg := 14) rfl rfl (fun q => False.elim (by have := i_nlt c1; have := i_rg c; have : (0 : Int32).toInt = 0 := rfl; have := i_eq ek2; have : (nI k2).toInt = ((k2 : Nat) : Int) := nI_toInt (by omega); have := i_nle c3; have : (24 : Int32).toInt = 24 := rfl; have := i_le q; omega)) (fun _ => ?_)
              refine r_ic (x := 1) rfl rfl ?_
              refine r_goto (tg := 15) rfl rfl ?_
              refine r_zret rfl (.inr rfl) ?_
              show WR _ cd_175 4 [some (.ref (ad 30)), some (.int c), some (.int i), some (.int d), none, none, none] [.int 1] (sI (sI (sI h (ad 0) 6 0) (ad 0) 6 (-11)) (ad 0) 6 (-14)) _
              refine r_if_eq (tg := 14) rfl rfl (fun q => absurd q (by decide)) (fun _ => ?_)
              refine r_iload rfl rfl ?_
              refine WR_tI (y := nI k5) ek5 ?_
              refine r_cs (y := 153) (ra := [.int (nI k5)]) (rest := []) rfl ⟨⟨rfl, rfl⟩, by decide⟩ rfl rfl (Nat.le_of_ble_eq_true rfl) ?_
              refine in_153 (Nat.le_of_ble_eq_true rfl) ?_
              show WR _ cd_153 0 [some (.int (nI k5))] [] (sI (sI (sI h (ad 0) 6 0) (ad 0) 6 (-11)) (ad 0) 6 (-14)) _
              refine r_iload rfl rfl ?_
              refine r_if_lt (tg := 14) rfl rfl (fun q => False.elim (by have := i_nlt c4; have := i_rg d; have : (0 : Int32).toInt = 0 := rfl; have := i_eq ek5; have : (nI k5).toInt = ((k5 : Nat) : Int) := nI_toInt (by omega); have := i_nle c6; have : (24 : Int32).toInt = 24 := rfl; have := i_lt q; omega)) (fun _ => ?_)
              refine r_iload rfl rfl ?_
              refine r_ic (x := 24) rfl rfl ?_
              refine r_icmp_ge (tg := 14) rfl rfl (fun q => False.elim (by have := i_nlt c4; have := i_rg d; have : (0 : Int32).toInt = 0 := rfl; have := i_eq ek5; have : (nI k5).toInt = ((k5 : Nat) : Int) := nI_toInt (by omega); have := i_nle c6; have : (24 : Int32).toInt = 24 := rfl; have := i_le q; omega)) (fun _ => ?_)
              refine r_ic (x := 1) rfl rfl ?_
              refine r_goto (tg := 15) rfl rfl ?_
              refine r_zret rfl (.inr rfl) ?_
              show WR _ cd_175 11 [some (.ref (ad 30)), some (.int c), some (.int i), some (.int d), none, none, none] [.int 1] (sI (sI (sI h (ad 0) 6 0) (ad 0) 6 (-11)) (ad 0) 6 (-14)) _
              refine r_if_ne (tg := 21) rfl rfl (fun _ => ?_) (fun q => absurd q (by decide))
              refine r_aload rfl rfl ?_
              refine r_getA (b := ad 31) rfl ⟨rfl, rfl, rfl⟩ (fx_t30 fx) (fx_r30_0 fx) ?_
              refine r_iload rfl rfl ?_
              refine WR_tI (y := nI k2) ek2 ?_
              refine r_iaload rfl (.inl (fx_t31 fx)) (vp_ct (fx_n31 fx) (vp_in_nI (by have := i_nlt c1; have := i_rg c; have : (0 : Int32).toInt = 0 := rfl; have := i_eq ek2; have : (nI k2).toInt = ((k2 : Nat) : Int) := nI_toInt (by omega); have := i_nle c3; have : (24 : Int32).toInt = 24 := rfl; omega) (by omega))) ?_
              refine WR_tI (congrArg (hI (sI (sI (sI h (ad 0) 6 0) (ad 0) 6 (-11)) (ad 0) 6 (-14)) (ad 31)) ((nI_clamp (by have := i_nlt c1; have := i_rg c; have : (0 : Int32).toInt = 0 := rfl; have := i_eq ek2; have : (nI k2).toInt = ((k2 : Nat) : Int) := nI_toInt (by omega); have := i_nle c3; have : (24 : Int32).toInt = 24 := rfl; omega)) : _ = k2)) ?_
              refine WR_tI (y := (-1)) (Eq.trans (I_ne (fx_ne fx (by decide))) (Eq.trans (I_ne (fx_ne fx (by decide))) (Eq.trans (I_ne (fx_ne fx (by decide))) v19))) ?_
              refine r_istore (lv' := [some (.ref (ad 30)), some (.int c), some (.int i), some (.int d), some (.int (-1)), none, none]) rfl (Nat.le_of_ble_eq_true rfl) rfl ?_
              refine r_aload rfl rfl ?_
              refine r_getA (b := ad 31) rfl ⟨rfl, rfl, rfl⟩ (fx_t30 fx) (fx_r30_0 fx) ?_
              refine r_iload rfl rfl ?_
              refine WR_tI (y := nI k5) ek5 ?_
              refine r_iaload rfl (.inl (fx_t31 fx)) (vp_ct (fx_n31 fx) (vp_in_nI (by have := i_nlt c4; have := i_rg d; have : (0 : Int32).toInt = 0 := rfl; have := i_eq ek5; have : (nI k5).toInt = ((k5 : Nat) : Int) := nI_toInt (by omega); have := i_nle c6; have : (24 : Int32).toInt = 24 := rfl; omega) (by omega))) ?_
              refine WR_tI (congrArg (hI (sI (sI (sI h (ad 0) 6 0) (ad 0) 6 (-11)) (ad 0) 6 (-14)) (ad 31)) ((nI_clamp (by have := i_nlt c4; have := i_rg d; have : (0 : Int32).toInt = 0 := rfl; have := i_eq ek5; have : (nI k5).toInt = ((k5 : Nat) : Int) := nI_toInt (by omega); have := i_nle c6; have : (24 : Int32).toInt = 24 := rfl; omega)) : _ = k5)) ?_
              refine WR_tI (y := nI t7) (Eq.trans (I_ne (fx_ne fx (by decide))) (Eq.trans (I_ne (fx_ne fx (by decide))) (Eq.trans (I_ne (fx_ne fx (by decide))) v7))) ?_
              refine r_istore (lv' := [some (.ref (ad 30)), some (.int c), some (.int i), some (.int d), some (.int (-1)), some (.int (nI t7)), none]) rfl (Nat.le_of_ble_eq_true rfl) rfl ?_
              refine r_iload rfl rfl ?_
              refine r_ic (x := (-1)) rfl rfl ?_
              refine r_icmp_eq (tg := 54) rfl rfl (fun _ => ?_) (fun q => absurd q (by decide))
              refine r_iload rfl rfl ?_
              refine r_ic (x := (-1)) rfl rfl ?_
              refine r_icmp_eq (tg := 76) rfl rfl (fun q => False.elim (by have : (nI t7).toInt = ((t7 : Nat) : Int) := nI_toInt (by omega); have : (-1 : Int32).toInt = -1 := rfl; have := i_eq q; omega)) (fun _ => ?_)
              refine r_aload rfl rfl ?_
              refine r_iload rfl rfl ?_
              refine r_cv (y := 166) (ra := [.int (nI t7)]) (rest := []) rfl ⟨⟨rfl, rfl⟩, rfl, by decide⟩ (fx_t30 fx) rfl rfl (Nat.le_of_ble_eq_true rfl) ?_
              refine in_166 (Nat.le_of_ble_eq_true rfl) ?_
              show WR _ cd_166 0 [some (.ref (ad 30)), some (.int (nI t7))] [] (sI (sI (sI h (ad 0) 6 0) (ad 0) 6 (-11)) (ad 0) 6 (-14)) _
              refine r_iload rfl rfl ?_
              refine r_ic (x := (-1)) rfl rfl ?_
              refine r_icmp_ne (tg := 9) rfl rfl (fun _ => ?_) (fun q => False.elim (by have : (nI t7).toInt = ((t7 : Nat) : Int) := nI_toInt (by omega); have : (-1 : Int32).toInt = -1 := rfl; have := i_eq q; omega))
              refine r_iload rfl rfl ?_
              refine r_ic (x := 1000) rfl rfl ?_
              refine r_icmp_lt (tg := 21) rfl rfl (fun _ => ?_) (fun q => False.elim (by have : (nI t7).toInt = ((t7 : Nat) : Int) := nI_toInt (by omega); have : (1000 : Int32).toInt = 1000 := rfl; have := i_nlt q; omega))
              refine r_aload rfl rfl ?_
              refine r_getA (b := ad 33) rfl ⟨rfl, rfl, rfl⟩ (fx_t30 fx) (fx_r30_2 fx) ?_
              refine r_iload rfl rfl ?_
              refine r_iaload rfl (.inl (fx_t33 fx)) (vp_ct (fx_n33 fx) (vp_in_nI (by omega) (by omega))) ?_
              refine WR_tI (congrArg (hI (sI (sI (sI h (ad 0) 6 0) (ad 0) 6 (-11)) (ad 0) 6 (-14)) (ad 33)) ((nI_clamp (by omega)) : _ = t7)) ?_
              refine WR_tI (y := 8) (Eq.trans (I_ne (fx_ne fx (by decide))) (Eq.trans (I_ne (fx_ne fx (by decide))) (Eq.trans (I_ne (fx_ne fx (by decide))) l2_7))) ?_
              refine r_iret rfl ?_
              show WR _ cd_175 66 [some (.ref (ad 30)), some (.int c), some (.int i), some (.int d), some (.int (-1)), some (.int (nI t7)), none] [.int 8] (sI (sI (sI h (ad 0) 6 0) (ad 0) 6 (-11)) (ad 0) 6 (-14)) _
              refine r_ic (x := 3) rfl rfl ?_
              refine r_icmp_eq (tg := 76) rfl rfl (fun q => absurd q (by decide)) (fun _ => ?_)
              refine r_aload rfl rfl ?_
              refine r_ic (x := 4) rfl rfl ?_
              refine r_cv (y := 156) (ra := [.int 4]) (rest := []) rfl ⟨⟨rfl, rfl⟩, rfl, by decide⟩ (fx_t30 fx) rfl rfl (Nat.le_of_ble_eq_true rfl) ?_
              refine in_156 (Nat.le_of_ble_eq_true rfl) ?_
              show WR _ cd_156 0 [some (.ref (ad 30)), some (.int 4)] [] (sI (sI (sI h (ad 0) 6 0) (ad 0) 6 (-11)) (ad 0) 6 (-14)) _
              refine r_aload rfl rfl ?_
              refine r_ic (x := (-10)) rfl rfl ?_
              refine r_iload rfl rfl ?_
              refine r_isub rfl ?_
              refine WR_tI (y := (-14)) rfl ?_
              refine r_cv (y := 154) (ra := [.int (-14)]) (rest := []) rfl ⟨⟨rfl, rfl⟩, rfl, by decide⟩ (fx_t30 fx) rfl rfl (Nat.le_of_ble_eq_true rfl) ?_
              refine in_154 (Nat.le_of_ble_eq_true rfl) ?_
              show WR _ cd_154 0 [some (.ref (ad 30)), some (.int (-14))] [] (sI (sI (sI h (ad 0) 6 0) (ad 0) 6 (-11)) (ad 0) 6 (-14)) _
              refine r_aload rfl rfl ?_
              refine r_iload rfl rfl ?_
              refine r_ic (x := (-1)) rfl rfl ?_
              refine r_icmp_ge (tg := 10) rfl rfl (fun q => absurd q (by decide)) (fun _ => ?_)
              refine r_iload rfl rfl ?_
              refine r_goto (tg := 11) rfl rfl ?_
              refine r_putI rfl ⟨rfl, rfl, rfl⟩ (fx_t30 fx) ?_
              have fx : FX n ad sa z0 (sI (sI (sI (sI h (ad 0) 6 0) (ad 0) 6 (-11)) (ad 0) 6 (-14)) (ad 30) 11 (-14)) := (FX.sI fx)
              refine r_iload rfl rfl ?_
              refine r_iret rfl ?_
              show WR _ cd_156 8 [some (.ref (ad 30)), some (.int 4)] [.int (-14)] (sI (sI (sI (sI h (ad 0) 6 0) (ad 0) 6 (-11)) (ad 0) 6 (-14)) (ad 30) 11 (-14)) _
              refine r_iret rfl ?_
              show WR _ cd_175 75 [some (.ref (ad 30)), some (.int c), some (.int i), some (.int d), some (.int (-1)), some (.int (nI t7)), none] [.int (-14)] (sI (sI (sI (sI h (ad 0) 6 0) (ad 0) 6 (-11)) (ad 0) 6 (-14)) (ad 30) 11 (-14)) _
              refine r_iret rfl ?_
              exact ⟨rfl, Rel.why r ((((Chg.rf.sI (fx_j fx) (.inl (by decide))).sI (fx_j fx) (.inl (by decide))).sI (fx_j fx) (.inl (by decide))).sI (fx_j fx) (.inl (by decide))) ⟨rfl, by decide⟩ (Eq.trans (Eq.trans (I_ne (fx_ne fx (by decide))) I_eq) (Eq.symm I_eq)), (by (try simp only [hZ_sI, hZ_sL, hZ_sD, hZ_sR]); omega), (by (try simp only [hU_sI, hU_sL, hU_sD, hU_sR]); omega)⟩
            · refine r_aaloadA (b := pa q19) rfl (isQ_of (fx_t1 fx) (by decide)) (vp_ct (fx_n1 fx) (vp_in_nI (by have := i_nlt c1; have := i_rg c; have : (0 : Int32).toInt = 0 := rfl; have := i_eq ek2; have : (nI k2).toInt = ((k2 : Nat) : Int) := nI_toInt (by omega); have := i_nle c3; have : (24 : Int32).toInt = 24 := rfl; omega) (by omega))) (Eq.trans (congrArg (hR (sI h (ad 0) 6 0) (ad 1)) ((nI_clamp (by have := i_nlt c1; have := i_rg c; have : (0 : Int32).toInt = 0 := rfl; have := i_eq ek2; have : (nI k2).toInt = ((k2 : Nat) : Int) := nI_toInt (by omega); have := i_nle c3; have : (24 : Int32).toInt = 24 := rfl; omega)) : _ = k2)) (Eq.trans R_oI w19)) ?_
              refine r_astore (lv' := [some (.ref (ad 0)), some (.int (nI k2)), some (.int 8), some (.ref (pa q19)), none]) rfl (Nat.le_of_ble_eq_true rfl) rfl ?_
              refine r_aload rfl rfl ?_
              refine r_instW rfl (by decide) tg19 (by decide) ?_
              refine r_if_eq (tg := 32) rfl rfl (fun _ => ?_) (fun q => absurd q (by decide))
              refine r_aload rfl rfl ?_
              refine r_aload rfl rfl ?_
              refine r_ifnonnullA (tg := 42) rfl rfl ?_
              refine r_ic (x := (-14)) rfl rfl ?_
              refine r_putI rfl ⟨rfl, rfl, rfl⟩ (fx_t0 fx) ?_
              have fx : FX n ad sa z0 (sI (sI h (ad 0) 6 0) (ad 0) 6 (-14)) := (FX.sI fx)
              refine r_null rfl ?_
              refine r_aret0 rfl ?_
              show WR _ cd_46 15 [some (.ref (ad 0)), some (.int (nI k2)), some (.int 8), some (.int i), some (.int (nI k5)), some (.int 3), some (.ref (mid t7)), none] [.null] (sI (sI h (ad 0) 6 0) (ad 0) 6 (-14)) _
              refine r_astore0 (lv' := [some (.ref (ad 0)), some (.int (nI k2)), some (.int 8), some (.int i), some (.int (nI k5)), some (.int 3), some (.ref (mid t7)), some (.null)]) rfl (Nat.le_of_ble_eq_true rfl) rfl ?_
              refine r_aload rfl rfl ?_
              refine r_getI rfl ⟨rfl, rfl, rfl⟩ (fx_t0 fx) ?_
              refine WR_tI (y := (-14)) I_eq ?_
              refine r_ic (x := (-14)) rfl rfl ?_
              refine r_icmp_eq (tg := 41) rfl rfl (fun _ => ?_) (fun q => absurd q (by decide))
              refine r_aload rfl rfl ?_
              refine r_ic (x := (-14)) rfl rfl ?_
              refine r_cv (y := 13) (ra := [.int (-14)]) (rest := []) rfl ⟨⟨rfl, rfl⟩, rfl, by decide⟩ (fx_t0 fx) rfl rfl (Nat.le_of_ble_eq_true rfl) ?_
              refine in_13 (Nat.le_of_ble_eq_true rfl) ?_
              show WR _ cd_13 0 [some (.ref (ad 0)), some (.int (-14))] [] (sI (sI h (ad 0) 6 0) (ad 0) 6 (-14)) _
              refine r_aload rfl rfl ?_
              refine r_iload rfl rfl ?_
              refine r_putI rfl ⟨rfl, rfl, rfl⟩ (fx_t0 fx) ?_
              have fx : FX n ad sa z0 (sI (sI (sI h (ad 0) 6 0) (ad 0) 6 (-14)) (ad 0) 6 (-14)) := (FX.sI fx)
              refine r_iload rfl rfl ?_
              refine r_iret rfl ?_
              show WR _ cd_46 47 [some (.ref (ad 0)), some (.int (nI k2)), some (.int 8), some (.int i), some (.int (nI k5)), some (.int 3), some (.ref (mid t7)), some (.null)] [.int (-14)] (sI (sI (sI h (ad 0) 6 0) (ad 0) 6 (-14)) (ad 0) 6 (-14)) _
              refine r_iret rfl ?_
              show WR _ cd_45 36 [some (.ref (ad 0)), some (.int c), some (.int i), some (.int d)] [.int (-14)] (sI (sI (sI h (ad 0) 6 0) (ad 0) 6 (-14)) (ad 0) 6 (-14)) _
              refine r_iret rfl ?_
              show EV _ 175 [.ref (ad 30), .int c, .int i, .int d] (sI (sI (sI h (ad 0) 6 0) (ad 0) 6 (-14)) (ad 0) 6 (-14)) _
              refine in_175 (Nat.le_of_ble_eq_true rfl) ?_
              show WR _ cd_175 0 [some (.ref (ad 30)), some (.int c), some (.int i), some (.int d), none, none, none] [] (sI (sI (sI h (ad 0) 6 0) (ad 0) 6 (-14)) (ad 0) 6 (-14)) _
              refine r_iload rfl rfl ?_
              refine WR_tI (y := nI k2) ek2 ?_
              refine r_cs (y := 153) (ra := [.int (nI k2)]) (rest := []) rfl ⟨⟨rfl, rfl⟩, by decide⟩ rfl rfl (Nat.le_of_ble_eq_true rfl) ?_
              refine in_153 (Nat.le_of_ble_eq_true rfl) ?_
              show WR _ cd_153 0 [some (.int (nI k2))] [] (sI (sI (sI h (ad 0) 6 0) (ad 0) 6 (-14)) (ad 0) 6 (-14)) _
              refine r_iload rfl rfl ?_
              refine r_if_lt (tg := 14) rfl rfl (fun q => False.elim (by have := i_nlt c1; have := i_rg c; have : (0 : Int32).toInt = 0 := rfl; have := i_eq ek2; have : (nI k2).toInt = ((k2 : Nat) : Int) := nI_toInt (by omega); have := i_nle c3; have : (24 : Int32).toInt = 24 := rfl; have := i_lt q; omega)) (fun _ => ?_)
              refine r_iload rfl rfl ?_
              refine r_ic (x := 24) rfl rfl ?_
              refine r_icmp_ge (tg := 14) rfl rfl (fun q => False.elim (by have := i_nlt c1; have := i_rg c; have : (0 : Int32).toInt = 0 := rfl; have := i_eq ek2; have : (nI k2).toInt = ((k2 : Nat) : Int) := nI_toInt (by omega); have := i_nle c3; have : (24 : Int32).toInt = 24 := rfl; have := i_le q; omega)) (fun _ => ?_)
              refine r_ic (x := 1) rfl rfl ?_
              refine r_goto (tg := 15) rfl rfl ?_
              refine r_zret rfl (.inr rfl) ?_
              show WR _ cd_175 4 [some (.ref (ad 30)), some (.int c), some (.int i), some (.int d), none, none, none] [.int 1] (sI (sI (sI h (ad 0) 6 0) (ad 0) 6 (-14)) (ad 0) 6 (-14)) _
              refine r_if_eq (tg := 14) rfl rfl (fun q => absurd q (by decide)) (fun _ => ?_)
              refine r_iload rfl rfl ?_
              refine WR_tI (y := nI k5) ek5 ?_
              refine r_cs (y := 153) (ra := [.int (nI k5)]) (rest := []) rfl ⟨⟨rfl, rfl⟩, by decide⟩ rfl rfl (Nat.le_of_ble_eq_true rfl) ?_
              refine in_153 (Nat.le_of_ble_eq_true rfl) ?_
              show WR _ cd_153 0 [some (.int (nI k5))] [] (sI (sI (sI h (ad 0) 6 0) (ad 0) 6 (-14)) (ad 0) 6 (-14)) _
              refine r_iload rfl rfl ?_
              refine r_if_lt (tg := 14) rfl rfl (fun q => False.elim (by have := i_nlt c4; have := i_rg d; have : (0 : Int32).toInt = 0 := rfl; have := i_eq ek5; have : (nI k5).toInt = ((k5 : Nat) : Int) := nI_toInt (by omega); have := i_nle c6; have : (24 : Int32).toInt = 24 := rfl; have := i_lt q; omega)) (fun _ => ?_)
              refine r_iload rfl rfl ?_
              refine r_ic (x := 24) rfl rfl ?_
              refine r_icmp_ge (tg := 14) rfl rfl (fun q => False.elim (by have := i_nlt c4; have := i_rg d; have : (0 : Int32).toInt = 0 := rfl; have := i_eq ek5; have : (nI k5).toInt = ((k5 : Nat) : Int) := nI_toInt (by omega); have := i_nle c6; have : (24 : Int32).toInt = 24 := rfl; have := i_le q; omega)) (fun _ => ?_)
              refine r_ic (x := 1) rfl rfl ?_
              refine r_goto (tg := 15) rfl rfl ?_
              refine r_zret rfl (.inr rfl) ?_
              show WR _ cd_175 11 [some (.ref (ad 30)), some (.int c), some (.int i), some (.int d), none, none, none] [.int 1] (sI (sI (sI h (ad 0) 6 0) (ad 0) 6 (-14)) (ad 0) 6 (-14)) _
              refine r_if_ne (tg := 21) rfl rfl (fun _ => ?_) (fun q => absurd q (by decide))
              refine r_aload rfl rfl ?_
              refine r_getA (b := ad 31) rfl ⟨rfl, rfl, rfl⟩ (fx_t30 fx) (fx_r30_0 fx) ?_
              refine r_iload rfl rfl ?_
              refine WR_tI (y := nI k2) ek2 ?_
              refine r_iaload rfl (.inl (fx_t31 fx)) (vp_ct (fx_n31 fx) (vp_in_nI (by have := i_nlt c1; have := i_rg c; have : (0 : Int32).toInt = 0 := rfl; have := i_eq ek2; have : (nI k2).toInt = ((k2 : Nat) : Int) := nI_toInt (by omega); have := i_nle c3; have : (24 : Int32).toInt = 24 := rfl; omega) (by omega))) ?_
              refine WR_tI (congrArg (hI (sI (sI (sI h (ad 0) 6 0) (ad 0) 6 (-14)) (ad 0) 6 (-14)) (ad 31)) ((nI_clamp (by have := i_nlt c1; have := i_rg c; have : (0 : Int32).toInt = 0 := rfl; have := i_eq ek2; have : (nI k2).toInt = ((k2 : Nat) : Int) := nI_toInt (by omega); have := i_nle c3; have : (24 : Int32).toInt = 24 := rfl; omega)) : _ = k2)) ?_
              refine WR_tI (y := nI (q19 + 1000)) (Eq.trans (I_ne (fx_ne fx (by decide))) (Eq.trans (I_ne (fx_ne fx (by decide))) (Eq.trans (I_ne (fx_ne fx (by decide))) v19))) ?_
              refine r_istore (lv' := [some (.ref (ad 30)), some (.int c), some (.int i), some (.int d), some (.int (nI (q19 + 1000))), none, none]) rfl (Nat.le_of_ble_eq_true rfl) rfl ?_
              refine r_aload rfl rfl ?_
              refine r_getA (b := ad 31) rfl ⟨rfl, rfl, rfl⟩ (fx_t30 fx) (fx_r30_0 fx) ?_
              refine r_iload rfl rfl ?_
              refine WR_tI (y := nI k5) ek5 ?_
              refine r_iaload rfl (.inl (fx_t31 fx)) (vp_ct (fx_n31 fx) (vp_in_nI (by have := i_nlt c4; have := i_rg d; have : (0 : Int32).toInt = 0 := rfl; have := i_eq ek5; have : (nI k5).toInt = ((k5 : Nat) : Int) := nI_toInt (by omega); have := i_nle c6; have : (24 : Int32).toInt = 24 := rfl; omega) (by omega))) ?_
              refine WR_tI (congrArg (hI (sI (sI (sI h (ad 0) 6 0) (ad 0) 6 (-14)) (ad 0) 6 (-14)) (ad 31)) ((nI_clamp (by have := i_nlt c4; have := i_rg d; have : (0 : Int32).toInt = 0 := rfl; have := i_eq ek5; have : (nI k5).toInt = ((k5 : Nat) : Int) := nI_toInt (by omega); have := i_nle c6; have : (24 : Int32).toInt = 24 := rfl; omega)) : _ = k5)) ?_
              refine WR_tI (y := nI t7) (Eq.trans (I_ne (fx_ne fx (by decide))) (Eq.trans (I_ne (fx_ne fx (by decide))) (Eq.trans (I_ne (fx_ne fx (by decide))) v7))) ?_
              refine r_istore (lv' := [some (.ref (ad 30)), some (.int c), some (.int i), some (.int d), some (.int (nI (q19 + 1000))), some (.int (nI t7)), none]) rfl (Nat.le_of_ble_eq_true rfl) rfl ?_
              refine r_iload rfl rfl ?_
              refine r_ic (x := (-1)) rfl rfl ?_
              refine r_icmp_eq (tg := 54) rfl rfl (fun q => False.elim (by have : (nI (q19 + 1000)).toInt = ((q19 + 1000 : Nat) : Int) := nI_toInt (by omega); have : (-1 : Int32).toInt = -1 := rfl; have := i_eq q; omega)) (fun _ => ?_)
              refine r_aload rfl rfl ?_
              refine r_iload rfl rfl ?_
              refine r_cv (y := 166) (ra := [.int (nI (q19 + 1000))]) (rest := []) rfl ⟨⟨rfl, rfl⟩, rfl, by decide⟩ (fx_t30 fx) rfl rfl (Nat.le_of_ble_eq_true rfl) ?_
              refine in_166 (Nat.le_of_ble_eq_true rfl) ?_
              show WR _ cd_166 0 [some (.ref (ad 30)), some (.int (nI (q19 + 1000)))] [] (sI (sI (sI h (ad 0) 6 0) (ad 0) 6 (-14)) (ad 0) 6 (-14)) _
              refine r_iload rfl rfl ?_
              refine r_ic (x := (-1)) rfl rfl ?_
              refine r_icmp_ne (tg := 9) rfl rfl (fun _ => ?_) (fun q => False.elim (by have : (nI (q19 + 1000)).toInt = ((q19 + 1000 : Nat) : Int) := nI_toInt (by omega); have : (-1 : Int32).toInt = -1 := rfl; have := i_eq q; omega))
              refine r_iload rfl rfl ?_
              refine r_ic (x := 1000) rfl rfl ?_
              refine r_icmp_lt (tg := 21) rfl rfl (fun q => False.elim (by have : (nI (q19 + 1000)).toInt = ((q19 + 1000 : Nat) : Int) := nI_toInt (by omega); have : (1000 : Int32).toInt = 1000 := rfl; have := i_lt q; omega)) (fun _ => ?_)
              refine r_ic (x := 10) rfl rfl ?_
              refine r_goto (tg := 27) rfl rfl ?_
              refine r_iret rfl ?_
              show WR _ cd_175 49 [some (.ref (ad 30)), some (.int c), some (.int i), some (.int d), some (.int (nI (q19 + 1000))), some (.int (nI t7)), none] [.int 10] (sI (sI (sI h (ad 0) 6 0) (ad 0) 6 (-14)) (ad 0) 6 (-14)) _
              refine r_ic (x := 8) rfl rfl ?_
              refine r_icmp_ne (tg := 70) rfl rfl (fun _ => ?_) (fun q => absurd q (by decide))
              refine r_aload rfl rfl ?_
              refine r_ic (x := 4) rfl rfl ?_
              refine r_cv (y := 156) (ra := [.int 4]) (rest := []) rfl ⟨⟨rfl, rfl⟩, rfl, by decide⟩ (fx_t30 fx) rfl rfl (Nat.le_of_ble_eq_true rfl) ?_
              refine in_156 (Nat.le_of_ble_eq_true rfl) ?_
              show WR _ cd_156 0 [some (.ref (ad 30)), some (.int 4)] [] (sI (sI (sI h (ad 0) 6 0) (ad 0) 6 (-14)) (ad 0) 6 (-14)) _
              refine r_aload rfl rfl ?_
              refine r_ic (x := (-10)) rfl rfl ?_
              refine r_iload rfl rfl ?_
              refine r_isub rfl ?_
              refine WR_tI (y := (-14)) rfl ?_
              refine r_cv (y := 154) (ra := [.int (-14)]) (rest := []) rfl ⟨⟨rfl, rfl⟩, rfl, by decide⟩ (fx_t30 fx) rfl rfl (Nat.le_of_ble_eq_true rfl) ?_
              refine in_154 (Nat.le_of_ble_eq_true rfl) ?_
              show WR _ cd_154 0 [some (.ref (ad 30)), some (.int (-14))] [] (sI (sI (sI h (ad 0) 6 0) (ad 0) 6 (-14)) (ad 0) 6 (-14)) _
              refine r_aload rfl rfl ?_
              refine r_iload rfl rfl ?_
              refine r_ic (x := (-1)) rfl rfl ?_
              refine r_icmp_ge (tg := 10) rfl rfl (fun q => absurd q (by decide)) (fun _ => ?_)
              refine r_iload rfl rfl ?_
              refine r_goto (tg := 11) rfl rfl ?_
              refine r_putI rfl ⟨rfl, rfl, rfl⟩ (fx_t30 fx) ?_
              have fx : FX n ad sa z0 (sI (sI (sI (sI h (ad 0) 6 0) (ad 0) 6 (-14)) (ad 0) 6 (-14)) (ad 30) 11 (-14)) := (FX.sI fx)
              refine r_iload rfl rfl ?_
              refine r_iret rfl ?_
              show WR _ cd_156 8 [some (.ref (ad 30)), some (.int 4)] [.int (-14)] (sI (sI (sI (sI h (ad 0) 6 0) (ad 0) 6 (-14)) (ad 0) 6 (-14)) (ad 30) 11 (-14)) _
              refine r_iret rfl ?_
              show WR _ cd_175 75 [some (.ref (ad 30)), some (.int c), some (.int i), some (.int d), some (.int (nI (q19 + 1000))), some (.int (nI t7)), none] [.int (-14)] (sI (sI (sI (sI h (ad 0) 6 0) (ad 0) 6 (-14)) (ad 0) 6 (-14)) (ad 30) 11 (-14)) _
              refine r_iret rfl ?_
              exact ⟨rfl, Rel.why r ((((Chg.rf.sI (fx_j fx) (.inl (by decide))).sI (fx_j fx) (.inl (by decide))).sI (fx_j fx) (.inl (by decide))).sI (fx_j fx) (.inl (by decide))) ⟨rfl, by decide⟩ (Eq.trans (Eq.trans (I_ne (fx_ne fx (by decide))) I_eq) (Eq.symm I_eq)), (by (try simp only [hZ_sI, hZ_sL, hZ_sD, hZ_sR]); omega), (by (try simp only [hU_sI, hU_sL, hU_sD, hU_sR]); omega)⟩
            · refine r_aaloadA (b := mid t19) rfl (isQ_of (fx_t1 fx) (by decide)) (vp_ct (fx_n1 fx) (vp_in_nI (by have := i_nlt c1; have := i_rg c; have : (0 : Int32).toInt = 0 := rfl; have := i_eq ek2; have : (nI k2).toInt = ((k2 : Nat) : Int) := nI_toInt (by omega); have := i_nle c3; have : (24 : Int32).toInt = 24 := rfl; omega) (by omega))) (Eq.trans (congrArg (hR (sI h (ad 0) 6 0) (ad 1)) ((nI_clamp (by have := i_nlt c1; have := i_rg c; have : (0 : Int32).toInt = 0 := rfl; have := i_eq ek2; have : (nI k2).toInt = ((k2 : Nat) : Int) := nI_toInt (by omega); have := i_nle c3; have : (24 : Int32).toInt = 24 := rfl; omega)) : _ = k2)) (Eq.trans R_oI w19)) ?_
              refine r_astore (lv' := [some (.ref (ad 0)), some (.int (nI k2)), some (.int 8), some (.ref (mid t19)), none]) rfl (Nat.le_of_ble_eq_true rfl) rfl ?_
              refine r_aload rfl rfl ?_
              refine r_instW rfl (by decide) tg19 (by decide) ?_
              refine r_if_eq (tg := 32) rfl rfl (fun _ => ?_) (fun q => absurd q (by decide))
              refine r_aload rfl rfl ?_
              refine r_aload rfl rfl ?_
              refine r_ifnonnullA (tg := 42) rfl rfl ?_
              refine r_ic (x := (-14)) rfl rfl ?_
              refine r_putI rfl ⟨rfl, rfl, rfl⟩ (fx_t0 fx) ?_
              have fx : FX n ad sa z0 (sI (sI h (ad 0) 6 0) (ad 0) 6 (-14)) := (FX.sI fx)
              refine r_null rfl ?_
              refine r_aret0 rfl ?_
              show WR _ cd_46 15 [some (.ref (ad 0)), some (.int (nI k2)), some (.int 8), some (.int i), some (.int (nI k5)), some (.int 3), some (.ref (mid t7)), none] [.null] (sI (sI h (ad 0) 6 0) (ad 0) 6 (-14)) _
              refine r_astore0 (lv' := [some (.ref (ad 0)), some (.int (nI k2)), some (.int 8), some (.int i), some (.int (nI k5)), some (.int 3), some (.ref (mid t7)), some (.null)]) rfl (Nat.le_of_ble_eq_true rfl) rfl ?_
              refine r_aload rfl rfl ?_
              refine r_getI rfl ⟨rfl, rfl, rfl⟩ (fx_t0 fx) ?_
              refine WR_tI (y := (-14)) I_eq ?_
              refine r_ic (x := (-14)) rfl rfl ?_
              refine r_icmp_eq (tg := 41) rfl rfl (fun _ => ?_) (fun q => absurd q (by decide))
              refine r_aload rfl rfl ?_
              refine r_ic (x := (-14)) rfl rfl ?_
              refine r_cv (y := 13) (ra := [.int (-14)]) (rest := []) rfl ⟨⟨rfl, rfl⟩, rfl, by decide⟩ (fx_t0 fx) rfl rfl (Nat.le_of_ble_eq_true rfl) ?_
              refine in_13 (Nat.le_of_ble_eq_true rfl) ?_
              show WR _ cd_13 0 [some (.ref (ad 0)), some (.int (-14))] [] (sI (sI h (ad 0) 6 0) (ad 0) 6 (-14)) _
              refine r_aload rfl rfl ?_
              refine r_iload rfl rfl ?_
              refine r_putI rfl ⟨rfl, rfl, rfl⟩ (fx_t0 fx) ?_
              have fx : FX n ad sa z0 (sI (sI (sI h (ad 0) 6 0) (ad 0) 6 (-14)) (ad 0) 6 (-14)) := (FX.sI fx)
              refine r_iload rfl rfl ?_
              refine r_iret rfl ?_
              show WR _ cd_46 47 [some (.ref (ad 0)), some (.int (nI k2)), some (.int 8), some (.int i), some (.int (nI k5)), some (.int 3), some (.ref (mid t7)), some (.null)] [.int (-14)] (sI (sI (sI h (ad 0) 6 0) (ad 0) 6 (-14)) (ad 0) 6 (-14)) _
              refine r_iret rfl ?_
              show WR _ cd_45 36 [some (.ref (ad 0)), some (.int c), some (.int i), some (.int d)] [.int (-14)] (sI (sI (sI h (ad 0) 6 0) (ad 0) 6 (-14)) (ad 0) 6 (-14)) _
              refine r_iret rfl ?_
              show EV _ 175 [.ref (ad 30), .int c, .int i, .int d] (sI (sI (sI h (ad 0) 6 0) (ad 0) 6 (-14)) (ad 0) 6 (-14)) _
              refine in_175 (Nat.le_of_ble_eq_true rfl) ?_
              show WR _ cd_175 0 [some (.ref (ad 30)), some (.int c), some (.int i), some (.int d), none, none, none] [] (sI (sI (sI h (ad 0) 6 0) (ad 0) 6 (-14)) (ad 0) 6 (-14)) _
              refine r_iload rfl rfl ?_
              refine WR_tI (y := nI k2) ek2 ?_
              refine r_cs (y := 153) (ra := [.int (nI k2)]) (rest := []) rfl ⟨⟨rfl, rfl⟩, by decide⟩ rfl rfl (Nat.le_of_ble_eq_true rfl) ?_
              refine in_153 (Nat.le_of_ble_eq_true rfl) ?_
              show WR _ cd_153 0 [some (.int (nI k2))] [] (sI (sI (sI h (ad 0) 6 0) (ad 0) 6 (-14)) (ad 0) 6 (-14)) _
              refine r_iload rfl rfl ?_
              refine r_if_lt (tg := 14) rfl rfl (fun q => False.elim (by have := i_nlt c1; have := i_rg c; have : (0 : Int32).toInt = 0 := rfl; have := i_eq ek2; have : (nI k2).toInt = ((k2 : Nat) : Int) := nI_toInt (by omega); have := i_nle c3; have : (24 : Int32).toInt = 24 := rfl; have := i_lt q; omega)) (fun _ => ?_)
              refine r_iload rfl rfl ?_
              refine r_ic (x := 24) rfl rfl ?_
              refine r_icmp_ge (tg := 14) rfl rfl (fun q => False.elim (by have := i_nlt c1; have := i_rg c; have : (0 : Int32).toInt = 0 := rfl; have := i_eq ek2; have : (nI k2).toInt = ((k2 : Nat) : Int) := nI_toInt (by omega); have := i_nle c3; have : (24 : Int32).toInt = 24 := rfl; have := i_le q; omega)) (fun _ => ?_)
              refine r_ic (x := 1) rfl rfl ?_
              refine r_goto (tg := 15) rfl rfl ?_
              refine r_zret rfl (.inr rfl) ?_
              show WR _ cd_175 4 [some (.ref (ad 30)), some (.int c), some (.int i), some (.int d), none, none, none] [.int 1] (sI (sI (sI h (ad 0) 6 0) (ad 0) 6 (-14)) (ad 0) 6 (-14)) _
              refine r_if_eq (tg := 14) rfl rfl (fun q => absurd q (by decide)) (fun _ => ?_)
              refine r_iload rfl rfl ?_
              refine WR_tI (y := nI k5) ek5 ?_
              refine r_cs (y := 153) (ra := [.int (nI k5)]) (rest := []) rfl ⟨⟨rfl, rfl⟩, by decide⟩ rfl rfl (Nat.le_of_ble_eq_true rfl) ?_
              refine in_153 (Nat.le_of_ble_eq_true rfl) ?_
              show WR _ cd_153 0 [some (.int (nI k5))] [] (sI (sI (sI h (ad 0) 6 0) (ad 0) 6 (-14)) (ad 0) 6 (-14)) _
              refine r_iload rfl rfl ?_
              refine r_if_lt (tg := 14) rfl rfl (fun q => False.elim (by have := i_nlt c4; have := i_rg d; have : (0 : Int32).toInt = 0 := rfl; have := i_eq ek5; have : (nI k5).toInt = ((k5 : Nat) : Int) := nI_toInt (by omega); have := i_nle c6; have : (24 : Int32).toInt = 24 := rfl; have := i_lt q; omega)) (fun _ => ?_)
              refine r_iload rfl rfl ?_
              refine r_ic (x := 24) rfl rfl ?_
              refine r_icmp_ge (tg := 14) rfl rfl (fun q => False.elim (by have := i_nlt c4; have := i_rg d; have : (0 : Int32).toInt = 0 := rfl; have := i_eq ek5; have : (nI k5).toInt = ((k5 : Nat) : Int) := nI_toInt (by omega); have := i_nle c6; have : (24 : Int32).toInt = 24 := rfl; have := i_le q; omega)) (fun _ => ?_)
              refine r_ic (x := 1) rfl rfl ?_
              refine r_goto (tg := 15) rfl rfl ?_
              refine r_zret rfl (.inr rfl) ?_
              show WR _ cd_175 11 [some (.ref (ad 30)), some (.int c), some (.int i), some (.int d), none, none, none] [.int 1] (sI (sI (sI h (ad 0) 6 0) (ad 0) 6 (-14)) (ad 0) 6 (-14)) _
              refine r_if_ne (tg := 21) rfl rfl (fun _ => ?_) (fun q => absurd q (by decide))
              refine r_aload rfl rfl ?_
              refine r_getA (b := ad 31) rfl ⟨rfl, rfl, rfl⟩ (fx_t30 fx) (fx_r30_0 fx) ?_
              refine r_iload rfl rfl ?_
              refine WR_tI (y := nI k2) ek2 ?_
              refine r_iaload rfl (.inl (fx_t31 fx)) (vp_ct (fx_n31 fx) (vp_in_nI (by have := i_nlt c1; have := i_rg c; have : (0 : Int32).toInt = 0 := rfl; have := i_eq ek2; have : (nI k2).toInt = ((k2 : Nat) : Int) := nI_toInt (by omega); have := i_nle c3; have : (24 : Int32).toInt = 24 := rfl; omega) (by omega))) ?_
              refine WR_tI (congrArg (hI (sI (sI (sI h (ad 0) 6 0) (ad 0) 6 (-14)) (ad 0) 6 (-14)) (ad 31)) ((nI_clamp (by have := i_nlt c1; have := i_rg c; have : (0 : Int32).toInt = 0 := rfl; have := i_eq ek2; have : (nI k2).toInt = ((k2 : Nat) : Int) := nI_toInt (by omega); have := i_nle c3; have : (24 : Int32).toInt = 24 := rfl; omega)) : _ = k2)) ?_
              refine WR_tI (y := nI t19) (Eq.trans (I_ne (fx_ne fx (by decide))) (Eq.trans (I_ne (fx_ne fx (by decide))) (Eq.trans (I_ne (fx_ne fx (by decide))) v19))) ?_
              refine r_istore (lv' := [some (.ref (ad 30)), some (.int c), some (.int i), some (.int d), some (.int (nI t19)), none, none]) rfl (Nat.le_of_ble_eq_true rfl) rfl ?_
              refine r_aload rfl rfl ?_
              refine r_getA (b := ad 31) rfl ⟨rfl, rfl, rfl⟩ (fx_t30 fx) (fx_r30_0 fx) ?_
              refine r_iload rfl rfl ?_
              refine WR_tI (y := nI k5) ek5 ?_
              refine r_iaload rfl (.inl (fx_t31 fx)) (vp_ct (fx_n31 fx) (vp_in_nI (by have := i_nlt c4; have := i_rg d; have : (0 : Int32).toInt = 0 := rfl; have := i_eq ek5; have : (nI k5).toInt = ((k5 : Nat) : Int) := nI_toInt (by omega); have := i_nle c6; have : (24 : Int32).toInt = 24 := rfl; omega) (by omega))) ?_
              refine WR_tI (congrArg (hI (sI (sI (sI h (ad 0) 6 0) (ad 0) 6 (-14)) (ad 0) 6 (-14)) (ad 31)) ((nI_clamp (by have := i_nlt c4; have := i_rg d; have : (0 : Int32).toInt = 0 := rfl; have := i_eq ek5; have : (nI k5).toInt = ((k5 : Nat) : Int) := nI_toInt (by omega); have := i_nle c6; have : (24 : Int32).toInt = 24 := rfl; omega)) : _ = k5)) ?_
              refine WR_tI (y := nI t7) (Eq.trans (I_ne (fx_ne fx (by decide))) (Eq.trans (I_ne (fx_ne fx (by decide))) (Eq.trans (I_ne (fx_ne fx (by decide))) v7))) ?_
              refine r_istore (lv' := [some (.ref (ad 30)), some (.int c), some (.int i), some (.int d), some (.int (nI t19)), some (.int (nI t7)), none]) rfl (Nat.le_of_ble_eq_true rfl) rfl ?_
              refine r_iload rfl rfl ?_
              refine r_ic (x := (-1)) rfl rfl ?_
              refine r_icmp_eq (tg := 54) rfl rfl (fun q => False.elim (by have : (nI t19).toInt = ((t19 : Nat) : Int) := nI_toInt (by omega); have : (-1 : Int32).toInt = -1 := rfl; have := i_eq q; omega)) (fun _ => ?_)
              refine r_aload rfl rfl ?_
              refine r_iload rfl rfl ?_
              refine r_cv (y := 166) (ra := [.int (nI t19)]) (rest := []) rfl ⟨⟨rfl, rfl⟩, rfl, by decide⟩ (fx_t30 fx) rfl rfl (Nat.le_of_ble_eq_true rfl) ?_
              refine in_166 (Nat.le_of_ble_eq_true rfl) ?_
              show WR _ cd_166 0 [some (.ref (ad 30)), some (.int (nI t19))] [] (sI (sI (sI h (ad 0) 6 0) (ad 0) 6 (-14)) (ad 0) 6 (-14)) _
              refine r_iload rfl rfl ?_
              refine r_ic (x := (-1)) rfl rfl ?_
              refine r_icmp_ne (tg := 9) rfl rfl (fun _ => ?_) (fun q => False.elim (by have : (nI t19).toInt = ((t19 : Nat) : Int) := nI_toInt (by omega); have : (-1 : Int32).toInt = -1 := rfl; have := i_eq q; omega))
              refine r_iload rfl rfl ?_
              refine r_ic (x := 1000) rfl rfl ?_
              refine r_icmp_lt (tg := 21) rfl rfl (fun _ => ?_) (fun q => False.elim (by have : (nI t19).toInt = ((t19 : Nat) : Int) := nI_toInt (by omega); have : (1000 : Int32).toInt = 1000 := rfl; have := i_nlt q; omega))
              refine r_aload rfl rfl ?_
              refine r_getA (b := ad 33) rfl ⟨rfl, rfl, rfl⟩ (fx_t30 fx) (fx_r30_2 fx) ?_
              refine r_iload rfl rfl ?_
              refine r_iaload rfl (.inl (fx_t33 fx)) (vp_ct (fx_n33 fx) (vp_in_nI (by omega) (by omega))) ?_
              refine WR_tI (congrArg (hI (sI (sI (sI h (ad 0) 6 0) (ad 0) 6 (-14)) (ad 0) 6 (-14)) (ad 33)) ((nI_clamp (by omega)) : _ = t19)) ?_
              refine WR_tI (y := nI ln19) (Eq.trans (I_ne (fx_ne fx (by decide))) (Eq.trans (I_ne (fx_ne fx (by decide))) (Eq.trans (I_ne (fx_ne fx (by decide))) l2_19))) ?_
              refine r_iret rfl ?_
              show WR _ cd_175 49 [some (.ref (ad 30)), some (.int c), some (.int i), some (.int d), some (.int (nI t19)), some (.int (nI t7)), none] [.int (nI ln19)] (sI (sI (sI h (ad 0) 6 0) (ad 0) 6 (-14)) (ad 0) 6 (-14)) _
              refine r_ic (x := 8) rfl rfl ?_
              refine r_icmp_ne (tg := 70) rfl rfl (fun _ => ?_) (fun q => False.elim (by have : (nI ln19).toInt = ((ln19 : Nat) : Int) := nI_toInt (by omega); have : (8 : Int32).toInt = 8 := rfl; have := i_eq q; omega))
              refine r_aload rfl rfl ?_
              refine r_ic (x := 4) rfl rfl ?_
              refine r_cv (y := 156) (ra := [.int 4]) (rest := []) rfl ⟨⟨rfl, rfl⟩, rfl, by decide⟩ (fx_t30 fx) rfl rfl (Nat.le_of_ble_eq_true rfl) ?_
              refine in_156 (Nat.le_of_ble_eq_true rfl) ?_
              show WR _ cd_156 0 [some (.ref (ad 30)), some (.int 4)] [] (sI (sI (sI h (ad 0) 6 0) (ad 0) 6 (-14)) (ad 0) 6 (-14)) _
              refine r_aload rfl rfl ?_
              refine r_ic (x := (-10)) rfl rfl ?_
              refine r_iload rfl rfl ?_
              refine r_isub rfl ?_
              refine WR_tI (y := (-14)) rfl ?_
              refine r_cv (y := 154) (ra := [.int (-14)]) (rest := []) rfl ⟨⟨rfl, rfl⟩, rfl, by decide⟩ (fx_t30 fx) rfl rfl (Nat.le_of_ble_eq_true rfl) ?_
              refine in_154 (Nat.le_of_ble_eq_true rfl) ?_
              show WR _ cd_154 0 [some (.ref (ad 30)), some (.int (-14))] [] (sI (sI (sI h (ad 0) 6 0) (ad 0) 6 (-14)) (ad 0) 6 (-14)) _
              refine r_aload rfl rfl ?_
              refine r_iload rfl rfl ?_
              refine r_ic (x := (-1)) rfl rfl ?_
              refine r_icmp_ge (tg := 10) rfl rfl (fun q => absurd q (by decide)) (fun _ => ?_)
              refine r_iload rfl rfl ?_
              refine r_goto (tg := 11) rfl rfl ?_
              refine r_putI rfl ⟨rfl, rfl, rfl⟩ (fx_t30 fx) ?_
              have fx : FX n ad sa z0 (sI (sI (sI (sI h (ad 0) 6 0) (ad 0) 6 (-14)) (ad 0) 6 (-14)) (ad 30) 11 (-14)) := (FX.sI fx)
              refine r_iload rfl rfl ?_
              refine r_iret rfl ?_
              show WR _ cd_156 8 [some (.ref (ad 30)), some (.int 4)] [.int (-14)] (sI (sI (sI (sI h (ad 0) 6 0) (ad 0) 6 (-14)) (ad 0) 6 (-14)) (ad 30) 11 (-14)) _
              refine r_iret rfl ?_
              show WR _ cd_175 75 [some (.ref (ad 30)), some (.int c), some (.int i), some (.int d), some (.int (nI t19)), some (.int (nI t7)), none] [.int (-14)] (sI (sI (sI (sI h (ad 0) 6 0) (ad 0) 6 (-14)) (ad 0) 6 (-14)) (ad 30) 11 (-14)) _
              refine r_iret rfl ?_
              exact ⟨rfl, Rel.why r ((((Chg.rf.sI (fx_j fx) (.inl (by decide))).sI (fx_j fx) (.inl (by decide))).sI (fx_j fx) (.inl (by decide))).sI (fx_j fx) (.inl (by decide))) ⟨rfl, by decide⟩ (Eq.trans (Eq.trans (I_ne (fx_ne fx (by decide))) I_eq) (Eq.symm I_eq)), (by (try simp only [hZ_sI, hZ_sL, hZ_sD, hZ_sR]); omega), (by (try simp only [hU_sI, hU_sL, hU_sD, hU_sR]); omega)⟩
            · refine r_aaloadA (b := mid t19) rfl (isQ_of (fx_t1 fx) (by decide)) (vp_ct (fx_n1 fx) (vp_in_nI (by have := i_nlt c1; have := i_rg c; have : (0 : Int32).toInt = 0 := rfl; have := i_eq ek2; have : (nI k2).toInt = ((k2 : Nat) : Int) := nI_toInt (by omega); have := i_nle c3; have : (24 : Int32).toInt = 24 := rfl; omega) (by omega))) (Eq.trans (congrArg (hR (sI h (ad 0) 6 0) (ad 1)) ((nI_clamp (by have := i_nlt c1; have := i_rg c; have : (0 : Int32).toInt = 0 := rfl; have := i_eq ek2; have : (nI k2).toInt = ((k2 : Nat) : Int) := nI_toInt (by omega); have := i_nle c3; have : (24 : Int32).toInt = 24 := rfl; omega)) : _ = k2)) (Eq.trans R_oI w19)) ?_
              refine r_astore (lv' := [some (.ref (ad 0)), some (.int (nI k2)), some (.int 8), some (.ref (mid t19)), none]) rfl (Nat.le_of_ble_eq_true rfl) rfl ?_
              refine r_aload rfl rfl ?_
              refine r_instY rfl (by decide) tg19 ?_
              refine r_if_eq (tg := 32) rfl rfl (fun q => absurd q (by decide)) (fun _ => ?_)
              refine r_aload rfl rfl ?_
              refine r_cast rfl tg19 ?_
              refine r_astore (lv' := [some (.ref (ad 0)), some (.int (nI k2)), some (.int 8), some (.ref (mid t19)), some (.ref (mid t19))]) rfl (Nat.le_of_ble_eq_true rfl) rfl ?_
              refine r_aload rfl rfl ?_
              refine r_cv (y := 28) (ra := []) (rest := []) rfl ⟨⟨rfl, rfl⟩, rfl, by decide⟩ tg19 rfl rfl (Nat.le_of_ble_eq_true rfl) ?_
              refine in_28 (Nat.le_of_ble_eq_true rfl) ?_
              show WR _ cd_28 0 [some (.ref (mid t19))] [] (sI h (ad 0) 6 0) _
              refine r_aload rfl rfl ?_
              refine r_getI rfl ⟨rfl, rfl, rfl⟩ tg19 ?_
              refine WR_tI (y := (-1)) (Eq.trans (I_ne (dy_ad fx (.inl (by decide)) dz19)) k1_19) ?_
              refine r_ic (x := (-1)) rfl rfl ?_
              refine r_icmp_ne (tg := 13) rfl rfl (fun q => absurd q (by decide)) (fun _ => ?_)
              refine r_ic (x := 8) rfl rfl ?_
              refine r_goto (tg := 15) rfl rfl ?_
              refine r_iret rfl ?_
              show WR _ cd_43 25 [some (.ref (ad 0)), some (.int (nI k2)), some (.int 8), some (.ref (mid t19)), some (.ref (mid t19))] [.int 8] (sI h (ad 0) 6 0) _
              refine r_iload rfl rfl ?_
              refine r_icmp_ne (tg := 32) rfl rfl (fun q => absurd q (by decide)) (fun _ => ?_)
              refine r_aload rfl rfl ?_
              refine r_aret rfl ?_
              show WR _ cd_46 15 [some (.ref (ad 0)), some (.int (nI k2)), some (.int 8), some (.int i), some (.int (nI k5)), some (.int 3), some (.ref (mid t7)), none] [.ref (mid t19)] (sI h (ad 0) 6 0) _
              refine r_astore (lv' := [some (.ref (ad 0)), some (.int (nI k2)), some (.int 8), some (.int i), some (.int (nI k5)), some (.int 3), some (.ref (mid t7)), some (.ref (mid t19))]) rfl (Nat.le_of_ble_eq_true rfl) rfl ?_
              refine r_aload rfl rfl ?_
              refine r_getI rfl ⟨rfl, rfl, rfl⟩ (fx_t0 fx) ?_
              refine WR_tI (y := 0) I_eq ?_
              refine r_ic (x := (-14)) rfl rfl ?_
              refine r_icmp_eq (tg := 41) rfl rfl (fun q => absurd q (by decide)) (fun _ => ?_)
              refine r_aload rfl rfl ?_
              refine r_ifnullA (tg := 48) rfl rfl ?_
              refine r_aload rfl rfl ?_
              refine r_cw (y := 28) (ra := []) (rest := []) rfl ⟨rfl, rfl⟩ (by rw [show hT (sI h (ad 0) 6 0) (mid t7) = 6 from tg7]; rfl) rfl rfl (Nat.le_of_ble_eq_true rfl) ?_
              refine in_28 (Nat.le_of_ble_eq_true rfl) ?_
              show WR _ cd_28 0 [some (.ref (mid t7))] [] (sI h (ad 0) 6 0) _
              refine r_aload rfl rfl ?_
              refine r_getI rfl ⟨rfl, rfl, rfl⟩ tg7 ?_
              refine WR_tI (y := (-1)) (Eq.trans (I_ne (dy_ad fx (.inl (by decide)) dz7)) k1_7) ?_
              refine r_ic (x := (-1)) rfl rfl ?_
              refine r_icmp_ne (tg := 13) rfl rfl (fun q => absurd q (by decide)) (fun _ => ?_)
              refine r_ic (x := 8) rfl rfl ?_
              refine r_goto (tg := 15) rfl rfl ?_
              refine r_iret rfl ?_
              show WR _ cd_46 36 [some (.ref (ad 0)), some (.int (nI k2)), some (.int 8), some (.int i), some (.int (nI k5)), some (.int 3), some (.ref (mid t7)), some (.ref (mid t19))] [.int 8] (sI h (ad 0) 6 0) _
              refine r_iload rfl rfl ?_
              refine r_icmp_eq (tg := 48) rfl rfl (fun q => absurd q (by decide)) (fun _ => ?_)
              refine r_aload rfl rfl ?_
              refine r_ic (x := (-14)) rfl rfl ?_
              refine r_cv (y := 13) (ra := [.int (-14)]) (rest := []) rfl ⟨⟨rfl, rfl⟩, rfl, by decide⟩ (fx_t0 fx) rfl rfl (Nat.le_of_ble_eq_true rfl) ?_
              refine in_13 (Nat.le_of_ble_eq_true rfl) ?_
              show WR _ cd_13 0 [some (.ref (ad 0)), some (.int (-14))] [] (sI h (ad 0) 6 0) _
              refine r_aload rfl rfl ?_
              refine r_iload rfl rfl ?_
              refine r_putI rfl ⟨rfl, rfl, rfl⟩ (fx_t0 fx) ?_
              have fx : FX n ad sa z0 (sI (sI h (ad 0) 6 0) (ad 0) 6 (-14)) := (FX.sI fx)
              refine r_iload rfl rfl ?_
              refine r_iret rfl ?_
              show WR _ cd_46 47 [some (.ref (ad 0)), some (.int (nI k2)), some (.int 8), some (.int i), some (.int (nI k5)), some (.int 3), some (.ref (mid t7)), some (.ref (mid t19))] [.int (-14)] (sI (sI h (ad 0) 6 0) (ad 0) 6 (-14)) _
              refine r_iret rfl ?_
              show WR _ cd_45 36 [some (.ref (ad 0)), some (.int c), some (.int i), some (.int d)] [.int (-14)] (sI (sI h (ad 0) 6 0) (ad 0) 6 (-14)) _
              refine r_iret rfl ?_
              show EV _ 175 [.ref (ad 30), .int c, .int i, .int d] (sI (sI h (ad 0) 6 0) (ad 0) 6 (-14)) _
              refine in_175 (Nat.le_of_ble_eq_true rfl) ?_
              show WR _ cd_175 0 [some (.ref (ad 30)), some (.int c), some (.int i), some (.int d), none, none, none] [] (sI (sI h (ad 0) 6 0) (ad 0) 6 (-14)) _
              refine r_iload rfl rfl ?_
              refine WR_tI (y := nI k2) ek2 ?_
              refine r_cs (y := 153) (ra := [.int (nI k2)]) (rest := []) rfl ⟨⟨rfl, rfl⟩, by decide⟩ rfl rfl (Nat.le_of_ble_eq_true rfl) ?_
              refine in_153 (Nat.le_of_ble_eq_true rfl) ?_
              show WR _ cd_153 0 [some (.int (nI k2))] [] (sI (sI h (ad 0) 6 0) (ad 0) 6 (-14)) _
              refine r_iload rfl rfl ?_
              refine r_if_lt (tg := 14) rfl rfl (fun q => False.elim (by have := i_nlt c1; have := i_rg c; have : (0 : Int32).toInt = 0 := rfl; have := i_eq ek2; have : (nI k2).toInt = ((k2 : Nat) : Int) := nI_toInt (by omega); have := i_nle c3; have : (24 : Int32).toInt = 24 := rfl; have := i_lt q; omega)) (fun _ => ?_)
              refine r_iload rfl rfl ?_
              refine r_ic (x := 24) rfl rfl ?_
              refine r_icmp_ge (tg := 14) rfl rfl (fun q => False.elim (by have := i_nlt c1; have := i_rg c; have : (0 : Int32).toInt = 0 := rfl; have := i_eq ek2; have : (nI k2).toInt = ((k2 : Nat) : Int) := nI_toInt (by omega); have := i_nle c3; have : (24 : Int32).toInt = 24 := rfl; have := i_le q; omega)) (fun _ => ?_)
              refine r_ic (x := 1) rfl rfl ?_
              refine r_goto (tg := 15) rfl rfl ?_
              refine r_zret rfl (.inr rfl) ?_
              show WR _ cd_175 4 [some (.ref (ad 30)), some (.int c), some (.int i), some (.int d), none, none, none] [.int 1] (sI (sI h (ad 0) 6 0) (ad 0) 6 (-14)) _
              refine r_if_eq (tg := 14) rfl rfl (fun q => absurd q (by decide)) (fun _ => ?_)
              refine r_iload rfl rfl ?_
              refine WR_tI (y := nI k5) ek5 ?_
              refine r_cs (y := 153) (ra := [.int (nI k5)]) (rest := []) rfl ⟨⟨rfl, rfl⟩, by decide⟩ rfl rfl (Nat.le_of_ble_eq_true rfl) ?_
              refine in_153 (Nat.le_of_ble_eq_true rfl) ?_
              show WR _ cd_153 0 [some (.int (nI k5))] [] (sI (sI h (ad 0) 6 0) (ad 0) 6 (-14)) _
              refine r_iload rfl rfl ?_
              refine r_if_lt (tg := 14) rfl rfl (fun q => False.elim (by have := i_nlt c4; have := i_rg d; have : (0 : Int32).toInt = 0 := rfl; have := i_eq ek5; have : (nI k5).toInt = ((k5 : Nat) : Int) := nI_toInt (by omega); have := i_nle c6; have : (24 : Int32).toInt = 24 := rfl; have := i_lt q; omega)) (fun _ => ?_)
              refine r_iload rfl rfl ?_
              refine r_ic (x := 24) rfl rfl ?_
              refine r_icmp_ge (tg := 14) rfl rfl (fun q => False.elim (by have := i_nlt c4; have := i_rg d; have : (0 : Int32).toInt = 0 := rfl; have := i_eq ek5; have : (nI k5).toInt = ((k5 : Nat) : Int) := nI_toInt (by omega); have := i_nle c6; have : (24 : Int32).toInt = 24 := rfl; have := i_le q; omega)) (fun _ => ?_)
              refine r_ic (x := 1) rfl rfl ?_
              refine r_goto (tg := 15) rfl rfl ?_
              refine r_zret rfl (.inr rfl) ?_
              show WR _ cd_175 11 [some (.ref (ad 30)), some (.int c), some (.int i), some (.int d), none, none, none] [.int 1] (sI (sI h (ad 0) 6 0) (ad 0) 6 (-14)) _
              refine r_if_ne (tg := 21) rfl rfl (fun _ => ?_) (fun q => absurd q (by decide))
              refine r_aload rfl rfl ?_
              refine r_getA (b := ad 31) rfl ⟨rfl, rfl, rfl⟩ (fx_t30 fx) (fx_r30_0 fx) ?_
              refine r_iload rfl rfl ?_
              refine WR_tI (y := nI k2) ek2 ?_
              refine r_iaload rfl (.inl (fx_t31 fx)) (vp_ct (fx_n31 fx) (vp_in_nI (by have := i_nlt c1; have := i_rg c; have : (0 : Int32).toInt = 0 := rfl; have := i_eq ek2; have : (nI k2).toInt = ((k2 : Nat) : Int) := nI_toInt (by omega); have := i_nle c3; have : (24 : Int32).toInt = 24 := rfl; omega) (by omega))) ?_
              refine WR_tI (congrArg (hI (sI (sI h (ad 0) 6 0) (ad 0) 6 (-14)) (ad 31)) ((nI_clamp (by have := i_nlt c1; have := i_rg c; have : (0 : Int32).toInt = 0 := rfl; have := i_eq ek2; have : (nI k2).toInt = ((k2 : Nat) : Int) := nI_toInt (by omega); have := i_nle c3; have : (24 : Int32).toInt = 24 := rfl; omega)) : _ = k2)) ?_
              refine WR_tI (y := nI t19) (Eq.trans (I_ne (fx_ne fx (by decide))) (Eq.trans (I_ne (fx_ne fx (by decide))) v19)) ?_
              refine r_istore (lv' := [some (.ref (ad 30)), some (.int c), some (.int i), some (.int d), some (.int (nI t19)), none, none]) rfl (Nat.le_of_ble_eq_true rfl) rfl ?_
              refine r_aload rfl rfl ?_
              refine r_getA (b := ad 31) rfl ⟨rfl, rfl, rfl⟩ (fx_t30 fx) (fx_r30_0 fx) ?_
              refine r_iload rfl rfl ?_
              refine WR_tI (y := nI k5) ek5 ?_
              refine r_iaload rfl (.inl (fx_t31 fx)) (vp_ct (fx_n31 fx) (vp_in_nI (by have := i_nlt c4; have := i_rg d; have : (0 : Int32).toInt = 0 := rfl; have := i_eq ek5; have : (nI k5).toInt = ((k5 : Nat) : Int) := nI_toInt (by omega); have := i_nle c6; have : (24 : Int32).toInt = 24 := rfl; omega) (by omega))) ?_
              refine WR_tI (congrArg (hI (sI (sI h (ad 0) 6 0) (ad 0) 6 (-14)) (ad 31)) ((nI_clamp (by have := i_nlt c4; have := i_rg d; have : (0 : Int32).toInt = 0 := rfl; have := i_eq ek5; have : (nI k5).toInt = ((k5 : Nat) : Int) := nI_toInt (by omega); have := i_nle c6; have : (24 : Int32).toInt = 24 := rfl; omega)) : _ = k5)) ?_
              refine WR_tI (y := nI t7) (Eq.trans (I_ne (fx_ne fx (by decide))) (Eq.trans (I_ne (fx_ne fx (by decide))) v7)) ?_
              refine r_istore (lv' := [some (.ref (ad 30)), some (.int c), some (.int i), some (.int d), some (.int (nI t19)), some (.int (nI t7)), none]) rfl (Nat.le_of_ble_eq_true rfl) rfl ?_
              refine r_iload rfl rfl ?_
              refine r_ic (x := (-1)) rfl rfl ?_
              refine r_icmp_eq (tg := 54) rfl rfl (fun q => False.elim (by have : (nI t19).toInt = ((t19 : Nat) : Int) := nI_toInt (by omega); have : (-1 : Int32).toInt = -1 := rfl; have := i_eq q; omega)) (fun _ => ?_)
              refine r_aload rfl rfl ?_
              refine r_iload rfl rfl ?_
              refine r_cv (y := 166) (ra := [.int (nI t19)]) (rest := []) rfl ⟨⟨rfl, rfl⟩, rfl, by decide⟩ (fx_t30 fx) rfl rfl (Nat.le_of_ble_eq_true rfl) ?_
              refine in_166 (Nat.le_of_ble_eq_true rfl) ?_
              show WR _ cd_166 0 [some (.ref (ad 30)), some (.int (nI t19))] [] (sI (sI h (ad 0) 6 0) (ad 0) 6 (-14)) _
              refine r_iload rfl rfl ?_
              refine r_ic (x := (-1)) rfl rfl ?_
              refine r_icmp_ne (tg := 9) rfl rfl (fun _ => ?_) (fun q => False.elim (by have : (nI t19).toInt = ((t19 : Nat) : Int) := nI_toInt (by omega); have : (-1 : Int32).toInt = -1 := rfl; have := i_eq q; omega))
              refine r_iload rfl rfl ?_
              refine r_ic (x := 1000) rfl rfl ?_
              refine r_icmp_lt (tg := 21) rfl rfl (fun _ => ?_) (fun q => False.elim (by have : (nI t19).toInt = ((t19 : Nat) : Int) := nI_toInt (by omega); have : (1000 : Int32).toInt = 1000 := rfl; have := i_nlt q; omega))
              refine r_aload rfl rfl ?_
              refine r_getA (b := ad 33) rfl ⟨rfl, rfl, rfl⟩ (fx_t30 fx) (fx_r30_2 fx) ?_
              refine r_iload rfl rfl ?_
              refine r_iaload rfl (.inl (fx_t33 fx)) (vp_ct (fx_n33 fx) (vp_in_nI (by omega) (by omega))) ?_
              refine WR_tI (congrArg (hI (sI (sI h (ad 0) 6 0) (ad 0) 6 (-14)) (ad 33)) ((nI_clamp (by omega)) : _ = t19)) ?_
              refine WR_tI (y := 8) (Eq.trans (I_ne (fx_ne fx (by decide))) (Eq.trans (I_ne (fx_ne fx (by decide))) l2_19)) ?_
              refine r_iret rfl ?_
              show WR _ cd_175 49 [some (.ref (ad 30)), some (.int c), some (.int i), some (.int d), some (.int (nI t19)), some (.int (nI t7)), none] [.int 8] (sI (sI h (ad 0) 6 0) (ad 0) 6 (-14)) _
              refine r_ic (x := 8) rfl rfl ?_
              refine r_icmp_ne (tg := 70) rfl rfl (fun q => absurd q (by decide)) (fun _ => ?_)
              refine r_iload rfl rfl ?_
              refine r_ic (x := (-1)) rfl rfl ?_
              refine r_icmp_eq (tg := 76) rfl rfl (fun q => False.elim (by have : (nI t7).toInt = ((t7 : Nat) : Int) := nI_toInt (by omega); have : (-1 : Int32).toInt = -1 := rfl; have := i_eq q; omega)) (fun _ => ?_)
              refine r_aload rfl rfl ?_
              refine r_iload rfl rfl ?_
              refine r_cv (y := 166) (ra := [.int (nI t7)]) (rest := []) rfl ⟨⟨rfl, rfl⟩, rfl, by decide⟩ (fx_t30 fx) rfl rfl (Nat.le_of_ble_eq_true rfl) ?_
              refine in_166 (Nat.le_of_ble_eq_true rfl) ?_
              show WR _ cd_166 0 [some (.ref (ad 30)), some (.int (nI t7))] [] (sI (sI h (ad 0) 6 0) (ad 0) 6 (-14)) _
              refine r_iload rfl rfl ?_
              refine r_ic (x := (-1)) rfl rfl ?_
              refine r_icmp_ne (tg := 9) rfl rfl (fun _ => ?_) (fun q => False.elim (by have : (nI t7).toInt = ((t7 : Nat) : Int) := nI_toInt (by omega); have : (-1 : Int32).toInt = -1 := rfl; have := i_eq q; omega))
              refine r_iload rfl rfl ?_
              refine r_ic (x := 1000) rfl rfl ?_
              refine r_icmp_lt (tg := 21) rfl rfl (fun _ => ?_) (fun q => False.elim (by have : (nI t7).toInt = ((t7 : Nat) : Int) := nI_toInt (by omega); have : (1000 : Int32).toInt = 1000 := rfl; have := i_nlt q; omega))
              refine r_aload rfl rfl ?_
              refine r_getA (b := ad 33) rfl ⟨rfl, rfl, rfl⟩ (fx_t30 fx) (fx_r30_2 fx) ?_
              refine r_iload rfl rfl ?_
              refine r_iaload rfl (.inl (fx_t33 fx)) (vp_ct (fx_n33 fx) (vp_in_nI (by omega) (by omega))) ?_
              refine WR_tI (congrArg (hI (sI (sI h (ad 0) 6 0) (ad 0) 6 (-14)) (ad 33)) ((nI_clamp (by omega)) : _ = t7)) ?_
              refine WR_tI (y := 8) (Eq.trans (I_ne (fx_ne fx (by decide))) (Eq.trans (I_ne (fx_ne fx (by decide))) l2_7)) ?_
              refine r_iret rfl ?_
              show WR _ cd_175 66 [some (.ref (ad 30)), some (.int c), some (.int i), some (.int d), some (.int (nI t19)), some (.int (nI t7)), none] [.int 8] (sI (sI h (ad 0) 6 0) (ad 0) 6 (-14)) _
              refine r_ic (x := 3) rfl rfl ?_
              refine r_icmp_eq (tg := 76) rfl rfl (fun q => absurd q (by decide)) (fun _ => ?_)
              refine r_aload rfl rfl ?_
              refine r_ic (x := 4) rfl rfl ?_
              refine r_cv (y := 156) (ra := [.int 4]) (rest := []) rfl ⟨⟨rfl, rfl⟩, rfl, by decide⟩ (fx_t30 fx) rfl rfl (Nat.le_of_ble_eq_true rfl) ?_
              refine in_156 (Nat.le_of_ble_eq_true rfl) ?_
              show WR _ cd_156 0 [some (.ref (ad 30)), some (.int 4)] [] (sI (sI h (ad 0) 6 0) (ad 0) 6 (-14)) _
              refine r_aload rfl rfl ?_
              refine r_ic (x := (-10)) rfl rfl ?_
              refine r_iload rfl rfl ?_
              refine r_isub rfl ?_
              refine WR_tI (y := (-14)) rfl ?_
              refine r_cv (y := 154) (ra := [.int (-14)]) (rest := []) rfl ⟨⟨rfl, rfl⟩, rfl, by decide⟩ (fx_t30 fx) rfl rfl (Nat.le_of_ble_eq_true rfl) ?_
              refine in_154 (Nat.le_of_ble_eq_true rfl) ?_
              show WR _ cd_154 0 [some (.ref (ad 30)), some (.int (-14))] [] (sI (sI h (ad 0) 6 0) (ad 0) 6 (-14)) _
              refine r_aload rfl rfl ?_
              refine r_iload rfl rfl ?_
              refine r_ic (x := (-1)) rfl rfl ?_
              refine r_icmp_ge (tg := 10) rfl rfl (fun q => absurd q (by decide)) (fun _ => ?_)
              refine r_iload rfl rfl ?_
              refine r_goto (tg := 11) rfl rfl ?_
              refine r_putI rfl ⟨rfl, rfl, rfl⟩ (fx_t30 fx) ?_
              have fx : FX n ad sa z0 (sI (sI (sI h (ad 0) 6 0) (ad 0) 6 (-14)) (ad 30) 11 (-14)) := (FX.sI fx)
              refine r_iload rfl rfl ?_
              refine r_iret rfl ?_
              show WR _ cd_156 8 [some (.ref (ad 30)), some (.int 4)] [.int (-14)] (sI (sI (sI h (ad 0) 6 0) (ad 0) 6 (-14)) (ad 30) 11 (-14)) _
              refine r_iret rfl ?_
              show WR _ cd_175 75 [some (.ref (ad 30)), some (.int c), some (.int i), some (.int d), some (.int (nI t19)), some (.int (nI t7)), none] [.int (-14)] (sI (sI (sI h (ad 0) 6 0) (ad 0) 6 (-14)) (ad 30) 11 (-14)) _
              refine r_iret rfl ?_
              exact ⟨rfl, Rel.why r (((Chg.rf.sI (fx_j fx) (.inl (by decide))).sI (fx_j fx) (.inl (by decide))).sI (fx_j fx) (.inl (by decide))) ⟨rfl, by decide⟩ (Eq.trans (Eq.trans (I_ne (fx_ne fx (by decide))) I_eq) (Eq.symm I_eq)), (by (try simp only [hZ_sI, hZ_sL, hZ_sD, hZ_sR]); omega), (by (try simp only [hU_sI, hU_sL, hU_sD, hU_sR]); omega)⟩
            · refine r_aaloadA (b := mid t19) rfl (isQ_of (fx_t1 fx) (by decide)) (vp_ct (fx_n1 fx) (vp_in_nI (by have := i_nlt c1; have := i_rg c; have : (0 : Int32).toInt = 0 := rfl; have := i_eq ek2; have : (nI k2).toInt = ((k2 : Nat) : Int) := nI_toInt (by omega); have := i_nle c3; have : (24 : Int32).toInt = 24 := rfl; omega) (by omega))) (Eq.trans (congrArg (hR (sI h (ad 0) 6 0) (ad 1)) ((nI_clamp (by have := i_nlt c1; have := i_rg c; have : (0 : Int32).toInt = 0 := rfl; have := i_eq ek2; have : (nI k2).toInt = ((k2 : Nat) : Int) := nI_toInt (by omega); have := i_nle c3; have : (24 : Int32).toInt = 24 := rfl; omega)) : _ = k2)) (Eq.trans R_oI w19)) ?_
              refine r_astore (lv' := [some (.ref (ad 0)), some (.int (nI k2)), some (.int 8), some (.ref (mid t19)), none]) rfl (Nat.le_of_ble_eq_true rfl) rfl ?_
              refine r_aload rfl rfl ?_
              refine r_instY rfl (by decide) tg19 ?_
              refine r_if_eq (tg := 32) rfl rfl (fun q => absurd q (by decide)) (fun _ => ?_)
              refine r_aload rfl rfl ?_
              refine r_cast rfl tg19 ?_
              refine r_astore (lv' := [some (.ref (ad 0)), some (.int (nI k2)), some (.int 8), some (.ref (mid t19)), some (.ref (mid t19))]) rfl (Nat.le_of_ble_eq_true rfl) rfl ?_
              refine r_aload rfl rfl ?_
              refine r_cv (y := 28) (ra := []) (rest := []) rfl ⟨⟨rfl, rfl⟩, rfl, by decide⟩ tg19 rfl rfl (Nat.le_of_ble_eq_true rfl) ?_
              refine in_28 (Nat.le_of_ble_eq_true rfl) ?_
              show WR _ cd_28 0 [some (.ref (mid t19))] [] (sI h (ad 0) 6 0) _
              refine r_aload rfl rfl ?_
              refine r_getI rfl ⟨rfl, rfl, rfl⟩ tg19 ?_
              refine WR_tI (y := nI kd19) (Eq.trans (I_ne (dy_ad fx (.inl (by decide)) dz19)) k1_19) ?_
              refine r_ic (x := (-1)) rfl rfl ?_
              refine r_icmp_ne (tg := 13) rfl rfl (fun _ => ?_) (fun q => False.elim (by have : (nI kd19).toInt = ((kd19 : Nat) : Int) := nI_toInt (by omega); have : (-1 : Int32).toInt = -1 := rfl; have := i_eq q; omega))
              refine r_ic (x := 9) rfl rfl ?_
              refine r_iret rfl ?_
              show WR _ cd_43 25 [some (.ref (ad 0)), some (.int (nI k2)), some (.int 8), some (.ref (mid t19)), some (.ref (mid t19))] [.int 9] (sI h (ad 0) 6 0) _
              refine r_iload rfl rfl ?_
              refine r_icmp_ne (tg := 32) rfl rfl (fun _ => ?_) (fun q => absurd q (by decide))
              refine r_aload rfl rfl ?_
              refine r_aload rfl rfl ?_
              refine r_ifnonnullA (tg := 42) rfl rfl ?_
              refine r_ic (x := (-14)) rfl rfl ?_
              refine r_putI rfl ⟨rfl, rfl, rfl⟩ (fx_t0 fx) ?_
              have fx : FX n ad sa z0 (sI (sI h (ad 0) 6 0) (ad 0) 6 (-14)) := (FX.sI fx)
              refine r_null rfl ?_
              refine r_aret0 rfl ?_
              show WR _ cd_46 15 [some (.ref (ad 0)), some (.int (nI k2)), some (.int 8), some (.int i), some (.int (nI k5)), some (.int 3), some (.ref (mid t7)), none] [.null] (sI (sI h (ad 0) 6 0) (ad 0) 6 (-14)) _
              refine r_astore0 (lv' := [some (.ref (ad 0)), some (.int (nI k2)), some (.int 8), some (.int i), some (.int (nI k5)), some (.int 3), some (.ref (mid t7)), some (.null)]) rfl (Nat.le_of_ble_eq_true rfl) rfl ?_
              refine r_aload rfl rfl ?_
              refine r_getI rfl ⟨rfl, rfl, rfl⟩ (fx_t0 fx) ?_
              refine WR_tI (y := (-14)) I_eq ?_
              refine r_ic (x := (-14)) rfl rfl ?_
              refine r_icmp_eq (tg := 41) rfl rfl (fun _ => ?_) (fun q => absurd q (by decide))
              refine r_aload rfl rfl ?_
              refine r_ic (x := (-14)) rfl rfl ?_
              refine r_cv (y := 13) (ra := [.int (-14)]) (rest := []) rfl ⟨⟨rfl, rfl⟩, rfl, by decide⟩ (fx_t0 fx) rfl rfl (Nat.le_of_ble_eq_true rfl) ?_
              refine in_13 (Nat.le_of_ble_eq_true rfl) ?_
              show WR _ cd_13 0 [some (.ref (ad 0)), some (.int (-14))] [] (sI (sI h (ad 0) 6 0) (ad 0) 6 (-14)) _
              refine r_aload rfl rfl ?_
              refine r_iload rfl rfl ?_
              refine r_putI rfl ⟨rfl, rfl, rfl⟩ (fx_t0 fx) ?_
              have fx : FX n ad sa z0 (sI (sI (sI h (ad 0) 6 0) (ad 0) 6 (-14)) (ad 0) 6 (-14)) := (FX.sI fx)
              refine r_iload rfl rfl ?_
              refine r_iret rfl ?_
              show WR _ cd_46 47 [some (.ref (ad 0)), some (.int (nI k2)), some (.int 8), some (.int i), some (.int (nI k5)), some (.int 3), some (.ref (mid t7)), some (.null)] [.int (-14)] (sI (sI (sI h (ad 0) 6 0) (ad 0) 6 (-14)) (ad 0) 6 (-14)) _
              refine r_iret rfl ?_
              show WR _ cd_45 36 [some (.ref (ad 0)), some (.int c), some (.int i), some (.int d)] [.int (-14)] (sI (sI (sI h (ad 0) 6 0) (ad 0) 6 (-14)) (ad 0) 6 (-14)) _
              refine r_iret rfl ?_
              show EV _ 175 [.ref (ad 30), .int c, .int i, .int d] (sI (sI (sI h (ad 0) 6 0) (ad 0) 6 (-14)) (ad 0) 6 (-14)) _
              refine in_175 (Nat.le_of_ble_eq_true rfl) ?_
              show WR _ cd_175 0 [some (.ref (ad 30)), some (.int c), some (.int i), some (.int d), none, none, none] [] (sI (sI (sI h (ad 0) 6 0) (ad 0) 6 (-14)) (ad 0) 6 (-14)) _
              refine r_iload rfl rfl ?_
              refine WR_tI (y := nI k2) ek2 ?_
              refine r_cs (y := 153) (ra := [.int (nI k2)]) (rest := []) rfl ⟨⟨rfl, rfl⟩, by decide⟩ rfl rfl (Nat.le_of_ble_eq_true rfl) ?_
              refine in_153 (Nat.le_of_ble_eq_true rfl) ?_
              show WR _ cd_153 0 [some (.int (nI k2))] [] (sI (sI (sI h (ad 0) 6 0) (ad 0) 6 (-14)) (ad 0) 6 (-14)) _
              refine r_iload rfl rfl ?_
              refine r_if_lt (tg := 14) rfl rfl (fun q => False.elim (by have := i_nlt c1; have := i_rg c; have : (0 : Int32).toInt = 0 := rfl; have := i_eq ek2; have : (nI k2).toInt = ((k2 : Nat) : Int) := nI_toInt (by omega); have := i_nle c3; have : (24 : Int32).toInt = 24 := rfl; have := i_lt q; omega)) (fun _ => ?_)
              refine r_iload rfl rfl ?_
              refine r_ic (x := 24) rfl rfl ?_
              refine r_icmp_ge (tg := 14) rfl rfl (fun q => False.elim (by have := i_nlt c1; have := i_rg c; have : (0 : Int32).toInt = 0 := rfl; have := i_eq ek2; have : (nI k2).toInt = ((k2 : Nat) : Int) := nI_toInt (by omega); have := i_nle c3; have : (24 : Int32).toInt = 24 := rfl; have := i_le q; omega)) (fun _ => ?_)
              refine r_ic (x := 1) rfl rfl ?_
              refine r_goto (tg := 15) rfl rfl ?_
              refine r_zret rfl (.inr rfl) ?_
              show WR _ cd_175 4 [some (.ref (ad 30)), some (.int c), some (.int i), some (.int d), none, none, none] [.int 1] (sI (sI (sI h (ad 0) 6 0) (ad 0) 6 (-14)) (ad 0) 6 (-14)) _
              refine r_if_eq (tg := 14) rfl rfl (fun q => absurd q (by decide)) (fun _ => ?_)
              refine r_iload rfl rfl ?_
              refine WR_tI (y := nI k5) ek5 ?_
              refine r_cs (y := 153) (ra := [.int (nI k5)]) (rest := []) rfl ⟨⟨rfl, rfl⟩, by decide⟩ rfl rfl (Nat.le_of_ble_eq_true rfl) ?_
              refine in_153 (Nat.le_of_ble_eq_true rfl) ?_
              show WR _ cd_153 0 [some (.int (nI k5))] [] (sI (sI (sI h (ad 0) 6 0) (ad 0) 6 (-14)) (ad 0) 6 (-14)) _
              refine r_iload rfl rfl ?_
              refine r_if_lt (tg := 14) rfl rfl (fun q => False.elim (by have := i_nlt c4; have := i_rg d; have : (0 : Int32).toInt = 0 := rfl; have := i_eq ek5; have : (nI k5).toInt = ((k5 : Nat) : Int) := nI_toInt (by omega); have := i_nle c6; have : (24 : Int32).toInt = 24 := rfl; have := i_lt q; omega)) (fun _ => ?_)
              refine r_iload rfl rfl ?_
              refine r_ic (x := 24) rfl rfl ?_
              refine r_icmp_ge (tg := 14) rfl rfl (fun q => False.elim (by have := i_nlt c4; have := i_rg d; have : (0 : Int32).toInt = 0 := rfl; have := i_eq ek5; have : (nI k5).toInt = ((k5 : Nat) : Int) := nI_toInt (by omega); have := i_nle c6; have : (24 : Int32).toInt = 24 := rfl; have := i_le q; omega)) (fun _ => ?_)
              refine r_ic (x := 1) rfl rfl ?_
              refine r_goto (tg := 15) rfl rfl ?_
              refine r_zret rfl (.inr rfl) ?_
              show WR _ cd_175 11 [some (.ref (ad 30)), some (.int c), some (.int i), some (.int d), none, none, none] [.int 1] (sI (sI (sI h (ad 0) 6 0) (ad 0) 6 (-14)) (ad 0) 6 (-14)) _
              refine r_if_ne (tg := 21) rfl rfl (fun _ => ?_) (fun q => absurd q (by decide))
              refine r_aload rfl rfl ?_
              refine r_getA (b := ad 31) rfl ⟨rfl, rfl, rfl⟩ (fx_t30 fx) (fx_r30_0 fx) ?_
              refine r_iload rfl rfl ?_
              refine WR_tI (y := nI k2) ek2 ?_
              refine r_iaload rfl (.inl (fx_t31 fx)) (vp_ct (fx_n31 fx) (vp_in_nI (by have := i_nlt c1; have := i_rg c; have : (0 : Int32).toInt = 0 := rfl; have := i_eq ek2; have : (nI k2).toInt = ((k2 : Nat) : Int) := nI_toInt (by omega); have := i_nle c3; have : (24 : Int32).toInt = 24 := rfl; omega) (by omega))) ?_
              refine WR_tI (congrArg (hI (sI (sI (sI h (ad 0) 6 0) (ad 0) 6 (-14)) (ad 0) 6 (-14)) (ad 31)) ((nI_clamp (by have := i_nlt c1; have := i_rg c; have : (0 : Int32).toInt = 0 := rfl; have := i_eq ek2; have : (nI k2).toInt = ((k2 : Nat) : Int) := nI_toInt (by omega); have := i_nle c3; have : (24 : Int32).toInt = 24 := rfl; omega)) : _ = k2)) ?_
              refine WR_tI (y := nI t19) (Eq.trans (I_ne (fx_ne fx (by decide))) (Eq.trans (I_ne (fx_ne fx (by decide))) (Eq.trans (I_ne (fx_ne fx (by decide))) v19))) ?_
              refine r_istore (lv' := [some (.ref (ad 30)), some (.int c), some (.int i), some (.int d), some (.int (nI t19)), none, none]) rfl (Nat.le_of_ble_eq_true rfl) rfl ?_
              refine r_aload rfl rfl ?_
              refine r_getA (b := ad 31) rfl ⟨rfl, rfl, rfl⟩ (fx_t30 fx) (fx_r30_0 fx) ?_
              refine r_iload rfl rfl ?_
              refine WR_tI (y := nI k5) ek5 ?_
              refine r_iaload rfl (.inl (fx_t31 fx)) (vp_ct (fx_n31 fx) (vp_in_nI (by have := i_nlt c4; have := i_rg d; have : (0 : Int32).toInt = 0 := rfl; have := i_eq ek5; have : (nI k5).toInt = ((k5 : Nat) : Int) := nI_toInt (by omega); have := i_nle c6; have : (24 : Int32).toInt = 24 := rfl; omega) (by omega))) ?_
              refine WR_tI (congrArg (hI (sI (sI (sI h (ad 0) 6 0) (ad 0) 6 (-14)) (ad 0) 6 (-14)) (ad 31)) ((nI_clamp (by have := i_nlt c4; have := i_rg d; have : (0 : Int32).toInt = 0 := rfl; have := i_eq ek5; have : (nI k5).toInt = ((k5 : Nat) : Int) := nI_toInt (by omega); have := i_nle c6; have : (24 : Int32).toInt = 24 := rfl; omega)) : _ = k5)) ?_
              refine WR_tI (y := nI t7) (Eq.trans (I_ne (fx_ne fx (by decide))) (Eq.trans (I_ne (fx_ne fx (by decide))) (Eq.trans (I_ne (fx_ne fx (by decide))) v7))) ?_
              refine r_istore (lv' := [some (.ref (ad 30)), some (.int c), some (.int i), some (.int d), some (.int (nI t19)), some (.int (nI t7)), none]) rfl (Nat.le_of_ble_eq_true rfl) rfl ?_
              refine r_iload rfl rfl ?_
              refine r_ic (x := (-1)) rfl rfl ?_
              refine r_icmp_eq (tg := 54) rfl rfl (fun q => False.elim (by have : (nI t19).toInt = ((t19 : Nat) : Int) := nI_toInt (by omega); have : (-1 : Int32).toInt = -1 := rfl; have := i_eq q; omega)) (fun _ => ?_)
              refine r_aload rfl rfl ?_
              refine r_iload rfl rfl ?_
              refine r_cv (y := 166) (ra := [.int (nI t19)]) (rest := []) rfl ⟨⟨rfl, rfl⟩, rfl, by decide⟩ (fx_t30 fx) rfl rfl (Nat.le_of_ble_eq_true rfl) ?_
              refine in_166 (Nat.le_of_ble_eq_true rfl) ?_
              show WR _ cd_166 0 [some (.ref (ad 30)), some (.int (nI t19))] [] (sI (sI (sI h (ad 0) 6 0) (ad 0) 6 (-14)) (ad 0) 6 (-14)) _
              refine r_iload rfl rfl ?_
              refine r_ic (x := (-1)) rfl rfl ?_
              refine r_icmp_ne (tg := 9) rfl rfl (fun _ => ?_) (fun q => False.elim (by have : (nI t19).toInt = ((t19 : Nat) : Int) := nI_toInt (by omega); have : (-1 : Int32).toInt = -1 := rfl; have := i_eq q; omega))
              refine r_iload rfl rfl ?_
              refine r_ic (x := 1000) rfl rfl ?_
              refine r_icmp_lt (tg := 21) rfl rfl (fun _ => ?_) (fun q => False.elim (by have : (nI t19).toInt = ((t19 : Nat) : Int) := nI_toInt (by omega); have : (1000 : Int32).toInt = 1000 := rfl; have := i_nlt q; omega))
              refine r_aload rfl rfl ?_
              refine r_getA (b := ad 33) rfl ⟨rfl, rfl, rfl⟩ (fx_t30 fx) (fx_r30_2 fx) ?_
              refine r_iload rfl rfl ?_
              refine r_iaload rfl (.inl (fx_t33 fx)) (vp_ct (fx_n33 fx) (vp_in_nI (by omega) (by omega))) ?_
              refine WR_tI (congrArg (hI (sI (sI (sI h (ad 0) 6 0) (ad 0) 6 (-14)) (ad 0) 6 (-14)) (ad 33)) ((nI_clamp (by omega)) : _ = t19)) ?_
              refine WR_tI (y := 9) (Eq.trans (I_ne (fx_ne fx (by decide))) (Eq.trans (I_ne (fx_ne fx (by decide))) (Eq.trans (I_ne (fx_ne fx (by decide))) l2_19))) ?_
              refine r_iret rfl ?_
              show WR _ cd_175 49 [some (.ref (ad 30)), some (.int c), some (.int i), some (.int d), some (.int (nI t19)), some (.int (nI t7)), none] [.int 9] (sI (sI (sI h (ad 0) 6 0) (ad 0) 6 (-14)) (ad 0) 6 (-14)) _
              refine r_ic (x := 8) rfl rfl ?_
              refine r_icmp_ne (tg := 70) rfl rfl (fun _ => ?_) (fun q => absurd q (by decide))
              refine r_aload rfl rfl ?_
              refine r_ic (x := 4) rfl rfl ?_
              refine r_cv (y := 156) (ra := [.int 4]) (rest := []) rfl ⟨⟨rfl, rfl⟩, rfl, by decide⟩ (fx_t30 fx) rfl rfl (Nat.le_of_ble_eq_true rfl) ?_
              refine in_156 (Nat.le_of_ble_eq_true rfl) ?_
              show WR _ cd_156 0 [some (.ref (ad 30)), some (.int 4)] [] (sI (sI (sI h (ad 0) 6 0) (ad 0) 6 (-14)) (ad 0) 6 (-14)) _
              refine r_aload rfl rfl ?_
              refine r_ic (x := (-10)) rfl rfl ?_
              refine r_iload rfl rfl ?_
              refine r_isub rfl ?_
              refine WR_tI (y := (-14)) rfl ?_
              refine r_cv (y := 154) (ra := [.int (-14)]) (rest := []) rfl ⟨⟨rfl, rfl⟩, rfl, by decide⟩ (fx_t30 fx) rfl rfl (Nat.le_of_ble_eq_true rfl) ?_
              refine in_154 (Nat.le_of_ble_eq_true rfl) ?_
              show WR _ cd_154 0 [some (.ref (ad 30)), some (.int (-14))] [] (sI (sI (sI h (ad 0) 6 0) (ad 0) 6 (-14)) (ad 0) 6 (-14)) _
              refine r_aload rfl rfl ?_
              refine r_iload rfl rfl ?_
              refine r_ic (x := (-1)) rfl rfl ?_
              refine r_icmp_ge (tg := 10) rfl rfl (fun q => absurd q (by decide)) (fun _ => ?_)
              refine r_iload rfl rfl ?_
              refine r_goto (tg := 11) rfl rfl ?_
              refine r_putI rfl ⟨rfl, rfl, rfl⟩ (fx_t30 fx) ?_
              have fx : FX n ad sa z0 (sI (sI (sI (sI h (ad 0) 6 0) (ad 0) 6 (-14)) (ad 0) 6 (-14)) (ad 30) 11 (-14)) := (FX.sI fx)
              refine r_iload rfl rfl ?_
              refine r_iret rfl ?_
              show WR _ cd_156 8 [some (.ref (ad 30)), some (.int 4)] [.int (-14)] (sI (sI (sI (sI h (ad 0) 6 0) (ad 0) 6 (-14)) (ad 0) 6 (-14)) (ad 30) 11 (-14)) _
              refine r_iret rfl ?_
              show WR _ cd_175 75 [some (.ref (ad 30)), some (.int c), some (.int i), some (.int d), some (.int (nI t19)), some (.int (nI t7)), none] [.int (-14)] (sI (sI (sI (sI h (ad 0) 6 0) (ad 0) 6 (-14)) (ad 0) 6 (-14)) (ad 30) 11 (-14)) _
              refine r_iret rfl ?_
              exact ⟨rfl, Rel.why r ((((Chg.rf.sI (fx_j fx) (.inl (by decide))).sI (fx_j fx) (.inl (by decide))).sI (fx_j fx) (.inl (by decide))).sI (fx_j fx) (.inl (by decide))) ⟨rfl, by decide⟩ (Eq.trans (Eq.trans (I_ne (fx_ne fx (by decide))) I_eq) (Eq.symm I_eq)), (by (try simp only [hZ_sI, hZ_sL, hZ_sD, hZ_sR]); omega), (by (try simp only [hU_sI, hU_sL, hU_sD, hU_sR]); omega)⟩
          · refine r_aaloadA (b := mid t7) rfl (isQ_of (fx_t1 fx) (by decide)) (vp_ct (fx_n1 fx) (vp_in_nI (by have := i_nlt c4; have := i_rg d; have : (0 : Int32).toInt = 0 := rfl; have := i_eq ek5; have : (nI k5).toInt = ((k5 : Nat) : Int) := nI_toInt (by omega); have := i_nle c6; have : (24 : Int32).toInt = 24 := rfl; omega) (by omega))) (Eq.trans (congrArg (hR (sI h (ad 0) 6 0) (ad 1)) ((nI_clamp (by have := i_nlt c4; have := i_rg d; have : (0 : Int32).toInt = 0 := rfl; have := i_eq ek5; have : (nI k5).toInt = ((k5 : Nat) : Int) := nI_toInt (by omega); have := i_nle c6; have : (24 : Int32).toInt = 24 := rfl; omega)) : _ = k5)) (Eq.trans R_oI w7)) ?_
            refine r_astore (lv' := [some (.ref (ad 0)), some (.int (nI k2)), some (.int 8), some (.int i), some (.int (nI k5)), some (.int 3), some (.ref (mid t7)), none]) rfl (Nat.le_of_ble_eq_true rfl) rfl ?_
            refine r_aload rfl rfl ?_
            refine r_iload rfl rfl ?_
            refine r_iload rfl rfl ?_
            refine r_cv (y := 43) (ra := [.int 8, .int (nI k2)]) (rest := []) rfl ⟨⟨rfl, rfl⟩, rfl, by decide⟩ (fx_t0 fx) rfl rfl (Nat.le_of_ble_eq_true rfl) ?_
            refine in_43 (Nat.le_of_ble_eq_true rfl) ?_
            show WR _ cd_43 0 [some (.ref (ad 0)), some (.int (nI k2)), some (.int 8), none, none] [] (sI h (ad 0) 6 0) _
            refine r_aload rfl rfl ?_
            refine r_getA (b := ad 1) rfl ⟨rfl, rfl, rfl⟩ (fx_t0 fx) (fx_r0_0 fx) ?_
            refine r_iload rfl rfl ?_
            rcases rs.cs (n := n) (sa := sa) (c := k2) (by have := i_nlt c1; have := i_rg c; have : (0 : Int32).toInt = 0 := rfl; have := i_eq ek2; have : (nI k2).toInt = ((k2 : Nat) : Int) := nI_toInt (by omega); have := i_nle c3; have : (24 : Int32).toInt = 24 := rfl; omega) with ⟨v20, w20⟩ | ⟨q20, kd20, hq20, hn20, v20, w20, dz20, tg20, s1_20, k1_20, k2_20, hk_20, we20⟩ | ⟨t20, ln20, sz20, ht20, v20, w20, dz20, tg20, r_20, tg2_20, l1_20, l2_20, hl_20, kd_20, n_20, sz_20, hs_20, al20, rw20⟩ | ⟨t20, sz20, ht20, v20, w20, dz20, tg20, r_20, tg2_20, k1_20, l2_20, k2_20, n_20, sz_20, hs_20, al20, rw20⟩ | ⟨t20, kd20, sz20, ht20, v20, w20, dz20, tg20, r_20, tg2_20, k1_20, l2_20, k2_20, hk_20, n_20, sz_20, hs_20, al20, rw20⟩
            · refine r_aaload0 rfl (isQ_of (fx_t1 fx) (by decide)) (vp_ct (fx_n1 fx) (vp_in_nI (by have := i_nlt c1; have := i_rg c; have : (0 : Int32).toInt = 0 := rfl; have := i_eq ek2; have : (nI k2).toInt = ((k2 : Nat) : Int) := nI_toInt (by omega); have := i_nle c3; have : (24 : Int32).toInt = 24 := rfl; omega) (by omega))) (Eq.trans (congrArg (hR (sI h (ad 0) 6 0) (ad 1)) ((nI_clamp (by have := i_nlt c1; have := i_rg c; have : (0 : Int32).toInt = 0 := rfl; have := i_eq ek2; have : (nI k2).toInt = ((k2 : Nat) : Int) := nI_toInt (by omega); have := i_nle c3; have : (24 : Int32).toInt = 24 := rfl; omega)) : _ = k2)) (Eq.trans R_oI w20)) ?_
              refine r_astore0 (lv' := [some (.ref (ad 0)), some (.int (nI k2)), some (.int 8), some (.null), none]) rfl (Nat.le_of_ble_eq_true rfl) rfl ?_
              refine r_aload0 rfl rfl ?_
              refine r_instN rfl (by decide) ?_
              refine r_if_eq (tg := 32) rfl rfl (fun _ => ?_) (fun q => absurd q (by decide))
              refine r_aload rfl rfl ?_
              refine r_aload0 rfl rfl ?_
              refine r_ifnonnullN (tg := 42) rfl rfl ?_
              refine r_ic (x := (-11)) rfl rfl ?_
              refine r_goto (tg := 44) rfl rfl ?_
              refine r_putI rfl ⟨rfl, rfl, rfl⟩ (fx_t0 fx) ?_
              have fx : FX n ad sa z0 (sI (sI h (ad 0) 6 0) (ad 0) 6 (-11)) := (FX.sI fx)
              refine r_null rfl ?_
              refine r_aret0 rfl ?_
              show WR _ cd_46 15 [some (.ref (ad 0)), some (.int (nI k2)), some (.int 8), some (.int i), some (.int (nI k5)), some (.int 3), some (.ref (mid t7)), none] [.null] (sI (sI h (ad 0) 6 0) (ad 0) 6 (-11)) _
              refine r_astore0 (lv' := [some (.ref (ad 0)), some (.int (nI k2)), some (.int 8), some (.int i), some (.int (nI k5)), some (.int 3), some (.ref (mid t7)), some (.null)]) rfl (Nat.le_of_ble_eq_true rfl) rfl ?_
              refine r_aload rfl rfl ?_
              refine r_getI rfl ⟨rfl, rfl, rfl⟩ (fx_t0 fx) ?_
              refine WR_tI (y := (-11)) I_eq ?_
              refine r_ic (x := (-14)) rfl rfl ?_
              refine r_icmp_eq (tg := 41) rfl rfl (fun q => absurd q (by decide)) (fun _ => ?_)
              refine r_aload rfl rfl ?_
              refine r_ifnullA (tg := 48) rfl rfl ?_
              refine r_aload rfl rfl ?_
              refine r_cw (y := 28) (ra := []) (rest := []) rfl ⟨rfl, rfl⟩ (by rw [show hT (sI (sI h (ad 0) 6 0) (ad 0) 6 (-11)) (mid t7) = 6 from tg7]; rfl) rfl rfl (Nat.le_of_ble_eq_true rfl) ?_
              refine in_28 (Nat.le_of_ble_eq_true rfl) ?_
              show WR _ cd_28 0 [some (.ref (mid t7))] [] (sI (sI h (ad 0) 6 0) (ad 0) 6 (-11)) _
              refine r_aload rfl rfl ?_
              refine r_getI rfl ⟨rfl, rfl, rfl⟩ tg7 ?_
              refine WR_tI (y := nI kd7) (Eq.trans (I_ne (dy_ad fx (.inl (by decide)) dz7)) (Eq.trans (I_ne (dy_ad fx (.inl (by decide)) dz7)) k1_7)) ?_
              refine r_ic (x := (-1)) rfl rfl ?_
              refine r_icmp_ne (tg := 13) rfl rfl (fun _ => ?_) (fun q => False.elim (by have : (nI kd7).toInt = ((kd7 : Nat) : Int) := nI_toInt (by omega); have : (-1 : Int32).toInt = -1 := rfl; have := i_eq q; omega))
              refine r_ic (x := 9) rfl rfl ?_
              refine r_iret rfl ?_
              show WR _ cd_46 36 [some (.ref (ad 0)), some (.int (nI k2)), some (.int 8), some (.int i), some (.int (nI k5)), some (.int 3), some (.ref (mid t7)), some (.null)] [.int 9] (sI (sI h (ad 0) 6 0) (ad 0) 6 (-11)) _
              refine r_iload rfl rfl ?_
              refine r_icmp_eq (tg := 48) rfl rfl (fun q => absurd q (by decide)) (fun _ => ?_)
              refine r_aload rfl rfl ?_
              refine r_ic (x := (-14)) rfl rfl ?_
              refine r_cv (y := 13) (ra := [.int (-14)]) (rest := []) rfl ⟨⟨rfl, rfl⟩, rfl, by decide⟩ (fx_t0 fx) rfl rfl (Nat.le_of_ble_eq_true rfl) ?_
              refine in_13 (Nat.le_of_ble_eq_true rfl) ?_
              show WR _ cd_13 0 [some (.ref (ad 0)), some (.int (-14))] [] (sI (sI h (ad 0) 6 0) (ad 0) 6 (-11)) _
              refine r_aload rfl rfl ?_
              refine r_iload rfl rfl ?_
              refine r_putI rfl ⟨rfl, rfl, rfl⟩ (fx_t0 fx) ?_
              have fx : FX n ad sa z0 (sI (sI (sI h (ad 0) 6 0) (ad 0) 6 (-11)) (ad 0) 6 (-14)) := (FX.sI fx)
              refine r_iload rfl rfl ?_
              refine r_iret rfl ?_
              show WR _ cd_46 47 [some (.ref (ad 0)), some (.int (nI k2)), some (.int 8), some (.int i), some (.int (nI k5)), some (.int 3), some (.ref (mid t7)), some (.null)] [.int (-14)] (sI (sI (sI h (ad 0) 6 0) (ad 0) 6 (-11)) (ad 0) 6 (-14)) _
              refine r_iret rfl ?_
              show WR _ cd_45 36 [some (.ref (ad 0)), some (.int c), some (.int i), some (.int d)] [.int (-14)] (sI (sI (sI h (ad 0) 6 0) (ad 0) 6 (-11)) (ad 0) 6 (-14)) _
              refine r_iret rfl ?_
              show EV _ 175 [.ref (ad 30), .int c, .int i, .int d] (sI (sI (sI h (ad 0) 6 0) (ad 0) 6 (-11)) (ad 0) 6 (-14)) _
              refine in_175 (Nat.le_of_ble_eq_true rfl) ?_
              show WR _ cd_175 0 [some (.ref (ad 30)), some (.int c), some (.int i), some (.int d), none, none, none] [] (sI (sI (sI h (ad 0) 6 0) (ad 0) 6 (-11)) (ad 0) 6 (-14)) _
              refine r_iload rfl rfl ?_
              refine WR_tI (y := nI k2) ek2 ?_
              refine r_cs (y := 153) (ra := [.int (nI k2)]) (rest := []) rfl ⟨⟨rfl, rfl⟩, by decide⟩ rfl rfl (Nat.le_of_ble_eq_true rfl) ?_
              refine in_153 (Nat.le_of_ble_eq_true rfl) ?_
              show WR _ cd_153 0 [some (.int (nI k2))] [] (sI (sI (sI h (ad 0) 6 0) (ad 0) 6 (-11)) (ad 0) 6 (-14)) _
              refine r_iload rfl rfl ?_
              refine r_if_lt (tg := 14) rfl rfl (fun q => False.elim (by have := i_nlt c1; have := i_rg c; have : (0 : Int32).toInt = 0 := rfl; have := i_eq ek2; have : (nI k2).toInt = ((k2 : Nat) : Int) := nI_toInt (by omega); have := i_nle c3; have : (24 : Int32).toInt = 24 := rfl; have := i_lt q; omega)) (fun _ => ?_)
              refine r_iload rfl rfl ?_
              refine r_ic (x := 24) rfl rfl ?_
              refine r_icmp_ge (tg := 14) rfl rfl (fun q => False.elim (by have := i_nlt c1; have := i_rg c; have : (0 : Int32).toInt = 0 := rfl; have := i_eq ek2; have : (nI k2).toInt = ((k2 : Nat) : Int) := nI_toInt (by omega); have := i_nle c3; have : (24 : Int32).toInt = 24 := rfl; have := i_le q; omega)) (fun _ => ?_)
              refine r_ic (x := 1) rfl rfl ?_
              refine r_goto (tg := 15) rfl rfl ?_
              refine r_zret rfl (.inr rfl) ?_
              show WR _ cd_175 4 [some (.ref (ad 30)), some (.int c), some (.int i), some (.int d), none, none, none] [.int 1] (sI (sI (sI h (ad 0) 6 0) (ad 0) 6 (-11)) (ad 0) 6 (-14)) _
              refine r_if_eq (tg := 14) rfl rfl (fun q => absurd q (by decide)) (fun _ => ?_)
              refine r_iload rfl rfl ?_
              refine WR_tI (y := nI k5) ek5 ?_
              refine r_cs (y := 153) (ra := [.int (nI k5)]) (rest := []) rfl ⟨⟨rfl, rfl⟩, by decide⟩ rfl rfl (Nat.le_of_ble_eq_true rfl) ?_
              refine in_153 (Nat.le_of_ble_eq_true rfl) ?_
              show WR _ cd_153 0 [some (.int (nI k5))] [] (sI (sI (sI h (ad 0) 6 0) (ad 0) 6 (-11)) (ad 0) 6 (-14)) _
              refine r_iload rfl rfl ?_
              refine r_if_lt (tg := 14) rfl rfl (fun q => False.elim (by have := i_nlt c4; have := i_rg d; have : (0 : Int32).toInt = 0 := rfl; have := i_eq ek5; have : (nI k5).toInt = ((k5 : Nat) : Int) := nI_toInt (by omega); have := i_nle c6; have : (24 : Int32).toInt = 24 := rfl; have := i_lt q; omega)) (fun _ => ?_)
              refine r_iload rfl rfl ?_
              refine r_ic (x := 24) rfl rfl ?_
              refine r_icmp_ge (tg := 14) rfl rfl (fun q => False.elim (by have := i_nlt c4; have := i_rg d; have : (0 : Int32).toInt = 0 := rfl; have := i_eq ek5; have : (nI k5).toInt = ((k5 : Nat) : Int) := nI_toInt (by omega); have := i_nle c6; have : (24 : Int32).toInt = 24 := rfl; have := i_le q; omega)) (fun _ => ?_)
              refine r_ic (x := 1) rfl rfl ?_
              refine r_goto (tg := 15) rfl rfl ?_
              refine r_zret rfl (.inr rfl) ?_
              show WR _ cd_175 11 [some (.ref (ad 30)), some (.int c), some (.int i), some (.int d), none, none, none] [.int 1] (sI (sI (sI h (ad 0) 6 0) (ad 0) 6 (-11)) (ad 0) 6 (-14)) _
              refine r_if_ne (tg := 21) rfl rfl (fun _ => ?_) (fun q => absurd q (by decide))
              refine r_aload rfl rfl ?_
              refine r_getA (b := ad 31) rfl ⟨rfl, rfl, rfl⟩ (fx_t30 fx) (fx_r30_0 fx) ?_
              refine r_iload rfl rfl ?_
              refine WR_tI (y := nI k2) ek2 ?_
              refine r_iaload rfl (.inl (fx_t31 fx)) (vp_ct (fx_n31 fx) (vp_in_nI (by have := i_nlt c1; have := i_rg c; have : (0 : Int32).toInt = 0 := rfl; have := i_eq ek2; have : (nI k2).toInt = ((k2 : Nat) : Int) := nI_toInt (by omega); have := i_nle c3; have : (24 : Int32).toInt = 24 := rfl; omega) (by omega))) ?_
              refine WR_tI (congrArg (hI (sI (sI (sI h (ad 0) 6 0) (ad 0) 6 (-11)) (ad 0) 6 (-14)) (ad 31)) ((nI_clamp (by have := i_nlt c1; have := i_rg c; have : (0 : Int32).toInt = 0 := rfl; have := i_eq ek2; have : (nI k2).toInt = ((k2 : Nat) : Int) := nI_toInt (by omega); have := i_nle c3; have : (24 : Int32).toInt = 24 := rfl; omega)) : _ = k2)) ?_
              refine WR_tI (y := (-1)) (Eq.trans (I_ne (fx_ne fx (by decide))) (Eq.trans (I_ne (fx_ne fx (by decide))) (Eq.trans (I_ne (fx_ne fx (by decide))) v20))) ?_
              refine r_istore (lv' := [some (.ref (ad 30)), some (.int c), some (.int i), some (.int d), some (.int (-1)), none, none]) rfl (Nat.le_of_ble_eq_true rfl) rfl ?_
              refine r_aload rfl rfl ?_
              refine r_getA (b := ad 31) rfl ⟨rfl, rfl, rfl⟩ (fx_t30 fx) (fx_r30_0 fx) ?_
              refine r_iload rfl rfl ?_
              refine WR_tI (y := nI k5) ek5 ?_
              refine r_iaload rfl (.inl (fx_t31 fx)) (vp_ct (fx_n31 fx) (vp_in_nI (by have := i_nlt c4; have := i_rg d; have : (0 : Int32).toInt = 0 := rfl; have := i_eq ek5; have : (nI k5).toInt = ((k5 : Nat) : Int) := nI_toInt (by omega); have := i_nle c6; have : (24 : Int32).toInt = 24 := rfl; omega) (by omega))) ?_
              refine WR_tI (congrArg (hI (sI (sI (sI h (ad 0) 6 0) (ad 0) 6 (-11)) (ad 0) 6 (-14)) (ad 31)) ((nI_clamp (by have := i_nlt c4; have := i_rg d; have : (0 : Int32).toInt = 0 := rfl; have := i_eq ek5; have : (nI k5).toInt = ((k5 : Nat) : Int) := nI_toInt (by omega); have := i_nle c6; have : (24 : Int32).toInt = 24 := rfl; omega)) : _ = k5)) ?_
              refine WR_tI (y := nI t7) (Eq.trans (I_ne (fx_ne fx (by decide))) (Eq.trans (I_ne (fx_ne fx (by decide))) (Eq.trans (I_ne (fx_ne fx (by decide))) v7))) ?_
              refine r_istore (lv' := [some (.ref (ad 30)), some (.int c), some (.int i), some (.int d), some (.int (-1)), some (.int (nI t7)), none]) rfl (Nat.le_of_ble_eq_true rfl) rfl ?_
              refine r_iload rfl rfl ?_
              refine r_ic (x := (-1)) rfl rfl ?_
              refine r_icmp_eq (tg := 54) rfl rfl (fun _ => ?_) (fun q => absurd q (by decide))
              refine r_iload rfl rfl ?_
              refine r_ic (x := (-1)) rfl rfl ?_
              refine r_icmp_eq (tg := 76) rfl rfl (fun q => False.elim (by have : (nI t7).toInt = ((t7 : Nat) : Int) := nI_toInt (by omega); have : (-1 : Int32).toInt = -1 := rfl; have := i_eq q; omega)) (fun _ => ?_)
              refine r_aload rfl rfl ?_
              refine r_iload rfl rfl ?_
              refine r_cv (y := 166) (ra := [.int (nI t7)]) (rest := []) rfl ⟨⟨rfl, rfl⟩, rfl, by decide⟩ (fx_t30 fx) rfl rfl (Nat.le_of_ble_eq_true rfl) ?_
              refine in_166 (Nat.le_of_ble_eq_true rfl) ?_
              show WR _ cd_166 0 [some (.ref (ad 30)), some (.int (nI t7))] [] (sI (sI (sI h (ad 0) 6 0) (ad 0) 6 (-11)) (ad 0) 6 (-14)) _
              refine r_iload rfl rfl ?_
              refine r_ic (x := (-1)) rfl rfl ?_
              refine r_icmp_ne (tg := 9) rfl rfl (fun _ => ?_) (fun q => False.elim (by have : (nI t7).toInt = ((t7 : Nat) : Int) := nI_toInt (by omega); have : (-1 : Int32).toInt = -1 := rfl; have := i_eq q; omega))
              refine r_iload rfl rfl ?_
              refine r_ic (x := 1000) rfl rfl ?_
              refine r_icmp_lt (tg := 21) rfl rfl (fun _ => ?_) (fun q => False.elim (by have : (nI t7).toInt = ((t7 : Nat) : Int) := nI_toInt (by omega); have : (1000 : Int32).toInt = 1000 := rfl; have := i_nlt q; omega))
              refine r_aload rfl rfl ?_
              refine r_getA (b := ad 33) rfl ⟨rfl, rfl, rfl⟩ (fx_t30 fx) (fx_r30_2 fx) ?_
              refine r_iload rfl rfl ?_
              refine r_iaload rfl (.inl (fx_t33 fx)) (vp_ct (fx_n33 fx) (vp_in_nI (by omega) (by omega))) ?_
              refine WR_tI (congrArg (hI (sI (sI (sI h (ad 0) 6 0) (ad 0) 6 (-11)) (ad 0) 6 (-14)) (ad 33)) ((nI_clamp (by omega)) : _ = t7)) ?_
              refine WR_tI (y := 9) (Eq.trans (I_ne (fx_ne fx (by decide))) (Eq.trans (I_ne (fx_ne fx (by decide))) (Eq.trans (I_ne (fx_ne fx (by decide))) l2_7))) ?_
              refine r_iret rfl ?_
              show WR _ cd_175 66 [some (.ref (ad 30)), some (.int c), some (.int i), some (.int d), some (.int (-1)), some (.int (nI t7)), none] [.int 9] (sI (sI (sI h (ad 0) 6 0) (ad 0) 6 (-11)) (ad 0) 6 (-14)) _
              refine r_ic (x := 3) rfl rfl ?_
              refine r_icmp_eq (tg := 76) rfl rfl (fun q => absurd q (by decide)) (fun _ => ?_)
              refine r_aload rfl rfl ?_
              refine r_ic (x := 4) rfl rfl ?_
              refine r_cv (y := 156) (ra := [.int 4]) (rest := []) rfl ⟨⟨rfl, rfl⟩, rfl, by decide⟩ (fx_t30 fx) rfl rfl (Nat.le_of_ble_eq_true rfl) ?_
              refine in_156 (Nat.le_of_ble_eq_true rfl) ?_
              show WR _ cd_156 0 [some (.ref (ad 30)), some (.int 4)] [] (sI (sI (sI h (ad 0) 6 0) (ad 0) 6 (-11)) (ad 0) 6 (-14)) _
              refine r_aload rfl rfl ?_
              refine r_ic (x := (-10)) rfl rfl ?_
              refine r_iload rfl rfl ?_
              refine r_isub rfl ?_
              refine WR_tI (y := (-14)) rfl ?_
              refine r_cv (y := 154) (ra := [.int (-14)]) (rest := []) rfl ⟨⟨rfl, rfl⟩, rfl, by decide⟩ (fx_t30 fx) rfl rfl (Nat.le_of_ble_eq_true rfl) ?_
              refine in_154 (Nat.le_of_ble_eq_true rfl) ?_
              show WR _ cd_154 0 [some (.ref (ad 30)), some (.int (-14))] [] (sI (sI (sI h (ad 0) 6 0) (ad 0) 6 (-11)) (ad 0) 6 (-14)) _
              refine r_aload rfl rfl ?_
              refine r_iload rfl rfl ?_
              refine r_ic (x := (-1)) rfl rfl ?_
              refine r_icmp_ge (tg := 10) rfl rfl (fun q => absurd q (by decide)) (fun _ => ?_)
              refine r_iload rfl rfl ?_
              refine r_goto (tg := 11) rfl rfl ?_
              refine r_putI rfl ⟨rfl, rfl, rfl⟩ (fx_t30 fx) ?_
              have fx : FX n ad sa z0 (sI (sI (sI (sI h (ad 0) 6 0) (ad 0) 6 (-11)) (ad 0) 6 (-14)) (ad 30) 11 (-14)) := (FX.sI fx)
              refine r_iload rfl rfl ?_
              refine r_iret rfl ?_
              show WR _ cd_156 8 [some (.ref (ad 30)), some (.int 4)] [.int (-14)] (sI (sI (sI (sI h (ad 0) 6 0) (ad 0) 6 (-11)) (ad 0) 6 (-14)) (ad 30) 11 (-14)) _
              refine r_iret rfl ?_
              show WR _ cd_175 75 [some (.ref (ad 30)), some (.int c), some (.int i), some (.int d), some (.int (-1)), some (.int (nI t7)), none] [.int (-14)] (sI (sI (sI (sI h (ad 0) 6 0) (ad 0) 6 (-11)) (ad 0) 6 (-14)) (ad 30) 11 (-14)) _
              refine r_iret rfl ?_
              exact ⟨rfl, Rel.why r ((((Chg.rf.sI (fx_j fx) (.inl (by decide))).sI (fx_j fx) (.inl (by decide))).sI (fx_j fx) (.inl (by decide))).sI (fx_j fx) (.inl (by decide))) ⟨rfl, by decide⟩ (Eq.trans (Eq.trans (I_ne (fx_ne fx (by decide))) I_eq) (Eq.symm I_eq)), (by (try simp only [hZ_sI, hZ_sL, hZ_sD, hZ_sR]); omega), (by (try simp only [hU_sI, hU_sL, hU_sD, hU_sR]); omega)⟩
            · refine r_aaloadA (b := pa q20) rfl (isQ_of (fx_t1 fx) (by decide)) (vp_ct (fx_n1 fx) (vp_in_nI (by have := i_nlt c1; have := i_rg c; have : (0 : Int32).toInt = 0 := rfl; have := i_eq ek2; have : (nI k2).toInt = ((k2 : Nat) : Int) := nI_toInt (by omega); have := i_nle c3; have : (24 : Int32).toInt = 24 := rfl; omega) (by omega))) (Eq.trans (congrArg (hR (sI h (ad 0) 6 0) (ad 1)) ((nI_clamp (by have := i_nlt c1; have := i_rg c; have : (0 : Int32).toInt = 0 := rfl; have := i_eq ek2; have : (nI k2).toInt = ((k2 : Nat) : Int) := nI_toInt (by omega); have := i_nle c3; have : (24 : Int32).toInt = 24 := rfl; omega)) : _ = k2)) (Eq.trans R_oI w20)) ?_
              refine r_astore (lv' := [some (.ref (ad 0)), some (.int (nI k2)), some (.int 8), some (.ref (pa q20)), none]) rfl (Nat.le_of_ble_eq_true rfl) rfl ?_
              refine r_aload rfl rfl ?_
              refine r_instW rfl (by decide) tg20 (by decide) ?_
              refine r_if_eq (tg := 32) rfl rfl (fun _ => ?_) (fun q => absurd q (by decide))
              refine r_aload rfl rfl ?_
              refine r_aload rfl rfl ?_
              refine r_ifnonnullA (tg := 42) rfl rfl ?_
              refine r_ic (x := (-14)) rfl rfl ?_
              refine r_putI rfl ⟨rfl, rfl, rfl⟩ (fx_t0 fx) ?_
              have fx : FX n ad sa z0 (sI (sI h (ad 0) 6 0) (ad 0) 6 (-14)) := (FX.sI fx)
              refine r_null rfl ?_
              refine r_aret0 rfl ?_
              show WR _ cd_46 15 [some (.ref (ad 0)), some (.int (nI k2)), some (.int 8), some (.int i), some (.int (nI k5)), some (.int 3), some (.ref (mid t7)), none] [.null] (sI (sI h (ad 0) 6 0) (ad 0) 6 (-14)) _
              refine r_astore0 (lv' := [some (.ref (ad 0)), some (.int (nI k2)), some (.int 8), some (.int i), some (.int (nI k5)), some (.int 3), some (.ref (mid t7)), some (.null)]) rfl (Nat.le_of_ble_eq_true rfl) rfl ?_
              refine r_aload rfl rfl ?_
              refine r_getI rfl ⟨rfl, rfl, rfl⟩ (fx_t0 fx) ?_
              refine WR_tI (y := (-14)) I_eq ?_
              refine r_ic (x := (-14)) rfl rfl ?_
              refine r_icmp_eq (tg := 41) rfl rfl (fun _ => ?_) (fun q => absurd q (by decide))
              refine r_aload rfl rfl ?_
              refine r_ic (x := (-14)) rfl rfl ?_
              refine r_cv (y := 13) (ra := [.int (-14)]) (rest := []) rfl ⟨⟨rfl, rfl⟩, rfl, by decide⟩ (fx_t0 fx) rfl rfl (Nat.le_of_ble_eq_true rfl) ?_
              refine in_13 (Nat.le_of_ble_eq_true rfl) ?_
              show WR _ cd_13 0 [some (.ref (ad 0)), some (.int (-14))] [] (sI (sI h (ad 0) 6 0) (ad 0) 6 (-14)) _
              refine r_aload rfl rfl ?_
              refine r_iload rfl rfl ?_
              refine r_putI rfl ⟨rfl, rfl, rfl⟩ (fx_t0 fx) ?_
              have fx : FX n ad sa z0 (sI (sI (sI h (ad 0) 6 0) (ad 0) 6 (-14)) (ad 0) 6 (-14)) := (FX.sI fx)
              refine r_iload rfl rfl ?_
              refine r_iret rfl ?_
              show WR _ cd_46 47 [some (.ref (ad 0)), some (.int (nI k2)), some (.int 8), some (.int i), some (.int (nI k5)), some (.int 3), some (.ref (mid t7)), some (.null)] [.int (-14)] (sI (sI (sI h (ad 0) 6 0) (ad 0) 6 (-14)) (ad 0) 6 (-14)) _
              refine r_iret rfl ?_
              show WR _ cd_45 36 [some (.ref (ad 0)), some (.int c), some (.int i), some (.int d)] [.int (-14)] (sI (sI (sI h (ad 0) 6 0) (ad 0) 6 (-14)) (ad 0) 6 (-14)) _
              refine r_iret rfl ?_
              show EV _ 175 [.ref (ad 30), .int c, .int i, .int d] (sI (sI (sI h (ad 0) 6 0) (ad 0) 6 (-14)) (ad 0) 6 (-14)) _
              refine in_175 (Nat.le_of_ble_eq_true rfl) ?_
              show WR _ cd_175 0 [some (.ref (ad 30)), some (.int c), some (.int i), some (.int d), none, none, none] [] (sI (sI (sI h (ad 0) 6 0) (ad 0) 6 (-14)) (ad 0) 6 (-14)) _
              refine r_iload rfl rfl ?_
              refine WR_tI (y := nI k2) ek2 ?_
              refine r_cs (y := 153) (ra := [.int (nI k2)]) (rest := []) rfl ⟨⟨rfl, rfl⟩, by decide⟩ rfl rfl (Nat.le_of_ble_eq_true rfl) ?_
              refine in_153 (Nat.le_of_ble_eq_true rfl) ?_
              show WR _ cd_153 0 [some (.int (nI k2))] [] (sI (sI (sI h (ad 0) 6 0) (ad 0) 6 (-14)) (ad 0) 6 (-14)) _
              refine r_iload rfl rfl ?_
              refine r_if_lt (tg := 14) rfl rfl (fun q => False.elim (by have := i_nlt c1; have := i_rg c; have : (0 : Int32).toInt = 0 := rfl; have := i_eq ek2; have : (nI k2).toInt = ((k2 : Nat) : Int) := nI_toInt (by omega); have := i_nle c3; have : (24 : Int32).toInt = 24 := rfl; have := i_lt q; omega)) (fun _ => ?_)
              refine r_iload rfl rfl ?_
              refine r_ic (x := 24) rfl rfl ?_
              refine r_icmp_ge (tg := 14) rfl rfl (fun q => False.elim (by have := i_nlt c1; have := i_rg c; have : (0 : Int32).toInt = 0 := rfl; have := i_eq ek2; have : (nI k2).toInt = ((k2 : Nat) : Int) := nI_toInt (by omega); have := i_nle c3; have : (24 : Int32).toInt = 24 := rfl; have := i_le q; omega)) (fun _ => ?_)
              refine r_ic (x := 1) rfl rfl ?_
              refine r_goto (tg := 15) rfl rfl ?_
              refine r_zret rfl (.inr rfl) ?_
              show WR _ cd_175 4 [some (.ref (ad 30)), some (.int c), some (.int i), some (.int d), none, none, none] [.int 1] (sI (sI (sI h (ad 0) 6 0) (ad 0) 6 (-14)) (ad 0) 6 (-14)) _
              refine r_if_eq (tg := 14) rfl rfl (fun q => absurd q (by decide)) (fun _ => ?_)
              refine r_iload rfl rfl ?_
              refine WR_tI (y := nI k5) ek5 ?_
              refine r_cs (y := 153) (ra := [.int (nI k5)]) (rest := []) rfl ⟨⟨rfl, rfl⟩, by decide⟩ rfl rfl (Nat.le_of_ble_eq_true rfl) ?_
              refine in_153 (Nat.le_of_ble_eq_true rfl) ?_
              show WR _ cd_153 0 [some (.int (nI k5))] [] (sI (sI (sI h (ad 0) 6 0) (ad 0) 6 (-14)) (ad 0) 6 (-14)) _
              refine r_iload rfl rfl ?_
              refine r_if_lt (tg := 14) rfl rfl (fun q => False.elim (by have := i_nlt c4; have := i_rg d; have : (0 : Int32).toInt = 0 := rfl; have := i_eq ek5; have : (nI k5).toInt = ((k5 : Nat) : Int) := nI_toInt (by omega); have := i_nle c6; have : (24 : Int32).toInt = 24 := rfl; have := i_lt q; omega)) (fun _ => ?_)
              refine r_iload rfl rfl ?_
              refine r_ic (x := 24) rfl rfl ?_
              refine r_icmp_ge (tg := 14) rfl rfl (fun q => False.elim (by have := i_nlt c4; have := i_rg d; have : (0 : Int32).toInt = 0 := rfl; have := i_eq ek5; have : (nI k5).toInt = ((k5 : Nat) : Int) := nI_toInt (by omega); have := i_nle c6; have : (24 : Int32).toInt = 24 := rfl; have := i_le q; omega)) (fun _ => ?_)
              refine r_ic (x := 1) rfl rfl ?_
              refine r_goto (tg := 15) rfl rfl ?_
              refine r_zret rfl (.inr rfl) ?_
              show WR _ cd_175 11 [some (.ref (ad 30)), some (.int c), some (.int i), some (.int d), none, none, none] [.int 1] (sI (sI (sI h (ad 0) 6 0) (ad 0) 6 (-14)) (ad 0) 6 (-14)) _
              refine r_if_ne (tg := 21) rfl rfl (fun _ => ?_) (fun q => absurd q (by decide))
              refine r_aload rfl rfl ?_
              refine r_getA (b := ad 31) rfl ⟨rfl, rfl, rfl⟩ (fx_t30 fx) (fx_r30_0 fx) ?_
              refine r_iload rfl rfl ?_
              refine WR_tI (y := nI k2) ek2 ?_
              refine r_iaload rfl (.inl (fx_t31 fx)) (vp_ct (fx_n31 fx) (vp_in_nI (by have := i_nlt c1; have := i_rg c; have : (0 : Int32).toInt = 0 := rfl; have := i_eq ek2; have : (nI k2).toInt = ((k2 : Nat) : Int) := nI_toInt (by omega); have := i_nle c3; have : (24 : Int32).toInt = 24 := rfl; omega) (by omega))) ?_
              refine WR_tI (congrArg (hI (sI (sI (sI h (ad 0) 6 0) (ad 0) 6 (-14)) (ad 0) 6 (-14)) (ad 31)) ((nI_clamp (by have := i_nlt c1; have := i_rg c; have : (0 : Int32).toInt = 0 := rfl; have := i_eq ek2; have : (nI k2).toInt = ((k2 : Nat) : Int) := nI_toInt (by omega); have := i_nle c3; have : (24 : Int32).toInt = 24 := rfl; omega)) : _ = k2)) ?_
              refine WR_tI (y := nI (q20 + 1000)) (Eq.trans (I_ne (fx_ne fx (by decide))) (Eq.trans (I_ne (fx_ne fx (by decide))) (Eq.trans (I_ne (fx_ne fx (by decide))) v20))) ?_
              refine r_istore (lv' := [some (.ref (ad 30)), some (.int c), some (.int i), some (.int d), some (.int (nI (q20 + 1000))), none, none]) rfl (Nat.le_of_ble_eq_true rfl) rfl ?_
              refine r_aload rfl rfl ?_
              refine r_getA (b := ad 31) rfl ⟨rfl, rfl, rfl⟩ (fx_t30 fx) (fx_r30_0 fx) ?_
              refine r_iload rfl rfl ?_
              refine WR_tI (y := nI k5) ek5 ?_
              refine r_iaload rfl (.inl (fx_t31 fx)) (vp_ct (fx_n31 fx) (vp_in_nI (by have := i_nlt c4; have := i_rg d; have : (0 : Int32).toInt = 0 := rfl; have := i_eq ek5; have : (nI k5).toInt = ((k5 : Nat) : Int) := nI_toInt (by omega); have := i_nle c6; have : (24 : Int32).toInt = 24 := rfl; omega) (by omega))) ?_
              refine WR_tI (congrArg (hI (sI (sI (sI h (ad 0) 6 0) (ad 0) 6 (-14)) (ad 0) 6 (-14)) (ad 31)) ((nI_clamp (by have := i_nlt c4; have := i_rg d; have : (0 : Int32).toInt = 0 := rfl; have := i_eq ek5; have : (nI k5).toInt = ((k5 : Nat) : Int) := nI_toInt (by omega); have := i_nle c6; have : (24 : Int32).toInt = 24 := rfl; omega)) : _ = k5)) ?_
              refine WR_tI (y := nI t7) (Eq.trans (I_ne (fx_ne fx (by decide))) (Eq.trans (I_ne (fx_ne fx (by decide))) (Eq.trans (I_ne (fx_ne fx (by decide))) v7))) ?_
              refine r_istore (lv' := [some (.ref (ad 30)), some (.int c), some (.int i), some (.int d), some (.int (nI (q20 + 1000))), some (.int (nI t7)), none]) rfl (Nat.le_of_ble_eq_true rfl) rfl ?_
              refine r_iload rfl rfl ?_
              refine r_ic (x := (-1)) rfl rfl ?_
              refine r_icmp_eq (tg := 54) rfl rfl (fun q => False.elim (by have : (nI (q20 + 1000)).toInt = ((q20 + 1000 : Nat) : Int) := nI_toInt (by omega); have : (-1 : Int32).toInt = -1 := rfl; have := i_eq q; omega)) (fun _ => ?_)
              refine r_aload rfl rfl ?_
              refine r_iload rfl rfl ?_
              refine r_cv (y := 166) (ra := [.int (nI (q20 + 1000))]) (rest := []) rfl ⟨⟨rfl, rfl⟩, rfl, by decide⟩ (fx_t30 fx) rfl rfl (Nat.le_of_ble_eq_true rfl) ?_
              refine in_166 (Nat.le_of_ble_eq_true rfl) ?_
              show WR _ cd_166 0 [some (.ref (ad 30)), some (.int (nI (q20 + 1000)))] [] (sI (sI (sI h (ad 0) 6 0) (ad 0) 6 (-14)) (ad 0) 6 (-14)) _
              refine r_iload rfl rfl ?_
              refine r_ic (x := (-1)) rfl rfl ?_
              refine r_icmp_ne (tg := 9) rfl rfl (fun _ => ?_) (fun q => False.elim (by have : (nI (q20 + 1000)).toInt = ((q20 + 1000 : Nat) : Int) := nI_toInt (by omega); have : (-1 : Int32).toInt = -1 := rfl; have := i_eq q; omega))
              refine r_iload rfl rfl ?_
              refine r_ic (x := 1000) rfl rfl ?_
              refine r_icmp_lt (tg := 21) rfl rfl (fun q => False.elim (by have : (nI (q20 + 1000)).toInt = ((q20 + 1000 : Nat) : Int) := nI_toInt (by omega); have : (1000 : Int32).toInt = 1000 := rfl; have := i_lt q; omega)) (fun _ => ?_)
              refine r_ic (x := 10) rfl rfl ?_
              refine r_goto (tg := 27) rfl rfl ?_
              refine r_iret rfl ?_
              show WR _ cd_175 49 [some (.ref (ad 30)), some (.int c), some (.int i), some (.int d), some (.int (nI (q20 + 1000))), some (.int (nI t7)), none] [.int 10] (sI (sI (sI h (ad 0) 6 0) (ad 0) 6 (-14)) (ad 0) 6 (-14)) _
              refine r_ic (x := 8) rfl rfl ?_
              refine r_icmp_ne (tg := 70) rfl rfl (fun _ => ?_) (fun q => absurd q (by decide))
              refine r_aload rfl rfl ?_
              refine r_ic (x := 4) rfl rfl ?_
              refine r_cv (y := 156) (ra := [.int 4]) (rest := []) rfl ⟨⟨rfl, rfl⟩, rfl, by decide⟩ (fx_t30 fx) rfl rfl (Nat.le_of_ble_eq_true rfl) ?_
              refine in_156 (Nat.le_of_ble_eq_true rfl) ?_
              show WR _ cd_156 0 [some (.ref (ad 30)), some (.int 4)] [] (sI (sI (sI h (ad 0) 6 0) (ad 0) 6 (-14)) (ad 0) 6 (-14)) _
              refine r_aload rfl rfl ?_
              refine r_ic (x := (-10)) rfl rfl ?_
              refine r_iload rfl rfl ?_
              refine r_isub rfl ?_
              refine WR_tI (y := (-14)) rfl ?_
              refine r_cv (y := 154) (ra := [.int (-14)]) (rest := []) rfl ⟨⟨rfl, rfl⟩, rfl, by decide⟩ (fx_t30 fx) rfl rfl (Nat.le_of_ble_eq_true rfl) ?_
              refine in_154 (Nat.le_of_ble_eq_true rfl) ?_
              show WR _ cd_154 0 [some (.ref (ad 30)), some (.int (-14))] [] (sI (sI (sI h (ad 0) 6 0) (ad 0) 6 (-14)) (ad 0) 6 (-14)) _
              refine r_aload rfl rfl ?_
              refine r_iload rfl rfl ?_
              refine r_ic (x := (-1)) rfl rfl ?_
              refine r_icmp_ge (tg := 10) rfl rfl (fun q => absurd q (by decide)) (fun _ => ?_)
              refine r_iload rfl rfl ?_
              refine r_goto (tg := 11) rfl rfl ?_
              refine r_putI rfl ⟨rfl, rfl, rfl⟩ (fx_t30 fx) ?_
              have fx : FX n ad sa z0 (sI (sI (sI (sI h (ad 0) 6 0) (ad 0) 6 (-14)) (ad 0) 6 (-14)) (ad 30) 11 (-14)) := (FX.sI fx)
              refine r_iload rfl rfl ?_
              refine r_iret rfl ?_
              show WR _ cd_156 8 [some (.ref (ad 30)), some (.int 4)] [.int (-14)] (sI (sI (sI (sI h (ad 0) 6 0) (ad 0) 6 (-14)) (ad 0) 6 (-14)) (ad 30) 11 (-14)) _
              refine r_iret rfl ?_
              show WR _ cd_175 75 [some (.ref (ad 30)), some (.int c), some (.int i), some (.int d), some (.int (nI (q20 + 1000))), some (.int (nI t7)), none] [.int (-14)] (sI (sI (sI (sI h (ad 0) 6 0) (ad 0) 6 (-14)) (ad 0) 6 (-14)) (ad 30) 11 (-14)) _
              refine r_iret rfl ?_
              exact ⟨rfl, Rel.why r ((((Chg.rf.sI (fx_j fx) (.inl (by decide))).sI (fx_j fx) (.inl (by decide))).sI (fx_j fx) (.inl (by decide))).sI (fx_j fx) (.inl (by decide))) ⟨rfl, by decide⟩ (Eq.trans (Eq.trans (I_ne (fx_ne fx (by decide))) I_eq) (Eq.symm I_eq)), (by (try simp only [hZ_sI, hZ_sL, hZ_sD, hZ_sR]); omega), (by (try simp only [hU_sI, hU_sL, hU_sD, hU_sR]); omega)⟩
            · refine r_aaloadA (b := mid t20) rfl (isQ_of (fx_t1 fx) (by decide)) (vp_ct (fx_n1 fx) (vp_in_nI (by have := i_nlt c1; have := i_rg c; have : (0 : Int32).toInt = 0 := rfl; have := i_eq ek2; have : (nI k2).toInt = ((k2 : Nat) : Int) := nI_toInt (by omega); have := i_nle c3; have : (24 : Int32).toInt = 24 := rfl; omega) (by omega))) (Eq.trans (congrArg (hR (sI h (ad 0) 6 0) (ad 1)) ((nI_clamp (by have := i_nlt c1; have := i_rg c; have : (0 : Int32).toInt = 0 := rfl; have := i_eq ek2; have : (nI k2).toInt = ((k2 : Nat) : Int) := nI_toInt (by omega); have := i_nle c3; have : (24 : Int32).toInt = 24 := rfl; omega)) : _ = k2)) (Eq.trans R_oI w20)) ?_
              refine r_astore (lv' := [some (.ref (ad 0)), some (.int (nI k2)), some (.int 8), some (.ref (mid t20)), none]) rfl (Nat.le_of_ble_eq_true rfl) rfl ?_
              refine r_aload rfl rfl ?_
              refine r_instW rfl (by decide) tg20 (by decide) ?_
              refine r_if_eq (tg := 32) rfl rfl (fun _ => ?_) (fun q => absurd q (by decide))
              refine r_aload rfl rfl ?_
              refine r_aload rfl rfl ?_
              refine r_ifnonnullA (tg := 42) rfl rfl ?_
              refine r_ic (x := (-14)) rfl rfl ?_
              refine r_putI rfl ⟨rfl, rfl, rfl⟩ (fx_t0 fx) ?_
              have fx : FX n ad sa z0 (sI (sI h (ad 0) 6 0) (ad 0) 6 (-14)) := (FX.sI fx)
              refine r_null rfl ?_
              refine r_aret0 rfl ?_
              show WR _ cd_46 15 [some (.ref (ad 0)), some (.int (nI k2)), some (.int 8), some (.int i), some (.int (nI k5)), some (.int 3), some (.ref (mid t7)), none] [.null] (sI (sI h (ad 0) 6 0) (ad 0) 6 (-14)) _
              refine r_astore0 (lv' := [some (.ref (ad 0)), some (.int (nI k2)), some (.int 8), some (.int i), some (.int (nI k5)), some (.int 3), some (.ref (mid t7)), some (.null)]) rfl (Nat.le_of_ble_eq_true rfl) rfl ?_
              refine r_aload rfl rfl ?_
              refine r_getI rfl ⟨rfl, rfl, rfl⟩ (fx_t0 fx) ?_
              refine WR_tI (y := (-14)) I_eq ?_
              refine r_ic (x := (-14)) rfl rfl ?_
              refine r_icmp_eq (tg := 41) rfl rfl (fun _ => ?_) (fun q => absurd q (by decide))
              refine r_aload rfl rfl ?_
              refine r_ic (x := (-14)) rfl rfl ?_
              refine r_cv (y := 13) (ra := [.int (-14)]) (rest := []) rfl ⟨⟨rfl, rfl⟩, rfl, by decide⟩ (fx_t0 fx) rfl rfl (Nat.le_of_ble_eq_true rfl) ?_
              refine in_13 (Nat.le_of_ble_eq_true rfl) ?_
              show WR _ cd_13 0 [some (.ref (ad 0)), some (.int (-14))] [] (sI (sI h (ad 0) 6 0) (ad 0) 6 (-14)) _
              refine r_aload rfl rfl ?_
              refine r_iload rfl rfl ?_
              refine r_putI rfl ⟨rfl, rfl, rfl⟩ (fx_t0 fx) ?_
              have fx : FX n ad sa z0 (sI (sI (sI h (ad 0) 6 0) (ad 0) 6 (-14)) (ad 0) 6 (-14)) := (FX.sI fx)
              refine r_iload rfl rfl ?_
              refine r_iret rfl ?_
              show WR _ cd_46 47 [some (.ref (ad 0)), some (.int (nI k2)), some (.int 8), some (.int i), some (.int (nI k5)), some (.int 3), some (.ref (mid t7)), some (.null)] [.int (-14)] (sI (sI (sI h (ad 0) 6 0) (ad 0) 6 (-14)) (ad 0) 6 (-14)) _
              refine r_iret rfl ?_
              show WR _ cd_45 36 [some (.ref (ad 0)), some (.int c), some (.int i), some (.int d)] [.int (-14)] (sI (sI (sI h (ad 0) 6 0) (ad 0) 6 (-14)) (ad 0) 6 (-14)) _
              refine r_iret rfl ?_
              show EV _ 175 [.ref (ad 30), .int c, .int i, .int d] (sI (sI (sI h (ad 0) 6 0) (ad 0) 6 (-14)) (ad 0) 6 (-14)) _
              refine in_175 (Nat.le_of_ble_eq_true rfl) ?_
              show WR _ cd_175 0 [some (.ref (ad 30)), some (.int c), some (.int i), some (.int d), none, none, none] [] (sI (sI (sI h (ad 0) 6 0) (ad 0) 6 (-14)) (ad 0) 6 (-14)) _
              refine r_iload rfl rfl ?_
              refine WR_tI (y := nI k2) ek2 ?_
              refine r_cs (y := 153) (ra := [.int (nI k2)]) (rest := []) rfl ⟨⟨rfl, rfl⟩, by decide⟩ rfl rfl (Nat.le_of_ble_eq_true rfl) ?_
              refine in_153 (Nat.le_of_ble_eq_true rfl) ?_
              show WR _ cd_153 0 [some (.int (nI k2))] [] (sI (sI (sI h (ad 0) 6 0) (ad 0) 6 (-14)) (ad 0) 6 (-14)) _
              refine r_iload rfl rfl ?_
              refine r_if_lt (tg := 14) rfl rfl (fun q => False.elim (by have := i_nlt c1; have := i_rg c; have : (0 : Int32).toInt = 0 := rfl; have := i_eq ek2; have : (nI k2).toInt = ((k2 : Nat) : Int) := nI_toInt (by omega); have := i_nle c3; have : (24 : Int32).toInt = 24 := rfl; have := i_lt q; omega)) (fun _ => ?_)
              refine r_iload rfl rfl ?_
              refine r_ic (x := 24) rfl rfl ?_
              refine r_icmp_ge (tg := 14) rfl rfl (fun q => False.elim (by have := i_nlt c1; have := i_rg c; have : (0 : Int32).toInt = 0 := rfl; have := i_eq ek2; have : (nI k2).toInt = ((k2 : Nat) : Int) := nI_toInt (by omega); have := i_nle c3; have : (24 : Int32).toInt = 24 := rfl; have := i_le q; omega)) (fun _ => ?_)
              refine r_ic (x := 1) rfl rfl ?_
              refine r_goto (tg := 15) rfl rfl ?_
              refine r_zret rfl (.inr rfl) ?_
              show WR _ cd_175 4 [some (.ref (ad 30)), some (.int c), some (.int i), some (.int d), none, none, none] [.int 1] (sI (sI (sI h (ad 0) 6 0) (ad 0) 6 (-14)) (ad 0) 6 (-14)) _
              refine r_if_eq (tg := 14) rfl rfl (fun q => absurd q (by decide)) (fun _ => ?_)
              refine r_iload rfl rfl ?_
              refine WR_tI (y := nI k5) ek5 ?_
              refine r_cs (y := 153) (ra := [.int (nI k5)]) (rest := []) rfl ⟨⟨rfl, rfl⟩, by decide⟩ rfl rfl (Nat.le_of_ble_eq_true rfl) ?_
              refine in_153 (Nat.le_of_ble_eq_true rfl) ?_
              show WR _ cd_153 0 [some (.int (nI k5))] [] (sI (sI (sI h (ad 0) 6 0) (ad 0) 6 (-14)) (ad 0) 6 (-14)) _
              refine r_iload rfl rfl ?_
              refine r_if_lt (tg := 14) rfl rfl (fun q => False.elim (by have := i_nlt c4; have := i_rg d; have : (0 : Int32).toInt = 0 := rfl; have := i_eq ek5; have : (nI k5).toInt = ((k5 : Nat) : Int) := nI_toInt (by omega); have := i_nle c6; have : (24 : Int32).toInt = 24 := rfl; have := i_lt q; omega)) (fun _ => ?_)
              refine r_iload rfl rfl ?_
              refine r_ic (x := 24) rfl rfl ?_
              refine r_icmp_ge (tg := 14) rfl rfl (fun q => False.elim (by have := i_nlt c4; have := i_rg d; have : (0 : Int32).toInt = 0 := rfl; have := i_eq ek5; have : (nI k5).toInt = ((k5 : Nat) : Int) := nI_toInt (by omega); have := i_nle c6; have : (24 : Int32).toInt = 24 := rfl; have := i_le q; omega)) (fun _ => ?_)
              refine r_ic (x := 1) rfl rfl ?_
              refine r_goto (tg := 15) rfl rfl ?_
              refine r_zret rfl (.inr rfl) ?_
              show WR _ cd_175 11 [some (.ref (ad 30)), some (.int c), some (.int i), some (.int d), none, none, none] [.int 1] (sI (sI (sI h (ad 0) 6 0) (ad 0) 6 (-14)) (ad 0) 6 (-14)) _
              refine r_if_ne (tg := 21) rfl rfl (fun _ => ?_) (fun q => absurd q (by decide))
              refine r_aload rfl rfl ?_
              refine r_getA (b := ad 31) rfl ⟨rfl, rfl, rfl⟩ (fx_t30 fx) (fx_r30_0 fx) ?_
              refine r_iload rfl rfl ?_
              refine WR_tI (y := nI k2) ek2 ?_
              refine r_iaload rfl (.inl (fx_t31 fx)) (vp_ct (fx_n31 fx) (vp_in_nI (by have := i_nlt c1; have := i_rg c; have : (0 : Int32).toInt = 0 := rfl; have := i_eq ek2; have : (nI k2).toInt = ((k2 : Nat) : Int) := nI_toInt (by omega); have := i_nle c3; have : (24 : Int32).toInt = 24 := rfl; omega) (by omega))) ?_
              refine WR_tI (congrArg (hI (sI (sI (sI h (ad 0) 6 0) (ad 0) 6 (-14)) (ad 0) 6 (-14)) (ad 31)) ((nI_clamp (by have := i_nlt c1; have := i_rg c; have : (0 : Int32).toInt = 0 := rfl; have := i_eq ek2; have : (nI k2).toInt = ((k2 : Nat) : Int) := nI_toInt (by omega); have := i_nle c3; have : (24 : Int32).toInt = 24 := rfl; omega)) : _ = k2)) ?_
              refine WR_tI (y := nI t20) (Eq.trans (I_ne (fx_ne fx (by decide))) (Eq.trans (I_ne (fx_ne fx (by decide))) (Eq.trans (I_ne (fx_ne fx (by decide))) v20))) ?_
              refine r_istore (lv' := [some (.ref (ad 30)), some (.int c), some (.int i), some (.int d), some (.int (nI t20)), none, none]) rfl (Nat.le_of_ble_eq_true rfl) rfl ?_
              refine r_aload rfl rfl ?_
              refine r_getA (b := ad 31) rfl ⟨rfl, rfl, rfl⟩ (fx_t30 fx) (fx_r30_0 fx) ?_
              refine r_iload rfl rfl ?_
              refine WR_tI (y := nI k5) ek5 ?_
              refine r_iaload rfl (.inl (fx_t31 fx)) (vp_ct (fx_n31 fx) (vp_in_nI (by have := i_nlt c4; have := i_rg d; have : (0 : Int32).toInt = 0 := rfl; have := i_eq ek5; have : (nI k5).toInt = ((k5 : Nat) : Int) := nI_toInt (by omega); have := i_nle c6; have : (24 : Int32).toInt = 24 := rfl; omega) (by omega))) ?_
              refine WR_tI (congrArg (hI (sI (sI (sI h (ad 0) 6 0) (ad 0) 6 (-14)) (ad 0) 6 (-14)) (ad 31)) ((nI_clamp (by have := i_nlt c4; have := i_rg d; have : (0 : Int32).toInt = 0 := rfl; have := i_eq ek5; have : (nI k5).toInt = ((k5 : Nat) : Int) := nI_toInt (by omega); have := i_nle c6; have : (24 : Int32).toInt = 24 := rfl; omega)) : _ = k5)) ?_
              refine WR_tI (y := nI t7) (Eq.trans (I_ne (fx_ne fx (by decide))) (Eq.trans (I_ne (fx_ne fx (by decide))) (Eq.trans (I_ne (fx_ne fx (by decide))) v7))) ?_
              refine r_istore (lv' := [some (.ref (ad 30)), some (.int c), some (.int i), some (.int d), some (.int (nI t20)), some (.int (nI t7)), none]) rfl (Nat.le_of_ble_eq_true rfl) rfl ?_
              refine r_iload rfl rfl ?_
              refine r_ic (x := (-1)) rfl rfl ?_
              refine r_icmp_eq (tg := 54) rfl rfl (fun q => False.elim (by have : (nI t20).toInt = ((t20 : Nat) : Int) := nI_toInt (by omega); have : (-1 : Int32).toInt = -1 := rfl; have := i_eq q; omega)) (fun _ => ?_)
              refine r_aload rfl rfl ?_
              refine r_iload rfl rfl ?_
              refine r_cv (y := 166) (ra := [.int (nI t20)]) (rest := []) rfl ⟨⟨rfl, rfl⟩, rfl, by decide⟩ (fx_t30 fx) rfl rfl (Nat.le_of_ble_eq_true rfl) ?_
              refine in_166 (Nat.le_of_ble_eq_true rfl) ?_
              show WR _ cd_166 0 [some (.ref (ad 30)), some (.int (nI t20))] [] (sI (sI (sI h (ad 0) 6 0) (ad 0) 6 (-14)) (ad 0) 6 (-14)) _
              refine r_iload rfl rfl ?_
              refine r_ic (x := (-1)) rfl rfl ?_
              refine r_icmp_ne (tg := 9) rfl rfl (fun _ => ?_) (fun q => False.elim (by have : (nI t20).toInt = ((t20 : Nat) : Int) := nI_toInt (by omega); have : (-1 : Int32).toInt = -1 := rfl; have := i_eq q; omega))
              refine r_iload rfl rfl ?_
              refine r_ic (x := 1000) rfl rfl ?_
              refine r_icmp_lt (tg := 21) rfl rfl (fun _ => ?_) (fun q => False.elim (by have : (nI t20).toInt = ((t20 : Nat) : Int) := nI_toInt (by omega); have : (1000 : Int32).toInt = 1000 := rfl; have := i_nlt q; omega))
              refine r_aload rfl rfl ?_
              refine r_getA (b := ad 33) rfl ⟨rfl, rfl, rfl⟩ (fx_t30 fx) (fx_r30_2 fx) ?_
              refine r_iload rfl rfl ?_
              refine r_iaload rfl (.inl (fx_t33 fx)) (vp_ct (fx_n33 fx) (vp_in_nI (by omega) (by omega))) ?_
              refine WR_tI (congrArg (hI (sI (sI (sI h (ad 0) 6 0) (ad 0) 6 (-14)) (ad 0) 6 (-14)) (ad 33)) ((nI_clamp (by omega)) : _ = t20)) ?_
              refine WR_tI (y := nI ln20) (Eq.trans (I_ne (fx_ne fx (by decide))) (Eq.trans (I_ne (fx_ne fx (by decide))) (Eq.trans (I_ne (fx_ne fx (by decide))) l2_20))) ?_
              refine r_iret rfl ?_
              show WR _ cd_175 49 [some (.ref (ad 30)), some (.int c), some (.int i), some (.int d), some (.int (nI t20)), some (.int (nI t7)), none] [.int (nI ln20)] (sI (sI (sI h (ad 0) 6 0) (ad 0) 6 (-14)) (ad 0) 6 (-14)) _
              refine r_ic (x := 8) rfl rfl ?_
              refine r_icmp_ne (tg := 70) rfl rfl (fun _ => ?_) (fun q => False.elim (by have : (nI ln20).toInt = ((ln20 : Nat) : Int) := nI_toInt (by omega); have : (8 : Int32).toInt = 8 := rfl; have := i_eq q; omega))
              refine r_aload rfl rfl ?_
              refine r_ic (x := 4) rfl rfl ?_
              refine r_cv (y := 156) (ra := [.int 4]) (rest := []) rfl ⟨⟨rfl, rfl⟩, rfl, by decide⟩ (fx_t30 fx) rfl rfl (Nat.le_of_ble_eq_true rfl) ?_
              refine in_156 (Nat.le_of_ble_eq_true rfl) ?_
              show WR _ cd_156 0 [some (.ref (ad 30)), some (.int 4)] [] (sI (sI (sI h (ad 0) 6 0) (ad 0) 6 (-14)) (ad 0) 6 (-14)) _
              refine r_aload rfl rfl ?_
              refine r_ic (x := (-10)) rfl rfl ?_
              refine r_iload rfl rfl ?_
              refine r_isub rfl ?_
              refine WR_tI (y := (-14)) rfl ?_
              refine r_cv (y := 154) (ra := [.int (-14)]) (rest := []) rfl ⟨⟨rfl, rfl⟩, rfl, by decide⟩ (fx_t30 fx) rfl rfl (Nat.le_of_ble_eq_true rfl) ?_
              refine in_154 (Nat.le_of_ble_eq_true rfl) ?_
              show WR _ cd_154 0 [some (.ref (ad 30)), some (.int (-14))] [] (sI (sI (sI h (ad 0) 6 0) (ad 0) 6 (-14)) (ad 0) 6 (-14)) _
              refine r_aload rfl rfl ?_
              refine r_iload rfl rfl ?_
              refine r_ic (x := (-1)) rfl rfl ?_
              refine r_icmp_ge (tg := 10) rfl rfl (fun q => absurd q (by decide)) (fun _ => ?_)
              refine r_iload rfl rfl ?_
              refine r_goto (tg := 11) rfl rfl ?_
              refine r_putI rfl ⟨rfl, rfl, rfl⟩ (fx_t30 fx) ?_
              have fx : FX n ad sa z0 (sI (sI (sI (sI h (ad 0) 6 0) (ad 0) 6 (-14)) (ad 0) 6 (-14)) (ad 30) 11 (-14)) := (FX.sI fx)
              refine r_iload rfl rfl ?_
              refine r_iret rfl ?_
              show WR _ cd_156 8 [some (.ref (ad 30)), some (.int 4)] [.int (-14)] (sI (sI (sI (sI h (ad 0) 6 0) (ad 0) 6 (-14)) (ad 0) 6 (-14)) (ad 30) 11 (-14)) _
              refine r_iret rfl ?_
              show WR _ cd_175 75 [some (.ref (ad 30)), some (.int c), some (.int i), some (.int d), some (.int (nI t20)), some (.int (nI t7)), none] [.int (-14)] (sI (sI (sI (sI h (ad 0) 6 0) (ad 0) 6 (-14)) (ad 0) 6 (-14)) (ad 30) 11 (-14)) _
              refine r_iret rfl ?_
              exact ⟨rfl, Rel.why r ((((Chg.rf.sI (fx_j fx) (.inl (by decide))).sI (fx_j fx) (.inl (by decide))).sI (fx_j fx) (.inl (by decide))).sI (fx_j fx) (.inl (by decide))) ⟨rfl, by decide⟩ (Eq.trans (Eq.trans (I_ne (fx_ne fx (by decide))) I_eq) (Eq.symm I_eq)), (by (try simp only [hZ_sI, hZ_sL, hZ_sD, hZ_sR]); omega), (by (try simp only [hU_sI, hU_sL, hU_sD, hU_sR]); omega)⟩
            · refine r_aaloadA (b := mid t20) rfl (isQ_of (fx_t1 fx) (by decide)) (vp_ct (fx_n1 fx) (vp_in_nI (by have := i_nlt c1; have := i_rg c; have : (0 : Int32).toInt = 0 := rfl; have := i_eq ek2; have : (nI k2).toInt = ((k2 : Nat) : Int) := nI_toInt (by omega); have := i_nle c3; have : (24 : Int32).toInt = 24 := rfl; omega) (by omega))) (Eq.trans (congrArg (hR (sI h (ad 0) 6 0) (ad 1)) ((nI_clamp (by have := i_nlt c1; have := i_rg c; have : (0 : Int32).toInt = 0 := rfl; have := i_eq ek2; have : (nI k2).toInt = ((k2 : Nat) : Int) := nI_toInt (by omega); have := i_nle c3; have : (24 : Int32).toInt = 24 := rfl; omega)) : _ = k2)) (Eq.trans R_oI w20)) ?_
              refine r_astore (lv' := [some (.ref (ad 0)), some (.int (nI k2)), some (.int 8), some (.ref (mid t20)), none]) rfl (Nat.le_of_ble_eq_true rfl) rfl ?_
              refine r_aload rfl rfl ?_
              refine r_instY rfl (by decide) tg20 ?_
              refine r_if_eq (tg := 32) rfl rfl (fun q => absurd q (by decide)) (fun _ => ?_)
              refine r_aload rfl rfl ?_
              refine r_cast rfl tg20 ?_
              refine r_astore (lv' := [some (.ref (ad 0)), some (.int (nI k2)), some (.int 8), some (.ref (mid t20)), some (.ref (mid t20))]) rfl (Nat.le_of_ble_eq_true rfl) rfl ?_
              refine r_aload rfl rfl ?_
              refine r_cv (y := 28) (ra := []) (rest := []) rfl ⟨⟨rfl, rfl⟩, rfl, by decide⟩ tg20 rfl rfl (Nat.le_of_ble_eq_true rfl) ?_
              refine in_28 (Nat.le_of_ble_eq_true rfl) ?_
              show WR _ cd_28 0 [some (.ref (mid t20))] [] (sI h (ad 0) 6 0) _
              refine r_aload rfl rfl ?_
              refine r_getI rfl ⟨rfl, rfl, rfl⟩ tg20 ?_
              refine WR_tI (y := (-1)) (Eq.trans (I_ne (dy_ad fx (.inl (by decide)) dz20)) k1_20) ?_
              refine r_ic (x := (-1)) rfl rfl ?_
              refine r_icmp_ne (tg := 13) rfl rfl (fun q => absurd q (by decide)) (fun _ => ?_)
              refine r_ic (x := 8) rfl rfl ?_
              refine r_goto (tg := 15) rfl rfl ?_
              refine r_iret rfl ?_
              show WR _ cd_43 25 [some (.ref (ad 0)), some (.int (nI k2)), some (.int 8), some (.ref (mid t20)), some (.ref (mid t20))] [.int 8] (sI h (ad 0) 6 0) _
              refine r_iload rfl rfl ?_
              refine r_icmp_ne (tg := 32) rfl rfl (fun q => absurd q (by decide)) (fun _ => ?_)
              refine r_aload rfl rfl ?_
              refine r_aret rfl ?_
              show WR _ cd_46 15 [some (.ref (ad 0)), some (.int (nI k2)), some (.int 8), some (.int i), some (.int (nI k5)), some (.int 3), some (.ref (mid t7)), none] [.ref (mid t20)] (sI h (ad 0) 6 0) _
              refine r_astore (lv' := [some (.ref (ad 0)), some (.int (nI k2)), some (.int 8), some (.int i), some (.int (nI k5)), some (.int 3), some (.ref (mid t7)), some (.ref (mid t20))]) rfl (Nat.le_of_ble_eq_true rfl) rfl ?_
              refine r_aload rfl rfl ?_
              refine r_getI rfl ⟨rfl, rfl, rfl⟩ (fx_t0 fx) ?_
              refine WR_tI (y := 0) I_eq ?_
              refine r_ic (x := (-14)) rfl rfl ?_
              refine r_icmp_eq (tg := 41) rfl rfl (fun q => absurd q (by decide)) (fun _ => ?_)
              refine r_aload rfl rfl ?_
              refine r_ifnullA (tg := 48) rfl rfl ?_
              refine r_aload rfl rfl ?_
              refine r_cw (y := 28) (ra := []) (rest := []) rfl ⟨rfl, rfl⟩ (by rw [show hT (sI h (ad 0) 6 0) (mid t7) = 6 from tg7]; rfl) rfl rfl (Nat.le_of_ble_eq_true rfl) ?_
              refine in_28 (Nat.le_of_ble_eq_true rfl) ?_
              show WR _ cd_28 0 [some (.ref (mid t7))] [] (sI h (ad 0) 6 0) _
              refine r_aload rfl rfl ?_
              refine r_getI rfl ⟨rfl, rfl, rfl⟩ tg7 ?_
              refine WR_tI (y := nI kd7) (Eq.trans (I_ne (dy_ad fx (.inl (by decide)) dz7)) k1_7) ?_
              refine r_ic (x := (-1)) rfl rfl ?_
              refine r_icmp_ne (tg := 13) rfl rfl (fun _ => ?_) (fun q => False.elim (by have : (nI kd7).toInt = ((kd7 : Nat) : Int) := nI_toInt (by omega); have : (-1 : Int32).toInt = -1 := rfl; have := i_eq q; omega))
              refine r_ic (x := 9) rfl rfl ?_
              refine r_iret rfl ?_
              show WR _ cd_46 36 [some (.ref (ad 0)), some (.int (nI k2)), some (.int 8), some (.int i), some (.int (nI k5)), some (.int 3), some (.ref (mid t7)), some (.ref (mid t20))] [.int 9] (sI h (ad 0) 6 0) _
              refine r_iload rfl rfl ?_
              refine r_icmp_eq (tg := 48) rfl rfl (fun q => absurd q (by decide)) (fun _ => ?_)
              refine r_aload rfl rfl ?_
              refine r_ic (x := (-14)) rfl rfl ?_
              refine r_cv (y := 13) (ra := [.int (-14)]) (rest := []) rfl ⟨⟨rfl, rfl⟩, rfl, by decide⟩ (fx_t0 fx) rfl rfl (Nat.le_of_ble_eq_true rfl) ?_
              refine in_13 (Nat.le_of_ble_eq_true rfl) ?_
              show WR _ cd_13 0 [some (.ref (ad 0)), some (.int (-14))] [] (sI h (ad 0) 6 0) _
              refine r_aload rfl rfl ?_
              refine r_iload rfl rfl ?_
              refine r_putI rfl ⟨rfl, rfl, rfl⟩ (fx_t0 fx) ?_
              have fx : FX n ad sa z0 (sI (sI h (ad 0) 6 0) (ad 0) 6 (-14)) := (FX.sI fx)
              refine r_iload rfl rfl ?_
              refine r_iret rfl ?_
              show WR _ cd_46 47 [some (.ref (ad 0)), some (.int (nI k2)), some (.int 8), some (.int i), some (.int (nI k5)), some (.int 3), some (.ref (mid t7)), some (.ref (mid t20))] [.int (-14)] (sI (sI h (ad 0) 6 0) (ad 0) 6 (-14)) _
              refine r_iret rfl ?_
              show WR _ cd_45 36 [some (.ref (ad 0)), some (.int c), some (.int i), some (.int d)] [.int (-14)] (sI (sI h (ad 0) 6 0) (ad 0) 6 (-14)) _
              refine r_iret rfl ?_
              show EV _ 175 [.ref (ad 30), .int c, .int i, .int d] (sI (sI h (ad 0) 6 0) (ad 0) 6 (-14)) _
              refine in_175 (Nat.le_of_ble_eq_true rfl) ?_
              show WR _ cd_175 0 [some (.ref (ad 30)), some (.int c), some (.int i), some (.int d), none, none, none] [] (sI (sI h (ad 0) 6 0) (ad 0) 6 (-14)) _
              refine r_iload rfl rfl ?_
              refine WR_tI (y := nI k2) ek2 ?_
              refine r_cs (y := 153) (ra := [.int (nI k2)]) (rest := []) rfl ⟨⟨rfl, rfl⟩, by decide⟩ rfl rfl (Nat.le_of_ble_eq_true rfl) ?_
              refine in_153 (Nat.le_of_ble_eq_true rfl) ?_
              show WR _ cd_153 0 [some (.int (nI k2))] [] (sI (sI h (ad 0) 6 0) (ad 0) 6 (-14)) _
              refine r_iload rfl rfl ?_
              refine r_if_lt (tg := 14) rfl rfl (fun q => False.elim (by have := i_nlt c1; have := i_rg c; have : (0 : Int32).toInt = 0 := rfl; have := i_eq ek2; have : (nI k2).toInt = ((k2 : Nat) : Int) := nI_toInt (by omega); have := i_nle c3; have : (24 : Int32).toInt = 24 := rfl; have := i_lt q; omega)) (fun _ => ?_)
              refine r_iload rfl rfl ?_
              refine r_ic (x := 24) rfl rfl ?_
              refine r_icmp_ge (tg := 14) rfl rfl (fun q => False.elim (by have := i_nlt c1; have := i_rg c; have : (0 : Int32).toInt = 0 := rfl; have := i_eq ek2; have : (nI k2).toInt = ((k2 : Nat) : Int) := nI_toInt (by omega); have := i_nle c3; have : (24 : Int32).toInt = 24 := rfl; have := i_le q; omega)) (fun _ => ?_)
              refine r_ic (x := 1) rfl rfl ?_
              refine r_goto (tg := 15) rfl rfl ?_
              refine r_zret rfl (.inr rfl) ?_
              show WR _ cd_175 4 [some (.ref (ad 30)), some (.int c), some (.int i), some (.int d), none, none, none] [.int 1] (sI (sI h (ad 0) 6 0) (ad 0) 6 (-14)) _
              refine r_if_eq (tg := 14) rfl rfl (fun q => absurd q (by decide)) (fun _ => ?_)
              refine r_iload rfl rfl ?_
              refine WR_tI (y := nI k5) ek5 ?_
              refine r_cs (y := 153) (ra := [.int (nI k5)]) (rest := []) rfl ⟨⟨rfl, rfl⟩, by decide⟩ rfl rfl (Nat.le_of_ble_eq_true rfl) ?_
              refine in_153 (Nat.le_of_ble_eq_true rfl) ?_
              show WR _ cd_153 0 [some (.int (nI k5))] [] (sI (sI h (ad 0) 6 0) (ad 0) 6 (-14)) _
              refine r_iload rfl rfl ?_
              refine r_if_lt (tg := 14) rfl rfl (fun q => False.elim (by have := i_nlt c4; have := i_rg d; have : (0 : Int32).toInt = 0 := rfl; have := i_eq ek5; have : (nI k5).toInt = ((k5 : Nat) : Int) := nI_toInt (by omega); have := i_nle c6; have : (24 : Int32).toInt = 24 := rfl; have := i_lt q; omega)) (fun _ => ?_)
              refine r_iload rfl rfl ?_
              refine r_ic (x := 24) rfl rfl ?_
              refine r_icmp_ge (tg := 14) rfl rfl (fun q => False.elim (by have := i_nlt c4; have := i_rg d; have : (0 : Int32).toInt = 0 := rfl; have := i_eq ek5; have : (nI k5).toInt = ((k5 : Nat) : Int) := nI_toInt (by omega); have := i_nle c6; have : (24 : Int32).toInt = 24 := rfl; have := i_le q; omega)) (fun _ => ?_)
              refine r_ic (x := 1) rfl rfl ?_
              refine r_goto (tg := 15) rfl rfl ?_
              refine r_zret rfl (.inr rfl) ?_
              show WR _ cd_175 11 [some (.ref (ad 30)), some (.int c), some (.int i), some (.int d), none, none, none] [.int 1] (sI (sI h (ad 0) 6 0) (ad 0) 6 (-14)) _
              refine r_if_ne (tg := 21) rfl rfl (fun _ => ?_) (fun q => absurd q (by decide))
              refine r_aload rfl rfl ?_
              refine r_getA (b := ad 31) rfl ⟨rfl, rfl, rfl⟩ (fx_t30 fx) (fx_r30_0 fx) ?_
              refine r_iload rfl rfl ?_
              refine WR_tI (y := nI k2) ek2 ?_
              refine r_iaload rfl (.inl (fx_t31 fx)) (vp_ct (fx_n31 fx) (vp_in_nI (by have := i_nlt c1; have := i_rg c; have : (0 : Int32).toInt = 0 := rfl; have := i_eq ek2; have : (nI k2).toInt = ((k2 : Nat) : Int) := nI_toInt (by omega); have := i_nle c3; have : (24 : Int32).toInt = 24 := rfl; omega) (by omega))) ?_
              refine WR_tI (congrArg (hI (sI (sI h (ad 0) 6 0) (ad 0) 6 (-14)) (ad 31)) ((nI_clamp (by have := i_nlt c1; have := i_rg c; have : (0 : Int32).toInt = 0 := rfl; have := i_eq ek2; have : (nI k2).toInt = ((k2 : Nat) : Int) := nI_toInt (by omega); have := i_nle c3; have : (24 : Int32).toInt = 24 := rfl; omega)) : _ = k2)) ?_
              refine WR_tI (y := nI t20) (Eq.trans (I_ne (fx_ne fx (by decide))) (Eq.trans (I_ne (fx_ne fx (by decide))) v20)) ?_
              refine r_istore (lv' := [some (.ref (ad 30)), some (.int c), some (.int i), some (.int d), some (.int (nI t20)), none, none]) rfl (Nat.le_of_ble_eq_true rfl) rfl ?_
              refine r_aload rfl rfl ?_
              refine r_getA (b := ad 31) rfl ⟨rfl, rfl, rfl⟩ (fx_t30 fx) (fx_r30_0 fx) ?_
              refine r_iload rfl rfl ?_
              refine WR_tI (y := nI k5) ek5 ?_
              refine r_iaload rfl (.inl (fx_t31 fx)) (vp_ct (fx_n31 fx) (vp_in_nI (by have := i_nlt c4; have := i_rg d; have : (0 : Int32).toInt = 0 := rfl; have := i_eq ek5; have : (nI k5).toInt = ((k5 : Nat) : Int) := nI_toInt (by omega); have := i_nle c6; have : (24 : Int32).toInt = 24 := rfl; omega) (by omega))) ?_
              refine WR_tI (congrArg (hI (sI (sI h (ad 0) 6 0) (ad 0) 6 (-14)) (ad 31)) ((nI_clamp (by have := i_nlt c4; have := i_rg d; have : (0 : Int32).toInt = 0 := rfl; have := i_eq ek5; have : (nI k5).toInt = ((k5 : Nat) : Int) := nI_toInt (by omega); have := i_nle c6; have : (24 : Int32).toInt = 24 := rfl; omega)) : _ = k5)) ?_
              refine WR_tI (y := nI t7) (Eq.trans (I_ne (fx_ne fx (by decide))) (Eq.trans (I_ne (fx_ne fx (by decide))) v7)) ?_
              refine r_istore (lv' := [some (.ref (ad 30)), some (.int c), some (.int i), some (.int d), some (.int (nI t20)), some (.int (nI t7)), none]) rfl (Nat.le_of_ble_eq_true rfl) rfl ?_
              refine r_iload rfl rfl ?_
              refine r_ic (x := (-1)) rfl rfl ?_
              refine r_icmp_eq (tg := 54) rfl rfl (fun q => False.elim (by have : (nI t20).toInt = ((t20 : Nat) : Int) := nI_toInt (by omega); have : (-1 : Int32).toInt = -1 := rfl; have := i_eq q; omega)) (fun _ => ?_)
              refine r_aload rfl rfl ?_
              refine r_iload rfl rfl ?_
              refine r_cv (y := 166) (ra := [.int (nI t20)]) (rest := []) rfl ⟨⟨rfl, rfl⟩, rfl, by decide⟩ (fx_t30 fx) rfl rfl (Nat.le_of_ble_eq_true rfl) ?_
              refine in_166 (Nat.le_of_ble_eq_true rfl) ?_
              show WR _ cd_166 0 [some (.ref (ad 30)), some (.int (nI t20))] [] (sI (sI h (ad 0) 6 0) (ad 0) 6 (-14)) _
              refine r_iload rfl rfl ?_
              refine r_ic (x := (-1)) rfl rfl ?_
              refine r_icmp_ne (tg := 9) rfl rfl (fun _ => ?_) (fun q => False.elim (by have : (nI t20).toInt = ((t20 : Nat) : Int) := nI_toInt (by omega); have : (-1 : Int32).toInt = -1 := rfl; have := i_eq q; omega))
              refine r_iload rfl rfl ?_
              refine r_ic (x := 1000) rfl rfl ?_
              refine r_icmp_lt (tg := 21) rfl rfl (fun _ => ?_) (fun q => False.elim (by have : (nI t20).toInt = ((t20 : Nat) : Int) := nI_toInt (by omega); have : (1000 : Int32).toInt = 1000 := rfl; have := i_nlt q; omega))
              refine r_aload rfl rfl ?_
              refine r_getA (b := ad 33) rfl ⟨rfl, rfl, rfl⟩ (fx_t30 fx) (fx_r30_2 fx) ?_
              refine r_iload rfl rfl ?_
              refine r_iaload rfl (.inl (fx_t33 fx)) (vp_ct (fx_n33 fx) (vp_in_nI (by omega) (by omega))) ?_
              refine WR_tI (congrArg (hI (sI (sI h (ad 0) 6 0) (ad 0) 6 (-14)) (ad 33)) ((nI_clamp (by omega)) : _ = t20)) ?_
              refine WR_tI (y := 8) (Eq.trans (I_ne (fx_ne fx (by decide))) (Eq.trans (I_ne (fx_ne fx (by decide))) l2_20)) ?_
              refine r_iret rfl ?_
              show WR _ cd_175 49 [some (.ref (ad 30)), some (.int c), some (.int i), some (.int d), some (.int (nI t20)), some (.int (nI t7)), none] [.int 8] (sI (sI h (ad 0) 6 0) (ad 0) 6 (-14)) _
              refine r_ic (x := 8) rfl rfl ?_
              refine r_icmp_ne (tg := 70) rfl rfl (fun q => absurd q (by decide)) (fun _ => ?_)
              refine r_iload rfl rfl ?_
              refine r_ic (x := (-1)) rfl rfl ?_
              refine r_icmp_eq (tg := 76) rfl rfl (fun q => False.elim (by have : (nI t7).toInt = ((t7 : Nat) : Int) := nI_toInt (by omega); have : (-1 : Int32).toInt = -1 := rfl; have := i_eq q; omega)) (fun _ => ?_)
              refine r_aload rfl rfl ?_
              refine r_iload rfl rfl ?_
              refine r_cv (y := 166) (ra := [.int (nI t7)]) (rest := []) rfl ⟨⟨rfl, rfl⟩, rfl, by decide⟩ (fx_t30 fx) rfl rfl (Nat.le_of_ble_eq_true rfl) ?_
              refine in_166 (Nat.le_of_ble_eq_true rfl) ?_
              show WR _ cd_166 0 [some (.ref (ad 30)), some (.int (nI t7))] [] (sI (sI h (ad 0) 6 0) (ad 0) 6 (-14)) _
              refine r_iload rfl rfl ?_
              refine r_ic (x := (-1)) rfl rfl ?_
              refine r_icmp_ne (tg := 9) rfl rfl (fun _ => ?_) (fun q => False.elim (by have : (nI t7).toInt = ((t7 : Nat) : Int) := nI_toInt (by omega); have : (-1 : Int32).toInt = -1 := rfl; have := i_eq q; omega))
              refine r_iload rfl rfl ?_
              refine r_ic (x := 1000) rfl rfl ?_
              refine r_icmp_lt (tg := 21) rfl rfl (fun _ => ?_) (fun q => False.elim (by have : (nI t7).toInt = ((t7 : Nat) : Int) := nI_toInt (by omega); have : (1000 : Int32).toInt = 1000 := rfl; have := i_nlt q; omega))
              refine r_aload rfl rfl ?_
              refine r_getA (b := ad 33) rfl ⟨rfl, rfl, rfl⟩ (fx_t30 fx) (fx_r30_2 fx) ?_
              refine r_iload rfl rfl ?_
              refine r_iaload rfl (.inl (fx_t33 fx)) (vp_ct (fx_n33 fx) (vp_in_nI (by omega) (by omega))) ?_
              refine WR_tI (congrArg (hI (sI (sI h (ad 0) 6 0) (ad 0) 6 (-14)) (ad 33)) ((nI_clamp (by omega)) : _ = t7)) ?_
              refine WR_tI (y := 9) (Eq.trans (I_ne (fx_ne fx (by decide))) (Eq.trans (I_ne (fx_ne fx (by decide))) l2_7)) ?_
              refine r_iret rfl ?_
              show WR _ cd_175 66 [some (.ref (ad 30)), some (.int c), some (.int i), some (.int d), some (.int (nI t20)), some (.int (nI t7)), none] [.int 9] (sI (sI h (ad 0) 6 0) (ad 0) 6 (-14)) _
              refine r_ic (x := 3) rfl rfl ?_
              refine r_icmp_eq (tg := 76) rfl rfl (fun q => absurd q (by decide)) (fun _ => ?_)
              refine r_aload rfl rfl ?_
              refine r_ic (x := 4) rfl rfl ?_
              refine r_cv (y := 156) (ra := [.int 4]) (rest := []) rfl ⟨⟨rfl, rfl⟩, rfl, by decide⟩ (fx_t30 fx) rfl rfl (Nat.le_of_ble_eq_true rfl) ?_
              refine in_156 (Nat.le_of_ble_eq_true rfl) ?_
              show WR _ cd_156 0 [some (.ref (ad 30)), some (.int 4)] [] (sI (sI h (ad 0) 6 0) (ad 0) 6 (-14)) _
              refine r_aload rfl rfl ?_
              refine r_ic (x := (-10)) rfl rfl ?_
              refine r_iload rfl rfl ?_
              refine r_isub rfl ?_
              refine WR_tI (y := (-14)) rfl ?_
              refine r_cv (y := 154) (ra := [.int (-14)]) (rest := []) rfl ⟨⟨rfl, rfl⟩, rfl, by decide⟩ (fx_t30 fx) rfl rfl (Nat.le_of_ble_eq_true rfl) ?_
              refine in_154 (Nat.le_of_ble_eq_true rfl) ?_
              show WR _ cd_154 0 [some (.ref (ad 30)), some (.int (-14))] [] (sI (sI h (ad 0) 6 0) (ad 0) 6 (-14)) _
              refine r_aload rfl rfl ?_
              refine r_iload rfl rfl ?_
              refine r_ic (x := (-1)) rfl rfl ?_
              refine r_icmp_ge (tg := 10) rfl rfl (fun q => absurd q (by decide)) (fun _ => ?_)
              refine r_iload rfl rfl ?_
              refine r_goto (tg := 11) rfl rfl ?_
              refine r_putI rfl ⟨rfl, rfl, rfl⟩ (fx_t30 fx) ?_
              have fx : FX n ad sa z0 (sI (sI (sI h (ad 0) 6 0) (ad 0) 6 (-14)) (ad 30) 11 (-14)) := (FX.sI fx)
              refine r_iload rfl rfl ?_
              refine r_iret rfl ?_
              show WR _ cd_156 8 [some (.ref (ad 30)), some (.int 4)] [.int (-14)] (sI (sI (sI h (ad 0) 6 0) (ad 0) 6 (-14)) (ad 30) 11 (-14)) _
              refine r_iret rfl ?_
              show WR _ cd_175 75 [some (.ref (ad 30)), some (.int c), some (.int i), some (.int d), some (.int (nI t20)), some (.int (nI t7)), none] [.int (-14)] (sI (sI (sI h (ad 0) 6 0) (ad 0) 6 (-14)) (ad 30) 11 (-14)) _
              refine r_iret rfl ?_
              exact ⟨rfl, Rel.why r (((Chg.rf.sI (fx_j fx) (.inl (by decide))).sI (fx_j fx) (.inl (by decide))).sI (fx_j fx) (.inl (by decide))) ⟨rfl, by decide⟩ (Eq.trans (Eq.trans (I_ne (fx_ne fx (by decide))) I_eq) (Eq.symm I_eq)), (by (try simp only [hZ_sI, hZ_sL, hZ_sD, hZ_sR]); omega), (by (try simp only [hU_sI, hU_sL, hU_sD, hU_sR]); omega)⟩
            · refine r_aaloadA (b := mid t20) rfl (isQ_of (fx_t1 fx) (by decide)) (vp_ct (fx_n1 fx) (vp_in_nI (by have := i_nlt c1; have := i_rg c; have : (0 : Int32).toInt = 0 := rfl; have := i_eq ek2; have : (nI k2).toInt = ((k2 : Nat) : Int) := nI_toInt (by omega); have := i_nle c3; have : (24 : Int32).toInt = 24 := rfl; omega) (by omega))) (Eq.trans (congrArg (hR (sI h (ad 0) 6 0) (ad 1)) ((nI_clamp (by have := i_nlt c1; have := i_rg c; have : (0 : Int32).toInt = 0 := rfl; have := i_eq ek2; have : (nI k2).toInt = ((k2 : Nat) : Int) := nI_toInt (by omega); have := i_nle c3; have : (24 : Int32).toInt = 24 := rfl; omega)) : _ = k2)) (Eq.trans R_oI w20)) ?_
              refine r_astore (lv' := [some (.ref (ad 0)), some (.int (nI k2)), some (.int 8), some (.ref (mid t20)), none]) rfl (Nat.le_of_ble_eq_true rfl) rfl ?_
              refine r_aload rfl rfl ?_
              refine r_instY rfl (by decide) tg20 ?_
              refine r_if_eq (tg := 32) rfl rfl (fun q => absurd q (by decide)) (fun _ => ?_)
              refine r_aload rfl rfl ?_
              refine r_cast rfl tg20 ?_
              refine r_astore (lv' := [some (.ref (ad 0)), some (.int (nI k2)), some (.int 8), some (.ref (mid t20)), some (.ref (mid t20))]) rfl (Nat.le_of_ble_eq_true rfl) rfl ?_
              refine r_aload rfl rfl ?_
              refine r_cv (y := 28) (ra := []) (rest := []) rfl ⟨⟨rfl, rfl⟩, rfl, by decide⟩ tg20 rfl rfl (Nat.le_of_ble_eq_true rfl) ?_
              refine in_28 (Nat.le_of_ble_eq_true rfl) ?_
              show WR _ cd_28 0 [some (.ref (mid t20))] [] (sI h (ad 0) 6 0) _
              refine r_aload rfl rfl ?_
              refine r_getI rfl ⟨rfl, rfl, rfl⟩ tg20 ?_
              refine WR_tI (y := nI kd20) (Eq.trans (I_ne (dy_ad fx (.inl (by decide)) dz20)) k1_20) ?_
              refine r_ic (x := (-1)) rfl rfl ?_
              refine r_icmp_ne (tg := 13) rfl rfl (fun _ => ?_) (fun q => False.elim (by have : (nI kd20).toInt = ((kd20 : Nat) : Int) := nI_toInt (by omega); have : (-1 : Int32).toInt = -1 := rfl; have := i_eq q; omega))
              refine r_ic (x := 9) rfl rfl ?_
              refine r_iret rfl ?_
              show WR _ cd_43 25 [some (.ref (ad 0)), some (.int (nI k2)), some (.int 8), some (.ref (mid t20)), some (.ref (mid t20))] [.int 9] (sI h (ad 0) 6 0) _
              refine r_iload rfl rfl ?_
              refine r_icmp_ne (tg := 32) rfl rfl (fun _ => ?_) (fun q => absurd q (by decide))
              refine r_aload rfl rfl ?_
              refine r_aload rfl rfl ?_
              refine r_ifnonnullA (tg := 42) rfl rfl ?_
              refine r_ic (x := (-14)) rfl rfl ?_
              refine r_putI rfl ⟨rfl, rfl, rfl⟩ (fx_t0 fx) ?_
              have fx : FX n ad sa z0 (sI (sI h (ad 0) 6 0) (ad 0) 6 (-14)) := (FX.sI fx)
              refine r_null rfl ?_
              refine r_aret0 rfl ?_
              show WR _ cd_46 15 [some (.ref (ad 0)), some (.int (nI k2)), some (.int 8), some (.int i), some (.int (nI k5)), some (.int 3), some (.ref (mid t7)), none] [.null] (sI (sI h (ad 0) 6 0) (ad 0) 6 (-14)) _
              refine r_astore0 (lv' := [some (.ref (ad 0)), some (.int (nI k2)), some (.int 8), some (.int i), some (.int (nI k5)), some (.int 3), some (.ref (mid t7)), some (.null)]) rfl (Nat.le_of_ble_eq_true rfl) rfl ?_
              refine r_aload rfl rfl ?_
              refine r_getI rfl ⟨rfl, rfl, rfl⟩ (fx_t0 fx) ?_
              refine WR_tI (y := (-14)) I_eq ?_
              refine r_ic (x := (-14)) rfl rfl ?_
              refine r_icmp_eq (tg := 41) rfl rfl (fun _ => ?_) (fun q => absurd q (by decide))
              refine r_aload rfl rfl ?_
              refine r_ic (x := (-14)) rfl rfl ?_
              refine r_cv (y := 13) (ra := [.int (-14)]) (rest := []) rfl ⟨⟨rfl, rfl⟩, rfl, by decide⟩ (fx_t0 fx) rfl rfl (Nat.le_of_ble_eq_true rfl) ?_
              refine in_13 (Nat.le_of_ble_eq_true rfl) ?_
              show WR _ cd_13 0 [some (.ref (ad 0)), some (.int (-14))] [] (sI (sI h (ad 0) 6 0) (ad 0) 6 (-14)) _
              refine r_aload rfl rfl ?_
              refine r_iload rfl rfl ?_
              refine r_putI rfl ⟨rfl, rfl, rfl⟩ (fx_t0 fx) ?_
              have fx : FX n ad sa z0 (sI (sI (sI h (ad 0) 6 0) (ad 0) 6 (-14)) (ad 0) 6 (-14)) := (FX.sI fx)
              refine r_iload rfl rfl ?_
              refine r_iret rfl ?_
              show WR _ cd_46 47 [some (.ref (ad 0)), some (.int (nI k2)), some (.int 8), some (.int i), some (.int (nI k5)), some (.int 3), some (.ref (mid t7)), some (.null)] [.int (-14)] (sI (sI (sI h (ad 0) 6 0) (ad 0) 6 (-14)) (ad 0) 6 (-14)) _
              refine r_iret rfl ?_
              show WR _ cd_45 36 [some (.ref (ad 0)), some (.int c), some (.int i), some (.int d)] [.int (-14)] (sI (sI (sI h (ad 0) 6 0) (ad 0) 6 (-14)) (ad 0) 6 (-14)) _
              refine r_iret rfl ?_
              show EV _ 175 [.ref (ad 30), .int c, .int i, .int d] (sI (sI (sI h (ad 0) 6 0) (ad 0) 6 (-14)) (ad 0) 6 (-14)) _
              refine in_175 (Nat.le_of_ble_eq_true rfl) ?_
              show WR _ cd_175 0 [some (.ref (ad 30)), some (.int c), some (.int i), some (.int d), none, none, none] [] (sI (sI (sI h (ad 0) 6 0) (ad 0) 6 (-14)) (ad 0) 6 (-14)) _
              refine r_iload rfl rfl ?_
              refine WR_tI (y := nI k2) ek2 ?_
              refine r_cs (y := 153) (ra := [.int (nI k2)]) (rest := []) rfl ⟨⟨rfl, rfl⟩, by decide⟩ rfl rfl (Nat.le_of_ble_eq_true rfl) ?_
              refine in_153 (Nat.le_of_ble_eq_true rfl) ?_
              show WR _ cd_153 0 [some (.int (nI k2))] [] (sI (sI (sI h (ad 0) 6 0) (ad 0) 6 (-14)) (ad 0) 6 (-14)) _
              refine r_iload rfl rfl ?_
              refine r_if_lt (tg := 14) rfl rfl (fun q => False.elim (by have := i_nlt c1; have := i_rg c; have : (0 : Int32).toInt = 0 := rfl; have := i_eq ek2; have : (nI k2).toInt = ((k2 : Nat) : Int) := nI_toInt (by omega); have := i_nle c3; have : (24 : Int32).toInt = 24 := rfl; have := i_lt q; omega)) (fun _ => ?_)
              refine r_iload rfl rfl ?_
              refine r_ic (x := 24) rfl rfl ?_
              refine r_icmp_ge (tg := 14) rfl rfl (fun q => False.elim (by have := i_nlt c1; have := i_rg c; have : (0 : Int32).toInt = 0 := rfl; have := i_eq ek2; have : (nI k2).toInt = ((k2 : Nat) : Int) := nI_toInt (by omega); have := i_nle c3; have : (24 : Int32).toInt = 24 := rfl; have := i_le q; omega)) (fun _ => ?_)
              refine r_ic (x := 1) rfl rfl ?_
              refine r_goto (tg := 15) rfl rfl ?_
              refine r_zret rfl (.inr rfl) ?_
              show WR _ cd_175 4 [some (.ref (ad 30)), some (.int c), some (.int i), some (.int d), none, none, none] [.int 1] (sI (sI (sI h (ad 0) 6 0) (ad 0) 6 (-14)) (ad 0) 6 (-14)) _
              refine r_if_eq (tg := 14) rfl rfl (fun q => absurd q (by decide)) (fun _ => ?_)
              refine r_iload rfl rfl ?_
              refine WR_tI (y := nI k5) ek5 ?_
              refine r_cs (y := 153) (ra := [.int (nI k5)]) (rest := []) rfl ⟨⟨rfl, rfl⟩, by decide⟩ rfl rfl (Nat.le_of_ble_eq_true rfl) ?_
              refine in_153 (Nat.le_of_ble_eq_true rfl) ?_
              show WR _ cd_153 0 [some (.int (nI k5))] [] (sI (sI (sI h (ad 0) 6 0) (ad 0) 6 (-14)) (ad 0) 6 (-14)) _
              refine r_iload rfl rfl ?_
              refine r_if_lt (tg := 14) rfl rfl (fun q => False.elim (by have := i_nlt c4; have := i_rg d; have : (0 : Int32).toInt = 0 := rfl; have := i_eq ek5; have : (nI k5).toInt = ((k5 : Nat) : Int) := nI_toInt (by omega); have := i_nle c6; have : (24 : Int32).toInt = 24 := rfl; have := i_lt q; omega)) (fun _ => ?_)
              refine r_iload rfl rfl ?_
              refine r_ic (x := 24) rfl rfl ?_
              refine r_icmp_ge (tg := 14) rfl rfl (fun q => False.elim (by have := i_nlt c4; have := i_rg d; have : (0 : Int32).toInt = 0 := rfl; have := i_eq ek5; have : (nI k5).toInt = ((k5 : Nat) : Int) := nI_toInt (by omega); have := i_nle c6; have : (24 : Int32).toInt = 24 := rfl; have := i_le q; omega)) (fun _ => ?_)
              refine r_ic (x := 1) rfl rfl ?_
              refine r_goto (tg := 15) rfl rfl ?_
              refine r_zret rfl (.inr rfl) ?_
              show WR _ cd_175 11 [some (.ref (ad 30)), some (.int c), some (.int i), some (.int d), none, none, none] [.int 1] (sI (sI (sI h (ad 0) 6 0) (ad 0) 6 (-14)) (ad 0) 6 (-14)) _
              refine r_if_ne (tg := 21) rfl rfl (fun _ => ?_) (fun q => absurd q (by decide))
              refine r_aload rfl rfl ?_
              refine r_getA (b := ad 31) rfl ⟨rfl, rfl, rfl⟩ (fx_t30 fx) (fx_r30_0 fx) ?_
              refine r_iload rfl rfl ?_
              refine WR_tI (y := nI k2) ek2 ?_
              refine r_iaload rfl (.inl (fx_t31 fx)) (vp_ct (fx_n31 fx) (vp_in_nI (by have := i_nlt c1; have := i_rg c; have : (0 : Int32).toInt = 0 := rfl; have := i_eq ek2; have : (nI k2).toInt = ((k2 : Nat) : Int) := nI_toInt (by omega); have := i_nle c3; have : (24 : Int32).toInt = 24 := rfl; omega) (by omega))) ?_
              refine WR_tI (congrArg (hI (sI (sI (sI h (ad 0) 6 0) (ad 0) 6 (-14)) (ad 0) 6 (-14)) (ad 31)) ((nI_clamp (by have := i_nlt c1; have := i_rg c; have : (0 : Int32).toInt = 0 := rfl; have := i_eq ek2; have : (nI k2).toInt = ((k2 : Nat) : Int) := nI_toInt (by omega); have := i_nle c3; have : (24 : Int32).toInt = 24 := rfl; omega)) : _ = k2)) ?_
              refine WR_tI (y := nI t20) (Eq.trans (I_ne (fx_ne fx (by decide))) (Eq.trans (I_ne (fx_ne fx (by decide))) (Eq.trans (I_ne (fx_ne fx (by decide))) v20))) ?_
              refine r_istore (lv' := [some (.ref (ad 30)), some (.int c), some (.int i), some (.int d), some (.int (nI t20)), none, none]) rfl (Nat.le_of_ble_eq_true rfl) rfl ?_
              refine r_aload rfl rfl ?_
              refine r_getA (b := ad 31) rfl ⟨rfl, rfl, rfl⟩ (fx_t30 fx) (fx_r30_0 fx) ?_
              refine r_iload rfl rfl ?_
              refine WR_tI (y := nI k5) ek5 ?_
              refine r_iaload rfl (.inl (fx_t31 fx)) (vp_ct (fx_n31 fx) (vp_in_nI (by have := i_nlt c4; have := i_rg d; have : (0 : Int32).toInt = 0 := rfl; have := i_eq ek5; have : (nI k5).toInt = ((k5 : Nat) : Int) := nI_toInt (by omega); have := i_nle c6; have : (24 : Int32).toInt = 24 := rfl; omega) (by omega))) ?_
              refine WR_tI (congrArg (hI (sI (sI (sI h (ad 0) 6 0) (ad 0) 6 (-14)) (ad 0) 6 (-14)) (ad 31)) ((nI_clamp (by have := i_nlt c4; have := i_rg d; have : (0 : Int32).toInt = 0 := rfl; have := i_eq ek5; have : (nI k5).toInt = ((k5 : Nat) : Int) := nI_toInt (by omega); have := i_nle c6; have : (24 : Int32).toInt = 24 := rfl; omega)) : _ = k5)) ?_
              refine WR_tI (y := nI t7) (Eq.trans (I_ne (fx_ne fx (by decide))) (Eq.trans (I_ne (fx_ne fx (by decide))) (Eq.trans (I_ne (fx_ne fx (by decide))) v7))) ?_
              refine r_istore (lv' := [some (.ref (ad 30)), some (.int c), some (.int i), some (.int d), some (.int (nI t20)), some (.int (nI t7)), none]) rfl (Nat.le_of_ble_eq_true rfl) rfl ?_
              refine r_iload rfl rfl ?_
              refine r_ic (x := (-1)) rfl rfl ?_
              refine r_icmp_eq (tg := 54) rfl rfl (fun q => False.elim (by have : (nI t20).toInt = ((t20 : Nat) : Int) := nI_toInt (by omega); have : (-1 : Int32).toInt = -1 := rfl; have := i_eq q; omega)) (fun _ => ?_)
              refine r_aload rfl rfl ?_
              refine r_iload rfl rfl ?_
              refine r_cv (y := 166) (ra := [.int (nI t20)]) (rest := []) rfl ⟨⟨rfl, rfl⟩, rfl, by decide⟩ (fx_t30 fx) rfl rfl (Nat.le_of_ble_eq_true rfl) ?_
              refine in_166 (Nat.le_of_ble_eq_true rfl) ?_
              show WR _ cd_166 0 [some (.ref (ad 30)), some (.int (nI t20))] [] (sI (sI (sI h (ad 0) 6 0) (ad 0) 6 (-14)) (ad 0) 6 (-14)) _
              refine r_iload rfl rfl ?_
              refine r_ic (x := (-1)) rfl rfl ?_
              refine r_icmp_ne (tg := 9) rfl rfl (fun _ => ?_) (fun q => False.elim (by have : (nI t20).toInt = ((t20 : Nat) : Int) := nI_toInt (by omega); have : (-1 : Int32).toInt = -1 := rfl; have := i_eq q; omega))
              refine r_iload rfl rfl ?_
              refine r_ic (x := 1000) rfl rfl ?_
              refine r_icmp_lt (tg := 21) rfl rfl (fun _ => ?_) (fun q => False.elim (by have : (nI t20).toInt = ((t20 : Nat) : Int) := nI_toInt (by omega); have : (1000 : Int32).toInt = 1000 := rfl; have := i_nlt q; omega))
              refine r_aload rfl rfl ?_
              refine r_getA (b := ad 33) rfl ⟨rfl, rfl, rfl⟩ (fx_t30 fx) (fx_r30_2 fx) ?_
              refine r_iload rfl rfl ?_
              refine r_iaload rfl (.inl (fx_t33 fx)) (vp_ct (fx_n33 fx) (vp_in_nI (by omega) (by omega))) ?_
              refine WR_tI (congrArg (hI (sI (sI (sI h (ad 0) 6 0) (ad 0) 6 (-14)) (ad 0) 6 (-14)) (ad 33)) ((nI_clamp (by omega)) : _ = t20)) ?_
              refine WR_tI (y := 9) (Eq.trans (I_ne (fx_ne fx (by decide))) (Eq.trans (I_ne (fx_ne fx (by decide))) (Eq.trans (I_ne (fx_ne fx (by decide))) l2_20))) ?_
              refine r_iret rfl ?_
              show WR _ cd_175 49 [some (.ref (ad 30)), some (.int c), some (.int i), some (.int d), some (.int (nI t20)), some (.int (nI t7)), none] [.int 9] (sI (sI (sI h (ad 0) 6 0) (ad 0) 6 (-14)) (ad 0) 6 (-14)) _
              refine r_ic (x := 8) rfl rfl ?_
              refine r_icmp_ne (tg := 70) rfl rfl (fun _ => ?_) (fun q => absurd q (by decide))
              refine r_aload rfl rfl ?_
              refine r_ic (x := 4) rfl rfl ?_
              refine r_cv (y := 156) (ra := [.int 4]) (rest := []) rfl ⟨⟨rfl, rfl⟩, rfl, by decide⟩ (fx_t30 fx) rfl rfl (Nat.le_of_ble_eq_true rfl) ?_
              refine in_156 (Nat.le_of_ble_eq_true rfl) ?_
              show WR _ cd_156 0 [some (.ref (ad 30)), some (.int 4)] [] (sI (sI (sI h (ad 0) 6 0) (ad 0) 6 (-14)) (ad 0) 6 (-14)) _
              refine r_aload rfl rfl ?_
              refine r_ic (x := (-10)) rfl rfl ?_
              refine r_iload rfl rfl ?_
              refine r_isub rfl ?_
              refine WR_tI (y := (-14)) rfl ?_
              refine r_cv (y := 154) (ra := [.int (-14)]) (rest := []) rfl ⟨⟨rfl, rfl⟩, rfl, by decide⟩ (fx_t30 fx) rfl rfl (Nat.le_of_ble_eq_true rfl) ?_
              refine in_154 (Nat.le_of_ble_eq_true rfl) ?_
              show WR _ cd_154 0 [some (.ref (ad 30)), some (.int (-14))] [] (sI (sI (sI h (ad 0) 6 0) (ad 0) 6 (-14)) (ad 0) 6 (-14)) _
              refine r_aload rfl rfl ?_
              refine r_iload rfl rfl ?_
              refine r_ic (x := (-1)) rfl rfl ?_
              refine r_icmp_ge (tg := 10) rfl rfl (fun q => absurd q (by decide)) (fun _ => ?_)
              refine r_iload rfl rfl ?_
              refine r_goto (tg := 11) rfl rfl ?_
              refine r_putI rfl ⟨rfl, rfl, rfl⟩ (fx_t30 fx) ?_
              have fx : FX n ad sa z0 (sI (sI (sI (sI h (ad 0) 6 0) (ad 0) 6 (-14)) (ad 0) 6 (-14)) (ad 30) 11 (-14)) := (FX.sI fx)
              refine r_iload rfl rfl ?_
              refine r_iret rfl ?_
              show WR _ cd_156 8 [some (.ref (ad 30)), some (.int 4)] [.int (-14)] (sI (sI (sI (sI h (ad 0) 6 0) (ad 0) 6 (-14)) (ad 0) 6 (-14)) (ad 30) 11 (-14)) _
              refine r_iret rfl ?_
              show WR _ cd_175 75 [some (.ref (ad 30)), some (.int c), some (.int i), some (.int d), some (.int (nI t20)), some (.int (nI t7)), none] [.int (-14)] (sI (sI (sI (sI h (ad 0) 6 0) (ad 0) 6 (-14)) (ad 0) 6 (-14)) (ad 30) 11 (-14)) _
              refine r_iret rfl ?_
              exact ⟨rfl, Rel.why r ((((Chg.rf.sI (fx_j fx) (.inl (by decide))).sI (fx_j fx) (.inl (by decide))).sI (fx_j fx) (.inl (by decide))).sI (fx_j fx) (.inl (by decide))) ⟨rfl, by decide⟩ (Eq.trans (Eq.trans (I_ne (fx_ne fx (by decide))) I_eq) (Eq.symm I_eq)), (by (try simp only [hZ_sI, hZ_sL, hZ_sD, hZ_sR]); omega), (by (try simp only [hU_sI, hU_sL, hU_sD, hU_sR]); omega)⟩

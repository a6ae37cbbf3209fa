/-! ===== calls; printed ===== -/
set_option maxHeartbeats 10000000 in
theorem k_lift {n : Nat} {ad sa : Nat → Nat} {z0 : Nat} {h : mH} (r : Rel n ad sa z0 h) (c : Int32) (i : Int32) (k : Int32) (d : Int32) : AP n ad sa z0 h 50 178 [.int c, .int i, .int k, .int d] := by
  obtain ⟨mid, pa, np, fx, ry, rt, ra, rp, rf, rst, ru, rs⟩ := id r
  have fx0 := fx
  unfold AP
  refine in_50 (Nat.le_of_ble_eq_true rfl) ?_
  show WR _ cd_50 0 [some (.ref (ad 0)), some (.int c), some (.int i), some (.int k), some (.int d), none, none, none] [] h _
  refine r_aload rfl rfl ?_
  refine r_ic (x := 0) rfl rfl ?_
  refine r_putI rfl ⟨rfl, rfl, rfl⟩ (fx_t0 fx) ?_
  have fx : FX n ad sa z0 (sI h (ad 0) 6 0) := (FX.sI fx)
  refine r_iload rfl rfl ?_
  refine r_cs (y := 12) (ra := [.int c]) (rest := []) rfl ⟨⟨rfl, rfl⟩, by decide⟩ rfl rfl (Nat.le_of_ble_eq_true rfl) ?_
  refine in_12 (Nat.le_of_ble_eq_true rfl) ?_
  show WR _ cd_12 0 [some (.int c)] [] (sI h (ad 0) 6 0) _
  refine r_iload rfl rfl ?_
  refine r_if_lt (tg := 14) rfl rfl (fun c1 => ?_) (fun c1 => ?_)
  · refine r_ic (x := 0) rfl rfl ?_
    refine r_zret rfl (.inl rfl) ?_
    show WR _ cd_50 9 [some (.ref (ad 0)), some (.int c), some (.int i), some (.int k), some (.int d), none, none, none] [.int 0] (sI h (ad 0) 6 0) _
    refine r_if_eq (tg := 20) rfl rfl (fun _ => ?_) (fun q => absurd q (by decide))
    refine r_aload rfl rfl ?_
    refine r_ic (x := (-2)) rfl rfl ?_
    refine r_cv (y := 13) (ra := [.int (-2)]) (rest := []) rfl ⟨⟨rfl, rfl⟩, rfl, by decide⟩ (fx_t0 fx) rfl rfl (Nat.le_of_ble_eq_true rfl) ?_
    refine in_13 (Nat.le_of_ble_eq_true rfl) ?_
    show WR _ cd_13 0 [some (.ref (ad 0)), some (.int (-2))] [] (sI h (ad 0) 6 0) _
    refine r_aload rfl rfl ?_
    refine r_iload rfl rfl ?_
    refine r_putI rfl ⟨rfl, rfl, rfl⟩ (fx_t0 fx) ?_
    have fx : FX n ad sa z0 (sI (sI h (ad 0) 6 0) (ad 0) 6 (-2)) := (FX.sI fx)
    refine r_iload rfl rfl ?_
    refine r_iret rfl ?_
    show WR _ cd_50 26 [some (.ref (ad 0)), some (.int c), some (.int i), some (.int k), some (.int d), none, none, none] [.int (-2)] (sI (sI h (ad 0) 6 0) (ad 0) 6 (-2)) _
    refine r_iret rfl ?_
    show EV _ 178 [.ref (ad 30), .int c, .int i, .int k, .int d] (sI (sI h (ad 0) 6 0) (ad 0) 6 (-2)) _
    refine in_178 (Nat.le_of_ble_eq_true rfl) ?_
    show WR _ cd_178 0 [some (.ref (ad 30)), some (.int c), some (.int i), some (.int k), some (.int d), none, none] [] (sI (sI h (ad 0) 6 0) (ad 0) 6 (-2)) _
    refine r_iload rfl rfl ?_
    refine r_cs (y := 153) (ra := [.int c]) (rest := []) rfl ⟨⟨rfl, rfl⟩, by decide⟩ rfl rfl (Nat.le_of_ble_eq_true rfl) ?_
    refine in_153 (Nat.le_of_ble_eq_true rfl) ?_
    show WR _ cd_153 0 [some (.int c)] [] (sI (sI h (ad 0) 6 0) (ad 0) 6 (-2)) _
    refine r_iload rfl rfl ?_
    refine r_if_lt (tg := 14) rfl rfl (fun _ => ?_) (fun q => False.elim (by have := i_lt c1; have := i_rg c; have : (0 : Int32).toInt = 0 := rfl; have := i_nlt q; omega))
    refine r_ic (x := 0) rfl rfl ?_
    refine r_zret rfl (.inl rfl) ?_
    show WR _ cd_178 4 [some (.ref (ad 30)), some (.int c), some (.int i), some (.int k), some (.int d), none, none] [.int 0] (sI (sI h (ad 0) 6 0) (ad 0) 6 (-2)) _
    refine r_if_eq (tg := 15) rfl rfl (fun _ => ?_) (fun q => absurd q (by decide))
    refine r_aload rfl rfl ?_
    refine r_ic (x := (-2)) rfl rfl ?_
    refine r_cv (y := 154) (ra := [.int (-2)]) (rest := []) rfl ⟨⟨rfl, rfl⟩, rfl, by decide⟩ (fx_t30 fx) rfl rfl (Nat.le_of_ble_eq_true rfl) ?_
    refine in_154 (Nat.le_of_ble_eq_true rfl) ?_
    show WR _ cd_154 0 [some (.ref (ad 30)), some (.int (-2))] [] (sI (sI h (ad 0) 6 0) (ad 0) 6 (-2)) _
    refine r_aload rfl rfl ?_
    refine r_iload rfl rfl ?_
    refine r_ic (x := (-1)) rfl rfl ?_
    refine r_icmp_ge (tg := 10) rfl rfl (fun q => absurd q (by decide)) (fun _ => ?_)
    refine r_iload rfl rfl ?_
    refine r_goto (tg := 11) rfl rfl ?_
    refine r_putI rfl ⟨rfl, rfl, rfl⟩ (fx_t30 fx) ?_
    have fx : FX n ad sa z0 (sI (sI (sI h (ad 0) 6 0) (ad 0) 6 (-2)) (ad 30) 11 (-2)) := (FX.sI fx)
    refine r_iload rfl rfl ?_
    refine r_iret rfl ?_
    show WR _ cd_178 21 [some (.ref (ad 30)), some (.int c), some (.int i), some (.int k), some (.int d), none, none] [.int (-2)] (sI (sI (sI h (ad 0) 6 0) (ad 0) 6 (-2)) (ad 30) 11 (-2)) _
    refine r_iret rfl ?_
    exact ⟨rfl, Rel.why r (((Chg.rf.sI (fx_j fx) (.inl (by decide))).sI (fx_j fx) (.inl (by decide))).sI (fx_j fx) (.inl (by decide))) ⟨rfl, by decide⟩ (Eq.trans (Eq.trans (I_ne (fx_ne fx (by decide))) I_eq) (Eq.symm I_eq)), (by (try simp only [hZ_sI, hZ_sL, hZ_sD, hZ_sR]); omega), (by (try simp only [hU_sI, hU_sL, hU_sD, hU_sR]); omega)⟩
  · obtain ⟨k2, hk2, ek2⟩ := ix_of (x := c) (n := 2147483648) (by have := i_nlt c1; have := i_rg c; have : (0 : Int32).toInt = 0 := rfl; omega) (by have := i_nlt c1; have := i_rg c; have : (0 : Int32).toInt = 0 := rfl; omega)
    refine r_iload rfl rfl ?_
    refine WR_tI (y := nI k2) ek2 ?_
    refine r_ic (x := 24) rfl rfl ?_
    refine r_icmp_ge (tg := 14) rfl rfl (fun c3 => ?_) (fun c3 => ?_)
    · refine r_ic (x := 0) rfl rfl ?_
      refine r_zret rfl (.inl rfl) ?_
      show WR _ cd_50 9 [some (.ref (ad 0)), some (.int c), some (.int i), some (.int k), some (.int d), none, none, none] [.int 0] (sI h (ad 0) 6 0) _
      refine r_if_eq (tg := 20) rfl rfl (fun _ => ?_) (fun q => absurd q (by decide))
      refine r_aload rfl rfl ?_
      refine r_ic (x := (-2)) rfl rfl ?_
      refine r_cv (y := 13) (ra := [.int (-2)]) (rest := []) rfl ⟨⟨rfl, rfl⟩, rfl, by decide⟩ (fx_t0 fx) rfl rfl (Nat.le_of_ble_eq_true rfl) ?_
      refine in_13 (Nat.le_of_ble_eq_true rfl) ?_
      show WR _ cd_13 0 [some (.ref (ad 0)), some (.int (-2))] [] (sI h (ad 0) 6 0) _
      refine r_aload rfl rfl ?_
      refine r_iload rfl rfl ?_
      refine r_putI rfl ⟨rfl, rfl, rfl⟩ (fx_t0 fx) ?_
      have fx : FX n ad sa z0 (sI (sI h (ad 0) 6 0) (ad 0) 6 (-2)) := (FX.sI fx)
      refine r_iload rfl rfl ?_
      refine r_iret rfl ?_
      show WR _ cd_50 26 [some (.ref (ad 0)), some (.int c), some (.int i), some (.int k), some (.int d), none, none, none] [.int (-2)] (sI (sI h (ad 0) 6 0) (ad 0) 6 (-2)) _
      refine r_iret rfl ?_
      show EV _ 178 [.ref (ad 30), .int c, .int i, .int k, .int d] (sI (sI h (ad 0) 6 0) (ad 0) 6 (-2)) _
      refine in_178 (Nat.le_of_ble_eq_true rfl) ?_
      show WR _ cd_178 0 [some (.ref (ad 30)), some (.int c), some (.int i), some (.int k), some (.int d), none, none] [] (sI (sI h (ad 0) 6 0) (ad 0) 6 (-2)) _
      refine r_iload rfl rfl ?_
      refine WR_tI (y := nI k2) ek2 ?_
      refine r_cs (y := 153) (ra := [.int (nI k2)]) (rest := []) rfl ⟨⟨rfl, rfl⟩, by decide⟩ rfl rfl (Nat.le_of_ble_eq_true rfl) ?_
      refine in_153 (Nat.le_of_ble_eq_true rfl) ?_
      show WR _ cd_153 0 [some (.int (nI k2))] [] (sI (sI h (ad 0) 6 0) (ad 0) 6 (-2)) _
      refine r_iload rfl rfl ?_
      refine r_if_lt (tg := 14) rfl rfl (fun q => False.elim (by have := i_nlt c1; have := i_rg c; have : (0 : Int32).toInt = 0 := rfl; have := i_eq ek2; have : (nI k2).toInt = ((k2 : Nat) : Int) := nI_toInt (by omega); have := i_le c3; have : (24 : Int32).toInt = 24 := rfl; have := i_lt q; omega)) (fun _ => ?_)
      refine r_iload rfl rfl ?_
      refine r_ic (x := 24) rfl rfl ?_
      refine r_icmp_ge (tg := 14) rfl rfl (fun _ => ?_) (fun q => False.elim (by have := i_nlt c1; have := i_rg c; have : (0 : Int32).toInt = 0 := rfl; have := i_eq ek2; have : (nI k2).toInt = ((k2 : Nat) : Int) := nI_toInt (by omega); have := i_le c3; have : (24 : Int32).toInt = 24 := rfl; have := i_nle q; omega))
      refine r_ic (x := 0) rfl rfl ?_
      refine r_zret rfl (.inl rfl) ?_
      show WR _ cd_178 4 [some (.ref (ad 30)), some (.int c), some (.int i), some (.int k), some (.int d), none, none] [.int 0] (sI (sI h (ad 0) 6 0) (ad 0) 6 (-2)) _
      refine r_if_eq (tg := 15) rfl rfl (fun _ => ?_) (fun q => absurd q (by decide))
      refine r_aload rfl rfl ?_
      refine r_ic (x := (-2)) rfl rfl ?_
      refine r_cv (y := 154) (ra := [.int (-2)]) (rest := []) rfl ⟨⟨rfl, rfl⟩, rfl, by decide⟩ (fx_t30 fx) rfl rfl (Nat.le_of_ble_eq_true rfl) ?_
      refine in_154 (Nat.le_of_ble_eq_true rfl) ?_
      show WR _ cd_154 0 [some (.ref (ad 30)), some (.int (-2))] [] (sI (sI h (ad 0) 6 0) (ad 0) 6 (-2)) _
      refine r_aload rfl rfl ?_
      refine r_iload rfl rfl ?_
      refine r_ic (x := (-1)) rfl rfl ?_
      refine r_icmp_ge (tg := 10) rfl rfl (fun q => absurd q (by decide)) (fun _ => ?_)
      refine r_iload rfl rfl ?_
      refine r_goto (tg := 11) rfl rfl ?_
      refine r_putI rfl ⟨rfl, rfl, rfl⟩ (fx_t30 fx) ?_
      have fx : FX n ad sa z0 (sI (sI (sI h (ad 0) 6 0) (ad 0) 6 (-2)) (ad 30) 11 (-2)) := (FX.sI fx)
      refine r_iload rfl rfl ?_
      refine r_iret rfl ?_
      show WR _ cd_178 21 [some (.ref (ad 30)), some (.int c), some (.int i), some (.int k), some (.int d), none, none] [.int (-2)] (sI (sI (sI h (ad 0) 6 0) (ad 0) 6 (-2)) (ad 30) 11 (-2)) _
      refine r_iret rfl ?_
      exact ⟨rfl, Rel.why r (((Chg.rf.sI (fx_j fx) (.inl (by decide))).sI (fx_j fx) (.inl (by decide))).sI (fx_j fx) (.inl (by decide))) ⟨rfl, by decide⟩ (Eq.trans (Eq.trans (I_ne (fx_ne fx (by decide))) I_eq) (Eq.symm I_eq)), (by (try simp only [hZ_sI, hZ_sL, hZ_sD, hZ_sR]); omega), (by (try simp only [hU_sI, hU_sL, hU_sD, hU_sR]); omega)⟩
    · refine r_ic (x := 1) rfl rfl ?_
      refine r_goto (tg := 15) rfl rfl ?_
      refine r_zret rfl (.inr rfl) ?_
      show WR _ cd_50 9 [some (.ref (ad 0)), some (.int c), some (.int i), some (.int k), some (.int d), none, none, none] [.int 1] (sI h (ad 0) 6 0) _
      refine r_if_eq (tg := 20) rfl rfl (fun q => absurd q (by decide)) (fun _ => ?_)
      refine r_iload rfl rfl ?_
      refine r_cs (y := 12) (ra := [.int d]) (rest := []) rfl ⟨⟨rfl, rfl⟩, by decide⟩ rfl rfl (Nat.le_of_ble_eq_true rfl) ?_
      refine in_12 (Nat.le_of_ble_eq_true rfl) ?_
      show WR _ cd_12 0 [some (.int d)] [] (sI h (ad 0) 6 0) _
      refine r_iload rfl rfl ?_
      refine r_if_lt (tg := 14) rfl rfl (fun c4 => ?_) (fun c4 => ?_)
      · refine r_ic (x := 0) rfl rfl ?_
        refine r_zret rfl (.inl rfl) ?_
        show WR _ cd_50 17 [some (.ref (ad 0)), some (.int c), some (.int i), some (.int k), some (.int d), none, none, none] [.int 0] (sI h (ad 0) 6 0) _
        refine r_if_ne (tg := 27) rfl rfl (fun q => absurd q (by decide)) (fun _ => ?_)
        refine r_aload rfl rfl ?_
        refine r_ic (x := (-2)) rfl rfl ?_
        refine r_cv (y := 13) (ra := [.int (-2)]) (rest := []) rfl ⟨⟨rfl, rfl⟩, rfl, by decide⟩ (fx_t0 fx) rfl rfl (Nat.le_of_ble_eq_true rfl) ?_
        refine in_13 (Nat.le_of_ble_eq_true rfl) ?_
        show WR _ cd_13 0 [some (.ref (ad 0)), some (.int (-2))] [] (sI h (ad 0) 6 0) _
        refine r_aload rfl rfl ?_
        refine r_iload rfl rfl ?_
        refine r_putI rfl ⟨rfl, rfl, rfl⟩ (fx_t0 fx) ?_
        have fx : FX n ad sa z0 (sI (sI h (ad 0) 6 0) (ad 0) 6 (-2)) := (FX.sI fx)
        refine r_iload rfl rfl ?_
        refine r_iret rfl ?_
        show WR _ cd_50 26 [some (.ref (ad 0)), some (.int c), some (.int i), some (.int k), some (.int d), none, none, none] [.int (-2)] (sI (sI h (ad 0) 6 0) (ad 0) 6 (-2)) _
        refine r_iret rfl ?_
        show EV _ 178 [.ref (ad 30), .int c, .int i, .int k, .int d] (sI (sI h (ad 0) 6 0) (ad 0) 6 (-2)) _
        refine in_178 (Nat.le_of_ble_eq_true rfl) ?_
        show WR _ cd_178 0 [some (.ref (ad 30)), some (.int c), some (.int i), some (.int k), some (.int d), none, none] [] (sI (sI h (ad 0) 6 0) (ad 0) 6 (-2)) _
        refine r_iload rfl rfl ?_
        refine WR_tI (y := nI k2) ek2 ?_
        refine r_cs (y := 153) (ra := [.int (nI k2)]) (rest := []) rfl ⟨⟨rfl, rfl⟩, by decide⟩ rfl rfl (Nat.le_of_ble_eq_true rfl) ?_
        refine in_153 (Nat.le_of_ble_eq_true rfl) ?_
        show WR _ cd_153 0 [some (.int (nI k2))] [] (sI (sI h (ad 0) 6 0) (ad 0) 6 (-2)) _
        refine r_iload rfl rfl ?_
        refine r_if_lt (tg := 14) rfl rfl (fun q => False.elim (by have := i_nlt c1; have := i_rg c; have : (0 : Int32).toInt = 0 := rfl; have := i_eq ek2; have : (nI k2).toInt = ((k2 : Nat) : Int) := nI_toInt (by omega); have := i_nle c3; have : (24 : Int32).toInt = 24 := rfl; have := i_lt q; omega)) (fun _ => ?_)
        refine r_iload rfl rfl ?_
        refine r_ic (x := 24) rfl rfl ?_
        refine r_icmp_ge (tg := 14) rfl rfl (fun q => False.elim (by have := i_nlt c1; have := i_rg c; have : (0 : Int32).toInt = 0 := rfl; have := i_eq ek2; have : (nI k2).toInt = ((k2 : Nat) : Int) := nI_toInt (by omega); have := i_nle c3; have : (24 : Int32).toInt = 24 := rfl; have := i_le q; omega)) (fun _ => ?_)
        refine r_ic (x := 1) rfl rfl ?_
        refine r_goto (tg := 15) rfl rfl ?_
        refine r_zret rfl (.inr rfl) ?_
        show WR _ cd_178 4 [some (.ref (ad 30)), some (.int c), some (.int i), some (.int k), some (.int d), none, none] [.int 1] (sI (sI h (ad 0) 6 0) (ad 0) 6 (-2)) _
        refine r_if_eq (tg := 15) rfl rfl (fun q => absurd q (by decide)) (fun _ => ?_)
        refine r_iload rfl rfl ?_
        refine r_cs (y := 153) (ra := [.int d]) (rest := []) rfl ⟨⟨rfl, rfl⟩, by decide⟩ rfl rfl (Nat.le_of_ble_eq_true rfl) ?_
        refine in_153 (Nat.le_of_ble_eq_true rfl) ?_
        show WR _ cd_153 0 [some (.int d)] [] (sI (sI h (ad 0) 6 0) (ad 0) 6 (-2)) _
        refine r_iload rfl rfl ?_
        refine r_if_lt (tg := 14) rfl rfl (fun _ => ?_) (fun q => False.elim (by have := i_lt c4; have := i_rg d; have : (0 : Int32).toInt = 0 := rfl; have := i_nlt q; omega))
        refine r_ic (x := 0) rfl rfl ?_
        refine r_zret rfl (.inl rfl) ?_
        show WR _ cd_178 12 [some (.ref (ad 30)), some (.int c), some (.int i), some (.int k), some (.int d), none, none] [.int 0] (sI (sI h (ad 0) 6 0) (ad 0) 6 (-2)) _
        refine r_if_ne (tg := 22) rfl rfl (fun q => absurd q (by decide)) (fun _ => ?_)
        refine r_aload rfl rfl ?_
        refine r_ic (x := (-2)) rfl rfl ?_
        refine r_cv (y := 154) (ra := [.int (-2)]) (rest := []) rfl ⟨⟨rfl, rfl⟩, rfl, by decide⟩ (fx_t30 fx) rfl rfl (Nat.le_of_ble_eq_true rfl) ?_
        refine in_154 (Nat.le_of_ble_eq_true rfl) ?_
        show WR _ cd_154 0 [some (.ref (ad 30)), some (.int (-2))] [] (sI (sI h (ad 0) 6 0) (ad 0) 6 (-2)) _
        refine r_aload rfl rfl ?_
        refine r_iload rfl rfl ?_
        refine r_ic (x := (-1)) rfl rfl ?_
        refine r_icmp_ge (tg := 10) rfl rfl (fun q => absurd q (by decide)) (fun _ => ?_)
        refine r_iload rfl rfl ?_
        refine r_goto (tg := 11) rfl rfl ?_
        refine r_putI rfl ⟨rfl, rfl, rfl⟩ (fx_t30 fx) ?_
        have fx : FX n ad sa z0 (sI (sI (sI h (ad 0) 6 0) (ad 0) 6 (-2)) (ad 30) 11 (-2)) := (FX.sI fx)
        refine r_iload rfl rfl ?_
        refine r_iret rfl ?_
        show WR _ cd_178 21 [some (.ref (ad 30)), some (.int c), some (.int i), some (.int k), some (.int d), none, none] [.int (-2)] (sI (sI (sI h (ad 0) 6 0) (ad 0) 6 (-2)) (ad 30) 11 (-2)) _
        refine r_iret rfl ?_
        exact ⟨rfl, Rel.why r (((Chg.rf.sI (fx_j fx) (.inl (by decide))).sI (fx_j fx) (.inl (by decide))).sI (fx_j fx) (.inl (by decide))) ⟨rfl, by decide⟩ (Eq.trans (Eq.trans (I_ne (fx_ne fx (by decide))) I_eq) (Eq.symm I_eq)), (by (try simp only [hZ_sI, hZ_sL, hZ_sD, hZ_sR]); omega), (by (try simp only [hU_sI, hU_sL, hU_sD, hU_sR]); omega)⟩
      · obtain ⟨k5, hk5, ek5⟩ := ix_of (x := d) (n := 2147483648) (by have := i_nlt c4; have := i_rg d; have : (0 : Int32).toInt = 0 := rfl; omega) (by have := i_nlt c4; have := i_rg d; have : (0 : Int32).toInt = 0 := rfl; omega)
        refine r_iload rfl rfl ?_
        refine WR_tI (y := nI k5) ek5 ?_
        refine r_ic (x := 24) rfl rfl ?_
        refine r_icmp_ge (tg := 14) rfl rfl (fun c6 => ?_) (fun c6 => ?_)
        · refine r_ic (x := 0) rfl rfl ?_
          refine r_zret rfl (.inl rfl) ?_
          show WR _ cd_50 17 [some (.ref (ad 0)), some (.int c), some (.int i), some (.int k), some (.int d), none, none, none] [.int 0] (sI h (ad 0) 6 0) _
          refine r_if_ne (tg := 27) rfl rfl (fun q => absurd q (by decide)) (fun _ => ?_)
          refine r_aload rfl rfl ?_
          refine r_ic (x := (-2)) rfl rfl ?_
          refine r_cv (y := 13) (ra := [.int (-2)]) (rest := []) rfl ⟨⟨rfl, rfl⟩, rfl, by decide⟩ (fx_t0 fx) rfl rfl (Nat.le_of_ble_eq_true rfl) ?_
          refine in_13 (Nat.le_of_ble_eq_true rfl) ?_
          show WR _ cd_13 0 [some (.ref (ad 0)), some (.int (-2))] [] (sI h (ad 0) 6 0) _
          refine r_aload rfl rfl ?_
          refine r_iload rfl rfl ?_
          refine r_putI rfl ⟨rfl, rfl, rfl⟩ (fx_t0 fx) ?_
          have fx : FX n ad sa z0 (sI (sI h (ad 0) 6 0) (ad 0) 6 (-2)) := (FX.sI fx)
          refine r_iload rfl rfl ?_
          refine r_iret rfl ?_
          show WR _ cd_50 26 [some (.ref (ad 0)), some (.int c), some (.int i), some (.int k), some (.int d), none, none, none] [.int (-2)] (sI (sI h (ad 0) 6 0) (ad 0) 6 (-2)) _
          refine r_iret rfl ?_
          show EV _ 178 [.ref (ad 30), .int c, .int i, .int k, .int d] (sI (sI h (ad 0) 6 0) (ad 0) 6 (-2)) _
          refine in_178 (Nat.le_of_ble_eq_true rfl) ?_
          show WR _ cd_178 0 [some (.ref (ad 30)), some (.int c), some (.int i), some (.int k), some (.int d), none, none] [] (sI (sI h (ad 0) 6 0) (ad 0) 6 (-2)) _
          refine r_iload rfl rfl ?_
          refine WR_tI (y := nI k2) ek2 ?_
          refine r_cs (y := 153) (ra := [.int (nI k2)]) (rest := []) rfl ⟨⟨rfl, rfl⟩, by decide⟩ rfl rfl (Nat.le_of_ble_eq_true rfl) ?_
          refine in_153 (Nat.le_of_ble_eq_true rfl) ?_
          show WR _ cd_153 0 [some (.int (nI k2))] [] (sI (sI h (ad 0) 6 0) (ad 0) 6 (-2)) _
          refine r_iload rfl rfl ?_
          refine r_if_lt (tg := 14) rfl rfl (fun q => False.elim (by have := i_nlt c1; have := i_rg c; have : (0 : Int32).toInt = 0 := rfl; have := i_eq ek2; have : (nI k2).toInt = ((k2 : Nat) : Int) := nI_toInt (by omega); have := i_nle c3; have : (24 : Int32).toInt = 24 := rfl; have := i_lt q; omega)) (fun _ => ?_)
          refine r_iload rfl rfl ?_
          refine r_ic (x := 24) rfl rfl ?_
          refine r_icmp_ge (tg := 14) rfl rfl (fun q => False.elim (by have := i_nlt c1; have := i_rg c; have : (0 : Int32).toInt = 0 := rfl; have := i_eq ek2; have : (nI k2).toInt = ((k2 : Nat) : Int) := nI_toInt (by omega); have := i_nle c3; have : (24 : Int32).toInt = 24 := rfl; have := i_le q; omega)) (fun _ => ?_)
          refine r_ic (x := 1) rfl rfl ?_
          refine r_goto (tg := 15) rfl rfl ?_
          refine r_zret rfl (.inr rfl) ?_
          show WR _ cd_178 4 [some (.ref (ad 30)), some (.int c), some (.int i), some (.int k), some (.int d), none, none] [.int 1] (sI (sI h (ad 0) 6 0) (ad 0) 6 (-2)) _
          refine r_if_eq (tg := 15) rfl rfl (fun q => absurd q (by decide)) (fun _ => ?_)
          refine r_iload rfl rfl ?_
          refine WR_tI (y := nI k5) ek5 ?_
          refine r_cs (y := 153) (ra := [.int (nI k5)]) (rest := []) rfl ⟨⟨rfl, rfl⟩, by decide⟩ rfl rfl (Nat.le_of_ble_eq_true rfl) ?_
          refine in_153 (Nat.le_of_ble_eq_true rfl) ?_
          show WR _ cd_153 0 [some (.int (nI k5))] [] (sI (sI h (ad 0) 6 0) (ad 0) 6 (-2)) _
          refine r_iload rfl rfl ?_
          refine r_if_lt (tg := 14) rfl rfl (fun q => False.elim (by have := i_nlt c4; have := i_rg d; have : (0 : Int32).toInt = 0 := rfl; have := i_eq ek5; have : (nI k5).toInt = ((k5 : Nat) : Int) := nI_toInt (by omega); have := i_le c6; have : (24 : Int32).toInt = 24 := rfl; have := i_lt q; omega)) (fun _ => ?_)
          refine r_iload rfl rfl ?_
          refine r_ic (x := 24) rfl rfl ?_
          refine r_icmp_ge (tg := 14) rfl rfl (fun _ => ?_) (fun q => False.elim (by have := i_nlt c4; have := i_rg d; have : (0 : Int32).toInt = 0 := rfl; have := i_eq ek5; have : (nI k5).toInt = ((k5 : Nat) : Int) := nI_toInt (by omega); have := i_le c6; have : (24 : Int32).toInt = 24 := rfl; have := i_nle q; omega))
          refine r_ic (x := 0) rfl rfl ?_
          refine r_zret rfl (.inl rfl) ?_
          show WR _ cd_178 12 [some (.ref (ad 30)), some (.int c), some (.int i), some (.int k), some (.int d), none, none] [.int 0] (sI (sI h (ad 0) 6 0) (ad 0) 6 (-2)) _
          refine r_if_ne (tg := 22) rfl rfl (fun q => absurd q (by decide)) (fun _ => ?_)
          refine r_aload rfl rfl ?_
          refine r_ic (x := (-2)) rfl rfl ?_
          refine r_cv (y := 154) (ra := [.int (-2)]) (rest := []) rfl ⟨⟨rfl, rfl⟩, rfl, by decide⟩ (fx_t30 fx) rfl rfl (Nat.le_of_ble_eq_true rfl) ?_
          refine in_154 (Nat.le_of_ble_eq_true rfl) ?_
          show WR _ cd_154 0 [some (.ref (ad 30)), some (.int (-2))] [] (sI (sI h (ad 0) 6 0) (ad 0) 6 (-2)) _
          refine r_aload rfl rfl ?_
          refine r_iload rfl rfl ?_
          refine r_ic (x := (-1)) rfl rfl ?_
          refine r_icmp_ge (tg := 10) rfl rfl (fun q => absurd q (by decide)) (fun _ => ?_)
          refine r_iload rfl rfl ?_
          refine r_goto (tg := 11) rfl rfl ?_
          refine r_putI rfl ⟨rfl, rfl, rfl⟩ (fx_t30 fx) ?_
          have fx : FX n ad sa z0 (sI (sI (sI h (ad 0) 6 0) (ad 0) 6 (-2)) (ad 30) 11 (-2)) := (FX.sI fx)
          refine r_iload rfl rfl ?_
          refine r_iret rfl ?_
          show WR _ cd_178 21 [some (.ref (ad 30)), some (.int c), some (.int i), some (.int k), some (.int d), none, none] [.int (-2)] (sI (sI (sI h (ad 0) 6 0) (ad 0) 6 (-2)) (ad 30) 11 (-2)) _
          refine r_iret rfl ?_
          exact ⟨rfl, Rel.why r (((Chg.rf.sI (fx_j fx) (.inl (by decide))).sI (fx_j fx) (.inl (by decide))).sI (fx_j fx) (.inl (by decide))) ⟨rfl, by decide⟩ (Eq.trans (Eq.trans (I_ne (fx_ne fx (by decide))) I_eq) (Eq.symm I_eq)), (by (try simp only [hZ_sI, hZ_sL, hZ_sD, hZ_sR]); omega), (by (try simp only [hU_sI, hU_sL, hU_sD, hU_sR]); omega)⟩
        · refine r_ic (x := 1) rfl rfl ?_
          refine r_goto (tg := 15) rfl rfl ?_
          refine r_zret rfl (.inr rfl) ?_
          show WR _ cd_50 17 [some (.ref (ad 0)), some (.int c), some (.int i), some (.int k), some (.int d), none, none, none] [.int 1] (sI h (ad 0) 6 0) _
          refine r_if_ne (tg := 27) rfl rfl (fun _ => ?_) (fun q => absurd q (by decide))
          refine r_iload rfl rfl ?_
          refine r_cs (y := 20) (ra := [.int k]) (rest := []) rfl ⟨⟨rfl, rfl⟩, by decide⟩ rfl rfl (Nat.le_of_ble_eq_true rfl) ?_
          refine in_20 (Nat.le_of_ble_eq_true rfl) ?_
          show WR _ cd_20 0 [some (.int k)] [] (sI h (ad 0) 6 0) _
          refine r_iload rfl rfl ?_
          refine r_if_lt (tg := 14) rfl rfl (fun c7 => ?_) (fun c7 => ?_)
          · refine r_ic (x := 0) rfl rfl ?_
            refine r_zret rfl (.inl rfl) ?_
            show WR _ cd_50 31 [some (.ref (ad 0)), some (.int c), some (.int i), some (.int k), some (.int d), none, none, none] [.int 0] (sI h (ad 0) 6 0) _
            refine r_if_ne (tg := 41) rfl rfl (fun q => absurd q (by decide)) (fun _ => ?_)
            refine r_aload rfl rfl ?_
            refine r_ic (x := (-3)) rfl rfl ?_
            refine r_cv (y := 13) (ra := [.int (-3)]) (rest := []) rfl ⟨⟨rfl, rfl⟩, rfl, by decide⟩ (fx_t0 fx) rfl rfl (Nat.le_of_ble_eq_true rfl) ?_
            refine in_13 (Nat.le_of_ble_eq_true rfl) ?_
            show WR _ cd_13 0 [some (.ref (ad 0)), some (.int (-3))] [] (sI h (ad 0) 6 0) _
            refine r_aload rfl rfl ?_
            refine r_iload rfl rfl ?_
            refine r_putI rfl ⟨rfl, rfl, rfl⟩ (fx_t0 fx) ?_
            have fx : FX n ad sa z0 (sI (sI h (ad 0) 6 0) (ad 0) 6 (-3)) := (FX.sI fx)
            refine r_iload rfl rfl ?_
            refine r_iret rfl ?_
            show WR _ cd_50 40 [some (.ref (ad 0)), some (.int c), some (.int i), some (.int k), some (.int d), none, none, none] [.int (-3)] (sI (sI h (ad 0) 6 0) (ad 0) 6 (-3)) _
            refine r_iret rfl ?_
            show EV _ 178 [.ref (ad 30), .int c, .int i, .int k, .int d] (sI (sI h (ad 0) 6 0) (ad 0) 6 (-3)) _
            refine in_178 (Nat.le_of_ble_eq_true rfl) ?_
            show WR _ cd_178 0 [some (.ref (ad 30)), some (.int c), some (.int i), some (.int k), some (.int d), none, none] [] (sI (sI h (ad 0) 6 0) (ad 0) 6 (-3)) _
            refine r_iload rfl rfl ?_
            refine WR_tI (y := nI k2) ek2 ?_
            refine r_cs (y := 153) (ra := [.int (nI k2)]) (rest := []) rfl ⟨⟨rfl, rfl⟩, by decide⟩ rfl rfl (Nat.le_of_ble_eq_true rfl) ?_
            refine in_153 (Nat.le_of_ble_eq_true rfl) ?_
            show WR _ cd_153 0 [some (.int (nI k2))] [] (sI (sI h (ad 0) 6 0) (ad 0) 6 (-3)) _
            refine r_iload rfl rfl ?_
            refine r_if_lt (tg := 14) rfl rfl (fun q => False.elim (by have := i_nlt c1; have := i_rg c; have : (0 : Int32).toInt = 0 := rfl; have := i_eq ek2; have : (nI k2).toInt = ((k2 : Nat) : Int) := nI_toInt (by omega); have := i_nle c3; have : (24 : Int32).toInt = 24 := rfl; have := i_lt q; omega)) (fun _ => ?_)
            refine r_iload rfl rfl ?_
            refine r_ic (x := 24) rfl rfl ?_
            refine r_icmp_ge (tg := 14) rfl rfl (fun q => False.elim (by have := i_nlt c1; have := i_rg c; have : (0 : Int32).toInt = 0 := rfl; have := i_eq ek2; have : (nI k2).toInt = ((k2 : Nat) : Int) := nI_toInt (by omega); have := i_nle c3; have : (24 : Int32).toInt = 24 := rfl; have := i_le q; omega)) (fun _ => ?_)
            refine r_ic (x := 1) rfl rfl ?_
            refine r_goto (tg := 15) rfl rfl ?_
            refine r_zret rfl (.inr rfl) ?_
            show WR _ cd_178 4 [some (.ref (ad 30)), some (.int c), some (.int i), some (.int k), some (.int d), none, none] [.int 1] (sI (sI h (ad 0) 6 0) (ad 0) 6 (-3)) _
            refine r_if_eq (tg := 15) rfl rfl (fun q => absurd q (by decide)) (fun _ => ?_)
            refine r_iload rfl rfl ?_
            refine WR_tI (y := nI k5) ek5 ?_
            refine r_cs (y := 153) (ra := [.int (nI k5)]) (rest := []) rfl ⟨⟨rfl, rfl⟩, by decide⟩ rfl rfl (Nat.le_of_ble_eq_true rfl) ?_
            refine in_153 (Nat.le_of_ble_eq_true rfl) ?_
            show WR _ cd_153 0 [some (.int (nI k5))] [] (sI (sI h (ad 0) 6 0) (ad 0) 6 (-3)) _
            refine r_iload rfl rfl ?_
            refine r_if_lt (tg := 14) rfl rfl (fun q => False.elim (by have := i_nlt c4; have := i_rg d; have : (0 : Int32).toInt = 0 := rfl; have := i_eq ek5; have : (nI k5).toInt = ((k5 : Nat) : Int) := nI_toInt (by omega); have := i_nle c6; have : (24 : Int32).toInt = 24 := rfl; have := i_lt q; omega)) (fun _ => ?_)
            refine r_iload rfl rfl ?_
            refine r_ic (x := 24) rfl rfl ?_
            refine r_icmp_ge (tg := 14) rfl rfl (fun q => False.elim (by have := i_nlt c4; have := i_rg d; have : (0 : Int32).toInt = 0 := rfl; have := i_eq ek5; have : (nI k5).toInt = ((k5 : Nat) : Int) := nI_toInt (by omega); have := i_nle c6; have : (24 : Int32).toInt = 24 := rfl; have := i_le q; omega)) (fun _ => ?_)
            refine r_ic (x := 1) rfl rfl ?_
            refine r_goto (tg := 15) rfl rfl ?_
            refine r_zret rfl (.inr rfl) ?_
            show WR _ cd_178 12 [some (.ref (ad 30)), some (.int c), some (.int i), some (.int k), some (.int d), none, none] [.int 1] (sI (sI h (ad 0) 6 0) (ad 0) 6 (-3)) _
            refine r_if_ne (tg := 22) rfl rfl (fun _ => ?_) (fun q => absurd q (by decide))
            refine r_iload rfl rfl ?_
            refine r_i2l rfl ?_
            refine r_lc (x := 0) rfl rfl ?_
            refine r_ldc (x := .long 7) rfl rfl ?_
            refine r_cs (y := 155) (ra := [.long 7, .long 0, .long k.toInt64]) (rest := []) rfl ⟨⟨rfl, rfl⟩, by decide⟩ rfl rfl (Nat.le_of_ble_eq_true rfl) ?_
            refine in_155 (Nat.le_of_ble_eq_true rfl) ?_
            show WR _ cd_155 0 [some (.long k.toInt64), none, some (.long 0), none, some (.long 7), none] [] (sI (sI h (ad 0) 6 0) (ad 0) 6 (-3)) _
            refine r_lload rfl rfl ?_
            refine r_lload rfl rfl ?_
            refine r_lif_lt (tg := 17) rfl rfl rfl (fun _ => ?_) (fun q => False.elim (by have := i_lt c7; have := i_rg k; have : (0 : Int32).toInt = 0 := rfl; have := w_t k; have : (0 : Int64).toInt = 0 := rfl; have := l_nlt q; omega))
            refine r_ic (x := 0) rfl rfl ?_
            refine r_zret rfl (.inl rfl) ?_
            show WR _ cd_178 31 [some (.ref (ad 30)), some (.int c), some (.int i), some (.int k), some (.int d), none, none] [.int 0] (sI (sI h (ad 0) 6 0) (ad 0) 6 (-3)) _
            refine r_if_ne (tg := 41) rfl rfl (fun q => absurd q (by decide)) (fun _ => ?_)
            refine r_aload rfl rfl ?_
            refine r_ic (x := (-3)) rfl rfl ?_
            refine r_cv (y := 154) (ra := [.int (-3)]) (rest := []) rfl ⟨⟨rfl, rfl⟩, rfl, by decide⟩ (fx_t30 fx) rfl rfl (Nat.le_of_ble_eq_true rfl) ?_
            refine in_154 (Nat.le_of_ble_eq_true rfl) ?_
            show WR _ cd_154 0 [some (.ref (ad 30)), some (.int (-3))] [] (sI (sI h (ad 0) 6 0) (ad 0) 6 (-3)) _
            refine r_aload rfl rfl ?_
            refine r_iload rfl rfl ?_
            refine r_ic (x := (-1)) rfl rfl ?_
            refine r_icmp_ge (tg := 10) rfl rfl (fun q => absurd q (by decide)) (fun _ => ?_)
            refine r_iload rfl rfl ?_
            refine r_goto (tg := 11) rfl rfl ?_
            refine r_putI rfl ⟨rfl, rfl, rfl⟩ (fx_t30 fx) ?_
            have fx : FX n ad sa z0 (sI (sI (sI h (ad 0) 6 0) (ad 0) 6 (-3)) (ad 30) 11 (-3)) := (FX.sI fx)
            refine r_iload rfl rfl ?_
            refine r_iret rfl ?_
            show WR _ cd_178 40 [some (.ref (ad 30)), some (.int c), some (.int i), some (.int k), some (.int d), none, none] [.int (-3)] (sI (sI (sI h (ad 0) 6 0) (ad 0) 6 (-3)) (ad 30) 11 (-3)) _
            refine r_iret rfl ?_
            exact ⟨rfl, Rel.why r (((Chg.rf.sI (fx_j fx) (.inl (by decide))).sI (fx_j fx) (.inl (by decide))).sI (fx_j fx) (.inl (by decide))) ⟨rfl, by decide⟩ (Eq.trans (Eq.trans (I_ne (fx_ne fx (by decide))) I_eq) (Eq.symm I_eq)), (by (try simp only [hZ_sI, hZ_sL, hZ_sD, hZ_sR]); omega), (by (try simp only [hU_sI, hU_sL, hU_sD, hU_sR]); omega)⟩
          · obtain ⟨k8, hk8, ek8⟩ := ix_of (x := k) (n := 2147483648) (by have := i_nlt c7; have := i_rg k; have : (0 : Int32).toInt = 0 := rfl; omega) (by have := i_nlt c7; have := i_rg k; have : (0 : Int32).toInt = 0 := rfl; omega)
            refine r_iload rfl rfl ?_
            refine WR_tI (y := nI k8) ek8 ?_
            refine r_ic (x := 7) rfl rfl ?_
            refine r_icmp_gt (tg := 14) rfl rfl (fun c9 => ?_) (fun c9 => ?_)
            · refine r_ic (x := 0) rfl rfl ?_
              refine r_zret rfl (.inl rfl) ?_
              show WR _ cd_50 31 [some (.ref (ad 0)), some (.int c), some (.int i), some (.int k), some (.int d), none, none, none] [.int 0] (sI h (ad 0) 6 0) _
              refine r_if_ne (tg := 41) rfl rfl (fun q => absurd q (by decide)) (fun _ => ?_)
              refine r_aload rfl rfl ?_
              refine r_ic (x := (-3)) rfl rfl ?_
              refine r_cv (y := 13) (ra := [.int (-3)]) (rest := []) rfl ⟨⟨rfl, rfl⟩, rfl, by decide⟩ (fx_t0 fx) rfl rfl (Nat.le_of_ble_eq_true rfl) ?_
              refine in_13 (Nat.le_of_ble_eq_true rfl) ?_
              show WR _ cd_13 0 [some (.ref (ad 0)), some (.int (-3))] [] (sI h (ad 0) 6 0) _
              refine r_aload rfl rfl ?_
              refine r_iload rfl rfl ?_
              refine r_putI rfl ⟨rfl, rfl, rfl⟩ (fx_t0 fx) ?_
              have fx : FX n ad sa z0 (sI (sI h (ad 0) 6 0) (ad 0) 6 (-3)) := (FX.sI fx)
              refine r_iload rfl rfl ?_
              refine r_iret rfl ?_
              show WR _ cd_50 40 [some (.ref (ad 0)), some (.int c), some (.int i), some (.int k), some (.int d), none, none, none] [.int (-3)] (sI (sI h (ad 0) 6 0) (ad 0) 6 (-3)) _
              refine r_iret rfl ?_
              show EV _ 178 [.ref (ad 30), .int c, .int i, .int k, .int d] (sI (sI h (ad 0) 6 0) (ad 0) 6 (-3)) _
              refine in_178 (Nat.le_of_ble_eq_true rfl) ?_
              show WR _ cd_178 0 [some (.ref (ad 30)), some (.int c), some (.int i), some (.int k), some (.int d), none, none] [] (sI (sI h (ad 0) 6 0) (ad 0) 6 (-3)) _
              refine r_iload rfl rfl ?_
              refine WR_tI (y := nI k2) ek2 ?_
              refine r_cs (y := 153) (ra := [.int (nI k2)]) (rest := []) rfl ⟨⟨rfl, rfl⟩, by decide⟩ rfl rfl (Nat.le_of_ble_eq_true rfl) ?_
              refine in_153 (Nat.le_of_ble_eq_true rfl) ?_
              show WR _ cd_153 0 [some (.int (nI k2))] [] (sI (sI h (ad 0) 6 0) (ad 0) 6 (-3)) _
              refine r_iload rfl rfl ?_
              refine r_if_lt (tg := 14) rfl rfl (fun q => False.elim (by have := i_nlt c1; have := i_rg c; have : (0 : Int32).toInt = 0 := rfl; have := i_eq ek2; have : (nI k2).toInt = ((k2 : Nat) : Int) := nI_toInt (by omega); have := i_nle c3; have : (24 : Int32).toInt = 24 := rfl; have := i_lt q; omega)) (fun _ => ?_)
              refine r_iload rfl rfl ?_
              refine r_ic (x := 24) rfl rfl ?_
              refine r_icmp_ge (tg := 14) rfl rfl (fun q => False.elim (by have := i_nlt c1; have := i_rg c; have : (0 : Int32).toInt = 0 := rfl; have := i_eq ek2; have : (nI k2).toInt = ((k2 : Nat) : Int) := nI_toInt (by omega); have := i_nle c3; have : (24 : Int32).toInt = 24 := rfl; have := i_le q; omega)) (fun _ => ?_)
              refine r_ic (x := 1) rfl rfl ?_
              refine r_goto (tg := 15) rfl rfl ?_
              refine r_zret rfl (.inr rfl) ?_
              show WR _ cd_178 4 [some (.ref (ad 30)), some (.int c), some (.int i), some (.int k), some (.int d), none, none] [.int 1] (sI (sI h (ad 0) 6 0) (ad 0) 6 (-3)) _
              refine r_if_eq (tg := 15) rfl rfl (fun q => absurd q (by decide)) (fun _ => ?_)
              refine r_iload rfl rfl ?_
              refine WR_tI (y := nI k5) ek5 ?_
              refine r_cs (y := 153) (ra := [.int (nI k5)]) (rest := []) rfl ⟨⟨rfl, rfl⟩, by decide⟩ rfl rfl (Nat.le_of_ble_eq_true rfl) ?_
              refine in_153 (Nat.le_of_ble_eq_true rfl) ?_
              show WR _ cd_153 0 [some (.int (nI k5))] [] (sI (sI h (ad 0) 6 0) (ad 0) 6 (-3)) _
              refine r_iload rfl rfl ?_
              refine r_if_lt (tg := 14) rfl rfl (fun q => False.elim (by have := i_nlt c4; have := i_rg d; have : (0 : Int32).toInt = 0 := rfl; have := i_eq ek5; have : (nI k5).toInt = ((k5 : Nat) : Int) := nI_toInt (by omega); have := i_nle c6; have : (24 : Int32).toInt = 24 := rfl; have := i_lt q; omega)) (fun _ => ?_)
              refine r_iload rfl rfl ?_
              refine r_ic (x := 24) rfl rfl ?_
              refine r_icmp_ge (tg := 14) rfl rfl (fun q => False.elim (by have := i_nlt c4; have := i_rg d; have : (0 : Int32).toInt = 0 := rfl; have := i_eq ek5; have : (nI k5).toInt = ((k5 : Nat) : Int) := nI_toInt (by omega); have := i_nle c6; have : (24 : Int32).toInt = 24 := rfl; have := i_le q; omega)) (fun _ => ?_)
              refine r_ic (x := 1) rfl rfl ?_
              refine r_goto (tg := 15) rfl rfl ?_
              refine r_zret rfl (.inr rfl) ?_
              show WR _ cd_178 12 [some (.ref (ad 30)), some (.int c), some (.int i), some (.int k), some (.int d), none, none] [.int 1] (sI (sI h (ad 0) 6 0) (ad 0) 6 (-3)) _
              refine r_if_ne (tg := 22) rfl rfl (fun _ => ?_) (fun q => absurd q (by decide))
              refine r_iload rfl rfl ?_
              refine WR_tI (y := nI k8) ek8 ?_
              refine r_i2l rfl ?_
              refine WR_tL (y := lN k8) (nI_l (by have := i_nlt c7; have := i_rg k; have : (0 : Int32).toInt = 0 := rfl; have := i_eq ek8; have : (nI k8).toInt = ((k8 : Nat) : Int) := nI_toInt (by omega); have := i_lt c9; have : (7 : Int32).toInt = 7 := rfl; omega)) ?_
              refine r_lc (x := 0) rfl rfl ?_
              refine r_ldc (x := .long 7) rfl rfl ?_
              refine r_cs (y := 155) (ra := [.long 7, .long 0, .long (lN k8)]) (rest := []) rfl ⟨⟨rfl, rfl⟩, by decide⟩ rfl rfl (Nat.le_of_ble_eq_true rfl) ?_
              refine in_155 (Nat.le_of_ble_eq_true rfl) ?_
              show WR _ cd_155 0 [some (.long (lN k8)), none, some (.long 0), none, some (.long 7), none] [] (sI (sI h (ad 0) 6 0) (ad 0) 6 (-3)) _
              refine r_lload rfl rfl ?_
              refine r_lload rfl rfl ?_
              refine r_lif_lt (tg := 17) rfl rfl rfl (fun q => False.elim (by have := i_nlt c7; have := i_rg k; have : (0 : Int32).toInt = 0 := rfl; have := i_eq ek8; have : (nI k8).toInt = ((k8 : Nat) : Int) := nI_toInt (by omega); have := i_lt c9; have : (7 : Int32).toInt = 7 := rfl; have : (lN k8).toInt = ((k8 : Nat) : Int) := lN_toInt (by omega); have : (0 : Int64).toInt = 0 := rfl; have := l_lt q; omega)) (fun _ => ?_)
              refine r_lload rfl rfl ?_
              refine r_lload rfl rfl ?_
              refine r_lif_gt (tg := 17) rfl rfl rfl (fun _ => ?_) (fun q => False.elim (by have := i_nlt c7; have := i_rg k; have : (0 : Int32).toInt = 0 := rfl; have := i_eq ek8; have : (nI k8).toInt = ((k8 : Nat) : Int) := nI_toInt (by omega); have := i_lt c9; have : (7 : Int32).toInt = 7 := rfl; have : (lN k8).toInt = ((k8 : Nat) : Int) := lN_toInt (by omega); have : (7 : Int64).toInt = 7 := rfl; have := l_nlt q; omega))
              refine r_ic (x := 0) rfl rfl ?_
              refine r_zret rfl (.inl rfl) ?_
              show WR _ cd_178 31 [some (.ref (ad 30)), some (.int c), some (.int i), some (.int k), some (.int d), none, none] [.int 0] (sI (sI h (ad 0) 6 0) (ad 0) 6 (-3)) _
              refine r_if_ne (tg := 41) rfl rfl (fun q => absurd q (by decide)) (fun _ => ?_)
              refine r_aload rfl rfl ?_
              refine r_ic (x := (-3)) rfl rfl ?_
              refine r_cv (y := 154) (ra := [.int (-3)]) (rest := []) rfl ⟨⟨rfl, rfl⟩, rfl, by decide⟩ (fx_t30 fx) rfl rfl (Nat.le_of_ble_eq_true rfl) ?_
              refine in_154 (Nat.le_of_ble_eq_true rfl) ?_
              show WR _ cd_154 0 [some (.ref (ad 30)), some (.int (-3))] [] (sI (sI h (ad 0) 6 0) (ad 0) 6 (-3)) _
              refine r_aload rfl rfl ?_
              refine r_iload rfl rfl ?_
              refine r_ic (x := (-1)) rfl rfl ?_
              refine r_icmp_ge (tg := 10) rfl rfl (fun q => absurd q (by decide)) (fun _ => ?_)
              refine r_iload rfl rfl ?_
              refine r_goto (tg := 11) rfl rfl ?_
              refine r_putI rfl ⟨rfl, rfl, rfl⟩ (fx_t30 fx) ?_
              have fx : FX n ad sa z0 (sI (sI (sI h (ad 0) 6 0) (ad 0) 6 (-3)) (ad 30) 11 (-3)) := (FX.sI fx)
              refine r_iload rfl rfl ?_
              refine r_iret rfl ?_
              show WR _ cd_178 40 [some (.ref (ad 30)), some (.int c), some (.int i), some (.int k), some (.int d), none, none] [.int (-3)] (sI (sI (sI h (ad 0) 6 0) (ad 0) 6 (-3)) (ad 30) 11 (-3)) _
              refine r_iret rfl ?_
              exact ⟨rfl, Rel.why r (((Chg.rf.sI (fx_j fx) (.inl (by decide))).sI (fx_j fx) (.inl (by decide))).sI (fx_j fx) (.inl (by decide))) ⟨rfl, by decide⟩ (Eq.trans (Eq.trans (I_ne (fx_ne fx (by decide))) I_eq) (Eq.symm I_eq)), (by (try simp only [hZ_sI, hZ_sL, hZ_sD, hZ_sR]); omega), (by (try simp only [hU_sI, hU_sL, hU_sD, hU_sR]); omega)⟩
            · refine r_ic (x := 1) rfl rfl ?_
              refine r_goto (tg := 15) rfl rfl ?_
              refine r_zret rfl (.inr rfl) ?_
              show WR _ cd_50 31 [some (.ref (ad 0)), some (.int c), some (.int i), some (.int k), some (.int d), none, none, none] [.int 1] (sI h (ad 0) 6 0) _
              refine r_if_ne (tg := 41) rfl rfl (fun _ => ?_) (fun q => absurd q (by decide))
              refine r_aload rfl rfl ?_
              refine r_iload rfl rfl ?_
              refine WR_tI (y := nI k2) ek2 ?_
              refine r_ic (x := 9) rfl rfl ?_
              refine r_cv (y := 43) (ra := [.int 9, .int (nI k2)]) (rest := []) rfl ⟨⟨rfl, rfl⟩, rfl, by decide⟩ (fx_t0 fx) rfl rfl (Nat.le_of_ble_eq_true rfl) ?_
              refine in_43 (Nat.le_of_ble_eq_true rfl) ?_
              show WR _ cd_43 0 [some (.ref (ad 0)), some (.int (nI k2)), some (.int 9), none, none] [] (sI h (ad 0) 6 0) _
              refine r_aload rfl rfl ?_
              refine r_getA (b := ad 1) rfl ⟨rfl, rfl, rfl⟩ (fx_t0 fx) (fx_r0_0 fx) ?_
              refine r_iload rfl rfl ?_
              rcases rs.cs (n := n) (sa := sa) (c := k2) (by have := i_nlt c1; have := i_rg c; have : (0 : Int32).toInt = 0 := rfl; have := i_eq ek2; have : (nI k2).toInt = ((k2 : Nat) : Int) := nI_toInt (by omega); have := i_nle c3; have : (24 : Int32).toInt = 24 := rfl; omega) with ⟨v10, w10⟩ | ⟨q10, kd10, hq10, hn10, v10, w10, dz10, tg10, s1_10, k1_10, k2_10, hk_10, we10⟩ | ⟨t10, ln10, sz10, ht10, v10, w10, dz10, tg10, r_10, tg2_10, l1_10, l2_10, hl_10, kd_10, n_10, sz_10, hs_10, al10, rw10⟩ | ⟨t10, sz10, ht10, v10, w10, dz10, tg10, r_10, tg2_10, k1_10, l2_10, k2_10, n_10, sz_10, hs_10, al10, rw10⟩ | ⟨t10, kd10, sz10, ht10, v10, w10, dz10, tg10, r_10, tg2_10, k1_10, l2_10, k2_10, hk_10, n_10, sz_10, hs_10, al10, rw10⟩
              · refine r_aaload0 rfl (isQ_of (fx_t1 fx) (by decide)) (vp_ct (fx_n1 fx) (vp_in_nI (by have := i_nlt c1; have := i_rg c; have : (0 : Int32).toInt = 0 := rfl; have := i_eq ek2; have : (nI k2).toInt = ((k2 : Nat) : Int) := nI_toInt (by omega); have := i_nle c3; have : (24 : Int32).toInt = 24 := rfl; omega) (by omega))) (Eq.trans (congrArg (hR (sI h (ad 0) 6 0) (ad 1)) ((nI_clamp (by have := i_nlt c1; have := i_rg c; have : (0 : Int32).toInt = 0 := rfl; have := i_eq ek2; have : (nI k2).toInt = ((k2 : Nat) : Int) := nI_toInt (by omega); have := i_nle c3; have : (24 : Int32).toInt = 24 := rfl; omega)) : _ = k2)) (Eq.trans R_oI w10)) ?_
                refine r_astore0 (lv' := [some (.ref (ad 0)), some (.int (nI k2)), some (.int 9), some (.null), none]) rfl (Nat.le_of_ble_eq_true rfl) rfl ?_
                refine r_aload0 rfl rfl ?_
                refine r_instN rfl (by decide) ?_
                refine r_if_eq (tg := 32) rfl rfl (fun _ => ?_) (fun q => absurd q (by decide))
                refine r_aload rfl rfl ?_
                refine r_aload0 rfl rfl ?_
                refine r_ifnonnullN (tg := 42) rfl rfl ?_
                refine r_ic (x := (-11)) rfl rfl ?_
                refine r_goto (tg := 44) rfl rfl ?_
                refine r_putI rfl ⟨rfl, rfl, rfl⟩ (fx_t0 fx) ?_
                have fx : FX n ad sa z0 (sI (sI h (ad 0) 6 0) (ad 0) 6 (-11)) := (FX.sI fx)
                refine r_null rfl ?_
                refine r_aret0 rfl ?_
                show WR _ cd_50 48 [some (.ref (ad 0)), some (.int c), some (.int i), some (.int k), some (.int d), none, none, none] [.null] (sI (sI h (ad 0) 6 0) (ad 0) 6 (-11)) _
                refine r_astore0 (lv' := [some (.ref (ad 0)), some (.int c), some (.int i), some (.int k), some (.int d), some (.null), none, none]) rfl (Nat.le_of_ble_eq_true rfl) rfl ?_
                refine r_aload0 rfl rfl ?_
                refine r_ifnonnullN (tg := 60) rfl rfl ?_
                refine r_aload rfl rfl ?_
                refine r_getI rfl ⟨rfl, rfl, rfl⟩ (fx_t0 fx) ?_
                refine WR_tI (y := (-11)) I_eq ?_
                refine r_iret rfl ?_
                show EV _ 178 [.ref (ad 30), .int c, .int i, .int k, .int d] (sI (sI h (ad 0) 6 0) (ad 0) 6 (-11)) _
                refine in_178 (Nat.le_of_ble_eq_true rfl) ?_
                show WR _ cd_178 0 [some (.ref (ad 30)), some (.int c), some (.int i), some (.int k), some (.int d), none, none] [] (sI (sI h (ad 0) 6 0) (ad 0) 6 (-11)) _
                refine r_iload rfl rfl ?_
                refine WR_tI (y := nI k2) ek2 ?_
                refine r_cs (y := 153) (ra := [.int (nI k2)]) (rest := []) rfl ⟨⟨rfl, rfl⟩, by decide⟩ rfl rfl (Nat.le_of_ble_eq_true rfl) ?_
                refine in_153 (Nat.le_of_ble_eq_true rfl) ?_
                show WR _ cd_153 0 [some (.int (nI k2))] [] (sI (sI h (ad 0) 6 0) (ad 0) 6 (-11)) _
                refine r_iload rfl rfl ?_
                refine r_if_lt (tg := 14) rfl rfl (fun q => False.elim (by have := i_nlt c1; have := i_rg c; have : (0 : Int32).toInt = 0 := rfl; have := i_eq ek2; have : (nI k2).toInt = ((k2 : Nat) : Int) := nI_toInt (by omega); have := i_nle c3; have : (24 : Int32).toInt = 24 := rfl; have := i_lt q; omega)) (fun _ => ?_)
                refine r_iload rfl rfl ?_
                refine r_ic (x := 24) rfl rfl ?_
                refine r_icmp_ge (tg := 14) rfl rfl (fun q => False.elim (by have := i_nlt c1; have := i_rg c; have : (0 : Int32).toInt = 0 := rfl; have := i_eq ek2; have : (nI k2).toInt = ((k2 : Nat) : Int) := nI_toInt (by omega); have := i_nle c3; have : (24 : Int32).toInt = 24 := rfl; have := i_le q; omega)) (fun _ => ?_)
                refine r_ic (x := 1) rfl rfl ?_
                refine r_goto (tg := 15) rfl rfl ?_
                refine r_zret rfl (.inr rfl) ?_
                show WR _ cd_178 4 [some (.ref (ad 30)), some (.int c), some (.int i), some (.int k), some (.int d), none, none] [.int 1] (sI (sI h (ad 0) 6 0) (ad 0) 6 (-11)) _
                refine r_if_eq (tg := 15) rfl rfl (fun q => absurd q (by decide)) (fun _ => ?_)
                refine r_iload rfl rfl ?_
                refine WR_tI (y := nI k5) ek5 ?_
                refine r_cs (y := 153) (ra := [.int (nI k5)]) (rest := []) rfl ⟨⟨rfl, rfl⟩, by decide⟩ rfl rfl (Nat.le_of_ble_eq_true rfl) ?_
                refine in_153 (Nat.le_of_ble_eq_true rfl) ?_
                show WR _ cd_153 0 [some (.int (nI k5))] [] (sI (sI h (ad 0) 6 0) (ad 0) 6 (-11)) _
                refine r_iload rfl rfl ?_
                refine r_if_lt (tg := 14) rfl rfl (fun q => False.elim (by have := i_nlt c4; have := i_rg d; have : (0 : Int32).toInt = 0 := rfl; have := i_eq ek5; have : (nI k5).toInt = ((k5 : Nat) : Int) := nI_toInt (by omega); have := i_nle c6; have : (24 : Int32).toInt = 24 := rfl; have := i_lt q; omega)) (fun _ => ?_)
                refine r_iload rfl rfl ?_
                refine r_ic (x := 24) rfl rfl ?_
                refine r_icmp_ge (tg := 14) rfl rfl (fun q => False.elim (by have := i_nlt c4; have := i_rg d; have : (0 : Int32).toInt = 0 := rfl; have := i_eq ek5; have : (nI k5).toInt = ((k5 : Nat) : Int) := nI_toInt (by omega); have := i_nle c6; have : (24 : Int32).toInt = 24 := rfl; have := i_le q; omega)) (fun _ => ?_)
                refine r_ic (x := 1) rfl rfl ?_
                refine r_goto (tg := 15) rfl rfl ?_
                refine r_zret rfl (.inr rfl) ?_
                show WR _ cd_178 12 [some (.ref (ad 30)), some (.int c), some (.int i), some (.int k), some (.int d), none, none] [.int 1] (sI (sI h (ad 0) 6 0) (ad 0) 6 (-11)) _
                refine r_if_ne (tg := 22) rfl rfl (fun _ => ?_) (fun q => absurd q (by decide))
                refine r_iload rfl rfl ?_
                refine WR_tI (y := nI k8) ek8 ?_
                refine r_i2l rfl ?_
                refine WR_tL (y := lN k8) (nI_l (by have := i_nlt c7; have := i_rg k; have : (0 : Int32).toInt = 0 := rfl; have := i_eq ek8; have : (nI k8).toInt = ((k8 : Nat) : Int) := nI_toInt (by omega); have := i_nlt c9; have : (7 : Int32).toInt = 7 := rfl; omega)) ?_
                refine r_lc (x := 0) rfl rfl ?_
                refine r_ldc (x := .long 7) rfl rfl ?_
                refine r_cs (y := 155) (ra := [.long 7, .long 0, .long (lN k8)]) (rest := []) rfl ⟨⟨rfl, rfl⟩, by decide⟩ rfl rfl (Nat.le_of_ble_eq_true rfl) ?_
                refine in_155 (Nat.le_of_ble_eq_true rfl) ?_
                show WR _ cd_155 0 [some (.long (lN k8)), none, some (.long 0), none, some (.long 7), none] [] (sI (sI h (ad 0) 6 0) (ad 0) 6 (-11)) _
                refine r_lload rfl rfl ?_
                refine r_lload rfl rfl ?_
                refine r_lif_lt (tg := 17) rfl rfl rfl (fun q => False.elim (by have := i_nlt c7; have := i_rg k; have : (0 : Int32).toInt = 0 := rfl; have := i_eq ek8; have : (nI k8).toInt = ((k8 : Nat) : Int) := nI_toInt (by omega); have := i_nlt c9; have : (7 : Int32).toInt = 7 := rfl; have : (lN k8).toInt = ((k8 : Nat) : Int) := lN_toInt (by omega); have : (0 : Int64).toInt = 0 := rfl; have := l_lt q; omega)) (fun _ => ?_)
                refine r_lload rfl rfl ?_
                refine r_lload rfl rfl ?_
                refine r_lif_gt (tg := 17) rfl rfl rfl (fun q => False.elim (by have := i_nlt c7; have := i_rg k; have : (0 : Int32).toInt = 0 := rfl; have := i_eq ek8; have : (nI k8).toInt = ((k8 : Nat) : Int) := nI_toInt (by omega); have := i_nlt c9; have : (7 : Int32).toInt = 7 := rfl; have : (lN k8).toInt = ((k8 : Nat) : Int) := lN_toInt (by omega); have : (7 : Int64).toInt = 7 := rfl; have := l_lt q; omega)) (fun _ => ?_)
                refine r_ic (x := 1) rfl rfl ?_
                refine r_goto (tg := 18) rfl rfl ?_
                refine r_zret rfl (.inr rfl) ?_
                show WR _ cd_178 31 [some (.ref (ad 30)), some (.int c), some (.int i), some (.int k), some (.int d), none, none] [.int 1] (sI (sI h (ad 0) 6 0) (ad 0) 6 (-11)) _
                refine r_if_ne (tg := 41) rfl rfl (fun _ => ?_) (fun q => absurd q (by decide))
                refine r_aload rfl rfl ?_
                refine r_aload rfl rfl ?_
                refine r_getA (b := ad 31) rfl ⟨rfl, rfl, rfl⟩ (fx_t30 fx) (fx_r30_0 fx) ?_
                refine r_iload rfl rfl ?_
                refine WR_tI (y := nI k2) ek2 ?_
                refine r_iaload rfl (.inl (fx_t31 fx)) (vp_ct (fx_n31 fx) (vp_in_nI (by have := i_nlt c1; have := i_rg c; have : (0 : Int32).toInt = 0 := rfl; have := i_eq ek2; have : (nI k2).toInt = ((k2 : Nat) : Int) := nI_toInt (by omega); have := i_nle c3; have : (24 : Int32).toInt = 24 := rfl; omega) (by omega))) ?_
                refine WR_tI (congrArg (hI (sI (sI h (ad 0) 6 0) (ad 0) 6 (-11)) (ad 31)) ((nI_clamp (by have := i_nlt c1; have := i_rg c; have : (0 : Int32).toInt = 0 := rfl; have := i_eq ek2; have : (nI k2).toInt = ((k2 : Nat) : Int) := nI_toInt (by omega); have := i_nle c3; have : (24 : Int32).toInt = 24 := rfl; omega)) : _ = k2)) ?_
                refine WR_tI (y := (-1)) (Eq.trans (I_ne (fx_ne fx (by decide))) (Eq.trans (I_ne (fx_ne fx (by decide))) v10)) ?_
                refine r_ic (x := 9) rfl rfl ?_
                refine r_iload rfl rfl ?_
                refine r_cv (y := 168) (ra := [.int i, .int 9, .int (-1)]) (rest := []) rfl ⟨⟨rfl, rfl⟩, rfl, by decide⟩ (fx_t30 fx) rfl rfl (Nat.le_of_ble_eq_true rfl) ?_
                refine in_168 (Nat.le_of_ble_eq_true rfl) ?_
                show WR _ cd_168 0 [some (.ref (ad 30)), some (.int (-1)), some (.int 9), some (.int i)] [] (sI (sI h (ad 0) 6 0) (ad 0) 6 (-11)) _
                refine r_iload rfl rfl ?_
                refine r_ic (x := (-1)) rfl rfl ?_
                refine r_icmp_eq (tg := 18) rfl rfl (fun _ => ?_) (fun q => absurd q (by decide))
                refine r_iload rfl rfl ?_
                refine r_ic (x := (-1)) rfl rfl ?_
                refine r_icmp_ne (tg := 27) rfl rfl (fun q => absurd q (by decide)) (fun _ => ?_)
                refine r_ic (x := 1) rfl rfl ?_
                refine r_goto (tg := 50) rfl rfl ?_
                refine r_iret rfl ?_
                show WR _ cd_178 54 [some (.ref (ad 30)), some (.int c), some (.int i), some (.int k), some (.int d), none, none] [.int 1] (sI (sI h (ad 0) 6 0) (ad 0) 6 (-11)) _
                refine r_istore (lv' := [some (.ref (ad 30)), some (.int c), some (.int i), some (.int k), some (.int d), some (.int 1), none]) rfl (Nat.le_of_ble_eq_true rfl) rfl ?_
                refine r_iload rfl rfl ?_
                refine r_if_le (tg := 68) rfl rfl (fun q => absurd q (by decide)) (fun _ => ?_)
                refine r_aload rfl rfl ?_
                refine r_iload rfl rfl ?_
                refine r_cv (y := 156) (ra := [.int 1]) (rest := []) rfl ⟨⟨rfl, rfl⟩, rfl, by decide⟩ (fx_t30 fx) rfl rfl (Nat.le_of_ble_eq_true rfl) ?_
                refine in_156 (Nat.le_of_ble_eq_true rfl) ?_
                show WR _ cd_156 0 [some (.ref (ad 30)), some (.int 1)] [] (sI (sI h (ad 0) 6 0) (ad 0) 6 (-11)) _
                refine r_aload rfl rfl ?_
                refine r_ic (x := (-10)) rfl rfl ?_
                refine r_iload rfl rfl ?_
                refine r_isub rfl ?_
                refine WR_tI (y := (-11)) rfl ?_
                refine r_cv (y := 154) (ra := [.int (-11)]) (rest := []) rfl ⟨⟨rfl, rfl⟩, rfl, by decide⟩ (fx_t30 fx) rfl rfl (Nat.le_of_ble_eq_true rfl) ?_
                refine in_154 (Nat.le_of_ble_eq_true rfl) ?_
                show WR _ cd_154 0 [some (.ref (ad 30)), some (.int (-11))] [] (sI (sI h (ad 0) 6 0) (ad 0) 6 (-11)) _
                refine r_aload rfl rfl ?_
                refine r_iload rfl rfl ?_
                refine r_ic (x := (-1)) rfl rfl ?_
                refine r_icmp_ge (tg := 10) rfl rfl (fun q => absurd q (by decide)) (fun _ => ?_)
                refine r_iload rfl rfl ?_
                refine r_goto (tg := 11) rfl rfl ?_
                refine r_putI rfl ⟨rfl, rfl, rfl⟩ (fx_t30 fx) ?_
                have fx : FX n ad sa z0 (sI (sI (sI h (ad 0) 6 0) (ad 0) 6 (-11)) (ad 30) 11 (-11)) := (FX.sI fx)
                refine r_iload rfl rfl ?_
                refine r_iret rfl ?_
                show WR _ cd_156 8 [some (.ref (ad 30)), some (.int 1)] [.int (-11)] (sI (sI (sI h (ad 0) 6 0) (ad 0) 6 (-11)) (ad 30) 11 (-11)) _
                refine r_iret rfl ?_
                show WR _ cd_178 67 [some (.ref (ad 30)), some (.int c), some (.int i), some (.int k), some (.int d), some (.int 1), none] [.int (-11)] (sI (sI (sI h (ad 0) 6 0) (ad 0) 6 (-11)) (ad 30) 11 (-11)) _
                refine r_iret rfl ?_
                exact ⟨rfl, Rel.why r (((Chg.rf.sI (fx_j fx) (.inl (by decide))).sI (fx_j fx) (.inl (by decide))).sI (fx_j fx) (.inl (by decide))) ⟨rfl, by decide⟩ (Eq.trans (Eq.trans (I_ne (fx_ne fx (by decide))) I_eq) (Eq.symm I_eq)), (by (try simp only [hZ_sI, hZ_sL, hZ_sD, hZ_sR]); omega), (by (try simp only [hU_sI, hU_sL, hU_sD, hU_sR]); omega)⟩
              · refine r_aaloadA (b := pa q10) rfl (isQ_of (fx_t1 fx) (by decide)) (vp_ct (fx_n1 fx) (vp_in_nI (by have := i_nlt c1; have := i_rg c; have : (0 : Int32).toInt = 0 := rfl; have := i_eq ek2; have : (nI k2).toInt = ((k2 : Nat) : Int) := nI_toInt (by omega); have := i_nle c3; have : (24 : Int32).toInt = 24 := rfl; omega) (by omega))) (Eq.trans (congrArg (hR (sI h (ad 0) 6 0) (ad 1)) ((nI_clamp (by have := i_nlt c1; have := i_rg c; have : (0 : Int32).toInt = 0 := rfl; have := i_eq ek2; have : (nI k2).toInt = ((k2 : Nat) : Int) := nI_toInt (by omega); have := i_nle c3; have : (24 : Int32).toInt = 24 := rfl; omega)) : _ = k2)) (Eq.trans R_oI w10)) ?_
                refine r_astore (lv' := [some (.ref (ad 0)), some (.int (nI k2)), some (.int 9), some (.ref (pa q10)), none]) rfl (Nat.le_of_ble_eq_true rfl) rfl ?_
                refine r_aload rfl rfl ?_
                refine r_instW rfl (by decide) tg10 (by decide) ?_
                refine r_if_eq (tg := 32) rfl rfl (fun _ => ?_) (fun q => absurd q (by decide))
                refine r_aload rfl rfl ?_
                refine r_aload rfl rfl ?_
                refine r_ifnonnullA (tg := 42) rfl rfl ?_
                refine r_ic (x := (-14)) rfl rfl ?_
                refine r_putI rfl ⟨rfl, rfl, rfl⟩ (fx_t0 fx) ?_
                have fx : FX n ad sa z0 (sI (sI h (ad 0) 6 0) (ad 0) 6 (-14)) := (FX.sI fx)
                refine r_null rfl ?_
                refine r_aret0 rfl ?_
                show WR _ cd_50 48 [some (.ref (ad 0)), some (.int c), some (.int i), some (.int k), some (.int d), none, none, none] [.null] (sI (sI h (ad 0) 6 0) (ad 0) 6 (-14)) _
                refine r_astore0 (lv' := [some (.ref (ad 0)), some (.int c), some (.int i), some (.int k), some (.int d), some (.null), none, none]) rfl (Nat.le_of_ble_eq_true rfl) rfl ?_
                refine r_aload0 rfl rfl ?_
                refine r_ifnonnullN (tg := 60) rfl rfl ?_
                refine r_aload rfl rfl ?_
                refine r_getI rfl ⟨rfl, rfl, rfl⟩ (fx_t0 fx) ?_
                refine WR_tI (y := (-14)) I_eq ?_
                refine r_iret rfl ?_
                show EV _ 178 [.ref (ad 30), .int c, .int i, .int k, .int d] (sI (sI h (ad 0) 6 0) (ad 0) 6 (-14)) _
                refine in_178 (Nat.le_of_ble_eq_true rfl) ?_
                show WR _ cd_178 0 [some (.ref (ad 30)), some (.int c), some (.int i), some (.int k), some (.int d), none, none] [] (sI (sI h (ad 0) 6 0) (ad 0) 6 (-14)) _
                refine r_iload rfl rfl ?_
                refine WR_tI (y := nI k2) ek2 ?_
                refine r_cs (y := 153) (ra := [.int (nI k2)]) (rest := []) rfl ⟨⟨rfl, rfl⟩, by decide⟩ rfl rfl (Nat.le_of_ble_eq_true rfl) ?_
                refine in_153 (Nat.le_of_ble_eq_true rfl) ?_
                show WR _ cd_153 0 [some (.int (nI k2))] [] (sI (sI h (ad 0) 6 0) (ad 0) 6 (-14)) _
                refine r_iload rfl rfl ?_
                refine r_if_lt (tg := 14) rfl rfl (fun q => False.elim (by have := i_nlt c1; have := i_rg c; have : (0 : Int32).toInt = 0 := rfl; have := i_eq ek2; have : (nI k2).toInt = ((k2 : Nat) : Int) := nI_toInt (by omega); have := i_nle c3; have : (24 : Int32).toInt = 24 := rfl; have := i_lt q; omega)) (fun _ => ?_)
                refine r_iload rfl rfl ?_
                refine r_ic (x := 24) rfl rfl ?_
                refine r_icmp_ge (tg := 14) rfl rfl (fun q => False.elim (by have := i_nlt c1; have := i_rg c; have : (0 : Int32).toInt = 0 := rfl; have := i_eq ek2; have : (nI k2).toInt = ((k2 : Nat) : Int) := nI_toInt (by omega); have := i_nle c3; have : (24 : Int32).toInt = 24 := rfl; have := i_le q; omega)) (fun _ => ?_)
                refine r_ic (x := 1) rfl rfl ?_
                refine r_goto (tg := 15) rfl rfl ?_
                refine r_zret rfl (.inr rfl) ?_
                show WR _ cd_178 4 [some (.ref (ad 30)), some (.int c), some (.int i), some (.int k), some (.int d), none, none] [.int 1] (sI (sI h (ad 0) 6 0) (ad 0) 6 (-14)) _
                refine r_if_eq (tg := 15) rfl rfl (fun q => absurd q (by decide)) (fun _ => ?_)
                refine r_iload rfl rfl ?_
                refine WR_tI (y := nI k5) ek5 ?_
                refine r_cs (y := 153) (ra := [.int (nI k5)]) (rest := []) rfl ⟨⟨rfl, rfl⟩, by decide⟩ rfl rfl (Nat.le_of_ble_eq_true rfl) ?_
                refine in_153 (Nat.le_of_ble_eq_true rfl) ?_
                show WR _ cd_153 0 [some (.int (nI k5))] [] (sI (sI h (ad 0) 6 0) (ad 0) 6 (-14)) _
                refine r_iload rfl rfl ?_
                refine r_if_lt (tg := 14) rfl rfl (fun q => False.elim (by have := i_nlt c4; have := i_rg d; have : (0 : Int32).toInt = 0 := rfl; have := i_eq ek5; have : (nI k5).toInt = ((k5 : Nat) : Int) := nI_toInt (by omega); have := i_nle c6; have : (24 : Int32).toInt = 24 := rfl; have := i_lt q; omega)) (fun _ => ?_)
                refine r_iload rfl rfl ?_
                refine r_ic (x := 24) rfl rfl ?_
                refine r_icmp_ge (tg := 14) rfl rfl (fun q => False.elim (by have := i_nlt c4; have := i_rg d; have : (0 : Int32).toInt = 0 := rfl; have := i_eq ek5; have : (nI k5).toInt = ((k5 : Nat) : Int) := nI_toInt (by omega); have := i_nle c6; have : (24 : Int32).toInt = 24 := rfl; have := i_le q; omega)) (fun _ => ?_)
                refine r_ic (x := 1) rfl rfl ?_
                refine r_goto (tg := 15) rfl rfl ?_
                refine r_zret rfl (.inr rfl) ?_
                show WR _ cd_178 12 [some (.ref (ad 30)), some (.int c), some (.int i), some (.int k), some (.int d), none, none] [.int 1] (sI (sI h (ad 0) 6 0) (ad 0) 6 (-14)) _
                refine r_if_ne (tg := 22) rfl rfl (fun _ => ?_) (fun q => absurd q (by decide))
                refine r_iload rfl rfl ?_
                refine WR_tI (y := nI k8) ek8 ?_
                refine r_i2l rfl ?_
                refine WR_tL (y := lN k8) (nI_l (by have := i_nlt c7; have := i_rg k; have : (0 : Int32).toInt = 0 := rfl; have := i_eq ek8; have : (nI k8).toInt = ((k8 : Nat) : Int) := nI_toInt (by omega); have := i_nlt c9; have : (7 : Int32).toInt = 7 := rfl; omega)) ?_
                refine r_lc (x := 0) rfl rfl ?_
                refine r_ldc (x := .long 7) rfl rfl ?_
                refine r_cs (y := 155) (ra := [.long 7, .long 0, .long (lN k8)]) (rest := []) rfl ⟨⟨rfl, rfl⟩, by decide⟩ rfl rfl (Nat.le_of_ble_eq_true rfl) ?_
                refine in_155 (Nat.le_of_ble_eq_true rfl) ?_
                show WR _ cd_155 0 [some (.long (lN k8)), none, some (.long 0), none, some (.long 7), none] [] (sI (sI h (ad 0) 6 0) (ad 0) 6 (-14)) _
                refine r_lload rfl rfl ?_
                refine r_lload rfl rfl ?_
                refine r_lif_lt (tg := 17) rfl rfl rfl (fun q => False.elim (by have := i_nlt c7; have := i_rg k; have : (0 : Int32).toInt = 0 := rfl; have := i_eq ek8; have : (nI k8).toInt = ((k8 : Nat) : Int) := nI_toInt (by omega); have := i_nlt c9; have : (7 : Int32).toInt = 7 := rfl; have : (lN k8).toInt = ((k8 : Nat) : Int) := lN_toInt (by omega); have : (0 : Int64).toInt = 0 := rfl; have := l_lt q; omega)) (fun _ => ?_)
                refine r_lload rfl rfl ?_
                refine r_lload rfl rfl ?_
                refine r_lif_gt (tg := 17) rfl rfl rfl (fun q => False.elim (by have := i_nlt c7; have := i_rg k; have : (0 : Int32).toInt = 0 := rfl; have := i_eq ek8; have : (nI k8).toInt = ((k8 : Nat) : Int) := nI_toInt (by omega); have := i_nlt c9; have : (7 : Int32).toInt = 7 := rfl; have : (lN k8).toInt = ((k8 : Nat) : Int) := lN_toInt (by omega); have : (7 : Int64).toInt = 7 := rfl; have := l_lt q; omega)) (fun _ => ?_)
                refine r_ic (x := 1) rfl rfl ?_
                refine r_goto (tg := 18) rfl rfl ?_
                refine r_zret rfl (.inr rfl) ?_
                show WR _ cd_178 31 [some (.ref (ad 30)), some (.int c), some (.int i), some (.int k), some (.int d), none, none] [.int 1] (sI (sI h (ad 0) 6 0) (ad 0) 6 (-14)) _
                refine r_if_ne (tg := 41) rfl rfl (fun _ => ?_) (fun q => absurd q (by decide))
                refine r_aload rfl rfl ?_
                refine r_aload rfl rfl ?_
                refine r_getA (b := ad 31) rfl ⟨rfl, rfl, rfl⟩ (fx_t30 fx) (fx_r30_0 fx) ?_
                refine r_iload rfl rfl ?_
                refine WR_tI (y := nI k2) ek2 ?_
                refine r_iaload rfl (.inl (fx_t31 fx)) (vp_ct (fx_n31 fx) (vp_in_nI (by have := i_nlt c1; have := i_rg c; have : (0 : Int32).toInt = 0 := rfl; have := i_eq ek2; have : (nI k2).toInt = ((k2 : Nat) : Int) := nI_toInt (by omega); have := i_nle c3; have : (24 : Int32).toInt = 24 := rfl; omega) (by omega))) ?_
                refine WR_tI (congrArg (hI (sI (sI h (ad 0) 6 0) (ad 0) 6 (-14)) (ad 31)) ((nI_clamp (by have := i_nlt c1; have := i_rg c; have : (0 : Int32).toInt = 0 := rfl; have := i_eq ek2; have : (nI k2).toInt = ((k2 : Nat) : Int) := nI_toInt (by omega); have := i_nle c3; have : (24 : Int32).toInt = 24 := rfl; omega)) : _ = k2)) ?_
                refine WR_tI (y := nI (q10 + 1000)) (Eq.trans (I_ne (fx_ne fx (by decide))) (Eq.trans (I_ne (fx_ne fx (by decide))) v10)) ?_
                refine r_ic (x := 9) rfl rfl ?_
                refine r_iload rfl rfl ?_
                refine r_cv (y := 168) (ra := [.int i, .int 9, .int (nI (q10 + 1000))]) (rest := []) rfl ⟨⟨rfl, rfl⟩, rfl, by decide⟩ (fx_t30 fx) rfl rfl (Nat.le_of_ble_eq_true rfl) ?_
                refine in_168 (Nat.le_of_ble_eq_true rfl) ?_
                show WR _ cd_168 0 [some (.ref (ad 30)), some (.int (nI (q10 + 1000))), some (.int 9), some (.int i)] [] (sI (sI h (ad 0) 6 0) (ad 0) 6 (-14)) _
                refine r_iload rfl rfl ?_
                refine r_ic (x := (-1)) rfl rfl ?_
                refine r_icmp_eq (tg := 18) rfl rfl (fun q => False.elim (by have : (nI (q10 + 1000)).toInt = ((q10 + 1000 : Nat) : Int) := nI_toInt (by omega); have : (-1 : Int32).toInt = -1 := rfl; have := i_eq q; omega)) (fun _ => ?_)
                refine r_aload rfl rfl ?_
                refine r_iload rfl rfl ?_
                refine r_cv (y := 166) (ra := [.int (nI (q10 + 1000))]) (rest := []) rfl ⟨⟨rfl, rfl⟩, rfl, by decide⟩ (fx_t30 fx) rfl rfl (Nat.le_of_ble_eq_true rfl) ?_
                refine in_166 (Nat.le_of_ble_eq_true rfl) ?_
                show WR _ cd_166 0 [some (.ref (ad 30)), some (.int (nI (q10 + 1000)))] [] (sI (sI h (ad 0) 6 0) (ad 0) 6 (-14)) _
                refine r_iload rfl rfl ?_
                refine r_ic (x := (-1)) rfl rfl ?_
                refine r_icmp_ne (tg := 9) rfl rfl (fun _ => ?_) (fun q => False.elim (by have : (nI (q10 + 1000)).toInt = ((q10 + 1000 : Nat) : Int) := nI_toInt (by omega); have : (-1 : Int32).toInt = -1 := rfl; have := i_eq q; omega))
                refine r_iload rfl rfl ?_
                refine r_ic (x := 1000) rfl rfl ?_
                refine r_icmp_lt (tg := 21) rfl rfl (fun q => False.elim (by have : (nI (q10 + 1000)).toInt = ((q10 + 1000 : Nat) : Int) := nI_toInt (by omega); have : (1000 : Int32).toInt = 1000 := rfl; have := i_lt q; omega)) (fun _ => ?_)
                refine r_ic (x := 10) rfl rfl ?_
                refine r_goto (tg := 27) rfl rfl ?_
                refine r_iret rfl ?_
                show WR _ cd_168 10 [some (.ref (ad 30)), some (.int (nI (q10 + 1000))), some (.int 9), some (.int i)] [.int 10] (sI (sI h (ad 0) 6 0) (ad 0) 6 (-14)) _
                refine r_iload rfl rfl ?_
                refine r_icmp_eq (tg := 18) rfl rfl (fun q => absurd q (by decide)) (fun _ => ?_)
                refine r_ic (x := 4) rfl rfl ?_
                refine r_goto (tg := 50) rfl rfl ?_
                refine r_iret rfl ?_
                show WR _ cd_178 54 [some (.ref (ad 30)), some (.int c), some (.int i), some (.int k), some (.int d), none, none] [.int 4] (sI (sI h (ad 0) 6 0) (ad 0) 6 (-14)) _
                refine r_istore (lv' := [some (.ref (ad 30)), some (.int c), some (.int i), some (.int k), some (.int d), some (.int 4), none]) rfl (Nat.le_of_ble_eq_true rfl) rfl ?_
                refine r_iload rfl rfl ?_
                refine r_if_le (tg := 68) rfl rfl (fun q => absurd q (by decide)) (fun _ => ?_)
                refine r_aload rfl rfl ?_
                refine r_iload rfl rfl ?_
                refine r_cv (y := 156) (ra := [.int 4]) (rest := []) rfl ⟨⟨rfl, rfl⟩, rfl, by decide⟩ (fx_t30 fx) rfl rfl (Nat.le_of_ble_eq_true rfl) ?_
                refine in_156 (Nat.le_of_ble_eq_true rfl) ?_
                show WR _ cd_156 0 [some (.ref (ad 30)), some (.int 4)] [] (sI (sI h (ad 0) 6 0) (ad 0) 6 (-14)) _
                refine r_aload rfl rfl ?_
                refine r_ic (x := (-10)) rfl rfl ?_
                refine r_iload rfl rfl ?_
                refine r_isub rfl ?_
                refine WR_tI (y := (-14)) rfl ?_
                refine r_cv (y := 154) (ra := [.int (-14)]) (rest := []) rfl ⟨⟨rfl, rfl⟩, rfl, by decide⟩ (fx_t30 fx) rfl rfl (Nat.le_of_ble_eq_true rfl) ?_
                refine in_154 (Nat.le_of_ble_eq_true rfl) ?_
                show WR _ cd_154 0 [some (.ref (ad 30)), some (.int (-14))] [] (sI (sI h (ad 0) 6 0) (ad 0) 6 (-14)) _
                refine r_aload rfl rfl ?_
                refine r_iload rfl rfl ?_
                refine r_ic (x := (-1)) rfl rfl ?_
                refine r_icmp_ge (tg := 10) rfl rfl (fun q => absurd q (by decide)) (fun _ => ?_)
                refine r_iload rfl rfl ?_
                refine r_goto (tg := 11) rfl rfl ?_
                refine r_putI rfl ⟨rfl, rfl, rfl⟩ (fx_t30 fx) ?_
                have fx : FX n ad sa z0 (sI (sI (sI h (ad 0) 6 0) (ad 0) 6 (-14)) (ad 30) 11 (-14)) := (FX.sI fx)
                refine r_iload rfl rfl ?_
                refine r_iret rfl ?_
                show WR _ cd_156 8 [some (.ref (ad 30)), some (.int 4)] [.int (-14)] (sI (sI (sI h (ad 0) 6 0) (ad 0) 6 (-14)) (ad 30) 11 (-14)) _
                refine r_iret rfl ?_
                show WR _ cd_178 67 [some (.ref (ad 30)), some (.int c), some (.int i), some (.int k), some (.int d), some (.int 4), none] [.int (-14)] (sI (sI (sI h (ad 0) 6 0) (ad 0) 6 (-14)) (ad 30) 11 (-14)) _
                refine r_iret rfl ?_
                exact ⟨rfl, Rel.why r (((Chg.rf.sI (fx_j fx) (.inl (by decide))).sI (fx_j fx) (.inl (by decide))).sI (fx_j fx) (.inl (by decide))) ⟨rfl, by decide⟩ (Eq.trans (Eq.trans (I_ne (fx_ne fx (by decide))) I_eq) (Eq.symm I_eq)), (by (try simp only [hZ_sI, hZ_sL, hZ_sD, hZ_sR]); omega), (by (try simp only [hU_sI, hU_sL, hU_sD, hU_sR]); omega)⟩
              · refine r_aaloadA (b := mid t10) rfl (isQ_of (fx_t1 fx) (by decide)) (vp_ct (fx_n1 fx) (vp_in_nI (by have := i_nlt c1; have := i_rg c; have : (0 : Int32).toInt = 0 := rfl; have := i_eq ek2; have : (nI k2).toInt = ((k2 : Nat) : Int) := nI_toInt (by omega); have := i_nle c3; have : (24 : Int32).toInt = 24 := rfl; omega) (by omega))) (Eq.trans (congrArg (hR (sI h (ad 0) 6 0) (ad 1)) ((nI_clamp (by have := i_nlt c1; have := i_rg c; have : (0 : Int32).toInt = 0 := rfl; have := i_eq ek2; have : (nI k2).toInt = ((k2 : Nat) : Int) := nI_toInt (by omega); have := i_nle c3; have : (24 : Int32).toInt = 24 := rfl; omega)) : _ = k2)) (Eq.trans R_oI w10)) ?_
                refine r_astore (lv' := [some (.ref (ad 0)), some (.int (nI k2)), some (.int 9), some (.ref (mid t10)), none]) rfl (Nat.le_of_ble_eq_true rfl) rfl ?_
                refine r_aload rfl rfl ?_
                refine r_instW rfl (by decide) tg10 (by decide) ?_
                refine r_if_eq (tg := 32) rfl rfl (fun _ => ?_) (fun q => absurd q (by decide))
                refine r_aload rfl rfl ?_
                refine r_aload rfl rfl ?_
                refine r_ifnonnullA (tg := 42) rfl rfl ?_
                refine r_ic (x := (-14)) rfl rfl ?_
                refine r_putI rfl ⟨rfl, rfl, rfl⟩ (fx_t0 fx) ?_
                have fx : FX n ad sa z0 (sI (sI h (ad 0) 6 0) (ad 0) 6 (-14)) := (FX.sI fx)
                refine r_null rfl ?_
                refine r_aret0 rfl ?_
                show WR _ cd_50 48 [some (.ref (ad 0)), some (.int c), some (.int i), some (.int k), some (.int d), none, none, none] [.null] (sI (sI h (ad 0) 6 0) (ad 0) 6 (-14)) _
                refine r_astore0 (lv' := [some (.ref (ad 0)), some (.int c), some (.int i), some (.int k), some (.int d), some (.null), none, none]) rfl (Nat.le_of_ble_eq_true rfl) rfl ?_
                refine r_aload0 rfl rfl ?_
                refine r_ifnonnullN (tg := 60) rfl rfl ?_
                refine r_aload rfl rfl ?_
                refine r_getI rfl ⟨rfl, rfl, rfl⟩ (fx_t0 fx) ?_
                refine WR_tI (y := (-14)) I_eq ?_
                refine r_iret rfl ?_
                show EV _ 178 [.ref (ad 30), .int c, .int i, .int k, .int d] (sI (sI h (ad 0) 6 0) (ad 0) 6 (-14)) _
                refine in_178 (Nat.le_of_ble_eq_true rfl) ?_
                show WR _ cd_178 0 [some (.ref (ad 30)), some (.int c), some (.int i), some (.int k), some (.int d), none, none] [] (sI (sI h (ad 0) 6 0) (ad 0) 6 (-14)) _
                refine r_iload rfl rfl ?_
                refine WR_tI (y := nI k2) ek2 ?_
                refine r_cs (y := 153) (ra := [.int (nI k2)]) (rest := []) rfl ⟨⟨rfl, rfl⟩, by decide⟩ rfl rfl (Nat.le_of_ble_eq_true rfl) ?_
                refine in_153 (Nat.le_of_ble_eq_true rfl) ?_
                show WR _ cd_153 0 [some (.int (nI k2))] [] (sI (sI h (ad 0) 6 0) (ad 0) 6 (-14)) _
                refine r_iload rfl rfl ?_
                refine r_if_lt (tg := 14) rfl rfl (fun q => False.elim (by have := i_nlt c1; have := i_rg c; have : (0 : Int32).toInt = 0 := rfl; have := i_eq ek2; have : (nI k2).toInt = ((k2 : Nat) : Int) := nI_toInt (by omega); have := i_nle c3; have : (24 : Int32).toInt = 24 := rfl; have := i_lt q; omega)) (fun _ => ?_)
                refine r_iload rfl rfl ?_
                refine r_ic (x := 24) rfl rfl ?_
                refine r_icmp_ge (tg := 14) rfl rfl (fun q => False.elim (by have := i_nlt c1; have := i_rg c; have : (0 : Int32).toInt = 0 := rfl; have := i_eq ek2; have : (nI k2).toInt = ((k2 : Nat) : Int) := nI_toInt (by omega); have := i_nle c3; have : (24 : Int32).toInt = 24 := rfl; have := i_le q; omega)) (fun _ => ?_)
                refine r_ic (x := 1) rfl rfl ?_
                refine r_goto (tg := 15) rfl rfl ?_
                refine r_zret rfl (.inr rfl) ?_
                show WR _ cd_178 4 [some (.ref (ad 30)), some (.int c), some (.int i), some (.int k), some (.int d), none, none] [.int 1] (sI (sI h (ad 0) 6 0) (ad 0) 6 (-14)) _
                refine r_if_eq (tg := 15) rfl rfl (fun q => absurd q (by decide)) (fun _ => ?_)
                refine r_iload rfl rfl ?_
                refine WR_tI (y := nI k5) ek5 ?_
                refine r_cs (y := 153) (ra := [.int (nI k5)]) (rest := []) rfl ⟨⟨rfl, rfl⟩, by decide⟩ rfl rfl (Nat.le_of_ble_eq_true rfl) ?_
                refine in_153 (Nat.le_of_ble_eq_true rfl) ?_
                show WR _ cd_153 0 [some (.int (nI k5))] [] (sI (sI h (ad 0) 6 0) (ad 0) 6 (-14)) _
                refine r_iload rfl rfl ?_
                refine r_if_lt (tg := 14) rfl rfl (fun q => False.elim (by have := i_nlt c4; have := i_rg d; have : (0 : Int32).toInt = 0 := rfl; have := i_eq ek5; have : (nI k5).toInt = ((k5 : Nat) : Int) := nI_toInt (by omega); have := i_nle c6; have : (24 : Int32).toInt = 24 := rfl; have := i_lt q; omega)) (fun _ => ?_)
                refine r_iload rfl rfl ?_
                refine r_ic (x := 24) rfl rfl ?_
                refine r_icmp_ge (tg := 14) rfl rfl (fun q => False.elim (by have := i_nlt c4; have := i_rg d; have : (0 : Int32).toInt = 0 := rfl; have := i_eq ek5; have : (nI k5).toInt = ((k5 : Nat) : Int) := nI_toInt (by omega); have := i_nle c6; have : (24 : Int32).toInt = 24 := rfl; have := i_le q; omega)) (fun _ => ?_)
                refine r_ic (x := 1) rfl rfl ?_
                refine r_goto (tg := 15) rfl rfl ?_
                refine r_zret rfl (.inr rfl) ?_
                show WR _ cd_178 12 [some (.ref (ad 30)), some (.int c), some (.int i), some (.int k), some (.int d), none, none] [.int 1] (sI (sI h (ad 0) 6 0) (ad 0) 6 (-14)) _
                refine r_if_ne (tg := 22) rfl rfl (fun _ => ?_) (fun q => absurd q (by decide))
                refine r_iload rfl rfl ?_
                refine WR_tI (y := nI k8) ek8 ?_
                refine r_i2l rfl ?_
                refine WR_tL (y := lN k8) (nI_l (by have := i_nlt c7; have := i_rg k; have : (0 : Int32).toInt = 0 := rfl; have := i_eq ek8; have : (nI k8).toInt = ((k8 : Nat) : Int) := nI_toInt (by omega); have := i_nlt c9; have : (7 : Int32).toInt = 7 := rfl; omega)) ?_
                refine r_lc (x := 0) rfl rfl ?_
                refine r_ldc (x := .long 7) rfl rfl ?_
                refine r_cs (y := 155) (ra := [.long 7, .long 0, .long (lN k8)]) (rest := []) rfl ⟨⟨rfl, rfl⟩, by decide⟩ rfl rfl (Nat.le_of_ble_eq_true rfl) ?_
                refine in_155 (Nat.le_of_ble_eq_true rfl) ?_
                show WR _ cd_155 0 [some (.long (lN k8)), none, some (.long 0), none, some (.long 7), none] [] (sI (sI h (ad 0) 6 0) (ad 0) 6 (-14)) _
                refine r_lload rfl rfl ?_
                refine r_lload rfl rfl ?_
                refine r_lif_lt (tg := 17) rfl rfl rfl (fun q => False.elim (by have := i_nlt c7; have := i_rg k; have : (0 : Int32).toInt = 0 := rfl; have := i_eq ek8; have : (nI k8).toInt = ((k8 : Nat) : Int) := nI_toInt (by omega); have := i_nlt c9; have : (7 : Int32).toInt = 7 := rfl; have : (lN k8).toInt = ((k8 : Nat) : Int) := lN_toInt (by omega); have : (0 : Int64).toInt = 0 := rfl; have := l_lt q; omega)) (fun _ => ?_)
                refine r_lload rfl rfl ?_
                refine r_lload rfl rfl ?_
                refine r_lif_gt (tg := 17) rfl rfl rfl (fun q => False.elim (by have := i_nlt c7; have := i_rg k; have : (0 : Int32).toInt = 0 := rfl; have := i_eq ek8; have : (nI k8).toInt = ((k8 : Nat) : Int) := nI_toInt (by omega); have := i_nlt c9; have : (7 : Int32).toInt = 7 := rfl; have : (lN k8).toInt = ((k8 : Nat) : Int) := lN_toInt (by omega); have : (7 : Int64).toInt = 7 := rfl; have := l_lt q; omega)) (fun _ => ?_)
                refine r_ic (x := 1) rfl rfl ?_
                refine r_goto (tg := 18) rfl rfl ?_
                refine r_zret rfl (.inr rfl) ?_
                show WR _ cd_178 31 [some (.ref (ad 30)), some (.int c), some (.int i), some (.int k), some (.int d), none, none] [.int 1] (sI (sI h (ad 0) 6 0) (ad 0) 6 (-14)) _
                refine r_if_ne (tg := 41) rfl rfl (fun _ => ?_) (fun q => absurd q (by decide))
                refine r_aload rfl rfl ?_
                refine r_aload rfl rfl ?_
                refine r_getA (b := ad 31) rfl ⟨rfl, rfl, rfl⟩ (fx_t30 fx) (fx_r30_0 fx) ?_
                refine r_iload rfl rfl ?_
                refine WR_tI (y := nI k2) ek2 ?_
                refine r_iaload rfl (.inl (fx_t31 fx)) (vp_ct (fx_n31 fx) (vp_in_nI (by have := i_nlt c1; have := i_rg c; have : (0 : Int32).toInt = 0 := rfl; have := i_eq ek2; have : (nI k2).toInt = ((k2 : Nat) : Int) := nI_toInt (by omega); have := i_nle c3; have : (24 : Int32).toInt = 24 := rfl; omega) (by omega))) ?_
                refine WR_tI (congrArg (hI (sI (sI h (ad 0) 6 0) (ad 0) 6 (-14)) (ad 31)) ((nI_clamp (by have := i_nlt c1; have := i_rg c; have : (0 : Int32).toInt = 0 := rfl; have := i_eq ek2; have : (nI k2).toInt = ((k2 : Nat) : Int) := nI_toInt (by omega); have := i_nle c3; have : (24 : Int32).toInt = 24 := rfl; omega)) : _ = k2)) ?_
                refine WR_tI (y := nI t10) (Eq.trans (I_ne (fx_ne fx (by decide))) (Eq.trans (I_ne (fx_ne fx (by decide))) v10)) ?_
                refine r_ic (x := 9) rfl rfl ?_
                refine r_iload rfl rfl ?_
                refine r_cv (y := 168) (ra := [.int i, .int 9, .int (nI t10)]) (rest := []) rfl ⟨⟨rfl, rfl⟩, rfl, by decide⟩ (fx_t30 fx) rfl rfl (Nat.le_of_ble_eq_true rfl) ?_
                refine in_168 (Nat.le_of_ble_eq_true rfl) ?_
                show WR _ cd_168 0 [some (.ref (ad 30)), some (.int (nI t10)), some (.int 9), some (.int i)] [] (sI (sI h (ad 0) 6 0) (ad 0) 6 (-14)) _
                refine r_iload rfl rfl ?_
                refine r_ic (x := (-1)) rfl rfl ?_
                refine r_icmp_eq (tg := 18) rfl rfl (fun q => False.elim (by have : (nI t10).toInt = ((t10 : Nat) : Int) := nI_toInt (by omega); have : (-1 : Int32).toInt = -1 := rfl; have := i_eq q; omega)) (fun _ => ?_)
                refine r_aload rfl rfl ?_
                refine r_iload rfl rfl ?_
                refine r_cv (y := 166) (ra := [.int (nI t10)]) (rest := []) rfl ⟨⟨rfl, rfl⟩, rfl, by decide⟩ (fx_t30 fx) rfl rfl (Nat.le_of_ble_eq_true rfl) ?_
                refine in_166 (Nat.le_of_ble_eq_true rfl) ?_
                show WR _ cd_166 0 [some (.ref (ad 30)), some (.int (nI t10))] [] (sI (sI h (ad 0) 6 0) (ad 0) 6 (-14)) _
                refine r_iload rfl rfl ?_
                refine r_ic (x := (-1)) rfl rfl ?_
                refine r_icmp_ne (tg := 9) rfl rfl (fun _ => ?_) (fun q => False.elim (by have : (nI t10).toInt = ((t10 : Nat) : Int) := nI_toInt (by omega); have : (-1 : Int32).toInt = -1 := rfl; have := i_eq q; omega))
                refine r_iload rfl rfl ?_
                refine r_ic (x := 1000) rfl rfl ?_
                refine r_icmp_lt (tg := 21) rfl rfl (fun _ => ?_) (fun q => False.elim (by have : (nI t10).toInt = ((t10 : Nat) : Int) := nI_toInt (by omega); have : (1000 : Int32).toInt = 1000 := rfl; have := i_nlt q; omega))
                refine r_aload rfl rfl ?_
                refine r_getA (b := ad 33) rfl ⟨rfl, rfl, rfl⟩ (fx_t30 fx) (fx_r30_2 fx) ?_
                refine r_iload rfl rfl ?_
                refine r_iaload rfl (.inl (fx_t33 fx)) (vp_ct (fx_n33 fx) (vp_in_nI (by omega) (by omega))) ?_
                refine WR_tI (congrArg (hI (sI (sI h (ad 0) 6 0) (ad 0) 6 (-14)) (ad 33)) ((nI_clamp (by omega)) : _ = t10)) ?_
                refine WR_tI (y := nI ln10) (Eq.trans (I_ne (fx_ne fx (by decide))) (Eq.trans (I_ne (fx_ne fx (by decide))) l2_10)) ?_
                refine r_iret rfl ?_
                show WR _ cd_168 10 [some (.ref (ad 30)), some (.int (nI t10)), some (.int 9), some (.int i)] [.int (nI ln10)] (sI (sI h (ad 0) 6 0) (ad 0) 6 (-14)) _
                refine r_iload rfl rfl ?_
                refine r_icmp_eq (tg := 18) rfl rfl (fun q => False.elim (by have : (nI ln10).toInt = ((ln10 : Nat) : Int) := nI_toInt (by omega); have : (9 : Int32).toInt = 9 := rfl; have := i_eq q; omega)) (fun _ => ?_)
                refine r_ic (x := 4) rfl rfl ?_
                refine r_goto (tg := 50) rfl rfl ?_
                refine r_iret rfl ?_
                show WR _ cd_178 54 [some (.ref (ad 30)), some (.int c), some (.int i), some (.int k), some (.int d), none, none] [.int 4] (sI (sI h (ad 0) 6 0) (ad 0) 6 (-14)) _
                refine r_istore (lv' := [some (.ref (ad 30)), some (.int c), some (.int i), some (.int k), some (.int d), some (.int 4), none]) rfl (Nat.le_of_ble_eq_true rfl) rfl ?_
                refine r_iload rfl rfl ?_
                refine r_if_le (tg := 68) rfl rfl (fun q => absurd q (by decide)) (fun _ => ?_)
                refine r_aload rfl rfl ?_
                refine r_iload rfl rfl ?_
                refine r_cv (y := 156) (ra := [.int 4]) (rest := []) rfl ⟨⟨rfl, rfl⟩, rfl, by decide⟩ (fx_t30 fx) rfl rfl (Nat.le_of_ble_eq_true rfl) ?_
                refine in_156 (Nat.le_of_ble_eq_true rfl) ?_
                show WR _ cd_156 0 [some (.ref (ad 30)), some (.int 4)] [] (sI (sI h (ad 0) 6 0) (ad 0) 6 (-14)) _
                refine r_aload rfl rfl ?_
                refine r_ic (x := (-10)) rfl rfl ?_
                refine r_iload rfl rfl ?_
                refine r_isub rfl ?_
                refine WR_tI (y := (-14)) rfl ?_
                refine r_cv (y := 154) (ra := [.int (-14)]) (rest := []) rfl ⟨⟨rfl, rfl⟩, rfl, by decide⟩ (fx_t30 fx) rfl rfl (Nat.le_of_ble_eq_true rfl) ?_
                refine in_154 (Nat.le_of_ble_eq_true rfl) ?_
                show WR _ cd_154 0 [some (.ref (ad 30)), some (.int (-14))] [] (sI (sI h (ad 0) 6 0) (ad 0) 6 (-14)) _
                refine r_aload rfl rfl ?_
                refine r_iload rfl rfl ?_
                refine r_ic (x := (-1)) rfl rfl ?_
                refine r_icmp_ge (tg := 10) rfl rfl (fun q => absurd q (by decide)) (fun _ => ?_)
                refine r_iload rfl rfl ?_
                refine r_goto (tg := 11) rfl rfl ?_
                refine r_putI rfl ⟨rfl, rfl, rfl⟩ (fx_t30 fx) ?_
                have fx : FX n ad sa z0 (sI (sI (sI h (ad 0) 6 0) (ad 0) 6 (-14)) (ad 30) 11 (-14)) := (FX.sI fx)
                refine r_iload rfl rfl ?_
                refine r_iret rfl ?_
                show WR _ cd_156 8 [some (.ref (ad 30)), some (.int 4)] [.int (-14)] (sI (sI (sI h (ad 0) 6 0) (ad 0) 6 (-14)) (ad 30) 11 (-14)) _
                refine r_iret rfl ?_
                show WR _ cd_178 67 [some (.ref (ad 30)), some (.int c), some (.int i), some (.int k), some (.int d), some (.int 4), none] [.int (-14)] (sI (sI (sI h (ad 0) 6 0) (ad 0) 6 (-14)) (ad 30) 11 (-14)) _
                refine r_iret rfl ?_
                exact ⟨rfl, Rel.why r (((Chg.rf.sI (fx_j fx) (.inl (by decide))).sI (fx_j fx) (.inl (by decide))).sI (fx_j fx) (.inl (by decide))) ⟨rfl, by decide⟩ (Eq.trans (Eq.trans (I_ne (fx_ne fx (by decide))) I_eq) (Eq.symm I_eq)), (by (try simp only [hZ_sI, hZ_sL, hZ_sD, hZ_sR]); omega), (by (try simp only [hU_sI, hU_sL, hU_sD, hU_sR]); omega)⟩
              · refine r_aaloadA (b := mid t10) rfl (isQ_of (fx_t1 fx) (by decide)) (vp_ct (fx_n1 fx) (vp_in_nI (by have := i_nlt c1; have := i_rg c; have : (0 : Int32).toInt = 0 := rfl; have := i_eq ek2; have : (nI k2).toInt = ((k2 : Nat) : Int) := nI_toInt (by omega); have := i_nle c3; have : (24 : Int32).toInt = 24 := rfl; omega) (by omega))) (Eq.trans (congrArg (hR (sI h (ad 0) 6 0) (ad 1)) ((nI_clamp (by have := i_nlt c1; have := i_rg c; have : (0 : Int32).toInt = 0 := rfl; have := i_eq ek2; have : (nI k2).toInt = ((k2 : Nat) : Int) := nI_toInt (by omega); have := i_nle c3; have : (24 : Int32).toInt = 24 := rfl; omega)) : _ = k2)) (Eq.trans R_oI w10)) ?_
                refine r_astore (lv' := [some (.ref (ad 0)), some (.int (nI k2)), some (.int 9), some (.ref (mid t10)), none]) rfl (Nat.le_of_ble_eq_true rfl) rfl ?_
                refine r_aload rfl rfl ?_
                refine r_instY rfl (by decide) tg10 ?_
                refine r_if_eq (tg := 32) rfl rfl (fun q => absurd q (by decide)) (fun _ => ?_)
                refine r_aload rfl rfl ?_
                refine r_cast rfl tg10 ?_
                refine r_astore (lv' := [some (.ref (ad 0)), some (.int (nI k2)), some (.int 9), some (.ref (mid t10)), some (.ref (mid t10))]) rfl (Nat.le_of_ble_eq_true rfl) rfl ?_
                refine r_aload rfl rfl ?_
                refine r_cv (y := 28) (ra := []) (rest := []) rfl ⟨⟨rfl, rfl⟩, rfl, by decide⟩ tg10 rfl rfl (Nat.le_of_ble_eq_true rfl) ?_
                refine in_28 (Nat.le_of_ble_eq_true rfl) ?_
                show WR _ cd_28 0 [some (.ref (mid t10))] [] (sI h (ad 0) 6 0) _
                refine r_aload rfl rfl ?_
                refine r_getI rfl ⟨rfl, rfl, rfl⟩ tg10 ?_
                refine WR_tI (y := (-1)) (Eq.trans (I_ne (dy_ad fx (.inl (by decide)) dz10)) k1_10) ?_
                refine r_ic (x := (-1)) rfl rfl ?_
                refine r_icmp_ne (tg := 13) rfl rfl (fun q => absurd q (by decide)) (fun _ => ?_)
                refine r_ic (x := 8) rfl rfl ?_
                refine r_goto (tg := 15) rfl rfl ?_
                refine r_iret rfl ?_
                show WR _ cd_43 25 [some (.ref (ad 0)), some (.int (nI k2)), some (.int 9), some (.ref (mid t10)), some (.ref (mid t10))] [.int 8] (sI h (ad 0) 6 0) _
                refine r_iload rfl rfl ?_
                refine r_icmp_ne (tg := 32) rfl rfl (fun _ => ?_) (fun q => absurd q (by decide))
                refine r_aload rfl rfl ?_
                refine r_aload rfl rfl ?_
                refine r_ifnonnullA (tg := 42) rfl rfl ?_
                refine r_ic (x := (-14)) rfl rfl ?_
                refine r_putI rfl ⟨rfl, rfl, rfl⟩ (fx_t0 fx) ?_
                have fx : FX n ad sa z0 (sI (sI h (ad 0) 6 0) (ad 0) 6 (-14)) := (FX.sI fx)
                refine r_null rfl ?_
                refine r_aret0 rfl ?_
                show WR _ cd_50 48 [some (.ref (ad 0)), some (.int c), some (.int i), some (.int k), some (.int d), none, none, none] [.null] (sI (sI h (ad 0) 6 0) (ad 0) 6 (-14)) _
                refine r_astore0 (lv' := [some (.ref (ad 0)), some (.int c), some (.int i), some (.int k), some (.int d), some (.null), none, none]) rfl (Nat.le_of_ble_eq_true rfl) rfl ?_
                refine r_aload0 rfl rfl ?_
                refine r_ifnonnullN (tg := 60) rfl rfl ?_
                refine r_aload rfl rfl ?_
                refine r_getI rfl ⟨rfl, rfl, rfl⟩ (fx_t0 fx) ?_
                refine WR_tI (y := (-14)) I_eq ?_
                refine r_iret rfl ?_
                show EV _ 178 [.ref (ad 30), .int c, .int i, .int k, .int d] (sI (sI h (ad 0) 6 0) (ad 0) 6 (-14)) _
                refine in_178 (Nat.le_of_ble_eq_true rfl) ?_
                show WR _ cd_178 0 [some (.ref (ad 30)), some (.int c), some (.int i), some (.int k), some (.int d), none, none] [] (sI (sI h (ad 0) 6 0) (ad 0) 6 (-14)) _
                refine r_iload rfl rfl ?_
                refine WR_tI (y := nI k2) ek2 ?_
                refine r_cs (y := 153) (ra := [.int (nI k2)]) (rest := []) rfl ⟨⟨rfl, rfl⟩, by decide⟩ rfl rfl (Nat.le_of_ble_eq_true rfl) ?_
                refine in_153 (Nat.le_of_ble_eq_true rfl) ?_
                show WR _ cd_153 0 [some (.int (nI k2))] [] (sI (sI h (ad 0) 6 0) (ad 0) 6 (-14)) _
                refine r_iload rfl rfl ?_
                refine r_if_lt (tg := 14) rfl rfl (fun q => False.elim (by have := i_nlt c1; have := i_rg c; have : (0 : Int32).toInt = 0 := rfl; have := i_eq ek2; have : (nI k2).toInt = ((k2 : Nat) : Int) := nI_toInt (by omega); have := i_nle c3; have : (24 : Int32).toInt = 24 := rfl; have := i_lt q; omega)) (fun _ => ?_)
                refine r_iload rfl rfl ?_
                refine r_ic (x := 24) rfl rfl ?_
                refine r_icmp_ge (tg := 14) rfl rfl (fun q => False.elim (by have := i_nlt c1; have := i_rg c; have : (0 : Int32).toInt = 0 := rfl; have := i_eq ek2; have : (nI k2).toInt = ((k2 : Nat) : Int) := nI_toInt (by omega); have := i_nle c3; have : (24 : Int32).toInt = 24 := rfl; have := i_le q; omega)) (fun _ => ?_)
                refine r_ic (x := 1) rfl rfl ?_
                refine r_goto (tg := 15) rfl rfl ?_
                refine r_zret rfl (.inr rfl) ?_
                show WR _ cd_178 4 [some (.ref (ad 30)), some (.int c), some (.int i), some (.int k), some (.int d), none, none] [.int 1] (sI (sI h (ad 0) 6 0) (ad 0) 6 (-14)) _
                refine r_if_eq (tg := 15) rfl rfl (fun q => absurd q (by decide)) (fun _ => ?_)
                refine r_iload rfl rfl ?_
                refine WR_tI (y := nI k5) ek5 ?_
                refine r_cs (y := 153) (ra := [.int (nI k5)]) (rest := []) rfl ⟨⟨rfl, rfl⟩, by decide⟩ rfl rfl (Nat.le_of_ble_eq_true rfl) ?_
                refine in_153 (Nat.le_of_ble_eq_true rfl) ?_
                show WR _ cd_153 0 [some (.int (nI k5))] [] (sI (sI h (ad 0) 6 0) (ad 0) 6 (-14)) _
                refine r_iload rfl rfl ?_
                refine r_if_lt (tg := 14) rfl rfl (fun q => False.elim (by have := i_nlt c4; have := i_rg d; have : (0 : Int32).toInt = 0 := rfl; have := i_eq ek5; have : (nI k5).toInt = ((k5 : Nat) : Int) := nI_toInt (by omega); have := i_nle c6; have : (24 : Int32).toInt = 24 := rfl; have := i_lt q; omega)) (fun _ => ?_)
                refine r_iload rfl rfl ?_
                refine r_ic (x := 24) rfl rfl ?_
                refine r_icmp_ge (tg := 14) rfl rfl (fun q => False.elim (by have := i_nlt c4; have := i_rg d; have : (0 : Int32).toInt = 0 := rfl; have := i_eq ek5; have : (nI k5).toInt = ((k5 : Nat) : Int) := nI_toInt (by omega); have := i_nle c6; have : (24 : Int32).toInt = 24 := rfl; have := i_le q; omega)) (fun _ => ?_)
                refine r_ic (x := 1) rfl rfl ?_
                refine r_goto (tg := 15) rfl rfl ?_
                refine r_zret rfl (.inr rfl) ?_
                show WR _ cd_178 12 [some (.ref (ad 30)), some (.int c), some (.int i), some (.int k), some (.int d), none, none] [.int 1] (sI (sI h (ad 0) 6 0) (ad 0) 6 (-14)) _
                refine r_if_ne (tg := 22) rfl rfl (fun _ => ?_) (fun q => absurd q (by decide))
                refine r_iload rfl rfl ?_
                refine WR_tI (y := nI k8) ek8 ?_
                refine r_i2l rfl ?_
                refine WR_tL (y := lN k8) (nI_l (by have := i_nlt c7; have := i_rg k; have : (0 : Int32).toInt = 0 := rfl; have := i_eq ek8; have : (nI k8).toInt = ((k8 : Nat) : Int) := nI_toInt (by omega); have := i_nlt c9; have : (7 : Int32).toInt = 7 := rfl; omega)) ?_
                refine r_lc (x := 0) rfl rfl ?_
                refine r_ldc (x := .long 7) rfl rfl ?_
                refine r_cs (y := 155) (ra := [.long 7, .long 0, .long (lN k8)]) (rest := []) rfl ⟨⟨rfl, rfl⟩, by decide⟩ rfl rfl (Nat.le_of_ble_eq_true rfl) ?_
                refine in_155 (Nat.le_of_ble_eq_true rfl) ?_
                show WR _ cd_155 0 [some (.long (lN k8)), none, some (.long 0), none, some (.long 7), none] [] (sI (sI h (ad 0) 6 0) (ad 0) 6 (-14)) _
                refine r_lload rfl rfl ?_
                refine r_lload rfl rfl ?_
                refine r_lif_lt (tg := 17) rfl rfl rfl (fun q => False.elim (by have := i_nlt c7; have := i_rg k; have : (0 : Int32).toInt = 0 := rfl; have := i_eq ek8; have : (nI k8).toInt = ((k8 : Nat) : Int) := nI_toInt (by omega); have := i_nlt c9; have : (7 : Int32).toInt = 7 := rfl; have : (lN k8).toInt = ((k8 : Nat) : Int) := lN_toInt (by omega); have : (0 : Int64).toInt = 0 := rfl; have := l_lt q; omega)) (fun _ => ?_)
                refine r_lload rfl rfl ?_
                refine r_lload rfl rfl ?_
                refine r_lif_gt (tg := 17) rfl rfl rfl (fun q => False.elim (by have := i_nlt c7; have := i_rg k; have : (0 : Int32).toInt = 0 := rfl; have := i_eq ek8; have : (nI k8).toInt = ((k8 : Nat) : Int) := nI_toInt (by omega); have := i_nlt c9; have : (7 : Int32).toInt = 7 := rfl; have : (lN k8).toInt = ((k8 : Nat) : Int) := lN_toInt (by omega); have : (7 : Int64).toInt = 7 := rfl; have := l_lt q; omega)) (fun _ => ?_)
                refine r_ic (x := 1) rfl rfl ?_
                refine r_goto (tg := 18) rfl rfl ?_
                refine r_zret rfl (.inr rfl) ?_
                show WR _ cd_178 31 [some (.ref (ad 30)), some (.int c), some (.int i), some (.int k), some (.int d), none, none] [.int 1] (sI (sI h (ad 0) 6 0) (ad 0) 6 (-14)) _
                refine r_if_ne (tg := 41) rfl rfl (fun _ => ?_) (fun q => absurd q (by decide))
                refine r_aload rfl rfl ?_
                refine r_aload rfl rfl ?_
                refine r_getA (b := ad 31) rfl ⟨rfl, rfl, rfl⟩ (fx_t30 fx) (fx_r30_0 fx) ?_
                refine r_iload rfl rfl ?_
                refine WR_tI (y := nI k2) ek2 ?_
                refine r_iaload rfl (.inl (fx_t31 fx)) (vp_ct (fx_n31 fx) (vp_in_nI (by have := i_nlt c1; have := i_rg c; have : (0 : Int32).toInt = 0 := rfl; have := i_eq ek2; have : (nI k2).toInt = ((k2 : Nat) : Int) := nI_toInt (by omega); have := i_nle c3; have : (24 : Int32).toInt = 24 := rfl; omega) (by omega))) ?_
                refine WR_tI (congrArg (hI (sI (sI h (ad 0) 6 0) (ad 0) 6 (-14)) (ad 31)) ((nI_clamp (by have := i_nlt c1; have := i_rg c; have : (0 : Int32).toInt = 0 := rfl; have := i_eq ek2; have : (nI k2).toInt = ((k2 : Nat) : Int) := nI_toInt (by omega); have := i_nle c3; have : (24 : Int32).toInt = 24 := rfl; omega)) : _ = k2)) ?_
                refine WR_tI (y := nI t10) (Eq.trans (I_ne (fx_ne fx (by decide))) (Eq.trans (I_ne (fx_ne fx (by decide))) v10)) ?_
                refine r_ic (x := 9) rfl rfl ?_
                refine r_iload rfl rfl ?_
                refine r_cv (y := 168) (ra := [.int i, .int 9, .int (nI t10)]) (rest := []) rfl ⟨⟨rfl, rfl⟩, rfl, by decide⟩ (fx_t30 fx) rfl rfl (Nat.le_of_ble_eq_true rfl) ?_
                refine in_168 (Nat.le_of_ble_eq_true rfl) ?_
                show WR _ cd_168 0 [some (.ref (ad 30)), some (.int (nI t10)), some (.int 9), some (.int i)] [] (sI (sI h (ad 0) 6 0) (ad 0) 6 (-14)) _
                refine r_iload rfl rfl ?_
                refine r_ic (x := (-1)) rfl rfl ?_
                refine r_icmp_eq (tg := 18) rfl rfl (fun q => False.elim (by have : (nI t10).toInt = ((t10 : Nat) : Int) := nI_toInt (by omega); have : (-1 : Int32).toInt = -1 := rfl; have := i_eq q; omega)) (fun _ => ?_)
                refine r_aload rfl rfl ?_
                refine r_iload rfl rfl ?_
                refine r_cv (y := 166) (ra := [.int (nI t10)]) (rest := []) rfl ⟨⟨rfl, rfl⟩, rfl, by decide⟩ (fx_t30 fx) rfl rfl (Nat.le_of_ble_eq_true rfl) ?_
                refine in_166 (Nat.le_of_ble_eq_true rfl) ?_
                show WR _ cd_166 0 [some (.ref (ad 30)), some (.int (nI t10))] [] (sI (sI h (ad 0) 6 0) (ad 0) 6 (-14)) _
                refine r_iload rfl rfl ?_
                refine r_ic (x := (-1)) rfl rfl ?_
                refine r_icmp_ne (tg := 9) rfl rfl (fun _ => ?_) (fun q => False.elim (by have : (nI t10).toInt = ((t10 : Nat) : Int) := nI_toInt (by omega); have : (-1 : Int32).toInt = -1 := rfl; have := i_eq q; omega))
                refine r_iload rfl rfl ?_
                refine r_ic (x := 1000) rfl rfl ?_
                refine r_icmp_lt (tg := 21) rfl rfl (fun _ => ?_) (fun q => False.elim (by have : (nI t10).toInt = ((t10 : Nat) : Int) := nI_toInt (by omega); have : (1000 : Int32).toInt = 1000 := rfl; have := i_nlt q; omega))
                refine r_aload rfl rfl ?_
                refine r_getA (b := ad 33) rfl ⟨rfl, rfl, rfl⟩ (fx_t30 fx) (fx_r30_2 fx) ?_
                refine r_iload rfl rfl ?_
                refine r_iaload rfl (.inl (fx_t33 fx)) (vp_ct (fx_n33 fx) (vp_in_nI (by omega) (by omega))) ?_
                refine WR_tI (congrArg (hI (sI (sI h (ad 0) 6 0) (ad 0) 6 (-14)) (ad 33)) ((nI_clamp (by omega)) : _ = t10)) ?_
                refine WR_tI (y := 8) (Eq.trans (I_ne (fx_ne fx (by decide))) (Eq.trans (I_ne (fx_ne fx (by decide))) l2_10)) ?_
                refine r_iret rfl ?_
                show WR _ cd_168 10 [some (.ref (ad 30)), some (.int (nI t10)), some (.int 9), some (.int i)] [.int 8] (sI (sI h (ad 0) 6 0) (ad 0) 6 (-14)) _
                refine r_iload rfl rfl ?_
                refine r_icmp_eq (tg := 18) rfl rfl (fun q => absurd q (by decide)) (fun _ => ?_)
                refine r_ic (x := 4) rfl rfl ?_
                refine r_goto (tg := 50) rfl rfl ?_
                refine r_iret rfl ?_
                show WR _ cd_178 54 [some (.ref (ad 30)), some (.int c), some (.int i), some (.int k), some (.int d), none, none] [.int 4] (sI (sI h (ad 0) 6 0) (ad 0) 6 (-14)) _
                refine r_istore (lv' := [some (.ref (ad 30)), some (.int c), some (.int i), some (.int k), some (.int d), some (.int 4), none]) rfl (Nat.le_of_ble_eq_true rfl) rfl ?_
                refine r_iload rfl rfl ?_
                refine r_if_le (tg := 68) rfl rfl (fun q => absurd q (by decide)) (fun _ => ?_)
                refine r_aload rfl rfl ?_
                refine r_iload rfl rfl ?_
                refine r_cv (y := 156) (ra := [.int 4]) (rest := []) rfl ⟨⟨rfl, rfl⟩, rfl, by decide⟩ (fx_t30 fx) rfl rfl (Nat.le_of_ble_eq_true rfl) ?_
                refine in_156 (Nat.le_of_ble_eq_true rfl) ?_
                show WR _ cd_156 0 [some (.ref (ad 30)), some (.int 4)] [] (sI (sI h (ad 0) 6 0) (ad 0) 6 (-14)) _
                refine r_aload rfl rfl ?_
                refine r_ic (x := (-10)) rfl rfl ?_
                refine r_iload rfl rfl ?_
                refine r_isub rfl ?_
                refine WR_tI (y := (-14)) rfl ?_
                refine r_cv (y := 154) (ra := [.int (-14)]) (rest := []) rfl ⟨⟨rfl, rfl⟩, rfl, by decide⟩ (fx_t30 fx) rfl rfl (Nat.le_of_ble_eq_true rfl) ?_
                refine in_154 (Nat.le_of_ble_eq_true rfl) ?_
                show WR _ cd_154 0 [some (.ref (ad 30)), some (.int (-14))] [] (sI (sI h (ad 0) 6 0) (ad 0) 6 (-14)) _
                refine r_aload rfl rfl ?_
                refine r_iload rfl rfl ?_
                refine r_ic (x := (-1)) rfl rfl ?_
                refine r_icmp_ge (tg := 10) rfl rfl (fun q => absurd q (by decide)) (fun _ => ?_)
                refine r_iload rfl rfl ?_
                refine r_goto (tg := 11) rfl rfl ?_
                refine r_putI rfl ⟨rfl, rfl, rfl⟩ (fx_t30 fx) ?_
                have fx : FX n ad sa z0 (sI (sI (sI h (ad 0) 6 0) (ad 0) 6 (-14)) (ad 30) 11 (-14)) := (FX.sI fx)
                refine r_iload rfl rfl ?_
                refine r_iret rfl ?_
                show WR _ cd_156 8 [some (.ref (ad 30)), some (.int 4)] [.int (-14)] (sI (sI (sI h (ad 0) 6 0) (ad 0) 6 (-14)) (ad 30) 11 (-14)) _
                refine r_iret rfl ?_
                show WR _ cd_178 67 [some (.ref (ad 30)), some (.int c), some (.int i), some (.int k), some (.int d), some (.int 4), none] [.int (-14)] (sI (sI (sI h (ad 0) 6 0) (ad 0) 6 (-14)) (ad 30) 11 (-14)) _
                refine r_iret rfl ?_
                exact ⟨rfl, Rel.why r (((Chg.rf.sI (fx_j fx) (.inl (by decide))).sI (fx_j fx) (.inl (by decide))).sI (fx_j fx) (.inl (by decide))) ⟨rfl, by decide⟩ (Eq.trans (Eq.trans (I_ne (fx_ne fx (by decide))) I_eq) (Eq.symm I_eq)), (by (try simp only [hZ_sI, hZ_sL, hZ_sD, hZ_sR]); omega), (by (try simp only [hU_sI, hU_sL, hU_sD, hU_sR]); omega)⟩
              · refine r_aaloadA (b := mid t10) rfl (isQ_of (fx_t1 fx) (by decide)) (vp_ct (fx_n1 fx) (vp_in_nI (by have := i_nlt c1; have := i_rg c; have : (0 : Int32).toInt = 0 := rfl; have := i_eq ek2; have : (nI k2).toInt = ((k2 : Nat) : Int) := nI_toInt (by omega); have := i_nle c3; have : (24 : Int32).toInt = 24 := rfl; omega) (by omega))) (Eq.trans (congrArg (hR (sI h (ad 0) 6 0) (ad 1)) ((nI_clamp (by have := i_nlt c1; have := i_rg c; have : (0 : Int32).toInt = 0 := rfl; have := i_eq ek2; have : (nI k2).toInt = ((k2 : Nat) : Int) := nI_toInt (by omega); have := i_nle c3; have : (24 : Int32).toInt = 24 := rfl; omega)) : _ = k2)) (Eq.trans R_oI w10)) ?_
                refine r_astore (lv' := [some (.ref (ad 0)), some (.int (nI k2)), some (.int 9), some (.ref (mid t10)), none]) rfl (Nat.le_of_ble_eq_true rfl) rfl ?_
                refine r_aload rfl rfl ?_
                refine r_instY rfl (by decide) tg10 ?_
                refine r_if_eq (tg := 32) rfl rfl (fun q => absurd q (by decide)) (fun _ => ?_)
                refine r_aload rfl rfl ?_
                refine r_cast rfl tg10 ?_
                refine r_astore (lv' := [some (.ref (ad 0)), some (.int (nI k2)), some (.int 9), some (.ref (mid t10)), some (.ref (mid t10))]) rfl (Nat.le_of_ble_eq_true rfl) rfl ?_
                refine r_aload rfl rfl ?_
                refine r_cv (y := 28) (ra := []) (rest := []) rfl ⟨⟨rfl, rfl⟩, rfl, by decide⟩ tg10 rfl rfl (Nat.le_of_ble_eq_true rfl) ?_
                refine in_28 (Nat.le_of_ble_eq_true rfl) ?_
                show WR _ cd_28 0 [some (.ref (mid t10))] [] (sI h (ad 0) 6 0) _
                refine r_aload rfl rfl ?_
                refine r_getI rfl ⟨rfl, rfl, rfl⟩ tg10 ?_
                refine WR_tI (y := nI kd10) (Eq.trans (I_ne (dy_ad fx (.inl (by decide)) dz10)) k1_10) ?_
                refine r_ic (x := (-1)) rfl rfl ?_
                refine r_icmp_ne (tg := 13) rfl rfl (fun _ => ?_) (fun q => False.elim (by have : (nI kd10).toInt = ((kd10 : Nat) : Int) := nI_toInt (by omega); have : (-1 : Int32).toInt = -1 := rfl; have := i_eq q; omega))
                refine r_ic (x := 9) rfl rfl ?_
                refine r_iret rfl ?_
                show WR _ cd_43 25 [some (.ref (ad 0)), some (.int (nI k2)), some (.int 9), some (.ref (mid t10)), some (.ref (mid t10))] [.int 9] (sI h (ad 0) 6 0) _
                refine r_iload rfl rfl ?_
                refine r_icmp_ne (tg := 32) rfl rfl (fun q => absurd q (by decide)) (fun _ => ?_)
                refine r_aload rfl rfl ?_
                refine r_aret rfl ?_
                show WR _ cd_50 48 [some (.ref (ad 0)), some (.int c), some (.int i), some (.int k), some (.int d), none, none, none] [.ref (mid t10)] (sI h (ad 0) 6 0) _
                refine r_astore (lv' := [some (.ref (ad 0)), some (.int c), some (.int i), some (.int k), some (.int d), some (.ref (mid t10)), none, none]) rfl (Nat.le_of_ble_eq_true rfl) rfl ?_
                refine r_aload rfl rfl ?_
                refine r_ifnonnullA (tg := 60) rfl rfl ?_
                refine r_aload rfl rfl ?_
                refine r_iload rfl rfl ?_
                refine r_ic (x := 1) rfl rfl ?_
                refine r_cv (y := 32) (ra := [.int 1, .int i]) (rest := []) rfl ⟨⟨rfl, rfl⟩, rfl, by decide⟩ tg10 rfl rfl (Nat.le_of_ble_eq_true rfl) ?_
                refine in_32 (Nat.le_of_ble_eq_true rfl) ?_
                show WR _ cd_32 0 [some (.ref (mid t10)), some (.int i), some (.int 1)] [] (sI h (ad 0) 6 0) _
                refine r_iload rfl rfl ?_
                refine r_if_lt (tg := 22) rfl rfl (fun c11 => ?_) (fun c11 => ?_)
                · refine r_ic (x := 0) rfl rfl ?_
                  refine r_zret rfl (.inl rfl) ?_
                  show WR _ cd_50 67 [some (.ref (ad 0)), some (.int c), some (.int i), some (.int k), some (.int d), some (.ref (mid t10)), none, none] [.int 0] (sI h (ad 0) 6 0) _
                  refine r_if_ne (tg := 77) rfl rfl (fun q => absurd q (by decide)) (fun _ => ?_)
                  refine r_aload rfl rfl ?_
                  refine r_ic (x := (-12)) rfl rfl ?_
                  refine r_cv (y := 13) (ra := [.int (-12)]) (rest := []) rfl ⟨⟨rfl, rfl⟩, rfl, by decide⟩ (fx_t0 fx) rfl rfl (Nat.le_of_ble_eq_true rfl) ?_
                  refine in_13 (Nat.le_of_ble_eq_true rfl) ?_
                  show WR _ cd_13 0 [some (.ref (ad 0)), some (.int (-12))] [] (sI h (ad 0) 6 0) _
                  refine r_aload rfl rfl ?_
                  refine r_iload rfl rfl ?_
                  refine r_putI rfl ⟨rfl, rfl, rfl⟩ (fx_t0 fx) ?_
                  have fx : FX n ad sa z0 (sI (sI h (ad 0) 6 0) (ad 0) 6 (-12)) := (FX.sI fx)
                  refine r_iload rfl rfl ?_
                  refine r_iret rfl ?_
                  show WR _ cd_50 76 [some (.ref (ad 0)), some (.int c), some (.int i), some (.int k), some (.int d), some (.ref (mid t10)), none, none] [.int (-12)] (sI (sI h (ad 0) 6 0) (ad 0) 6 (-12)) _
                  refine r_iret rfl ?_
                  show EV _ 178 [.ref (ad 30), .int c, .int i, .int k, .int d] (sI (sI h (ad 0) 6 0) (ad 0) 6 (-12)) _
                  refine in_178 (Nat.le_of_ble_eq_true rfl) ?_
                  show WR _ cd_178 0 [some (.ref (ad 30)), some (.int c), some (.int i), some (.int k), some (.int d), none, none] [] (sI (sI h (ad 0) 6 0) (ad 0) 6 (-12)) _
                  refine r_iload rfl rfl ?_
                  refine WR_tI (y := nI k2) ek2 ?_
                  refine r_cs (y := 153) (ra := [.int (nI k2)]) (rest := []) rfl ⟨⟨rfl, rfl⟩, by decide⟩ rfl rfl (Nat.le_of_ble_eq_true rfl) ?_
                  refine in_153 (Nat.le_of_ble_eq_true rfl) ?_
                  show WR _ cd_153 0 [some (.int (nI k2))] [] (sI (sI h (ad 0) 6 0) (ad 0) 6 (-12)) _
                  refine r_iload rfl rfl ?_
                  refine r_if_lt (tg := 14) rfl rfl (fun q => False.elim (by have := i_nlt c1; have := i_rg c; have : (0 : Int32).toInt = 0 := rfl; have := i_eq ek2; have : (nI k2).toInt = ((k2 : Nat) : Int) := nI_toInt (by omega); have := i_nle c3; have : (24 : Int32).toInt = 24 := rfl; have := i_lt q; omega)) (fun _ => ?_)
                  refine r_iload rfl rfl ?_
                  refine r_ic (x := 24) rfl rfl ?_
                  refine r_icmp_ge (tg := 14) rfl rfl (fun q => False.elim (by have := i_nlt c1; have := i_rg c; have : (0 : Int32).toInt = 0 := rfl; have := i_eq ek2; have : (nI k2).toInt = ((k2 : Nat) : Int) := nI_toInt (by omega); have := i_nle c3; have : (24 : Int32).toInt = 24 := rfl; have := i_le q; omega)) (fun _ => ?_)
                  refine r_ic (x := 1) rfl rfl ?_
                  refine r_goto (tg := 15) rfl rfl ?_
                  refine r_zret rfl (.inr rfl) ?_
                  show WR _ cd_178 4 [some (.ref (ad 30)), some (.int c), some (.int i), some (.int k), some (.int d), none, none] [.int 1] (sI (sI h (ad 0) 6 0) (ad 0) 6 (-12)) _
                  refine r_if_eq (tg := 15) rfl rfl (fun q => absurd q (by decide)) (fun _ => ?_)
                  refine r_iload rfl rfl ?_
                  refine WR_tI (y := nI k5) ek5 ?_
                  refine r_cs (y := 153) (ra := [.int (nI k5)]) (rest := []) rfl ⟨⟨rfl, rfl⟩, by decide⟩ rfl rfl (Nat.le_of_ble_eq_true rfl) ?_
                  refine in_153 (Nat.le_of_ble_eq_true rfl) ?_
                  show WR _ cd_153 0 [some (.int (nI k5))] [] (sI (sI h (ad 0) 6 0) (ad 0) 6 (-12)) _
                  refine r_iload rfl rfl ?_
                  refine r_if_lt (tg := 14) rfl rfl (fun q => False.elim (by have := i_nlt c4; have := i_rg d; have : (0 : Int32).toInt = 0 := rfl; have := i_eq ek5; have : (nI k5).toInt = ((k5 : Nat) : Int) := nI_toInt (by omega); have := i_nle c6; have : (24 : Int32).toInt = 24 := rfl; have := i_lt q; omega)) (fun _ => ?_)
                  refine r_iload rfl rfl ?_
                  refine r_ic (x := 24) rfl rfl ?_
                  refine r_icmp_ge (tg := 14) rfl rfl (fun q => False.elim (by have := i_nlt c4; have := i_rg d; have : (0 : Int32).toInt = 0 := rfl; have := i_eq ek5; have : (nI k5).toInt = ((k5 : Nat) : Int) := nI_toInt (by omega); have := i_nle c6; have : (24 : Int32).toInt = 24 := rfl; have := i_le q; omega)) (fun _ => ?_)
                  refine r_ic (x := 1) rfl rfl ?_
                  refine r_goto (tg := 15) rfl rfl ?_
                  refine r_zret rfl (.inr rfl) ?_
                  show WR _ cd_178 12 [some (.ref (ad 30)), some (.int c), some (.int i), some (.int k), some (.int d), none, none] [.int 1] (sI (sI h (ad 0) 6 0) (ad 0) 6 (-12)) _
                  refine r_if_ne (tg := 22) rfl rfl (fun _ => ?_) (fun q => absurd q (by decide))
                  refine r_iload rfl rfl ?_
                  refine WR_tI (y := nI k8) ek8 ?_
                  refine r_i2l rfl ?_
                  refine WR_tL (y := lN k8) (nI_l (by have := i_nlt c7; have := i_rg k; have : (0 : Int32).toInt = 0 := rfl; have := i_eq ek8; have : (nI k8).toInt = ((k8 : Nat) : Int) := nI_toInt (by omega); have := i_nlt c9; have : (7 : Int32).toInt = 7 := rfl; omega)) ?_
                  refine r_lc (x := 0) rfl rfl ?_
                  refine r_ldc (x := .long 7) rfl rfl ?_
                  refine r_cs (y := 155) (ra := [.long 7, .long 0, .long (lN k8)]) (rest := []) rfl ⟨⟨rfl, rfl⟩, by decide⟩ rfl rfl (Nat.le_of_ble_eq_true rfl) ?_
                  refine in_155 (Nat.le_of_ble_eq_true rfl) ?_
                  show WR _ cd_155 0 [some (.long (lN k8)), none, some (.long 0), none, some (.long 7), none] [] (sI (sI h (ad 0) 6 0) (ad 0) 6 (-12)) _
                  refine r_lload rfl rfl ?_
                  refine r_lload rfl rfl ?_
                  refine r_lif_lt (tg := 17) rfl rfl rfl (fun q => False.elim (by have := i_nlt c7; have := i_rg k; have : (0 : Int32).toInt = 0 := rfl; have := i_eq ek8; have : (nI k8).toInt = ((k8 : Nat) : Int) := nI_toInt (by omega); have := i_nlt c9; have : (7 : Int32).toInt = 7 := rfl; have : (lN k8).toInt = ((k8 : Nat) : Int) := lN_toInt (by omega); have : (0 : Int64).toInt = 0 := rfl; have := l_lt q; omega)) (fun _ => ?_)
                  refine r_lload rfl rfl ?_
                  refine r_lload rfl rfl ?_
                  refine r_lif_gt (tg := 17) rfl rfl rfl (fun q => False.elim (by have := i_nlt c7; have := i_rg k; have : (0 : Int32).toInt = 0 := rfl; have := i_eq ek8; have : (nI k8).toInt = ((k8 : Nat) : Int) := nI_toInt (by omega); have := i_nlt c9; have : (7 : Int32).toInt = 7 := rfl; have : (lN k8).toInt = ((k8 : Nat) : Int) := lN_toInt (by omega); have : (7 : Int64).toInt = 7 := rfl; have := l_lt q; omega)) (fun _ => ?_)
                  refine r_ic (x := 1) rfl rfl ?_
                  refine r_goto (tg := 18) rfl rfl ?_
                  refine r_zret rfl (.inr rfl) ?_
                  show WR _ cd_178 31 [some (.ref (ad 30)), some (.int c), some (.int i), some (.int k), some (.int d), none, none] [.int 1] (sI (sI h (ad 0) 6 0) (ad 0) 6 (-12)) _
                  refine r_if_ne (tg := 41) rfl rfl (fun _ => ?_) (fun q => absurd q (by decide))
                  refine r_aload rfl rfl ?_
                  refine r_aload rfl rfl ?_
                  refine r_getA (b := ad 31) rfl ⟨rfl, rfl, rfl⟩ (fx_t30 fx) (fx_r30_0 fx) ?_
                  refine r_iload rfl rfl ?_
                  refine WR_tI (y := nI k2) ek2 ?_
                  refine r_iaload rfl (.inl (fx_t31 fx)) (vp_ct (fx_n31 fx) (vp_in_nI (by have := i_nlt c1; have := i_rg c; have : (0 : Int32).toInt = 0 := rfl; have := i_eq ek2; have : (nI k2).toInt = ((k2 : Nat) : Int) := nI_toInt (by omega); have := i_nle c3; have : (24 : Int32).toInt = 24 := rfl; omega) (by omega))) ?_
                  refine WR_tI (congrArg (hI (sI (sI h (ad 0) 6 0) (ad 0) 6 (-12)) (ad 31)) ((nI_clamp (by have := i_nlt c1; have := i_rg c; have : (0 : Int32).toInt = 0 := rfl; have := i_eq ek2; have : (nI k2).toInt = ((k2 : Nat) : Int) := nI_toInt (by omega); have := i_nle c3; have : (24 : Int32).toInt = 24 := rfl; omega)) : _ = k2)) ?_
                  refine WR_tI (y := nI t10) (Eq.trans (I_ne (fx_ne fx (by decide))) (Eq.trans (I_ne (fx_ne fx (by decide))) v10)) ?_
                  refine r_ic (x := 9) rfl rfl ?_
                  refine r_iload rfl rfl ?_
                  refine r_cv (y := 168) (ra := [.int i, .int 9, .int (nI t10)]) (rest := []) rfl ⟨⟨rfl, rfl⟩, rfl, by decide⟩ (fx_t30 fx) rfl rfl (Nat.le_of_ble_eq_true rfl) ?_
                  refine in_168 (Nat.le_of_ble_eq_true rfl) ?_
                  show WR _ cd_168 0 [some (.ref (ad 30)), some (.int (nI t10)), some (.int 9), some (.int i)] [] (sI (sI h (ad 0) 6 0) (ad 0) 6 (-12)) _
                  refine r_iload rfl rfl ?_
                  refine r_ic (x := (-1)) rfl rfl ?_
                  refine r_icmp_eq (tg := 18) rfl rfl (fun q => False.elim (by have : (nI t10).toInt = ((t10 : Nat) : Int) := nI_toInt (by omega); have : (-1 : Int32).toInt = -1 := rfl; have := i_eq q; omega)) (fun _ => ?_)
                  refine r_aload rfl rfl ?_
                  refine r_iload rfl rfl ?_
                  refine r_cv (y := 166) (ra := [.int (nI t10)]) (rest := []) rfl ⟨⟨rfl, rfl⟩, rfl, by decide⟩ (fx_t30 fx) rfl rfl (Nat.le_of_ble_eq_true rfl) ?_
                  refine in_166 (Nat.le_of_ble_eq_true rfl) ?_
                  show WR _ cd_166 0 [some (.ref (ad 30)), some (.int (nI t10))] [] (sI (sI h (ad 0) 6 0) (ad 0) 6 (-12)) _
                  refine r_iload rfl rfl ?_
                  refine r_ic (x := (-1)) rfl rfl ?_
                  refine r_icmp_ne (tg := 9) rfl rfl (fun _ => ?_) (fun q => False.elim (by have : (nI t10).toInt = ((t10 : Nat) : Int) := nI_toInt (by omega); have : (-1 : Int32).toInt = -1 := rfl; have := i_eq q; omega))
                  refine r_iload rfl rfl ?_
                  refine r_ic (x := 1000) rfl rfl ?_
                  refine r_icmp_lt (tg := 21) rfl rfl (fun _ => ?_) (fun q => False.elim (by have : (nI t10).toInt = ((t10 : Nat) : Int) := nI_toInt (by omega); have : (1000 : Int32).toInt = 1000 := rfl; have := i_nlt q; omega))
                  refine r_aload rfl rfl ?_
                  refine r_getA (b := ad 33) rfl ⟨rfl, rfl, rfl⟩ (fx_t30 fx) (fx_r30_2 fx) ?_
                  refine r_iload rfl rfl ?_
                  refine r_iaload rfl (.inl (fx_t33 fx)) (vp_ct (fx_n33 fx) (vp_in_nI (by omega) (by omega))) ?_
                  refine WR_tI (congrArg (hI (sI (sI h (ad 0) 6 0) (ad 0) 6 (-12)) (ad 33)) ((nI_clamp (by omega)) : _ = t10)) ?_
                  refine WR_tI (y := 9) (Eq.trans (I_ne (fx_ne fx (by decide))) (Eq.trans (I_ne (fx_ne fx (by decide))) l2_10)) ?_
                  refine r_iret rfl ?_
                  show WR _ cd_168 10 [some (.ref (ad 30)), some (.int (nI t10)), some (.int 9), some (.int i)] [.int 9] (sI (sI h (ad 0) 6 0) (ad 0) 6 (-12)) _
                  refine r_iload rfl rfl ?_
                  refine r_icmp_eq (tg := 18) rfl rfl (fun _ => ?_) (fun q => absurd q (by decide))
                  refine r_iload rfl rfl ?_
                  refine r_ic (x := (-1)) rfl rfl ?_
                  refine r_icmp_ne (tg := 27) rfl rfl (fun _ => ?_) (fun q => False.elim (by have : (nI t10).toInt = ((t10 : Nat) : Int) := nI_toInt (by omega); have : (-1 : Int32).toInt = -1 := rfl; have := i_eq q; omega))
                  refine r_iload rfl rfl ?_
                  refine r_i2l rfl ?_
                  refine r_lc (x := 0) rfl rfl ?_
                  refine r_aload rfl rfl ?_
                  refine r_getA (b := ad 35) rfl ⟨rfl, rfl, rfl⟩ (fx_t30 fx) (fx_r30_4 fx) ?_
                  refine r_iload rfl rfl ?_
                  refine r_iaload rfl (.inl (fx_t35 fx)) (vp_ct (fx_n35 fx) (vp_in_nI (by omega) (by omega))) ?_
                  refine WR_tI (congrArg (hI (sI (sI h (ad 0) 6 0) (ad 0) 6 (-12)) (ad 35)) ((nI_clamp (by omega)) : _ = t10)) ?_
                  refine WR_tI (y := nI sz10) (Eq.trans (I_ne (fx_ne fx (by decide))) (Eq.trans (I_ne (fx_ne fx (by decide))) sz_10)) ?_
                  refine r_ic (x := 1) rfl rfl ?_
                  refine r_isub rfl ?_
                  refine r_i2l rfl ?_
                  refine r_cs (y := 155) (ra := [.long (((nI sz10) - 1).toInt64), .long 0, .long i.toInt64]) (rest := []) rfl ⟨⟨rfl, rfl⟩, by decide⟩ rfl rfl (Nat.le_of_ble_eq_true rfl) ?_
                  refine in_155 (Nat.le_of_ble_eq_true rfl) ?_
                  show WR _ cd_155 0 [some (.long i.toInt64), none, some (.long 0), none, some (.long (((nI sz10) - 1).toInt64)), none] [] (sI (sI h (ad 0) 6 0) (ad 0) 6 (-12)) _
                  refine r_lload rfl rfl ?_
                  refine r_lload rfl rfl ?_
                  refine r_lif_lt (tg := 17) rfl rfl rfl (fun _ => ?_) (fun q => False.elim (by have := i_lt c11; have := i_rg i; have : (0 : Int32).toInt = 0 := rfl; have := w_t i; have : (0 : Int64).toInt = 0 := rfl; have := l_nlt q; omega))
                  refine r_ic (x := 0) rfl rfl ?_
                  refine r_zret rfl (.inl rfl) ?_
                  show WR _ cd_168 42 [some (.ref (ad 30)), some (.int (nI t10)), some (.int 9), some (.int i)] [.int 0] (sI (sI h (ad 0) 6 0) (ad 0) 6 (-12)) _
                  refine r_if_ne (tg := 49) rfl rfl (fun q => absurd q (by decide)) (fun _ => ?_)
                  refine r_ic (x := 2) rfl rfl ?_
                  refine r_goto (tg := 50) rfl rfl ?_
                  refine r_iret rfl ?_
                  show WR _ cd_178 54 [some (.ref (ad 30)), some (.int c), some (.int i), some (.int k), some (.int d), none, none] [.int 2] (sI (sI h (ad 0) 6 0) (ad 0) 6 (-12)) _
                  refine r_istore (lv' := [some (.ref (ad 30)), some (.int c), some (.int i), some (.int k), some (.int d), some (.int 2), none]) rfl (Nat.le_of_ble_eq_true rfl) rfl ?_
                  refine r_iload rfl rfl ?_
                  refine r_if_le (tg := 68) rfl rfl (fun q => absurd q (by decide)) (fun _ => ?_)
                  refine r_aload rfl rfl ?_
                  refine r_iload rfl rfl ?_
                  refine r_cv (y := 156) (ra := [.int 2]) (rest := []) rfl ⟨⟨rfl, rfl⟩, rfl, by decide⟩ (fx_t30 fx) rfl rfl (Nat.le_of_ble_eq_true rfl) ?_
                  refine in_156 (Nat.le_of_ble_eq_true rfl) ?_
                  show WR _ cd_156 0 [some (.ref (ad 30)), some (.int 2)] [] (sI (sI h (ad 0) 6 0) (ad 0) 6 (-12)) _
                  refine r_aload rfl rfl ?_
                  refine r_ic (x := (-10)) rfl rfl ?_
                  refine r_iload rfl rfl ?_
                  refine r_isub rfl ?_
                  refine WR_tI (y := (-12)) rfl ?_
                  refine r_cv (y := 154) (ra := [.int (-12)]) (rest := []) rfl ⟨⟨rfl, rfl⟩, rfl, by decide⟩ (fx_t30 fx) rfl rfl (Nat.le_of_ble_eq_true rfl) ?_
                  refine in_154 (Nat.le_of_ble_eq_true rfl) ?_
                  show WR _ cd_154 0 [some (.ref (ad 30)), some (.int (-12))] [] (sI (sI h (ad 0) 6 0) (ad 0) 6 (-12)) _
                  refine r_aload rfl rfl ?_
                  refine r_iload rfl rfl ?_
                  refine r_ic (x := (-1)) rfl rfl ?_
                  refine r_icmp_ge (tg := 10) rfl rfl (fun q => absurd q (by decide)) (fun _ => ?_)
                  refine r_iload rfl rfl ?_
                  refine r_goto (tg := 11) rfl rfl ?_
                  refine r_putI rfl ⟨rfl, rfl, rfl⟩ (fx_t30 fx) ?_
                  have fx : FX n ad sa z0 (sI (sI (sI h (ad 0) 6 0) (ad 0) 6 (-12)) (ad 30) 11 (-12)) := (FX.sI fx)
                  refine r_iload rfl rfl ?_
                  refine r_iret rfl ?_
                  show WR _ cd_156 8 [some (.ref (ad 30)), some (.int 2)] [.int (-12)] (sI (sI (sI h (ad 0) 6 0) (ad 0) 6 (-12)) (ad 30) 11 (-12)) _
                  refine r_iret rfl ?_
                  show WR _ cd_178 67 [some (.ref (ad 30)), some (.int c), some (.int i), some (.int k), some (.int d), some (.int 2), none] [.int (-12)] (sI (sI (sI h (ad 0) 6 0) (ad 0) 6 (-12)) (ad 30) 11 (-12)) _
                  refine r_iret rfl ?_
                  exact ⟨rfl, Rel.why r (((Chg.rf.sI (fx_j fx) (.inl (by decide))).sI (fx_j fx) (.inl (by decide))).sI (fx_j fx) (.inl (by decide))) ⟨rfl, by decide⟩ (Eq.trans (Eq.trans (I_ne (fx_ne fx (by decide))) I_eq) (Eq.symm I_eq)), (by (try simp only [hZ_sI, hZ_sL, hZ_sD, hZ_sR]); omega), (by (try simp only [hU_sI, hU_sL, hU_sD, hU_sR]); omega)⟩
                · refine r_iload rfl rfl ?_
                  refine r_if_lt (tg := 22) rfl rfl (fun q => absurd q (by decide)) (fun _ => ?_)
                  refine r_iload rfl rfl ?_
                  refine r_aload rfl rfl ?_
                  refine r_cw (y := 35) (ra := []) (rest := [.int 1]) rfl ⟨rfl, rfl⟩ (by rw [show hT (sI h (ad 0) 6 0) (mid t10) = 6 from tg10]; rfl) rfl rfl (Nat.le_of_ble_eq_true rfl) ?_
                  refine in_35 (Nat.le_of_ble_eq_true rfl) ?_
                  show WR _ cd_35 0 [some (.ref (mid t10))] [] (sI h (ad 0) 6 0) _
                  refine r_aload rfl rfl ?_
                  refine r_getA (b := mid t10 + 1) rfl ⟨rfl, rfl, rfl⟩ tg10 (Eq.trans R_oI r_10) ?_
                  refine r_alen rfl (isA_of tg2_10 (by decide)) ?_
                  refine WR_tI (y := nI sz10) (congrArg nI n_10) ?_
                  refine r_iret rfl ?_
                  show WR _ cd_32 13 [some (.ref (mid t10)), some (.int i), some (.int 1)] [.int (nI sz10), .int 1] (sI h (ad 0) 6 0) _
                  obtain ⟨k12, hk12, ek12⟩ := ix_of (x := i) (n := 2147483648) (by have := i_nlt c11; have := i_rg i; have : (0 : Int32).toInt = 0 := rfl; omega) (by have := i_nlt c11; have := i_rg i; have : (0 : Int32).toInt = 0 := rfl; omega)
                  refine r_iload rfl rfl ?_
                  refine WR_tI (y := nI k12) ek12 ?_
                  refine r_isub rfl ?_
                  refine r_icmp_gt (tg := 22) rfl rfl (fun c13 => ?_) (fun c13 => ?_)
                  · refine r_ic (x := 0) rfl rfl ?_
                    refine r_zret rfl (.inl rfl) ?_
                    show WR _ cd_50 67 [some (.ref (ad 0)), some (.int c), some (.int i), some (.int k), some (.int d), some (.ref (mid t10)), none, none] [.int 0] (sI h (ad 0) 6 0) _
                    refine r_if_ne (tg := 77) rfl rfl (fun q => absurd q (by decide)) (fun _ => ?_)
                    refine r_aload rfl rfl ?_
                    refine r_ic (x := (-12)) rfl rfl ?_
                    refine r_cv (y := 13) (ra := [.int (-12)]) (rest := []) rfl ⟨⟨rfl, rfl⟩, rfl, by decide⟩ (fx_t0 fx) rfl rfl (Nat.le_of_ble_eq_true rfl) ?_
                    refine in_13 (Nat.le_of_ble_eq_true rfl) ?_
                    show WR _ cd_13 0 [some (.ref (ad 0)), some (.int (-12))] [] (sI h (ad 0) 6 0) _
                    refine r_aload rfl rfl ?_
                    refine r_iload rfl rfl ?_
                    refine r_putI rfl ⟨rfl, rfl, rfl⟩ (fx_t0 fx) ?_
                    have fx : FX n ad sa z0 (sI (sI h (ad 0) 6 0) (ad 0) 6 (-12)) := (FX.sI fx)
                    refine r_iload rfl rfl ?_
                    refine r_iret rfl ?_
                    show WR _ cd_50 76 [some (.ref (ad 0)), some (.int c), some (.int i), some (.int k), some (.int d), some (.ref (mid t10)), none, none] [.int (-12)] (sI (sI h (ad 0) 6 0) (ad 0) 6 (-12)) _
                    refine r_iret rfl ?_
                    show EV _ 178 [.ref (ad 30), .int c, .int i, .int k, .int d] (sI (sI h (ad 0) 6 0) (ad 0) 6 (-12)) _
                    refine in_178 (Nat.le_of_ble_eq_true rfl) ?_
                    show WR _ cd_178 0 [some (.ref (ad 30)), some (.int c), some (.int i), some (.int k), some (.int d), none, none] [] (sI (sI h (ad 0) 6 0) (ad 0) 6 (-12)) _
                    refine r_iload rfl rfl ?_
                    refine WR_tI (y := nI k2) ek2 ?_
                    refine r_cs (y := 153) (ra := [.int (nI k2)]) (rest := []) rfl ⟨⟨rfl, rfl⟩, by decide⟩ rfl rfl (Nat.le_of_ble_eq_true rfl) ?_
                    refine in_153 (Nat.le_of_ble_eq_true rfl) ?_
                    show WR _ cd_153 0 [some (.int (nI k2))] [] (sI (sI h (ad 0) 6 0) (ad 0) 6 (-12)) _
                    refine r_iload rfl rfl ?_
                    refine r_if_lt (tg := 14) rfl rfl (fun q => False.elim (by have := i_nlt c1; have := i_rg c; have : (0 : Int32).toInt = 0 := rfl; have := i_eq ek2; have : (nI k2).toInt = ((k2 : Nat) : Int) := nI_toInt (by omega); have := i_nle c3; have : (24 : Int32).toInt = 24 := rfl; have := i_lt q; omega)) (fun _ => ?_)
                    refine r_iload rfl rfl ?_
                    refine r_ic (x := 24) rfl rfl ?_
                    refine r_icmp_ge (tg := 14) rfl rfl (fun q => False.elim (by have := i_nlt c1; have := i_rg c; have : (0 : Int32).toInt = 0 := rfl; have := i_eq ek2; have : (nI k2).toInt = ((k2 : Nat) : Int) := nI_toInt (by omega); have := i_nle c3; have : (24 : Int32).toInt = 24 := rfl; have := i_le q; omega)) (fun _ => ?_)
                    refine r_ic (x := 1) rfl rfl ?_
                    refine r_goto (tg := 15) rfl rfl ?_
                    refine r_zret rfl (.inr rfl) ?_
                    show WR _ cd_178 4 [some (.ref (ad 30)), some (.int c), some (.int i), some (.int k), some (.int d), none, none] [.int 1] (sI (sI h (ad 0) 6 0) (ad 0) 6 (-12)) _
                    refine r_if_eq (tg := 15) rfl rfl (fun q => absurd q (by decide)) (fun _ => ?_)
                    refine r_iload rfl rfl ?_
                    refine WR_tI (y := nI k5) ek5 ?_
                    refine r_cs (y := 153) (ra := [.int (nI k5)]) (rest := []) rfl ⟨⟨rfl, rfl⟩, by decide⟩ rfl rfl (Nat.le_of_ble_eq_true rfl) ?_
                    refine in_153 (Nat.le_of_ble_eq_true rfl) ?_
                    show WR _ cd_153 0 [some (.int (nI k5))] [] (sI (sI h (ad 0) 6 0) (ad 0) 6 (-12)) _
                    refine r_iload rfl rfl ?_
                    refine r_if_lt (tg := 14) rfl rfl (fun q => False.elim (by have := i_nlt c4; have := i_rg d; have : (0 : Int32).toInt = 0 := rfl; have := i_eq ek5; have : (nI k5).toInt = ((k5 : Nat) : Int) := nI_toInt (by omega); have := i_nle c6; have : (24 : Int32).toInt = 24 := rfl; have := i_lt q; omega)) (fun _ => ?_)
                    refine r_iload rfl rfl ?_
                    refine r_ic (x := 24) rfl rfl ?_
                    refine r_icmp_ge (tg := 14) rfl rfl (fun q => False.elim (by have := i_nlt c4; have := i_rg d; have : (0 : Int32).toInt = 0 := rfl; have := i_eq ek5; have : (nI k5).toInt = ((k5 : Nat) : Int) := nI_toInt (by omega); have := i_nle c6; have : (24 : Int32).toInt = 24 := rfl; have := i_le q; omega)) (fun _ => ?_)
                    refine r_ic (x := 1) rfl rfl ?_
                    refine r_goto (tg := 15) rfl rfl ?_
                    refine r_zret rfl (.inr rfl) ?_
                    show WR _ cd_178 12 [some (.ref (ad 30)), some (.int c), some (.int i), some (.int k), some (.int d), none, none] [.int 1] (sI (sI h (ad 0) 6 0) (ad 0) 6 (-12)) _
                    refine r_if_ne (tg := 22) rfl rfl (fun _ => ?_) (fun q => absurd q (by decide))
                    refine r_iload rfl rfl ?_
                    refine WR_tI (y := nI k8) ek8 ?_
                    refine r_i2l rfl ?_
                    refine WR_tL (y := lN k8) (nI_l (by have := i_nlt c7; have := i_rg k; have : (0 : Int32).toInt = 0 := rfl; have := i_eq ek8; have : (nI k8).toInt = ((k8 : Nat) : Int) := nI_toInt (by omega); have := i_nlt c9; have : (7 : Int32).toInt = 7 := rfl; omega)) ?_
                    refine r_lc (x := 0) rfl rfl ?_
                    refine r_ldc (x := .long 7) rfl rfl ?_
                    refine r_cs (y := 155) (ra := [.long 7, .long 0, .long (lN k8)]) (rest := []) rfl ⟨⟨rfl, rfl⟩, by decide⟩ rfl rfl (Nat.le_of_ble_eq_true rfl) ?_
                    refine in_155 (Nat.le_of_ble_eq_true rfl) ?_
                    show WR _ cd_155 0 [some (.long (lN k8)), none, some (.long 0), none, some (.long 7), none] [] (sI (sI h (ad 0) 6 0) (ad 0) 6 (-12)) _
                    refine r_lload rfl rfl ?_
                    refine r_lload rfl rfl ?_
                    refine r_lif_lt (tg := 17) rfl rfl rfl (fun q => False.elim (by have := i_nlt c7; have := i_rg k; have : (0 : Int32).toInt = 0 := rfl; have := i_eq ek8; have : (nI k8).toInt = ((k8 : Nat) : Int) := nI_toInt (by omega); have := i_nlt c9; have : (7 : Int32).toInt = 7 := rfl; have : (lN k8).toInt = ((k8 : Nat) : Int) := lN_toInt (by omega); have : (0 : Int64).toInt = 0 := rfl; have := l_lt q; omega)) (fun _ => ?_)
                    refine r_lload rfl rfl ?_
                    refine r_lload rfl rfl ?_
                    refine r_lif_gt (tg := 17) rfl rfl rfl (fun q => False.elim (by have := i_nlt c7; have := i_rg k; have : (0 : Int32).toInt = 0 := rfl; have := i_eq ek8; have : (nI k8).toInt = ((k8 : Nat) : Int) := nI_toInt (by omega); have := i_nlt c9; have : (7 : Int32).toInt = 7 := rfl; have : (lN k8).toInt = ((k8 : Nat) : Int) := lN_toInt (by omega); have : (7 : Int64).toInt = 7 := rfl; have := l_lt q; omega)) (fun _ => ?_)
                    refine r_ic (x := 1) rfl rfl ?_
                    refine r_goto (tg := 18) rfl rfl ?_
                    refine r_zret rfl (.inr rfl) ?_
                    show WR _ cd_178 31 [some (.ref (ad 30)), some (.int c), some (.int i), some (.int k), some (.int d), none, none] [.int 1] (sI (sI h (ad 0) 6 0) (ad 0) 6 (-12)) _
                    refine r_if_ne (tg := 41) rfl rfl (fun _ => ?_) (fun q => absurd q (by decide))
                    refine r_aload rfl rfl ?_
                    refine r_aload rfl rfl ?_
                    refine r_getA (b := ad 31) rfl ⟨rfl, rfl, rfl⟩ (fx_t30 fx) (fx_r30_0 fx) ?_
                    refine r_iload rfl rfl ?_
                    refine WR_tI (y := nI k2) ek2 ?_
                    refine r_iaload rfl (.inl (fx_t31 fx)) (vp_ct (fx_n31 fx) (vp_in_nI (by have := i_nlt c1; have := i_rg c; have : (0 : Int32).toInt = 0 := rfl; have := i_eq ek2; have : (nI k2).toInt = ((k2 : Nat) : Int) := nI_toInt (by omega); have := i_nle c3; have : (24 : Int32).toInt = 24 := rfl; omega) (by omega))) ?_
                    refine WR_tI (congrArg (hI (sI (sI h (ad 0) 6 0) (ad 0) 6 (-12)) (ad 31)) ((nI_clamp (by have := i_nlt c1; have := i_rg c; have : (0 : Int32).toInt = 0 := rfl; have := i_eq ek2; have : (nI k2).toInt = ((k2 : Nat) : Int) := nI_toInt (by omega); have := i_nle c3; have : (24 : Int32).toInt = 24 := rfl; omega)) : _ = k2)) ?_
                    refine WR_tI (y := nI t10) (Eq.trans (I_ne (fx_ne fx (by decide))) (Eq.trans (I_ne (fx_ne fx (by decide))) v10)) ?_
                    refine r_ic (x := 9) rfl rfl ?_
                    refine r_iload rfl rfl ?_
                    refine WR_tI (y := nI k12) ek12 ?_
                    refine r_cv (y := 168) (ra := [.int (nI k12), .int 9, .int (nI t10)]) (rest := []) rfl ⟨⟨rfl, rfl⟩, rfl, by decide⟩ (fx_t30 fx) rfl rfl (Nat.le_of_ble_eq_true rfl) ?_
                    refine in_168 (Nat.le_of_ble_eq_true rfl) ?_
                    show WR _ cd_168 0 [some (.ref (ad 30)), some (.int (nI t10)), some (.int 9), some (.int (nI k12))] [] (sI (sI h (ad 0) 6 0) (ad 0) 6 (-12)) _
                    refine r_iload rfl rfl ?_
                    refine r_ic (x := (-1)) rfl rfl ?_
                    refine r_icmp_eq (tg := 18) rfl rfl (fun q => False.elim (by have : (nI t10).toInt = ((t10 : Nat) : Int) := nI_toInt (by omega); have : (-1 : Int32).toInt = -1 := rfl; have := i_eq q; omega)) (fun _ => ?_)
                    refine r_aload rfl rfl ?_
                    refine r_iload rfl rfl ?_
                    refine r_cv (y := 166) (ra := [.int (nI t10)]) (rest := []) rfl ⟨⟨rfl, rfl⟩, rfl, by decide⟩ (fx_t30 fx) rfl rfl (Nat.le_of_ble_eq_true rfl) ?_
                    refine in_166 (Nat.le_of_ble_eq_true rfl) ?_
                    show WR _ cd_166 0 [some (.ref (ad 30)), some (.int (nI t10))] [] (sI (sI h (ad 0) 6 0) (ad 0) 6 (-12)) _
                    refine r_iload rfl rfl ?_
                    refine r_ic (x := (-1)) rfl rfl ?_
                    refine r_icmp_ne (tg := 9) rfl rfl (fun _ => ?_) (fun q => False.elim (by have : (nI t10).toInt = ((t10 : Nat) : Int) := nI_toInt (by omega); have : (-1 : Int32).toInt = -1 := rfl; have := i_eq q; omega))
                    refine r_iload rfl rfl ?_
                    refine r_ic (x := 1000) rfl rfl ?_
                    refine r_icmp_lt (tg := 21) rfl rfl (fun _ => ?_) (fun q => False.elim (by have : (nI t10).toInt = ((t10 : Nat) : Int) := nI_toInt (by omega); have : (1000 : Int32).toInt = 1000 := rfl; have := i_nlt q; omega))
                    refine r_aload rfl rfl ?_
                    refine r_getA (b := ad 33) rfl ⟨rfl, rfl, rfl⟩ (fx_t30 fx) (fx_r30_2 fx) ?_
                    refine r_iload rfl rfl ?_
                    refine r_iaload rfl (.inl (fx_t33 fx)) (vp_ct (fx_n33 fx) (vp_in_nI (by omega) (by omega))) ?_
                    refine WR_tI (congrArg (hI (sI (sI h (ad 0) 6 0) (ad 0) 6 (-12)) (ad 33)) ((nI_clamp (by omega)) : _ = t10)) ?_
                    refine WR_tI (y := 9) (Eq.trans (I_ne (fx_ne fx (by decide))) (Eq.trans (I_ne (fx_ne fx (by decide))) l2_10)) ?_
                    refine r_iret rfl ?_
                    show WR _ cd_168 10 [some (.ref (ad 30)), some (.int (nI t10)), some (.int 9), some (.int (nI k12))] [.int 9] (sI (sI h (ad 0) 6 0) (ad 0) 6 (-12)) _
                    refine r_iload rfl rfl ?_
                    refine r_icmp_eq (tg := 18) rfl rfl (fun _ => ?_) (fun q => absurd q (by decide))
                    refine r_iload rfl rfl ?_
                    refine r_ic (x := (-1)) rfl rfl ?_
                    refine r_icmp_ne (tg := 27) rfl rfl (fun _ => ?_) (fun q => False.elim (by have : (nI t10).toInt = ((t10 : Nat) : Int) := nI_toInt (by omega); have : (-1 : Int32).toInt = -1 := rfl; have := i_eq q; omega))
                    refine r_iload rfl rfl ?_
                    refine r_i2l rfl ?_
                    refine WR_tL (y := lN k12) (nI_l (by have := i_nlt c11; have := i_rg i; have : (0 : Int32).toInt = 0 := rfl; have := i_eq ek12; have : (nI k12).toInt = ((k12 : Nat) : Int) := nI_toInt (by omega); have := i_lt c13; have : (1 : Int32).toInt = 1 := rfl; have : (nI sz10).toInt = ((sz10 : Nat) : Int) := nI_toInt (by omega); have := sub_t (x := nI sz10) (y := nI k12) (by have := i_nlt c11; have := i_rg i; have : (0 : Int32).toInt = 0 := rfl; have := i_eq ek12; have : (nI k12).toInt = ((k12 : Nat) : Int) := nI_toInt (by omega); have : (nI sz10).toInt = ((sz10 : Nat) : Int) := nI_toInt (by omega); omega) (by have := i_nlt c11; have := i_rg i; have : (0 : Int32).toInt = 0 := rfl; have := i_eq ek12; have : (nI k12).toInt = ((k12 : Nat) : Int) := nI_toInt (by omega); have : (nI sz10).toInt = ((sz10 : Nat) : Int) := nI_toInt (by omega); omega); omega)) ?_
                    refine r_lc (x := 0) rfl rfl ?_
                    refine r_aload rfl rfl ?_
                    refine r_getA (b := ad 35) rfl ⟨rfl, rfl, rfl⟩ (fx_t30 fx) (fx_r30_4 fx) ?_
                    refine r_iload rfl rfl ?_
                    refine r_iaload rfl (.inl (fx_t35 fx)) (vp_ct (fx_n35 fx) (vp_in_nI (by omega) (by omega))) ?_
                    refine WR_tI (congrArg (hI (sI (sI h (ad 0) 6 0) (ad 0) 6 (-12)) (ad 35)) ((nI_clamp (by omega)) : _ = t10)) ?_
                    refine WR_tI (y := nI sz10) (Eq.trans (I_ne (fx_ne fx (by decide))) (Eq.trans (I_ne (fx_ne fx (by decide))) sz_10)) ?_
                    refine r_ic (x := 1) rfl rfl ?_
                    refine r_isub rfl ?_
                    refine r_i2l rfl ?_
                    refine r_cs (y := 155) (ra := [.long (((nI sz10) - 1).toInt64), .long 0, .long (lN k12)]) (rest := []) rfl ⟨⟨rfl, rfl⟩, by decide⟩ rfl rfl (Nat.le_of_ble_eq_true rfl) ?_
                    refine in_155 (Nat.le_of_ble_eq_true rfl) ?_
                    show WR _ cd_155 0 [some (.long (lN k12)), none, some (.long 0), none, some (.long (((nI sz10) - 1).toInt64)), none] [] (sI (sI h (ad 0) 6 0) (ad 0) 6 (-12)) _
                    refine r_lload rfl rfl ?_
                    refine r_lload rfl rfl ?_
                    refine r_lif_lt (tg := 17) rfl rfl rfl (fun q => False.elim (by have := i_nlt c11; have := i_rg i; have : (0 : Int32).toInt = 0 := rfl; have := i_eq ek12; have : (nI k12).toInt = ((k12 : Nat) : Int) := nI_toInt (by omega); have := i_lt c13; have : (1 : Int32).toInt = 1 := rfl; have : (nI sz10).toInt = ((sz10 : Nat) : Int) := nI_toInt (by omega); have := sub_t (x := nI sz10) (y := nI k12) (by have := i_nlt c11; have := i_rg i; have : (0 : Int32).toInt = 0 := rfl; have := i_eq ek12; have : (nI k12).toInt = ((k12 : Nat) : Int) := nI_toInt (by omega); have : (nI sz10).toInt = ((sz10 : Nat) : Int) := nI_toInt (by omega); omega) (by have := i_nlt c11; have := i_rg i; have : (0 : Int32).toInt = 0 := rfl; have := i_eq ek12; have : (nI k12).toInt = ((k12 : Nat) : Int) := nI_toInt (by omega); have : (nI sz10).toInt = ((sz10 : Nat) : Int) := nI_toInt (by omega); omega); have : (lN k12).toInt = ((k12 : Nat) : Int) := lN_toInt (by omega); have : (0 : Int64).toInt = 0 := rfl; have := l_lt q; omega)) (fun _ => ?_)
                    refine r_lload rfl rfl ?_
                    refine r_lload rfl rfl ?_
                    refine r_lif_gt (tg := 17) rfl rfl rfl (fun _ => ?_) (fun q => False.elim (by have := i_nlt c11; have := i_rg i; have : (0 : Int32).toInt = 0 := rfl; have := i_eq ek12; have : (nI k12).toInt = ((k12 : Nat) : Int) := nI_toInt (by omega); have := i_lt c13; have : (1 : Int32).toInt = 1 := rfl; have : (nI sz10).toInt = ((sz10 : Nat) : Int) := nI_toInt (by omega); have := sub_t (x := nI sz10) (y := nI k12) (by have := i_nlt c11; have := i_rg i; have : (0 : Int32).toInt = 0 := rfl; have := i_eq ek12; have : (nI k12).toInt = ((k12 : Nat) : Int) := nI_toInt (by omega); have : (nI sz10).toInt = ((sz10 : Nat) : Int) := nI_toInt (by omega); omega) (by have := i_nlt c11; have := i_rg i; have : (0 : Int32).toInt = 0 := rfl; have := i_eq ek12; have : (nI k12).toInt = ((k12 : Nat) : Int) := nI_toInt (by omega); have : (nI sz10).toInt = ((sz10 : Nat) : Int) := nI_toInt (by omega); omega); have : (lN k12).toInt = ((k12 : Nat) : Int) := lN_toInt (by omega); have := sub_t (x := nI sz10) (y := 1) (by have := i_nlt c11; have := i_rg i; have : (0 : Int32).toInt = 0 := rfl; have := i_eq ek12; have : (nI k12).toInt = ((k12 : Nat) : Int) := nI_toInt (by omega); have := i_lt c13; have : (1 : Int32).toInt = 1 := rfl; have : (nI sz10).toInt = ((sz10 : Nat) : Int) := nI_toInt (by omega); have := sub_t (x := nI sz10) (y := nI k12) (by have := i_nlt c11; have := i_rg i; have : (0 : Int32).toInt = 0 := rfl; have := i_eq ek12; have : (nI k12).toInt = ((k12 : Nat) : Int) := nI_toInt (by omega); have : (nI sz10).toInt = ((sz10 : Nat) : Int) := nI_toInt (by omega); omega) (by have := i_nlt c11; have := i_rg i; have : (0 : Int32).toInt = 0 := rfl; have := i_eq ek12; have : (nI k12).toInt = ((k12 : Nat) : Int) := nI_toInt (by omega); have : (nI sz10).toInt = ((sz10 : Nat) : Int) := nI_toInt (by omega); omega); omega) (by have := i_nlt c11; have := i_rg i; have : (0 : Int32).toInt = 0 := rfl; have := i_eq ek12; have : (nI k12).toInt = ((k12 : Nat) : Int) := nI_toInt (by omega); have := i_lt c13; have : (1 : Int32).toInt = 1 := rfl; have : (nI sz10).toInt = ((sz10 : Nat) : Int) := nI_toInt (by omega); have := sub_t (x := nI sz10) (y := nI k12) (by have := i_nlt c11; have := i_rg i; have : (0 : Int32).toInt = 0 := rfl; have := i_eq ek12; have : (nI k12).toInt = ((k12 : Nat) : Int) := nI_toInt (by omega); have : (nI sz10).toInt = ((sz10 : Nat) : Int) := nI_toInt (by omega); omega) (by have := i_nlt c11; have := i_rg i; have : (0 : Int32).toInt = 0 := rfl; have := i_eq ek12; have : (nI k12).toInt = ((k12 : Nat) : Int) := nI_toInt (by omega); have : (nI sz10).toInt = ((sz10 : Nat) : Int) := nI_toInt (by omega); omega); omega); have := w_t ((nI sz10) - 1); have := l_nlt q; omega))
                    refine r_ic (x := 0) rfl rfl ?_
                    refine r_zret rfl (.inl rfl) ?_
                    show WR _ cd_168 42 [some (.ref (ad 30)), some (.int (nI t10)), some (.int 9), some (.int (nI k12))] [.int 0] (sI (sI h (ad 0) 6 0) (ad 0) 6 (-12)) _
                    refine r_if_ne (tg := 49) rfl rfl (fun q => absurd q (by decide)) (fun _ => ?_)
                    refine r_ic (x := 2) rfl rfl ?_
                    refine r_goto (tg := 50) rfl rfl ?_
                    refine r_iret rfl ?_
                    show WR _ cd_178 54 [some (.ref (ad 30)), some (.int c), some (.int i), some (.int k), some (.int d), none, none] [.int 2] (sI (sI h (ad 0) 6 0) (ad 0) 6 (-12)) _
                    refine r_istore (lv' := [some (.ref (ad 30)), some (.int c), some (.int i), some (.int k), some (.int d), some (.int 2), none]) rfl (Nat.le_of_ble_eq_true rfl) rfl ?_
                    refine r_iload rfl rfl ?_
                    refine r_if_le (tg := 68) rfl rfl (fun q => absurd q (by decide)) (fun _ => ?_)
                    refine r_aload rfl rfl ?_
                    refine r_iload rfl rfl ?_
                    refine r_cv (y := 156) (ra := [.int 2]) (rest := []) rfl ⟨⟨rfl, rfl⟩, rfl, by decide⟩ (fx_t30 fx) rfl rfl (Nat.le_of_ble_eq_true rfl) ?_
                    refine in_156 (Nat.le_of_ble_eq_true rfl) ?_
                    show WR _ cd_156 0 [some (.ref (ad 30)), some (.int 2)] [] (sI (sI h (ad 0) 6 0) (ad 0) 6 (-12)) _
                    refine r_aload rfl rfl ?_
                    refine r_ic (x := (-10)) rfl rfl ?_
                    refine r_iload rfl rfl ?_
                    refine r_isub rfl ?_
                    refine WR_tI (y := (-12)) rfl ?_
                    refine r_cv (y := 154) (ra := [.int (-12)]) (rest := []) rfl ⟨⟨rfl, rfl⟩, rfl, by decide⟩ (fx_t30 fx) rfl rfl (Nat.le_of_ble_eq_true rfl) ?_
                    refine in_154 (Nat.le_of_ble_eq_true rfl) ?_
                    show WR _ cd_154 0 [some (.ref (ad 30)), some (.int (-12))] [] (sI (sI h (ad 0) 6 0) (ad 0) 6 (-12)) _
                    refine r_aload rfl rfl ?_
                    refine r_iload rfl rfl ?_
                    refine r_ic (x := (-1)) rfl rfl ?_
                    refine r_icmp_ge (tg := 10) rfl rfl (fun q => absurd q (by decide)) (fun _ => ?_)
                    refine r_iload rfl rfl ?_
                    refine r_goto (tg := 11) rfl rfl ?_
                    refine r_putI rfl ⟨rfl, rfl, rfl⟩ (fx_t30 fx) ?_
                    have fx : FX n ad sa z0 (sI (sI (sI h (ad 0) 6 0) (ad 0) 6 (-12)) (ad 30) 11 (-12)) := (FX.sI fx)
                    refine r_iload rfl rfl ?_
                    refine r_iret rfl ?_
                    show WR _ cd_156 8 [some (.ref (ad 30)), some (.int 2)] [.int (-12)] (sI (sI (sI h (ad 0) 6 0) (ad 0) 6 (-12)) (ad 30) 11 (-12)) _
                    refine r_iret rfl ?_
                    show WR _ cd_178 67 [some (.ref (ad 30)), some (.int c), some (.int i), some (.int k), some (.int d), some (.int 2), none] [.int (-12)] (sI (sI (sI h (ad 0) 6 0) (ad 0) 6 (-12)) (ad 30) 11 (-12)) _
                    refine r_iret rfl ?_
                    exact ⟨rfl, Rel.why r (((Chg.rf.sI (fx_j fx) (.inl (by decide))).sI (fx_j fx) (.inl (by decide))).sI (fx_j fx) (.inl (by decide))) ⟨rfl, by decide⟩ (Eq.trans (Eq.trans (I_ne (fx_ne fx (by decide))) I_eq) (Eq.symm I_eq)), (by (try simp only [hZ_sI, hZ_sL, hZ_sD, hZ_sR]); omega), (by (try simp only [hU_sI, hU_sL, hU_sD, hU_sR]); omega)⟩
                  · refine r_ic (x := 1) rfl rfl ?_
                    refine r_goto (tg := 23) rfl rfl ?_
                    refine r_zret rfl (.inr rfl) ?_
                    show WR _ cd_50 67 [some (.ref (ad 0)), some (.int c), some (.int i), some (.int k), some (.int d), some (.ref (mid t10)), none, none] [.int 1] (sI h (ad 0) 6 0) _
                    refine r_if_ne (tg := 77) rfl rfl (fun _ => ?_) (fun q => absurd q (by decide))
                    refine r_aload rfl rfl ?_
                    refine r_getA (b := mid t10 + 1) rfl ⟨rfl, rfl, rfl⟩ tg10 (Eq.trans R_oI r_10) ?_
                    refine r_iload rfl rfl ?_
                    refine WR_tI (y := nI k12) ek12 ?_
                    rcases al10 k12 (by have := i_nlt c11; have := i_rg i; have : (0 : Int32).toInt = 0 := rfl; have := i_eq ek12; have : (nI k12).toInt = ((k12 : Nat) : Int) := nI_toInt (by omega); have := i_nlt c13; have : (1 : Int32).toInt = 1 := rfl; have : (nI sz10).toInt = ((sz10 : Nat) : Int) := nI_toInt (by omega); have := sub_t (x := nI sz10) (y := nI k12) (by have := i_nlt c11; have := i_rg i; have : (0 : Int32).toInt = 0 := rfl; have := i_eq ek12; have : (nI k12).toInt = ((k12 : Nat) : Int) := nI_toInt (by omega); have : (nI sz10).toInt = ((sz10 : Nat) : Int) := nI_toInt (by omega); omega) (by have := i_nlt c11; have := i_rg i; have : (0 : Int32).toInt = 0 := rfl; have := i_eq ek12; have : (nI k12).toInt = ((k12 : Nat) : Int) := nI_toInt (by omega); have : (nI sz10).toInt = ((sz10 : Nat) : Int) := nI_toInt (by omega); omega); omega) with ⟨v14, w14⟩ | ⟨q14, hq14, v14, w14, kd14, k2_14, hk_14, of_14⟩
                    · refine r_aaload0 rfl (isQ_of tg2_10 (by decide)) (vp_ct n_10 (vp_in_nI (by have := i_nlt c11; have := i_rg i; have : (0 : Int32).toInt = 0 := rfl; have := i_eq ek12; have : (nI k12).toInt = ((k12 : Nat) : Int) := nI_toInt (by omega); have := i_nlt c13; have : (1 : Int32).toInt = 1 := rfl; have : (nI sz10).toInt = ((sz10 : Nat) : Int) := nI_toInt (by omega); have := sub_t (x := nI sz10) (y := nI k12) (by have := i_nlt c11; have := i_rg i; have : (0 : Int32).toInt = 0 := rfl; have := i_eq ek12; have : (nI k12).toInt = ((k12 : Nat) : Int) := nI_toInt (by omega); have : (nI sz10).toInt = ((sz10 : Nat) : Int) := nI_toInt (by omega); omega) (by have := i_nlt c11; have := i_rg i; have : (0 : Int32).toInt = 0 := rfl; have := i_eq ek12; have : (nI k12).toInt = ((k12 : Nat) : Int) := nI_toInt (by omega); have : (nI sz10).toInt = ((sz10 : Nat) : Int) := nI_toInt (by omega); omega); omega) (by omega))) (Eq.trans (congrArg (hR (sI h (ad 0) 6 0) (mid t10 + 1)) ((nI_clamp (by have := i_nlt c11; have := i_rg i; have : (0 : Int32).toInt = 0 := rfl; have := i_eq ek12; have : (nI k12).toInt = ((k12 : Nat) : Int) := nI_toInt (by omega); have := i_nlt c13; have : (1 : Int32).toInt = 1 := rfl; have : (nI sz10).toInt = ((sz10 : Nat) : Int) := nI_toInt (by omega); have := sub_t (x := nI sz10) (y := nI k12) (by have := i_nlt c11; have := i_rg i; have : (0 : Int32).toInt = 0 := rfl; have := i_eq ek12; have : (nI k12).toInt = ((k12 : Nat) : Int) := nI_toInt (by omega); have : (nI sz10).toInt = ((sz10 : Nat) : Int) := nI_toInt (by omega); omega) (by have := i_nlt c11; have := i_rg i; have : (0 : Int32).toInt = 0 := rfl; have := i_eq ek12; have : (nI k12).toInt = ((k12 : Nat) : Int) := nI_toInt (by omega); have : (nI sz10).toInt = ((sz10 : Nat) : Int) := nI_toInt (by omega); omega); omega)) : _ = k12)) (Eq.trans R_oI w14)) ?_
                      refine r_astore0 (lv' := [some (.ref (ad 0)), some (.int c), some (.int i), some (.int k), some (.int d), some (.ref (mid t10)), some (.null), none]) rfl (Nat.le_of_ble_eq_true rfl) rfl ?_
                      refine r_aload0 rfl rfl ?_
                      refine r_instN rfl (by decide) ?_
                      refine r_if_eq (tg := 117) rfl rfl (fun _ => ?_) (fun q => absurd q (by decide))
                      refine r_aload rfl rfl ?_
                      refine r_getA (b := ad 1) rfl ⟨rfl, rfl, rfl⟩ (fx_t0 fx) (fx_r0_0 fx) ?_
                      refine r_iload rfl rfl ?_
                      refine WR_tI (y := nI k5) ek5 ?_
                      refine r_aload0 rfl rfl ?_
                      refine r_aastore0 rfl (isQ_of (fx_t1 fx) (by decide)) (vp_ct (fx_n1 fx) (vp_in_nI (by have := i_nlt c4; have := i_rg d; have : (0 : Int32).toInt = 0 := rfl; have := i_eq ek5; have : (nI k5).toInt = ((k5 : Nat) : Int) := nI_toInt (by omega); have := i_nle c6; have : (24 : Int32).toInt = 24 := rfl; omega) (by omega))) (fun _ q => by cases q) ?_
                      refine WR_h (h2 := sR (sI h (ad 0) 6 0) (ad 1) k5 none) (congrArg (fun z => sR (sI h (ad 0) 6 0) (ad 1) z none) ((nI_clamp (by have := i_nlt c4; have := i_rg d; have : (0 : Int32).toInt = 0 := rfl; have := i_eq ek5; have : (nI k5).toInt = ((k5 : Nat) : Int) := nI_toInt (by omega); have := i_nle c6; have : (24 : Int32).toInt = 24 := rfl; omega)) : _ = k5)) ?_
                      have fx : FX n ad sa z0 (sR (sI h (ad 0) 6 0) (ad 1) k5 none) := FX.sRA (i := 1) fx (.inl (by decide)) (by decide)
                      refine r_ic (x := 1) rfl rfl ?_
                      refine r_iret rfl ?_
                      show EV _ 178 [.ref (ad 30), .int c, .int i, .int k, .int d] (sR (sI h (ad 0) 6 0) (ad 1) k5 none) _
                      refine in_178 (Nat.le_of_ble_eq_true rfl) ?_
                      show WR _ cd_178 0 [some (.ref (ad 30)), some (.int c), some (.int i), some (.int k), some (.int d), none, none] [] (sR (sI h (ad 0) 6 0) (ad 1) k5 none) _
                      refine r_iload rfl rfl ?_
                      refine WR_tI (y := nI k2) ek2 ?_
                      refine r_cs (y := 153) (ra := [.int (nI k2)]) (rest := []) rfl ⟨⟨rfl, rfl⟩, by decide⟩ rfl rfl (Nat.le_of_ble_eq_true rfl) ?_
                      refine in_153 (Nat.le_of_ble_eq_true rfl) ?_
                      show WR _ cd_153 0 [some (.int (nI k2))] [] (sR (sI h (ad 0) 6 0) (ad 1) k5 none) _
                      refine r_iload rfl rfl ?_
                      refine r_if_lt (tg := 14) rfl rfl (fun q => False.elim (by have := i_nlt c1; have := i_rg c; have : (0 : Int32).toInt = 0 := rfl; have := i_eq ek2; have : (nI k2).toInt = ((k2 : Nat) : Int) := nI_toInt (by omega); have := i_nle c3; have : (24 : Int32).toInt = 24 := rfl; have := i_lt q; omega)) (fun _ => ?_)
                      refine r_iload rfl rfl ?_
                      refine r_ic (x := 24) rfl rfl ?_
                      refine r_icmp_ge (tg := 14) rfl rfl (fun q => False.elim (by have := i_nlt c1; have := i_rg c; have : (0 : Int32).toInt = 0 := rfl; have := i_eq ek2; have : (nI k2).toInt = ((k2 : Nat) : Int) := nI_toInt (by omega); have := i_nle c3; have : (24 : Int32).toInt = 24 := rfl; have := i_le q; omega)) (fun _ => ?_)
                      refine r_ic (x := 1) rfl rfl ?_
                      refine r_goto (tg := 15) rfl rfl ?_
                      refine r_zret rfl (.inr rfl) ?_
                      show WR _ cd_178 4 [some (.ref (ad 30)), some (.int c), some (.int i), some (.int k), some (.int d), none, none] [.int 1] (sR (sI h (ad 0) 6 0) (ad 1) k5 none) _
                      refine r_if_eq (tg := 15) rfl rfl (fun q => absurd q (by decide)) (fun _ => ?_)
                      refine r_iload rfl rfl ?_
                      refine WR_tI (y := nI k5) ek5 ?_
                      refine r_cs (y := 153) (ra := [.int (nI k5)]) (rest := []) rfl ⟨⟨rfl, rfl⟩, by decide⟩ rfl rfl (Nat.le_of_ble_eq_true rfl) ?_
                      refine in_153 (Nat.le_of_ble_eq_true rfl) ?_
                      show WR _ cd_153 0 [some (.int (nI k5))] [] (sR (sI h (ad 0) 6 0) (ad 1) k5 none) _
                      refine r_iload rfl rfl ?_
                      refine r_if_lt (tg := 14) rfl rfl (fun q => False.elim (by have := i_nlt c4; have := i_rg d; have : (0 : Int32).toInt = 0 := rfl; have := i_eq ek5; have : (nI k5).toInt = ((k5 : Nat) : Int) := nI_toInt (by omega); have := i_nle c6; have : (24 : Int32).toInt = 24 := rfl; have := i_lt q; omega)) (fun _ => ?_)
                      refine r_iload rfl rfl ?_
                      refine r_ic (x := 24) rfl rfl ?_
                      refine r_icmp_ge (tg := 14) rfl rfl (fun q => False.elim (by have := i_nlt c4; have := i_rg d; have : (0 : Int32).toInt = 0 := rfl; have := i_eq ek5; have : (nI k5).toInt = ((k5 : Nat) : Int) := nI_toInt (by omega); have := i_nle c6; have : (24 : Int32).toInt = 24 := rfl; have := i_le q; omega)) (fun _ => ?_)
                      refine r_ic (x := 1) rfl rfl ?_
                      refine r_goto (tg := 15) rfl rfl ?_
                      refine r_zret rfl (.inr rfl) ?_
                      show WR _ cd_178 12 [some (.ref (ad 30)), some (.int c), some (.int i), some (.int k), some (.int d), none, none] [.int 1] (sR (sI h (ad 0) 6 0) (ad 1) k5 none) _
                      refine r_if_ne (tg := 22) rfl rfl (fun _ => ?_) (fun q => absurd q (by decide))
                      refine r_iload rfl rfl ?_
                      refine WR_tI (y := nI k8) ek8 ?_
                      refine r_i2l rfl ?_
                      refine WR_tL (y := lN k8) (nI_l (by have := i_nlt c7; have := i_rg k; have : (0 : Int32).toInt = 0 := rfl; have := i_eq ek8; have : (nI k8).toInt = ((k8 : Nat) : Int) := nI_toInt (by omega); have := i_nlt c9; have : (7 : Int32).toInt = 7 := rfl; omega)) ?_
                      refine r_lc (x := 0) rfl rfl ?_
                      refine r_ldc (x := .long 7) rfl rfl ?_
                      refine r_cs (y := 155) (ra := [.long 7, .long 0, .long (lN k8)]) (rest := []) rfl ⟨⟨rfl, rfl⟩, by decide⟩ rfl rfl (Nat.le_of_ble_eq_true rfl) ?_
                      refine in_155 (Nat.le_of_ble_eq_true rfl) ?_
                      show WR _ cd_155 0 [some (.long (lN k8)), none, some (.long 0), none, some (.long 7), none] [] (sR (sI h (ad 0) 6 0) (ad 1) k5 none) _
                      refine r_lload rfl rfl ?_
                      refine r_lload rfl rfl ?_
                      refine r_lif_lt (tg := 17) rfl rfl rfl (fun q => False.elim (by have := i_nlt c7; have := i_rg k; have : (0 : Int32).toInt = 0 := rfl; have := i_eq ek8; have : (nI k8).toInt = ((k8 : Nat) : Int) := nI_toInt (by omega); have := i_nlt c9; have : (7 : Int32).toInt = 7 := rfl; have : (lN k8).toInt = ((k8 : Nat) : Int) := lN_toInt (by omega); have : (0 : Int64).toInt = 0 := rfl; have := l_lt q; omega)) (fun _ => ?_)
                      refine r_lload rfl rfl ?_
                      refine r_lload rfl rfl ?_
                      refine r_lif_gt (tg := 17) rfl rfl rfl (fun q => False.elim (by have := i_nlt c7; have := i_rg k; have : (0 : Int32).toInt = 0 := rfl; have := i_eq ek8; have : (nI k8).toInt = ((k8 : Nat) : Int) := nI_toInt (by omega); have := i_nlt c9; have : (7 : Int32).toInt = 7 := rfl; have : (lN k8).toInt = ((k8 : Nat) : Int) := lN_toInt (by omega); have : (7 : Int64).toInt = 7 := rfl; have := l_lt q; omega)) (fun _ => ?_)
                      refine r_ic (x := 1) rfl rfl ?_
                      refine r_goto (tg := 18) rfl rfl ?_
                      refine r_zret rfl (.inr rfl) ?_
                      show WR _ cd_178 31 [some (.ref (ad 30)), some (.int c), some (.int i), some (.int k), some (.int d), none, none] [.int 1] (sR (sI h (ad 0) 6 0) (ad 1) k5 none) _
                      refine r_if_ne (tg := 41) rfl rfl (fun _ => ?_) (fun q => absurd q (by decide))
                      refine r_aload rfl rfl ?_
                      refine r_aload rfl rfl ?_
                      refine r_getA (b := ad 31) rfl ⟨rfl, rfl, rfl⟩ (fx_t30 fx) (fx_r30_0 fx) ?_
                      refine r_iload rfl rfl ?_
                      refine WR_tI (y := nI k2) ek2 ?_
                      refine r_iaload rfl (.inl (fx_t31 fx)) (vp_ct (fx_n31 fx) (vp_in_nI (by have := i_nlt c1; have := i_rg c; have : (0 : Int32).toInt = 0 := rfl; have := i_eq ek2; have : (nI k2).toInt = ((k2 : Nat) : Int) := nI_toInt (by omega); have := i_nle c3; have : (24 : Int32).toInt = 24 := rfl; omega) (by omega))) ?_
                      refine WR_tI (congrArg (hI (sR (sI h (ad 0) 6 0) (ad 1) k5 none) (ad 31)) ((nI_clamp (by have := i_nlt c1; have := i_rg c; have : (0 : Int32).toInt = 0 := rfl; have := i_eq ek2; have : (nI k2).toInt = ((k2 : Nat) : Int) := nI_toInt (by omega); have := i_nle c3; have : (24 : Int32).toInt = 24 := rfl; omega)) : _ = k2)) ?_
                      refine WR_tI (y := nI t10) (Eq.trans I_oR (Eq.trans (I_ne (fx_ne fx (by decide))) v10)) ?_
                      refine r_ic (x := 9) rfl rfl ?_
                      refine r_iload rfl rfl ?_
                      refine WR_tI (y := nI k12) ek12 ?_
                      refine r_cv (y := 168) (ra := [.int (nI k12), .int 9, .int (nI t10)]) (rest := []) rfl ⟨⟨rfl, rfl⟩, rfl, by decide⟩ (fx_t30 fx) rfl rfl (Nat.le_of_ble_eq_true rfl) ?_
                      refine in_168 (Nat.le_of_ble_eq_true rfl) ?_
                      show WR _ cd_168 0 [some (.ref (ad 30)), some (.int (nI t10)), some (.int 9), some (.int (nI k12))] [] (sR (sI h (ad 0) 6 0) (ad 1) k5 none) _
                      refine r_iload rfl rfl ?_
                      refine r_ic (x := (-1)) rfl rfl ?_
                      refine r_icmp_eq (tg := 18) rfl rfl (fun q => False.elim (by have : (nI t10).toInt = ((t10 : Nat) : Int) := nI_toInt (by omega); have : (-1 : Int32).toInt = -1 := rfl; have := i_eq q; omega)) (fun _ => ?_)
                      refine r_aload rfl rfl ?_
                      refine r_iload rfl rfl ?_
                      refine r_cv (y := 166) (ra := [.int (nI t10)]) (rest := []) rfl ⟨⟨rfl, rfl⟩, rfl, by decide⟩ (fx_t30 fx) rfl rfl (Nat.le_of_ble_eq_true rfl) ?_
                      refine in_166 (Nat.le_of_ble_eq_true rfl) ?_
                      show WR _ cd_166 0 [some (.ref (ad 30)), some (.int (nI t10))] [] (sR (sI h (ad 0) 6 0) (ad 1) k5 none) _
                      refine r_iload rfl rfl ?_
                      refine r_ic (x := (-1)) rfl rfl ?_
                      refine r_icmp_ne (tg := 9) rfl rfl (fun _ => ?_) (fun q => False.elim (by have : (nI t10).toInt = ((t10 : Nat) : Int) := nI_toInt (by omega); have : (-1 : Int32).toInt = -1 := rfl; have := i_eq q; omega))
                      refine r_iload rfl rfl ?_
                      refine r_ic (x := 1000) rfl rfl ?_
                      refine r_icmp_lt (tg := 21) rfl rfl (fun _ => ?_) (fun q => False.elim (by have : (nI t10).toInt = ((t10 : Nat) : Int) := nI_toInt (by omega); have : (1000 : Int32).toInt = 1000 := rfl; have := i_nlt q; omega))
                      refine r_aload rfl rfl ?_
                      refine r_getA (b := ad 33) rfl ⟨rfl, rfl, rfl⟩ (fx_t30 fx) (fx_r30_2 fx) ?_
                      refine r_iload rfl rfl ?_
                      refine r_iaload rfl (.inl (fx_t33 fx)) (vp_ct (fx_n33 fx) (vp_in_nI (by omega) (by omega))) ?_
                      refine WR_tI (congrArg (hI (sR (sI h (ad 0) 6 0) (ad 1) k5 none) (ad 33)) ((nI_clamp (by omega)) : _ = t10)) ?_
                      refine WR_tI (y := 9) (Eq.trans I_oR (Eq.trans (I_ne (fx_ne fx (by decide))) l2_10)) ?_
                      refine r_iret rfl ?_
                      show WR _ cd_168 10 [some (.ref (ad 30)), some (.int (nI t10)), some (.int 9), some (.int (nI k12))] [.int 9] (sR (sI h (ad 0) 6 0) (ad 1) k5 none) _
                      refine r_iload rfl rfl ?_
                      refine r_icmp_eq (tg := 18) rfl rfl (fun _ => ?_) (fun q => absurd q (by decide))
                      refine r_iload rfl rfl ?_
                      refine r_ic (x := (-1)) rfl rfl ?_
                      refine r_icmp_ne (tg := 27) rfl rfl (fun _ => ?_) (fun q => False.elim (by have : (nI t10).toInt = ((t10 : Nat) : Int) := nI_toInt (by omega); have : (-1 : Int32).toInt = -1 := rfl; have := i_eq q; omega))
                      refine r_iload rfl rfl ?_
                      refine r_i2l rfl ?_
                      refine WR_tL (y := lN k12) (nI_l (by have := i_nlt c11; have := i_rg i; have : (0 : Int32).toInt = 0 := rfl; have := i_eq ek12; have : (nI k12).toInt = ((k12 : Nat) : Int) := nI_toInt (by omega); have := i_nlt c13; have : (1 : Int32).toInt = 1 := rfl; have : (nI sz10).toInt = ((sz10 : Nat) : Int) := nI_toInt (by omega); have := sub_t (x := nI sz10) (y := nI k12) (by have := i_nlt c11; have := i_rg i; have : (0 : Int32).toInt = 0 := rfl; have := i_eq ek12; have : (nI k12).toInt = ((k12 : Nat) : Int) := nI_toInt (by omega); have : (nI sz10).toInt = ((sz10 : Nat) : Int) := nI_toInt (by omega); omega) (by have := i_nlt c11; have := i_rg i; have : (0 : Int32).toInt = 0 := rfl; have := i_eq ek12; have : (nI k12).toInt = ((k12 : Nat) : Int) := nI_toInt (by omega); have : (nI sz10).toInt = ((sz10 : Nat) : Int) := nI_toInt (by omega); omega); omega)) ?_
                      refine r_lc (x := 0) rfl rfl ?_
                      refine r_aload rfl rfl ?_
                      refine r_getA (b := ad 35) rfl ⟨rfl, rfl, rfl⟩ (fx_t30 fx) (fx_r30_4 fx) ?_
                      refine r_iload rfl rfl ?_
                      refine r_iaload rfl (.inl (fx_t35 fx)) (vp_ct (fx_n35 fx) (vp_in_nI (by omega) (by omega))) ?_
                      refine WR_tI (congrArg (hI (sR (sI h (ad 0) 6 0) (ad 1) k5 none) (ad 35)) ((nI_clamp (by omega)) : _ = t10)) ?_
                      refine WR_tI (y := nI sz10) (Eq.trans I_oR (Eq.trans (I_ne (fx_ne fx (by decide))) sz_10)) ?_
                      refine r_ic (x := 1) rfl rfl ?_
                      refine r_isub rfl ?_
                      refine WR_tI (y := nI (sz10 - 1)) (Eq.trans (pk_sub (a := sz10) (b := 1) (by have := i_nlt c11; have := i_rg i; have : (0 : Int32).toInt = 0 := rfl; have := i_eq ek12; have : (nI k12).toInt = ((k12 : Nat) : Int) := nI_toInt (by omega); have := i_nlt c13; have : (1 : Int32).toInt = 1 := rfl; have : (nI sz10).toInt = ((sz10 : Nat) : Int) := nI_toInt (by omega); have := sub_t (x := nI sz10) (y := nI k12) (by have := i_nlt c11; have := i_rg i; have : (0 : Int32).toInt = 0 := rfl; have := i_eq ek12; have : (nI k12).toInt = ((k12 : Nat) : Int) := nI_toInt (by omega); have : (nI sz10).toInt = ((sz10 : Nat) : Int) := nI_toInt (by omega); omega) (by have := i_nlt c11; have := i_rg i; have : (0 : Int32).toInt = 0 := rfl; have := i_eq ek12; have : (nI k12).toInt = ((k12 : Nat) : Int) := nI_toInt (by omega); have : (nI sz10).toInt = ((sz10 : Nat) : Int) := nI_toInt (by omega); omega); omega)) (congrArg nI (by have := i_nlt c11; have := i_rg i; have : (0 : Int32).toInt = 0 := rfl; have := i_eq ek12; have : (nI k12).toInt = ((k12 : Nat) : Int) := nI_toInt (by omega); have := i_nlt c13; have : (1 : Int32).toInt = 1 := rfl; have : (nI sz10).toInt = ((sz10 : Nat) : Int) := nI_toInt (by omega); have := sub_t (x := nI sz10) (y := nI k12) (by have := i_nlt c11; have := i_rg i; have : (0 : Int32).toInt = 0 := rfl; have := i_eq ek12; have : (nI k12).toInt = ((k12 : Nat) : Int) := nI_toInt (by omega); have : (nI sz10).toInt = ((sz10 : Nat) : Int) := nI_toInt (by omega); omega) (by have := i_nlt c11; have := i_rg i; have : (0 : Int32).toInt = 0 := rfl; have := i_eq ek12; have : (nI k12).toInt = ((k12 : Nat) : Int) := nI_toInt (by omega); have : (nI sz10).toInt = ((sz10 : Nat) : Int) := nI_toInt (by omega); omega); omega))) ?_
                      refine r_i2l rfl ?_
                      refine WR_tL (y := lN (sz10 - 1)) (nI_l (by have := i_nlt c11; have := i_rg i; have : (0 : Int32).toInt = 0 := rfl; have := i_eq ek12; have : (nI k12).toInt = ((k12 : Nat) : Int) := nI_toInt (by omega); have := i_nlt c13; have : (1 : Int32).toInt = 1 := rfl; have : (nI sz10).toInt = ((sz10 : Nat) : Int) := nI_toInt (by omega); have := sub_t (x := nI sz10) (y := nI k12) (by have := i_nlt c11; have := i_rg i; have : (0 : Int32).toInt = 0 := rfl; have := i_eq ek12; have : (nI k12).toInt = ((k12 : Nat) : Int) := nI_toInt (by omega); have : (nI sz10).toInt = ((sz10 : Nat) : Int) := nI_toInt (by omega); omega) (by have := i_nlt c11; have := i_rg i; have : (0 : Int32).toInt = 0 := rfl; have := i_eq ek12; have : (nI k12).toInt = ((k12 : Nat) : Int) := nI_toInt (by omega); have : (nI sz10).toInt = ((sz10 : Nat) : Int) := nI_toInt (by omega); omega); omega)) ?_
                      refine r_cs (y := 155) (ra := [.long (lN (sz10 - 1)), .long 0, .long (lN k12)]) (rest := []) rfl ⟨⟨rfl, rfl⟩, by decide⟩ rfl rfl (Nat.le_of_ble_eq_true rfl) ?_
                      refine in_155 (Nat.le_of_ble_eq_true rfl) ?_
                      show WR _ cd_155 0 [some (.long (lN k12)), none, some (.long 0), none, some (.long (lN (sz10 - 1))), none] [] (sR (sI h (ad 0) 6 0) (ad 1) k5 none) _
                      refine r_lload rfl rfl ?_
                      refine r_lload rfl rfl ?_
                      refine r_lif_lt (tg := 17) rfl rfl rfl (fun q => False.elim (by have := i_nlt c11; have := i_rg i; have : (0 : Int32).toInt = 0 := rfl; have := i_eq ek12; have : (nI k12).toInt = ((k12 : Nat) : Int) := nI_toInt (by omega); have := i_nlt c13; have : (1 : Int32).toInt = 1 := rfl; have : (nI sz10).toInt = ((sz10 : Nat) : Int) := nI_toInt (by omega); have := sub_t (x := nI sz10) (y := nI k12) (by have := i_nlt c11; have := i_rg i; have : (0 : Int32).toInt = 0 := rfl; have := i_eq ek12; have : (nI k12).toInt = ((k12 : Nat) : Int) := nI_toInt (by omega); have : (nI sz10).toInt = ((sz10 : Nat) : Int) := nI_toInt (by omega); omega) (by have := i_nlt c11; have := i_rg i; have : (0 : Int32).toInt = 0 := rfl; have := i_eq ek12; have : (nI k12).toInt = ((k12 : Nat) : Int) := nI_toInt (by omega); have : (nI sz10).toInt = ((sz10 : Nat) : Int) := nI_toInt (by omega); omega); have : (lN k12).toInt = ((k12 : Nat) : Int) := lN_toInt (by omega); have : (0 : Int64).toInt = 0 := rfl; have := l_lt q; omega)) (fun _ => ?_)
                      refine r_lload rfl rfl ?_
                      refine r_lload rfl rfl ?_
                      refine r_lif_gt (tg := 17) rfl rfl rfl (fun q => False.elim (by have := i_nlt c11; have := i_rg i; have : (0 : Int32).toInt = 0 := rfl; have := i_eq ek12; have : (nI k12).toInt = ((k12 : Nat) : Int) := nI_toInt (by omega); have := i_nlt c13; have : (1 : Int32).toInt = 1 := rfl; have : (nI sz10).toInt = ((sz10 : Nat) : Int) := nI_toInt (by omega); have := sub_t (x := nI sz10) (y := nI k12) (by have := i_nlt c11; have := i_rg i; have : (0 : Int32).toInt = 0 := rfl; have := i_eq ek12; have : (nI k12).toInt = ((k12 : Nat) : Int) := nI_toInt (by omega); have : (nI sz10).toInt = ((sz10 : Nat) : Int) := nI_toInt (by omega); omega) (by have := i_nlt c11; have := i_rg i; have : (0 : Int32).toInt = 0 := rfl; have := i_eq ek12; have : (nI k12).toInt = ((k12 : Nat) : Int) := nI_toInt (by omega); have : (nI sz10).toInt = ((sz10 : Nat) : Int) := nI_toInt (by omega); omega); have : (lN k12).toInt = ((k12 : Nat) : Int) := lN_toInt (by omega); have : (lN (sz10 - 1)).toInt = ((sz10 - 1 : Nat) : Int) := lN_toInt (by omega); have := l_lt q; omega)) (fun _ => ?_)
                      refine r_ic (x := 1) rfl rfl ?_
                      refine r_goto (tg := 18) rfl rfl ?_
                      refine r_zret rfl (.inr rfl) ?_
                      show WR _ cd_168 42 [some (.ref (ad 30)), some (.int (nI t10)), some (.int 9), some (.int (nI k12))] [.int 1] (sR (sI h (ad 0) 6 0) (ad 1) k5 none) _
                      refine r_if_ne (tg := 49) rfl rfl (fun _ => ?_) (fun q => absurd q (by decide))
                      refine r_ic (x := 0) rfl rfl ?_
                      refine r_iret rfl ?_
                      show WR _ cd_178 54 [some (.ref (ad 30)), some (.int c), some (.int i), some (.int k), some (.int d), none, none] [.int 0] (sR (sI h (ad 0) 6 0) (ad 1) k5 none) _
                      refine r_istore (lv' := [some (.ref (ad 30)), some (.int c), some (.int i), some (.int k), some (.int d), some (.int 0), none]) rfl (Nat.le_of_ble_eq_true rfl) rfl ?_
                      refine r_iload rfl rfl ?_
                      refine r_if_le (tg := 68) rfl rfl (fun _ => ?_) (fun q => absurd q (by decide))
                      refine r_aload rfl rfl ?_
                      refine r_getA (b := ad 36) rfl ⟨rfl, rfl, rfl⟩ (fx_t30 fx) (fx_r30_5 fx) ?_
                      refine r_ic (x := 30) rfl rfl ?_
                      refine r_aload rfl rfl ?_
                      refine r_getA (b := ad 31) rfl ⟨rfl, rfl, rfl⟩ (fx_t30 fx) (fx_r30_0 fx) ?_
                      refine r_iload rfl rfl ?_
                      refine WR_tI (y := nI k2) ek2 ?_
                      refine r_iaload rfl (.inl (fx_t31 fx)) (vp_ct (fx_n31 fx) (vp_in_nI (by have := i_nlt c1; have := i_rg c; have : (0 : Int32).toInt = 0 := rfl; have := i_eq ek2; have : (nI k2).toInt = ((k2 : Nat) : Int) := nI_toInt (by omega); have := i_nle c3; have : (24 : Int32).toInt = 24 := rfl; omega) (by omega))) ?_
                      refine WR_tI (congrArg (hI (sR (sI h (ad 0) 6 0) (ad 1) k5 none) (ad 31)) ((nI_clamp (by have := i_nlt c1; have := i_rg c; have : (0 : Int32).toInt = 0 := rfl; have := i_eq ek2; have : (nI k2).toInt = ((k2 : Nat) : Int) := nI_toInt (by omega); have := i_nle c3; have : (24 : Int32).toInt = 24 := rfl; omega)) : _ = k2)) ?_
                      refine WR_tI (y := nI t10) (Eq.trans I_oR (Eq.trans (I_ne (fx_ne fx (by decide))) v10)) ?_
                      refine r_imul rfl ?_
                      refine WR_tI (y := nI (30 * t10)) (Eq.trans (pk_mul 30 t10) (congrArg nI (by omega))) ?_
                      refine r_iload rfl rfl ?_
                      refine WR_tI (y := nI k12) ek12 ?_
                      refine r_iadd rfl ?_
                      refine WR_tI (y := nI (30 * t10 + k12)) (Eq.trans (nI_add (30 * t10) k12) (congrArg nI (by have := i_nlt c11; have := i_rg i; have : (0 : Int32).toInt = 0 := rfl; have := i_eq ek12; have : (nI k12).toInt = ((k12 : Nat) : Int) := nI_toInt (by omega); have := i_nlt c13; have : (1 : Int32).toInt = 1 := rfl; have : (nI sz10).toInt = ((sz10 : Nat) : Int) := nI_toInt (by omega); have := sub_t (x := nI sz10) (y := nI k12) (by have := i_nlt c11; have := i_rg i; have : (0 : Int32).toInt = 0 := rfl; have := i_eq ek12; have : (nI k12).toInt = ((k12 : Nat) : Int) := nI_toInt (by omega); have : (nI sz10).toInt = ((sz10 : Nat) : Int) := nI_toInt (by omega); omega) (by have := i_nlt c11; have := i_rg i; have : (0 : Int32).toInt = 0 := rfl; have := i_eq ek12; have : (nI k12).toInt = ((k12 : Nat) : Int) := nI_toInt (by omega); have : (nI sz10).toInt = ((sz10 : Nat) : Int) := nI_toInt (by omega); omega); omega))) ?_
                      refine r_laload rfl (fx_t36 fx) (vp_ct (fx_n36 fx) (vp_in_nI (by have := i_nlt c11; have := i_rg i; have : (0 : Int32).toInt = 0 := rfl; have := i_eq ek12; have : (nI k12).toInt = ((k12 : Nat) : Int) := nI_toInt (by omega); have := i_nlt c13; have : (1 : Int32).toInt = 1 := rfl; have : (nI sz10).toInt = ((sz10 : Nat) : Int) := nI_toInt (by omega); have := sub_t (x := nI sz10) (y := nI k12) (by have := i_nlt c11; have := i_rg i; have : (0 : Int32).toInt = 0 := rfl; have := i_eq ek12; have : (nI k12).toInt = ((k12 : Nat) : Int) := nI_toInt (by omega); have : (nI sz10).toInt = ((sz10 : Nat) : Int) := nI_toInt (by omega); omega) (by have := i_nlt c11; have := i_rg i; have : (0 : Int32).toInt = 0 := rfl; have := i_eq ek12; have : (nI k12).toInt = ((k12 : Nat) : Int) := nI_toInt (by omega); have : (nI sz10).toInt = ((sz10 : Nat) : Int) := nI_toInt (by omega); omega); omega) (by omega))) ?_
                      refine WR_tL (congrArg (hL (sR (sI h (ad 0) 6 0) (ad 1) k5 none) (ad 36)) ((nI_clamp (by have := i_nlt c11; have := i_rg i; have : (0 : Int32).toInt = 0 := rfl; have := i_eq ek12; have : (nI k12).toInt = ((k12 : Nat) : Int) := nI_toInt (by omega); have := i_nlt c13; have : (1 : Int32).toInt = 1 := rfl; have : (nI sz10).toInt = ((sz10 : Nat) : Int) := nI_toInt (by omega); have := sub_t (x := nI sz10) (y := nI k12) (by have := i_nlt c11; have := i_rg i; have : (0 : Int32).toInt = 0 := rfl; have := i_eq ek12; have : (nI k12).toInt = ((k12 : Nat) : Int) := nI_toInt (by omega); have : (nI sz10).toInt = ((sz10 : Nat) : Int) := nI_toInt (by omega); omega) (by have := i_nlt c11; have := i_rg i; have : (0 : Int32).toInt = 0 := rfl; have := i_eq ek12; have : (nI k12).toInt = ((k12 : Nat) : Int) := nI_toInt (by omega); have : (nI sz10).toInt = ((sz10 : Nat) : Int) := nI_toInt (by omega); omega); omega)) : _ = 30 * t10 + k12)) ?_
                      refine WR_tL (y := (-1)) (Eq.trans L_oR (Eq.trans L_oI v14)) ?_
                      refine r_l2i rfl ?_
                      refine WR_tI (y := (-1)) rfl ?_
                      refine r_istore (lv' := [some (.ref (ad 30)), some (.int c), some (.int i), some (.int k), some (.int d), some (.int 0), some (.int (-1))]) rfl (Nat.le_of_ble_eq_true rfl) rfl ?_
                      refine r_iload rfl rfl ?_
                      refine r_ic (x := (-1)) rfl rfl ?_
                      refine r_icmp_eq (tg := 113) rfl rfl (fun _ => ?_) (fun q => absurd q (by decide))
                      refine r_aload rfl rfl ?_
                      refine r_getA (b := ad 31) rfl ⟨rfl, rfl, rfl⟩ (fx_t30 fx) (fx_r30_0 fx) ?_
                      refine r_iload rfl rfl ?_
                      refine WR_tI (y := nI k5) ek5 ?_
                      refine r_iload rfl rfl ?_
                      refine r_iastore rfl (fx_t31 fx) (vp_ct (fx_n31 fx) (vp_in_nI (by have := i_nlt c4; have := i_rg d; have : (0 : Int32).toInt = 0 := rfl; have := i_eq ek5; have : (nI k5).toInt = ((k5 : Nat) : Int) := nI_toInt (by omega); have := i_nle c6; have : (24 : Int32).toInt = 24 := rfl; omega) (by omega))) ?_
                      refine WR_h (h2 := sI (sR (sI h (ad 0) 6 0) (ad 1) k5 none) (ad 31) k5 (-1)) (congrArg (fun z => sI (sR (sI h (ad 0) 6 0) (ad 1) k5 none) (ad 31) z (-1)) ((nI_clamp (by have := i_nlt c4; have := i_rg d; have : (0 : Int32).toInt = 0 := rfl; have := i_eq ek5; have : (nI k5).toInt = ((k5 : Nat) : Int) := nI_toInt (by omega); have := i_nle c6; have : (24 : Int32).toInt = 24 := rfl; omega)) : _ = k5)) ?_
                      have fx : FX n ad sa z0 (sI (sR (sI h (ad 0) 6 0) (ad 1) k5 none) (ad 31) k5 (-1)) := (FX.sI fx)
                      refine r_aload rfl rfl ?_
                      refine r_ic (x := 1) rfl rfl ?_
                      refine r_cv (y := 154) (ra := [.int 1]) (rest := []) rfl ⟨⟨rfl, rfl⟩, rfl, by decide⟩ (fx_t30 fx) rfl rfl (Nat.le_of_ble_eq_true rfl) ?_
                      refine in_154 (Nat.le_of_ble_eq_true rfl) ?_
                      show WR _ cd_154 0 [some (.ref (ad 30)), some (.int 1)] [] (sI (sR (sI h (ad 0) 6 0) (ad 1) k5 none) (ad 31) k5 (-1)) _
                      refine r_aload rfl rfl ?_
                      refine r_iload rfl rfl ?_
                      refine r_ic (x := (-1)) rfl rfl ?_
                      refine r_icmp_ge (tg := 10) rfl rfl (fun _ => ?_) (fun q => absurd q (by decide))
                      refine r_ic (x := 0) rfl rfl ?_
                      refine r_putI rfl ⟨rfl, rfl, rfl⟩ (fx_t30 fx) ?_
                      have fx : FX n ad sa z0 (sI (sI (sR (sI h (ad 0) 6 0) (ad 1) k5 none) (ad 31) k5 (-1)) (ad 30) 11 0) := (FX.sI fx)
                      refine r_iload rfl rfl ?_
                      refine r_iret rfl ?_
                      show WR _ cd_178 127 [some (.ref (ad 30)), some (.int c), some (.int i), some (.int k), some (.int d), some (.int 0), some (.int (-1))] [.int 1] (sI (sI (sR (sI h (ad 0) 6 0) (ad 1) k5 none) (ad 31) k5 (-1)) (ad 30) 11 0) _
                      refine r_iret rfl ?_
                      have cg : Chg n ad [(30, 11), (0, 6)] [31, 1] h (sI (sI (sR (sI h (ad 0) 6 0) (ad 1) k5 none) (ad 31) k5 (-1)) (ad 30) 11 0) := ((((Chg.rf.sI (fx_j fx0) (k := 6) (v := 0) (.inl (by decide))).sR (fx_j fx0) (k := k5) (v := none) (.inl (by decide))).row.sI (fx_j fx0) (k := k5) (v := (-1)) (.inl (by decide))).row.sI (fx_j fx0) (k := 11) (v := 0) (.inl (by decide)))
                      refine ⟨rfl, ⟨mid, pa, np, FX.k fx0 cg.1 cg.2.1 cg.2.2 (by decide), Eq.trans (Eq.trans (I_ne (fx_ne fx (by decide))) (Eq.trans (I_ne (fx_ne fx (by decide))) (Eq.trans I_oR I_eq))) (Eq.symm I_eq), rt.k cg.2.1 (by decide), ra.k cg.2.1 (by decide), rp.k cg.2.1 (by decide), rf.k cg.2.1 (by decide), Rst.k fx0 rst cg.2.2, Ru.k fx0 ru cg.2.1 (by decide), ?_⟩, ?_, ?_⟩
                      · refine Rs.cases rs (smS_of fx0 cg (by decide)) (fun c_ hc_ => ?_)
                        by_cases e_ : c_ = k5
                        · rw [e_]
                          exact .inr (.inl ⟨(Eq.trans (I_ne (fx_ne fx (by decide))) I_eq), (Eq.trans R_oI (Eq.trans R_oI R_eq))⟩)
                        · exact .inl ⟨c_, hc_, (Eq.trans (I_ne (fx_ne fx (by decide))) (Eq.trans (I_nk (by have := i_nlt c4; have := i_rg d; have : (0 : Int32).toInt = 0 := rfl; have := i_eq ek5; have : (nI k5).toInt = ((k5 : Nat) : Int) := nI_toInt (by omega); have := i_nle c6; have : (24 : Int32).toInt = 24 := rfl; omega)) (Eq.trans I_oR (I_ne (fx_ne fx (by decide)))))), (Eq.trans R_oI (Eq.trans R_oI (Eq.trans (R_nk (by have := i_nlt c4; have := i_rg d; have : (0 : Int32).toInt = 0 := rfl; have := i_eq ek5; have : (nI k5).toInt = ((k5 : Nat) : Int) := nI_toInt (by omega); have := i_nle c6; have : (24 : Int32).toInt = 24 := rfl; omega)) R_oI)))⟩
                      · simp only [hZ_sI, hZ_sL, hZ_sD, hZ_sR]; omega
                      · simp only [hU_sI, hU_sL, hU_sD, hU_sR]; omega
                    · obtain ⟨tg14, dz14, s1_14, k1_14, xx14, we14⟩ := rs.1.2.2.2.1 q14 hq14
                      have hn14 := rs.1.1
                      refine r_aaloadA (b := pa q14) rfl (isQ_of tg2_10 (by decide)) (vp_ct n_10 (vp_in_nI (by have := i_nlt c11; have := i_rg i; have : (0 : Int32).toInt = 0 := rfl; have := i_eq ek12; have : (nI k12).toInt = ((k12 : Nat) : Int) := nI_toInt (by omega); have := i_nlt c13; have : (1 : Int32).toInt = 1 := rfl; have : (nI sz10).toInt = ((sz10 : Nat) : Int) := nI_toInt (by omega); have := sub_t (x := nI sz10) (y := nI k12) (by have := i_nlt c11; have := i_rg i; have : (0 : Int32).toInt = 0 := rfl; have := i_eq ek12; have : (nI k12).toInt = ((k12 : Nat) : Int) := nI_toInt (by omega); have : (nI sz10).toInt = ((sz10 : Nat) : Int) := nI_toInt (by omega); omega) (by have := i_nlt c11; have := i_rg i; have : (0 : Int32).toInt = 0 := rfl; have := i_eq ek12; have : (nI k12).toInt = ((k12 : Nat) : Int) := nI_toInt (by omega); have : (nI sz10).toInt = ((sz10 : Nat) : Int) := nI_toInt (by omega); omega); omega) (by omega))) (Eq.trans (congrArg (hR (sI h (ad 0) 6 0) (mid t10 + 1)) ((nI_clamp (by have := i_nlt c11; have := i_rg i; have : (0 : Int32).toInt = 0 := rfl; have := i_eq ek12; have : (nI k12).toInt = ((k12 : Nat) : Int) := nI_toInt (by omega); have := i_nlt c13; have : (1 : Int32).toInt = 1 := rfl; have : (nI sz10).toInt = ((sz10 : Nat) : Int) := nI_toInt (by omega); have := sub_t (x := nI sz10) (y := nI k12) (by have := i_nlt c11; have := i_rg i; have : (0 : Int32).toInt = 0 := rfl; have := i_eq ek12; have : (nI k12).toInt = ((k12 : Nat) : Int) := nI_toInt (by omega); have : (nI sz10).toInt = ((sz10 : Nat) : Int) := nI_toInt (by omega); omega) (by have := i_nlt c11; have := i_rg i; have : (0 : Int32).toInt = 0 := rfl; have := i_eq ek12; have : (nI k12).toInt = ((k12 : Nat) : Int) := nI_toInt (by omega); have : (nI sz10).toInt = ((sz10 : Nat) : Int) := nI_toInt (by omega); omega); omega)) : _ = k12)) (Eq.trans R_oI w14)) ?_
                      refine r_astore (lv' := [some (.ref (ad 0)), some (.int c), some (.int i), some (.int k), some (.int d), some (.ref (mid t10)), some (.ref (pa q14)), none]) rfl (Nat.le_of_ble_eq_true rfl) rfl ?_
                      refine r_aload rfl rfl ?_
                      refine r_instY rfl (by decide) tg14 ?_
                      refine r_if_eq (tg := 117) rfl rfl (fun q => absurd q (by decide)) (fun _ => ?_)
                      refine r_aload rfl rfl ?_
                      refine r_cast rfl tg14 ?_
                      refine r_astore (lv' := [some (.ref (ad 0)), some (.int c), some (.int i), some (.int k), some (.int d), some (.ref (mid t10)), some (.ref (pa q14)), some (.ref (pa q14))]) rfl (Nat.le_of_ble_eq_true rfl) rfl ?_
                      refine r_aload rfl rfl ?_
                      refine r_iload rfl rfl ?_
                      refine WR_tI (y := nI k8) ek8 ?_
                      refine r_cv (y := 48) (ra := [.int (nI k8)]) (rest := []) rfl ⟨⟨rfl, rfl⟩, rfl, by decide⟩ tg14 rfl rfl (Nat.le_of_ble_eq_true rfl) ?_
                      by_cases of15 : ofK kd14 k8 = true
                      · refine c_isOf (h := sI h (ad 0) 6 0) (kd := kd14) (k := k8) fx (fun j hj i hi => (Eq.trans (I_ne ((fx_lt fx (.inl (by decide))).2.2 j hj)) (rst j hj i hi))) tg14 (Eq.trans (I_ne (dy_ad fx (.inl (by decide)) dz14)) (k1_14.trans k2_14)) (by omega) (by have := i_nlt c7; have := i_rg k; have : (0 : Int32).toInt = 0 := rfl; have := i_eq ek8; have : (nI k8).toInt = ((k8 : Nat) : Int) := nI_toInt (by omega); have := i_nlt c9; have : (7 : Int32).toInt = 7 := rfl; omega) ?_
                        rw [if_pos of15]
                        show WR _ cd_50 107 [some (.ref (ad 0)), some (.int c), some (.int i), some (.int k), some (.int d), some (.ref (mid t10)), some (.ref (pa q14)), some (.ref (pa q14))] [.int 1] (sI h (ad 0) 6 0) _
                        refine r_if_ne (tg := 117) rfl rfl (fun _ => ?_) (fun q => absurd q (by decide))
                        refine r_aload rfl rfl ?_
                        refine r_getA (b := ad 1) rfl ⟨rfl, rfl, rfl⟩ (fx_t0 fx) (fx_r0_0 fx) ?_
                        refine r_iload rfl rfl ?_
                        refine WR_tI (y := nI k5) ek5 ?_
                        refine r_aload rfl rfl ?_
                        refine r_aastoreA rfl (isQ_of (fx_t1 fx) (by decide)) (vp_ct (fx_n1 fx) (vp_in_nI (by have := i_nlt c4; have := i_rg d; have : (0 : Int32).toInt = 0 := rfl; have := i_eq ek5; have : (nI k5).toInt = ((k5 : Nat) : Int) := nI_toInt (by omega); have := i_nle c6; have : (24 : Int32).toInt = 24 := rfl; omega) (by omega))) (okR_of (fx_t1 fx) tg14 (by decide)) ?_
                        refine WR_h (h2 := sR (sI h (ad 0) 6 0) (ad 1) k5 (some (pa q14))) (congrArg (fun z => sR (sI h (ad 0) 6 0) (ad 1) z (some (pa q14))) ((nI_clamp (by have := i_nlt c4; have := i_rg d; have : (0 : Int32).toInt = 0 := rfl; have := i_eq ek5; have : (nI k5).toInt = ((k5 : Nat) : Int) := nI_toInt (by omega); have := i_nle c6; have : (24 : Int32).toInt = 24 := rfl; omega)) : _ = k5)) ?_
                        have fx : FX n ad sa z0 (sR (sI h (ad 0) 6 0) (ad 1) k5 (some (pa q14))) := FX.sRA (i := 1) fx (.inl (by decide)) (by decide)
                        refine r_ic (x := 1) rfl rfl ?_
                        refine r_iret rfl ?_
                        show EV _ 178 [.ref (ad 30), .int c, .int i, .int k, .int d] (sR (sI h (ad 0) 6 0) (ad 1) k5 (some (pa q14))) _
                        refine in_178 (Nat.le_of_ble_eq_true rfl) ?_
                        show WR _ cd_178 0 [some (.ref (ad 30)), some (.int c), some (.int i), some (.int k), some (.int d), none, none] [] (sR (sI h (ad 0) 6 0) (ad 1) k5 (some (pa q14))) _
                        refine r_iload rfl rfl ?_
                        refine WR_tI (y := nI k2) ek2 ?_
                        refine r_cs (y := 153) (ra := [.int (nI k2)]) (rest := []) rfl ⟨⟨rfl, rfl⟩, by decide⟩ rfl rfl (Nat.le_of_ble_eq_true rfl) ?_
                        refine in_153 (Nat.le_of_ble_eq_true rfl) ?_
                        show WR _ cd_153 0 [some (.int (nI k2))] [] (sR (sI h (ad 0) 6 0) (ad 1) k5 (some (pa q14))) _
                        refine r_iload rfl rfl ?_
                        refine r_if_lt (tg := 14) rfl rfl (fun q => False.elim (by have := i_nlt c1; have := i_rg c; have : (0 : Int32).toInt = 0 := rfl; have := i_eq ek2; have : (nI k2).toInt = ((k2 : Nat) : Int) := nI_toInt (by omega); have := i_nle c3; have : (24 : Int32).toInt = 24 := rfl; have := i_lt q; omega)) (fun _ => ?_)
                        refine r_iload rfl rfl ?_
                        refine r_ic (x := 24) rfl rfl ?_
                        refine r_icmp_ge (tg := 14) rfl rfl (fun q => False.elim (by have := i_nlt c1; have := i_rg c; have : (0 : Int32).toInt = 0 := rfl; have := i_eq ek2; have : (nI k2).toInt = ((k2 : Nat) : Int) := nI_toInt (by omega); have := i_nle c3; have : (24 : Int32).toInt = 24 := rfl; have := i_le q; omega)) (fun _ => ?_)
                        refine r_ic (x := 1) rfl rfl ?_
                        refine r_goto (tg := 15) rfl rfl ?_
                        refine r_zret rfl (.inr rfl) ?_
                        show WR _ cd_178 4 [some (.ref (ad 30)), some (.int c), some (.int i), some (.int k), some (.int d), none, none] [.int 1] (sR (sI h (ad 0) 6 0) (ad 1) k5 (some (pa q14))) _
                        refine r_if_eq (tg := 15) rfl rfl (fun q => absurd q (by decide)) (fun _ => ?_)
                        refine r_iload rfl rfl ?_
                        refine WR_tI (y := nI k5) ek5 ?_
                        refine r_cs (y := 153) (ra := [.int (nI k5)]) (rest := []) rfl ⟨⟨rfl, rfl⟩, by decide⟩ rfl rfl (Nat.le_of_ble_eq_true rfl) ?_
                        refine in_153 (Nat.le_of_ble_eq_true rfl) ?_
                        show WR _ cd_153 0 [some (.int (nI k5))] [] (sR (sI h (ad 0) 6 0) (ad 1) k5 (some (pa q14))) _
                        refine r_iload rfl rfl ?_
                        refine r_if_lt (tg := 14) rfl rfl (fun q => False.elim (by have := i_nlt c4; have := i_rg d; have : (0 : Int32).toInt = 0 := rfl; have := i_eq ek5; have : (nI k5).toInt = ((k5 : Nat) : Int) := nI_toInt (by omega); have := i_nle c6; have : (24 : Int32).toInt = 24 := rfl; have := i_lt q; omega)) (fun _ => ?_)
                        refine r_iload rfl rfl ?_
                        refine r_ic (x := 24) rfl rfl ?_
                        refine r_icmp_ge (tg := 14) rfl rfl (fun q => False.elim (by have := i_nlt c4; have := i_rg d; have : (0 : Int32).toInt = 0 := rfl; have := i_eq ek5; have : (nI k5).toInt = ((k5 : Nat) : Int) := nI_toInt (by omega); have := i_nle c6; have : (24 : Int32).toInt = 24 := rfl; have := i_le q; omega)) (fun _ => ?_)
                        refine r_ic (x := 1) rfl rfl ?_
                        refine r_goto (tg := 15) rfl rfl ?_
                        refine r_zret rfl (.inr rfl) ?_
                        show WR _ cd_178 12 [some (.ref (ad 30)), some (.int c), some (.int i), some (.int k), some (.int d), none, none] [.int 1] (sR (sI h (ad 0) 6 0) (ad 1) k5 (some (pa q14))) _
                        refine r_if_ne (tg := 22) rfl rfl (fun _ => ?_) (fun q => absurd q (by decide))
                        refine r_iload rfl rfl ?_
                        refine WR_tI (y := nI k8) ek8 ?_
                        refine r_i2l rfl ?_
                        refine WR_tL (y := lN k8) (nI_l (by have := i_nlt c7; have := i_rg k; have : (0 : Int32).toInt = 0 := rfl; have := i_eq ek8; have : (nI k8).toInt = ((k8 : Nat) : Int) := nI_toInt (by omega); have := i_nlt c9; have : (7 : Int32).toInt = 7 := rfl; omega)) ?_
                        refine r_lc (x := 0) rfl rfl ?_
                        refine r_ldc (x := .long 7) rfl rfl ?_
                        refine r_cs (y := 155) (ra := [.long 7, .long 0, .long (lN k8)]) (rest := []) rfl ⟨⟨rfl, rfl⟩, by decide⟩ rfl rfl (Nat.le_of_ble_eq_true rfl) ?_
                        refine in_155 (Nat.le_of_ble_eq_true rfl) ?_
                        show WR _ cd_155 0 [some (.long (lN k8)), none, some (.long 0), none, some (.long 7), none] [] (sR (sI h (ad 0) 6 0) (ad 1) k5 (some (pa q14))) _
                        refine r_lload rfl rfl ?_
                        refine r_lload rfl rfl ?_
                        refine r_lif_lt (tg := 17) rfl rfl rfl (fun q => False.elim (by have := i_nlt c7; have := i_rg k; have : (0 : Int32).toInt = 0 := rfl; have := i_eq ek8; have : (nI k8).toInt = ((k8 : Nat) : Int) := nI_toInt (by omega); have := i_nlt c9; have : (7 : Int32).toInt = 7 := rfl; have : (lN k8).toInt = ((k8 : Nat) : Int) := lN_toInt (by omega); have : (0 : Int64).toInt = 0 := rfl; have := l_lt q; omega)) (fun _ => ?_)
                        refine r_lload rfl rfl ?_
                        refine r_lload rfl rfl ?_
                        refine r_lif_gt (tg := 17) rfl rfl rfl (fun q => False.elim (by have := i_nlt c7; have := i_rg k; have : (0 : Int32).toInt = 0 := rfl; have := i_eq ek8; have : (nI k8).toInt = ((k8 : Nat) : Int) := nI_toInt (by omega); have := i_nlt c9; have : (7 : Int32).toInt = 7 := rfl; have : (lN k8).toInt = ((k8 : Nat) : Int) := lN_toInt (by omega); have : (7 : Int64).toInt = 7 := rfl; have := l_lt q; omega)) (fun _ => ?_)
                        refine r_ic (x := 1) rfl rfl ?_
                        refine r_goto (tg := 18) rfl rfl ?_
                        refine r_zret rfl (.inr rfl) ?_
                        show WR _ cd_178 31 [some (.ref (ad 30)), some (.int c), some (.int i), some (.int k), some (.int d), none, none] [.int 1] (sR (sI h (ad 0) 6 0) (ad 1) k5 (some (pa q14))) _
                        refine r_if_ne (tg := 41) rfl rfl (fun _ => ?_) (fun q => absurd q (by decide))
                        refine r_aload rfl rfl ?_
                        refine r_aload rfl rfl ?_
                        refine r_getA (b := ad 31) rfl ⟨rfl, rfl, rfl⟩ (fx_t30 fx) (fx_r30_0 fx) ?_
                        refine r_iload rfl rfl ?_
                        refine WR_tI (y := nI k2) ek2 ?_
                        refine r_iaload rfl (.inl (fx_t31 fx)) (vp_ct (fx_n31 fx) (vp_in_nI (by have := i_nlt c1; have := i_rg c; have : (0 : Int32).toInt = 0 := rfl; have := i_eq ek2; have : (nI k2).toInt = ((k2 : Nat) : Int) := nI_toInt (by omega); have := i_nle c3; have : (24 : Int32).toInt = 24 := rfl; omega) (by omega))) ?_
                        refine WR_tI (congrArg (hI (sR (sI h (ad 0) 6 0) (ad 1) k5 (some (pa q14))) (ad 31)) ((nI_clamp (by have := i_nlt c1; have := i_rg c; have : (0 : Int32).toInt = 0 := rfl; have := i_eq ek2; have : (nI k2).toInt = ((k2 : Nat) : Int) := nI_toInt (by omega); have := i_nle c3; have : (24 : Int32).toInt = 24 := rfl; omega)) : _ = k2)) ?_
                        refine WR_tI (y := nI t10) (Eq.trans I_oR (Eq.trans (I_ne (fx_ne fx (by decide))) v10)) ?_
                        refine r_ic (x := 9) rfl rfl ?_
                        refine r_iload rfl rfl ?_
                        refine WR_tI (y := nI k12) ek12 ?_
                        refine r_cv (y := 168) (ra := [.int (nI k12), .int 9, .int (nI t10)]) (rest := []) rfl ⟨⟨rfl, rfl⟩, rfl, by decide⟩ (fx_t30 fx) rfl rfl (Nat.le_of_ble_eq_true rfl) ?_
                        refine in_168 (Nat.le_of_ble_eq_true rfl) ?_
                        show WR _ cd_168 0 [some (.ref (ad 30)), some (.int (nI t10)), some (.int 9), some (.int (nI k12))] [] (sR (sI h (ad 0) 6 0) (ad 1) k5 (some (pa q14))) _
                        refine r_iload rfl rfl ?_
                        refine r_ic (x := (-1)) rfl rfl ?_
                        refine r_icmp_eq (tg := 18) rfl rfl (fun q => False.elim (by have : (nI t10).toInt = ((t10 : Nat) : Int) := nI_toInt (by omega); have : (-1 : Int32).toInt = -1 := rfl; have := i_eq q; omega)) (fun _ => ?_)
                        refine r_aload rfl rfl ?_
                        refine r_iload rfl rfl ?_
                        refine r_cv (y := 166) (ra := [.int (nI t10)]) (rest := []) rfl ⟨⟨rfl, rfl⟩, rfl, by decide⟩ (fx_t30 fx) rfl rfl (Nat.le_of_ble_eq_true rfl) ?_
                        refine in_166 (Nat.le_of_ble_eq_true rfl) ?_
                        show WR _ cd_166 0 [some (.ref (ad 30)), some (.int (nI t10))] [] (sR (sI h (ad 0) 6 0) (ad 1) k5 (some (pa q14))) _
                        refine r_iload rfl rfl ?_
                        refine r_ic (x := (-1)) rfl rfl ?_
                        refine r_icmp_ne (tg := 9) rfl rfl (fun _ => ?_) (fun q => False.elim (by have : (nI t10).toInt = ((t10 : Nat) : Int) := nI_toInt (by omega); have : (-1 : Int32).toInt = -1 := rfl; have := i_eq q; omega))
                        refine r_iload rfl rfl ?_
                        refine r_ic (x := 1000) rfl rfl ?_
                        refine r_icmp_lt (tg := 21) rfl rfl (fun _ => ?_) (fun q => False.elim (by have : (nI t10).toInt = ((t10 : Nat) : Int) := nI_toInt (by omega); have : (1000 : Int32).toInt = 1000 := rfl; have := i_nlt q; omega))
                        refine r_aload rfl rfl ?_
                        refine r_getA (b := ad 33) rfl ⟨rfl, rfl, rfl⟩ (fx_t30 fx) (fx_r30_2 fx) ?_
                        refine r_iload rfl rfl ?_
                        refine r_iaload rfl (.inl (fx_t33 fx)) (vp_ct (fx_n33 fx) (vp_in_nI (by omega) (by omega))) ?_
                        refine WR_tI (congrArg (hI (sR (sI h (ad 0) 6 0) (ad 1) k5 (some (pa q14))) (ad 33)) ((nI_clamp (by omega)) : _ = t10)) ?_
                        refine WR_tI (y := 9) (Eq.trans I_oR (Eq.trans (I_ne (fx_ne fx (by decide))) l2_10)) ?_
                        refine r_iret rfl ?_
                        show WR _ cd_168 10 [some (.ref (ad 30)), some (.int (nI t10)), some (.int 9), some (.int (nI k12))] [.int 9] (sR (sI h (ad 0) 6 0) (ad 1) k5 (some (pa q14))) _
                        refine r_iload rfl rfl ?_
                        refine r_icmp_eq (tg := 18) rfl rfl (fun _ => ?_) (fun q => absurd q (by decide))
                        refine r_iload rfl rfl ?_
                        refine r_ic (x := (-1)) rfl rfl ?_
                        refine r_icmp_ne (tg := 27) rfl rfl (fun _ => ?_) (fun q => False.elim (by have : (nI t10).toInt = ((t10 : Nat) : Int) := nI_toInt (by omega); have : (-1 : Int32).toInt = -1 := rfl; have := i_eq q; omega))
                        refine r_iload rfl rfl ?_
                        refine r_i2l rfl ?_
                        refine WR_tL (y := lN k12) (nI_l (by have := i_nlt c11; have := i_rg i; have : (0 : Int32).toInt = 0 := rfl; have := i_eq ek12; have : (nI k12).toInt = ((k12 : Nat) : Int) := nI_toInt (by omega); have := i_nlt c13; have : (1 : Int32).toInt = 1 := rfl; have : (nI sz10).toInt = ((sz10 : Nat) : Int) := nI_toInt (by omega); have := sub_t (x := nI sz10) (y := nI k12) (by have := i_nlt c11; have := i_rg i; have : (0 : Int32).toInt = 0 := rfl; have := i_eq ek12; have : (nI k12).toInt = ((k12 : Nat) : Int) := nI_toInt (by omega); have : (nI sz10).toInt = ((sz10 : Nat) : Int) := nI_toInt (by omega); omega) (by have := i_nlt c11; have := i_rg i; have : (0 : Int32).toInt = 0 := rfl; have := i_eq ek12; have : (nI k12).toInt = ((k12 : Nat) : Int) := nI_toInt (by omega); have : (nI sz10).toInt = ((sz10 : Nat) : Int) := nI_toInt (by omega); omega); omega)) ?_
                        refine r_lc (x := 0) rfl rfl ?_
                        refine r_aload rfl rfl ?_
                        refine r_getA (b := ad 35) rfl ⟨rfl, rfl, rfl⟩ (fx_t30 fx) (fx_r30_4 fx) ?_
                        refine r_iload rfl rfl ?_
                        refine r_iaload rfl (.inl (fx_t35 fx)) (vp_ct (fx_n35 fx) (vp_in_nI (by omega) (by omega))) ?_
                        refine WR_tI (congrArg (hI (sR (sI h (ad 0) 6 0) (ad 1) k5 (some (pa q14))) (ad 35)) ((nI_clamp (by omega)) : _ = t10)) ?_
                        refine WR_tI (y := nI sz10) (Eq.trans I_oR (Eq.trans (I_ne (fx_ne fx (by decide))) sz_10)) ?_
                        refine r_ic (x := 1) rfl rfl ?_
                        refine r_isub rfl ?_
                        refine WR_tI (y := nI (sz10 - 1)) (Eq.trans (pk_sub (a := sz10) (b := 1) (by have := i_nlt c11; have := i_rg i; have : (0 : Int32).toInt = 0 := rfl; have := i_eq ek12; have : (nI k12).toInt = ((k12 : Nat) : Int) := nI_toInt (by omega); have := i_nlt c13; have : (1 : Int32).toInt = 1 := rfl; have : (nI sz10).toInt = ((sz10 : Nat) : Int) := nI_toInt (by omega); have := sub_t (x := nI sz10) (y := nI k12) (by have := i_nlt c11; have := i_rg i; have : (0 : Int32).toInt = 0 := rfl; have := i_eq ek12; have : (nI k12).toInt = ((k12 : Nat) : Int) := nI_toInt (by omega); have : (nI sz10).toInt = ((sz10 : Nat) : Int) := nI_toInt (by omega); omega) (by have := i_nlt c11; have := i_rg i; have : (0 : Int32).toInt = 0 := rfl; have := i_eq ek12; have : (nI k12).toInt = ((k12 : Nat) : Int) := nI_toInt (by omega); have : (nI sz10).toInt = ((sz10 : Nat) : Int) := nI_toInt (by omega); omega); omega)) (congrArg nI (by have := i_nlt c11; have := i_rg i; have : (0 : Int32).toInt = 0 := rfl; have := i_eq ek12; have : (nI k12).toInt = ((k12 : Nat) : Int) := nI_toInt (by omega); have := i_nlt c13; have : (1 : Int32).toInt = 1 := rfl; have : (nI sz10).toInt = ((sz10 : Nat) : Int) := nI_toInt (by omega); have := sub_t (x := nI sz10) (y := nI k12) (by have := i_nlt c11; have := i_rg i; have : (0 : Int32).toInt = 0 := rfl; have := i_eq ek12; have : (nI k12).toInt = ((k12 : Nat) : Int) := nI_toInt (by omega); have : (nI sz10).toInt = ((sz10 : Nat) : Int) := nI_toInt (by omega); omega) (by have := i_nlt c11; have := i_rg i; have : (0 : Int32).toInt = 0 := rfl; have := i_eq ek12; have : (nI k12).toInt = ((k12 : Nat) : Int) := nI_toInt (by omega); have : (nI sz10).toInt = ((sz10 : Nat) : Int) := nI_toInt (by omega); omega); omega))) ?_
                        refine r_i2l rfl ?_
                        refine WR_tL (y := lN (sz10 - 1)) (nI_l (by have := i_nlt c11; have := i_rg i; have : (0 : Int32).toInt = 0 := rfl; have := i_eq ek12; have : (nI k12).toInt = ((k12 : Nat) : Int) := nI_toInt (by omega); have := i_nlt c13; have : (1 : Int32).toInt = 1 := rfl; have : (nI sz10).toInt = ((sz10 : Nat) : Int) := nI_toInt (by omega); have := sub_t (x := nI sz10) (y := nI k12) (by have := i_nlt c11; have := i_rg i; have : (0 : Int32).toInt = 0 := rfl; have := i_eq ek12; have : (nI k12).toInt = ((k12 : Nat) : Int) := nI_toInt (by omega); have : (nI sz10).toInt = ((sz10 : Nat) : Int) := nI_toInt (by omega); omega) (by have := i_nlt c11; have := i_rg i; have : (0 : Int32).toInt = 0 := rfl; have := i_eq ek12; have : (nI k12).toInt = ((k12 : Nat) : Int) := nI_toInt (by omega); have : (nI sz10).toInt = ((sz10 : Nat) : Int) := nI_toInt (by omega); omega); omega)) ?_
                        refine r_cs (y := 155) (ra := [.long (lN (sz10 - 1)), .long 0, .long (lN k12)]) (rest := []) rfl ⟨⟨rfl, rfl⟩, by decide⟩ rfl rfl (Nat.le_of_ble_eq_true rfl) ?_
                        refine in_155 (Nat.le_of_ble_eq_true rfl) ?_
                        show WR _ cd_155 0 [some (.long (lN k12)), none, some (.long 0), none, some (.long (lN (sz10 - 1))), none] [] (sR (sI h (ad 0) 6 0) (ad 1) k5 (some (pa q14))) _
                        refine r_lload rfl rfl ?_
                        refine r_lload rfl rfl ?_
                        refine r_lif_lt (tg := 17) rfl rfl rfl (fun q => False.elim (by have := i_nlt c11; have := i_rg i; have : (0 : Int32).toInt = 0 := rfl; have := i_eq ek12; have : (nI k12).toInt = ((k12 : Nat) : Int) := nI_toInt (by omega); have := i_nlt c13; have : (1 : Int32).toInt = 1 := rfl; have : (nI sz10).toInt = ((sz10 : Nat) : Int) := nI_toInt (by omega); have := sub_t (x := nI sz10) (y := nI k12) (by have := i_nlt c11; have := i_rg i; have : (0 : Int32).toInt = 0 := rfl; have := i_eq ek12; have : (nI k12).toInt = ((k12 : Nat) : Int) := nI_toInt (by omega); have : (nI sz10).toInt = ((sz10 : Nat) : Int) := nI_toInt (by omega); omega) (by have := i_nlt c11; have := i_rg i; have : (0 : Int32).toInt = 0 := rfl; have := i_eq ek12; have : (nI k12).toInt = ((k12 : Nat) : Int) := nI_toInt (by omega); have : (nI sz10).toInt = ((sz10 : Nat) : Int) := nI_toInt (by omega); omega); have : (lN k12).toInt = ((k12 : Nat) : Int) := lN_toInt (by omega); have : (0 : Int64).toInt = 0 := rfl; have := l_lt q; omega)) (fun _ => ?_)
                        refine r_lload rfl rfl ?_
                        refine r_lload rfl rfl ?_
                        refine r_lif_gt (tg := 17) rfl rfl rfl (fun q => False.elim (by have := i_nlt c11; have := i_rg i; have : (0 : Int32).toInt = 0 := rfl; have := i_eq ek12; have : (nI k12).toInt = ((k12 : Nat) : Int) := nI_toInt (by omega); have := i_nlt c13; have : (1 : Int32).toInt = 1 := rfl; have : (nI sz10).toInt = ((sz10 : Nat) : Int) := nI_toInt (by omega); have := sub_t (x := nI sz10) (y := nI k12) (by have := i_nlt c11; have := i_rg i; have : (0 : Int32).toInt = 0 := rfl; have := i_eq ek12; have : (nI k12).toInt = ((k12 : Nat) : Int) := nI_toInt (by omega); have : (nI sz10).toInt = ((sz10 : Nat) : Int) := nI_toInt (by omega); omega) (by have := i_nlt c11; have := i_rg i; have : (0 : Int32).toInt = 0 := rfl; have := i_eq ek12; have : (nI k12).toInt = ((k12 : Nat) : Int) := nI_toInt (by omega); have : (nI sz10).toInt = ((sz10 : Nat) : Int) := nI_toInt (by omega); omega); have : (lN k12).toInt = ((k12 : Nat) : Int) := lN_toInt (by omega); have : (lN (sz10 - 1)).toInt = ((sz10 - 1 : Nat) : Int) := lN_toInt (by omega); have := l_lt q; omega)) (fun _ => ?_)
                        refine r_ic (x := 1) rfl rfl ?_
                        refine r_goto (tg := 18) rfl rfl ?_
                        refine r_zret rfl (.inr rfl) ?_
                        show WR _ cd_168 42 [some (.ref (ad 30)), some (.int (nI t10)), some (.int 9), some (.int (nI k12))] [.int 1] (sR (sI h (ad 0) 6 0) (ad 1) k5 (some (pa q14))) _
                        refine r_if_ne (tg := 49) rfl rfl (fun _ => ?_) (fun q => absurd q (by decide))
                        refine r_ic (x := 0) rfl rfl ?_
                        refine r_iret rfl ?_
                        show WR _ cd_178 54 [some (.ref (ad 30)), some (.int c), some (.int i), some (.int k), some (.int d), none, none] [.int 0] (sR (sI h (ad 0) 6 0) (ad 1) k5 (some (pa q14))) _
                        refine r_istore (lv' := [some (.ref (ad 30)), some (.int c), some (.int i), some (.int k), some (.int d), some (.int 0), none]) rfl (Nat.le_of_ble_eq_true rfl) rfl ?_
                        refine r_iload rfl rfl ?_
                        refine r_if_le (tg := 68) rfl rfl (fun _ => ?_) (fun q => absurd q (by decide))
                        refine r_aload rfl rfl ?_
                        refine r_getA (b := ad 36) rfl ⟨rfl, rfl, rfl⟩ (fx_t30 fx) (fx_r30_5 fx) ?_
                        refine r_ic (x := 30) rfl rfl ?_
                        refine r_aload rfl rfl ?_
                        refine r_getA (b := ad 31) rfl ⟨rfl, rfl, rfl⟩ (fx_t30 fx) (fx_r30_0 fx) ?_
                        refine r_iload rfl rfl ?_
                        refine WR_tI (y := nI k2) ek2 ?_
                        refine r_iaload rfl (.inl (fx_t31 fx)) (vp_ct (fx_n31 fx) (vp_in_nI (by have := i_nlt c1; have := i_rg c; have : (0 : Int32).toInt = 0 := rfl; have := i_eq ek2; have : (nI k2).toInt = ((k2 : Nat) : Int) := nI_toInt (by omega); have := i_nle c3; have : (24 : Int32).toInt = 24 := rfl; omega) (by omega))) ?_
                        refine WR_tI (congrArg (hI (sR (sI h (ad 0) 6 0) (ad 1) k5 (some (pa q14))) (ad 31)) ((nI_clamp (by have := i_nlt c1; have := i_rg c; have : (0 : Int32).toInt = 0 := rfl; have := i_eq ek2; have : (nI k2).toInt = ((k2 : Nat) : Int) := nI_toInt (by omega); have := i_nle c3; have : (24 : Int32).toInt = 24 := rfl; omega)) : _ = k2)) ?_
                        refine WR_tI (y := nI t10) (Eq.trans I_oR (Eq.trans (I_ne (fx_ne fx (by decide))) v10)) ?_
                        refine r_imul rfl ?_
                        refine WR_tI (y := nI (30 * t10)) (Eq.trans (pk_mul 30 t10) (congrArg nI (by omega))) ?_
                        refine r_iload rfl rfl ?_
                        refine WR_tI (y := nI k12) ek12 ?_
                        refine r_iadd rfl ?_
                        refine WR_tI (y := nI (30 * t10 + k12)) (Eq.trans (nI_add (30 * t10) k12) (congrArg nI (by have := i_nlt c11; have := i_rg i; have : (0 : Int32).toInt = 0 := rfl; have := i_eq ek12; have : (nI k12).toInt = ((k12 : Nat) : Int) := nI_toInt (by omega); have := i_nlt c13; have : (1 : Int32).toInt = 1 := rfl; have : (nI sz10).toInt = ((sz10 : Nat) : Int) := nI_toInt (by omega); have := sub_t (x := nI sz10) (y := nI k12) (by have := i_nlt c11; have := i_rg i; have : (0 : Int32).toInt = 0 := rfl; have := i_eq ek12; have : (nI k12).toInt = ((k12 : Nat) : Int) := nI_toInt (by omega); have : (nI sz10).toInt = ((sz10 : Nat) : Int) := nI_toInt (by omega); omega) (by have := i_nlt c11; have := i_rg i; have : (0 : Int32).toInt = 0 := rfl; have := i_eq ek12; have : (nI k12).toInt = ((k12 : Nat) : Int) := nI_toInt (by omega); have : (nI sz10).toInt = ((sz10 : Nat) : Int) := nI_toInt (by omega); omega); omega))) ?_
                        refine r_laload rfl (fx_t36 fx) (vp_ct (fx_n36 fx) (vp_in_nI (by have := i_nlt c11; have := i_rg i; have : (0 : Int32).toInt = 0 := rfl; have := i_eq ek12; have : (nI k12).toInt = ((k12 : Nat) : Int) := nI_toInt (by omega); have := i_nlt c13; have : (1 : Int32).toInt = 1 := rfl; have : (nI sz10).toInt = ((sz10 : Nat) : Int) := nI_toInt (by omega); have := sub_t (x := nI sz10) (y := nI k12) (by have := i_nlt c11; have := i_rg i; have : (0 : Int32).toInt = 0 := rfl; have := i_eq ek12; have : (nI k12).toInt = ((k12 : Nat) : Int) := nI_toInt (by omega); have : (nI sz10).toInt = ((sz10 : Nat) : Int) := nI_toInt (by omega); omega) (by have := i_nlt c11; have := i_rg i; have : (0 : Int32).toInt = 0 := rfl; have := i_eq ek12; have : (nI k12).toInt = ((k12 : Nat) : Int) := nI_toInt (by omega); have : (nI sz10).toInt = ((sz10 : Nat) : Int) := nI_toInt (by omega); omega); omega) (by omega))) ?_
                        refine WR_tL (congrArg (hL (sR (sI h (ad 0) 6 0) (ad 1) k5 (some (pa q14))) (ad 36)) ((nI_clamp (by have := i_nlt c11; have := i_rg i; have : (0 : Int32).toInt = 0 := rfl; have := i_eq ek12; have : (nI k12).toInt = ((k12 : Nat) : Int) := nI_toInt (by omega); have := i_nlt c13; have : (1 : Int32).toInt = 1 := rfl; have : (nI sz10).toInt = ((sz10 : Nat) : Int) := nI_toInt (by omega); have := sub_t (x := nI sz10) (y := nI k12) (by have := i_nlt c11; have := i_rg i; have : (0 : Int32).toInt = 0 := rfl; have := i_eq ek12; have : (nI k12).toInt = ((k12 : Nat) : Int) := nI_toInt (by omega); have : (nI sz10).toInt = ((sz10 : Nat) : Int) := nI_toInt (by omega); omega) (by have := i_nlt c11; have := i_rg i; have : (0 : Int32).toInt = 0 := rfl; have := i_eq ek12; have : (nI k12).toInt = ((k12 : Nat) : Int) := nI_toInt (by omega); have : (nI sz10).toInt = ((sz10 : Nat) : Int) := nI_toInt (by omega); omega); omega)) : _ = 30 * t10 + k12)) ?_
                        refine WR_tL (y := lN (q14 + 1000)) (Eq.trans L_oR (Eq.trans L_oI (Eq.trans v14 (congrArg lN (Nat.add_comm 1000 q14))))) ?_
                        refine r_l2i rfl ?_
                        refine WR_tI (y := nI (q14 + 1000)) (lN_i _) ?_
                        refine r_istore (lv' := [some (.ref (ad 30)), some (.int c), some (.int i), some (.int k), some (.int d), some (.int 0), some (.int (nI (q14 + 1000)))]) rfl (Nat.le_of_ble_eq_true rfl) rfl ?_
                        refine r_iload rfl rfl ?_
                        refine r_ic (x := (-1)) rfl rfl ?_
                        refine r_icmp_eq (tg := 113) rfl rfl (fun q => False.elim (by have : (nI (q14 + 1000)).toInt = ((q14 + 1000 : Nat) : Int) := nI_toInt (by omega); have : (-1 : Int32).toInt = -1 := rfl; have := i_eq q; omega)) (fun _ => ?_)
                        refine r_aload rfl rfl ?_
                        refine r_iload rfl rfl ?_
                        refine r_ic (x := 1000) rfl rfl ?_
                        refine r_isub rfl ?_
                        refine WR_tI (y := nI q14) (Eq.trans (pk_sub (a := q14 + 1000) (b := 1000) (by omega)) (congrArg nI (by omega))) ?_
                        refine r_iload rfl rfl ?_
                        refine WR_tI (y := nI k8) ek8 ?_
                        refine r_cv (y := 177) (ra := [.int (nI k8), .int (nI q14)]) (rest := []) rfl ⟨⟨rfl, rfl⟩, rfl, by decide⟩ (fx_t30 fx) rfl rfl (Nat.le_of_ble_eq_true rfl) ?_
                        refine c_misOf (h := sR (sI h (ad 0) 6 0) (ad 1) k5 (some (pa q14))) (q := q14) (kd := kd14) (k := k8) fx (by omega) (Eq.trans I_oR (Eq.trans (I_ne (fx_ne fx (by decide))) k2_14)) (by omega) (by have := i_nlt c7; have := i_rg k; have : (0 : Int32).toInt = 0 := rfl; have := i_eq ek8; have : (nI k8).toInt = ((k8 : Nat) : Int) := nI_toInt (by omega); have := i_nlt c9; have : (7 : Int32).toInt = 7 := rfl; omega) ?_
                        rw [if_pos of15]
                        show WR _ cd_178 104 [some (.ref (ad 30)), some (.int c), some (.int i), some (.int k), some (.int d), some (.int 0), some (.int (nI (q14 + 1000)))] [.int 1] (sR (sI h (ad 0) 6 0) (ad 1) k5 (some (pa q14))) _
                        refine r_if_ne (tg := 113) rfl rfl (fun _ => ?_) (fun q => absurd q (by decide))
                        refine r_aload rfl rfl ?_
                        refine r_getA (b := ad 31) rfl ⟨rfl, rfl, rfl⟩ (fx_t30 fx) (fx_r30_0 fx) ?_
                        refine r_iload rfl rfl ?_
                        refine WR_tI (y := nI k5) ek5 ?_
                        refine r_iload rfl rfl ?_
                        refine r_iastore rfl (fx_t31 fx) (vp_ct (fx_n31 fx) (vp_in_nI (by have := i_nlt c4; have := i_rg d; have : (0 : Int32).toInt = 0 := rfl; have := i_eq ek5; have : (nI k5).toInt = ((k5 : Nat) : Int) := nI_toInt (by omega); have := i_nle c6; have : (24 : Int32).toInt = 24 := rfl; omega) (by omega))) ?_
                        refine WR_h (h2 := sI (sR (sI h (ad 0) 6 0) (ad 1) k5 (some (pa q14))) (ad 31) k5 (nI (q14 + 1000))) (congrArg (fun z => sI (sR (sI h (ad 0) 6 0) (ad 1) k5 (some (pa q14))) (ad 31) z (nI (q14 + 1000))) ((nI_clamp (by have := i_nlt c4; have := i_rg d; have : (0 : Int32).toInt = 0 := rfl; have := i_eq ek5; have : (nI k5).toInt = ((k5 : Nat) : Int) := nI_toInt (by omega); have := i_nle c6; have : (24 : Int32).toInt = 24 := rfl; omega)) : _ = k5)) ?_
                        have fx : FX n ad sa z0 (sI (sR (sI h (ad 0) 6 0) (ad 1) k5 (some (pa q14))) (ad 31) k5 (nI (q14 + 1000))) := (FX.sI fx)
                        refine r_aload rfl rfl ?_
                        refine r_ic (x := 1) rfl rfl ?_
                        refine r_cv (y := 154) (ra := [.int 1]) (rest := []) rfl ⟨⟨rfl, rfl⟩, rfl, by decide⟩ (fx_t30 fx) rfl rfl (Nat.le_of_ble_eq_true rfl) ?_
                        refine in_154 (Nat.le_of_ble_eq_true rfl) ?_
                        show WR _ cd_154 0 [some (.ref (ad 30)), some (.int 1)] [] (sI (sR (sI h (ad 0) 6 0) (ad 1) k5 (some (pa q14))) (ad 31) k5 (nI (q14 + 1000))) _
                        refine r_aload rfl rfl ?_
                        refine r_iload rfl rfl ?_
                        refine r_ic (x := (-1)) rfl rfl ?_
                        refine r_icmp_ge (tg := 10) rfl rfl (fun _ => ?_) (fun q => absurd q (by decide))
                        refine r_ic (x := 0) rfl rfl ?_
                        refine r_putI rfl ⟨rfl, rfl, rfl⟩ (fx_t30 fx) ?_
                        have fx : FX n ad sa z0 (sI (sI (sR (sI h (ad 0) 6 0) (ad 1) k5 (some (pa q14))) (ad 31) k5 (nI (q14 + 1000))) (ad 30) 11 0) := (FX.sI fx)
                        refine r_iload rfl rfl ?_
                        refine r_iret rfl ?_
                        show WR _ cd_178 127 [some (.ref (ad 30)), some (.int c), some (.int i), some (.int k), some (.int d), some (.int 0), some (.int (nI (q14 + 1000)))] [.int 1] (sI (sI (sR (sI h (ad 0) 6 0) (ad 1) k5 (some (pa q14))) (ad 31) k5 (nI (q14 + 1000))) (ad 30) 11 0) _
                        refine r_iret rfl ?_
                        have cg : Chg n ad [(30, 11), (0, 6)] [31, 1] h (sI (sI (sR (sI h (ad 0) 6 0) (ad 1) k5 (some (pa q14))) (ad 31) k5 (nI (q14 + 1000))) (ad 30) 11 0) := ((((Chg.rf.sI (fx_j fx0) (k := 6) (v := 0) (.inl (by decide))).sR (fx_j fx0) (k := k5) (v := some (pa q14)) (.inl (by decide))).row.sI (fx_j fx0) (k := k5) (v := nI (q14 + 1000)) (.inl (by decide))).row.sI (fx_j fx0) (k := 11) (v := 0) (.inl (by decide)))
                        refine ⟨rfl, ⟨mid, pa, np, FX.k fx0 cg.1 cg.2.1 cg.2.2 (by decide), Eq.trans (Eq.trans (I_ne (fx_ne fx (by decide))) (Eq.trans (I_ne (fx_ne fx (by decide))) (Eq.trans I_oR I_eq))) (Eq.symm I_eq), rt.k cg.2.1 (by decide), ra.k cg.2.1 (by decide), rp.k cg.2.1 (by decide), rf.k cg.2.1 (by decide), Rst.k fx0 rst cg.2.2, Ru.k fx0 ru cg.2.1 (by decide), ?_⟩, ?_, ?_⟩
                        · refine Rs.cases rs (smS_of fx0 cg (by decide)) (fun c_ hc_ => ?_)
                          by_cases e_ : c_ = k5
                          · rw [e_]
                            exact .inr (.inr ⟨q14, hq14, Eq.trans (Eq.trans (I_ne (fx_ne fx (by decide))) I_eq) (congrArg nI (Nat.add_comm _ _)), (Eq.trans R_oI (Eq.trans R_oI R_eq))⟩)
                          · exact .inl ⟨c_, hc_, (Eq.trans (I_ne (fx_ne fx (by decide))) (Eq.trans (I_nk (by have := i_nlt c4; have := i_rg d; have : (0 : Int32).toInt = 0 := rfl; have := i_eq ek5; have : (nI k5).toInt = ((k5 : Nat) : Int) := nI_toInt (by omega); have := i_nle c6; have : (24 : Int32).toInt = 24 := rfl; omega)) (Eq.trans I_oR (I_ne (fx_ne fx (by decide)))))), (Eq.trans R_oI (Eq.trans R_oI (Eq.trans (R_nk (by have := i_nlt c4; have := i_rg d; have : (0 : Int32).toInt = 0 := rfl; have := i_eq ek5; have : (nI k5).toInt = ((k5 : Nat) : Int) := nI_toInt (by omega); have := i_nle c6; have : (24 : Int32).toInt = 24 := rfl; omega)) R_oI)))⟩
                        · simp only [hZ_sI, hZ_sL, hZ_sD, hZ_sR]; omega
                        · simp only [hU_sI, hU_sL, hU_sD, hU_sR]; omega
                      · refine c_isOf (h := sI h (ad 0) 6 0) (kd := kd14) (k := k8) fx (fun j hj i hi => (Eq.trans (I_ne ((fx_lt fx (.inl (by decide))).2.2 j hj)) (rst j hj i hi))) tg14 (Eq.trans (I_ne (dy_ad fx (.inl (by decide)) dz14)) (k1_14.trans k2_14)) (by omega) (by have := i_nlt c7; have := i_rg k; have : (0 : Int32).toInt = 0 := rfl; have := i_eq ek8; have : (nI k8).toInt = ((k8 : Nat) : Int) := nI_toInt (by omega); have := i_nlt c9; have : (7 : Int32).toInt = 7 := rfl; omega) ?_
                        rw [if_neg of15]
                        show WR _ cd_50 107 [some (.ref (ad 0)), some (.int c), some (.int i), some (.int k), some (.int d), some (.ref (mid t10)), some (.ref (pa q14)), some (.ref (pa q14))] [.int 0] (sI h (ad 0) 6 0) _
                        refine r_if_ne (tg := 117) rfl rfl (fun q => absurd q (by decide)) (fun _ => ?_)
                        refine r_aload rfl rfl ?_
                        refine r_ic (x := (-14)) rfl rfl ?_
                        refine r_cv (y := 13) (ra := [.int (-14)]) (rest := []) rfl ⟨⟨rfl, rfl⟩, rfl, by decide⟩ (fx_t0 fx) rfl rfl (Nat.le_of_ble_eq_true rfl) ?_
                        refine in_13 (Nat.le_of_ble_eq_true rfl) ?_
                        show WR _ cd_13 0 [some (.ref (ad 0)), some (.int (-14))] [] (sI h (ad 0) 6 0) _
                        refine r_aload rfl rfl ?_
                        refine r_iload rfl rfl ?_
                        refine r_putI rfl ⟨rfl, rfl, rfl⟩ (fx_t0 fx) ?_
                        have fx : FX n ad sa z0 (sI (sI h (ad 0) 6 0) (ad 0) 6 (-14)) := (FX.sI fx)
                        refine r_iload rfl rfl ?_
                        refine r_iret rfl ?_
                        show WR _ cd_50 116 [some (.ref (ad 0)), some (.int c), some (.int i), some (.int k), some (.int d), some (.ref (mid t10)), some (.ref (pa q14)), some (.ref (pa q14))] [.int (-14)] (sI (sI h (ad 0) 6 0) (ad 0) 6 (-14)) _
                        refine r_iret rfl ?_
                        show EV _ 178 [.ref (ad 30), .int c, .int i, .int k, .int d] (sI (sI h (ad 0) 6 0) (ad 0) 6 (-14)) _
                        refine in_178 (Nat.le_of_ble_eq_true rfl) ?_
                        show WR _ cd_178 0 [some (.ref (ad 30)), some (.int c), some (.int i), some (.int k), some (.int d), none, none] [] (sI (sI h (ad 0) 6 0) (ad 0) 6 (-14)) _
                        refine r_iload rfl rfl ?_
                        refine WR_tI (y := nI k2) ek2 ?_
                        refine r_cs (y := 153) (ra := [.int (nI k2)]) (rest := []) rfl ⟨⟨rfl, rfl⟩, by decide⟩ rfl rfl (Nat.le_of_ble_eq_true rfl) ?_
                        refine in_153 (Nat.le_of_ble_eq_true rfl) ?_
                        show WR _ cd_153 0 [some (.int (nI k2))] [] (sI (sI h (ad 0) 6 0) (ad 0) 6 (-14)) _
                        refine r_iload rfl rfl ?_
                        refine r_if_lt (tg := 14) rfl rfl (fun q => False.elim (by have := i_nlt c1; have := i_rg c; have : (0 : Int32).toInt = 0 := rfl; have := i_eq ek2; have : (nI k2).toInt = ((k2 : Nat) : Int) := nI_toInt (by omega); have := i_nle c3; have : (24 : Int32).toInt = 24 := rfl; have := i_lt q; omega)) (fun _ => ?_)
                        refine r_iload rfl rfl ?_
                        refine r_ic (x := 24) rfl rfl ?_
                        refine r_icmp_ge (tg := 14) rfl rfl (fun q => False.elim (by have := i_nlt c1; have := i_rg c; have : (0 : Int32).toInt = 0 := rfl; have := i_eq ek2; have : (nI k2).toInt = ((k2 : Nat) : Int) := nI_toInt (by omega); have := i_nle c3; have : (24 : Int32).toInt = 24 := rfl; have := i_le q; omega)) (fun _ => ?_)
                        refine r_ic (x := 1) rfl rfl ?_
                        refine r_goto (tg := 15) rfl rfl ?_
                        refine r_zret rfl (.inr rfl) ?_
                        show WR _ cd_178 4 [some (.ref (ad 30)), some (.int c), some (.int i), some (.int k), some (.int d), none, none] [.int 1] (sI (sI h (ad 0) 6 0) (ad 0) 6 (-14)) _
                        refine r_if_eq (tg := 15) rfl rfl (fun q => absurd q (by decide)) (fun _ => ?_)
                        refine r_iload rfl rfl ?_
                        refine WR_tI (y := nI k5) ek5 ?_
                        refine r_cs (y := 153) (ra := [.int (nI k5)]) (rest := []) rfl ⟨⟨rfl, rfl⟩, by decide⟩ rfl rfl (Nat.le_of_ble_eq_true rfl) ?_
                        refine in_153 (Nat.le_of_ble_eq_true rfl) ?_
                        show WR _ cd_153 0 [some (.int (nI k5))] [] (sI (sI h (ad 0) 6 0) (ad 0) 6 (-14)) _
                        refine r_iload rfl rfl ?_
                        refine r_if_lt (tg := 14) rfl rfl (fun q => False.elim (by have := i_nlt c4; have := i_rg d; have : (0 : Int32).toInt = 0 := rfl; have := i_eq ek5; have : (nI k5).toInt = ((k5 : Nat) : Int) := nI_toInt (by omega); have := i_nle c6; have : (24 : Int32).toInt = 24 := rfl; have := i_lt q; omega)) (fun _ => ?_)
                        refine r_iload rfl rfl ?_
                        refine r_ic (x := 24) rfl rfl ?_
                        refine r_icmp_ge (tg := 14) rfl rfl (fun q => False.elim (by have := i_nlt c4; have := i_rg d; have : (0 : Int32).toInt = 0 := rfl; have := i_eq ek5; have : (nI k5).toInt = ((k5 : Nat) : Int) := nI_toInt (by omega); have := i_nle c6; have : (24 : Int32).toInt = 24 := rfl; have := i_le q; omega)) (fun _ => ?_)
                        refine r_ic (x := 1) rfl rfl ?_
                        refine r_goto (tg := 15) rfl rfl ?_
                        refine r_zret rfl (.inr rfl) ?_
                        show WR _ cd_178 12 [some (.ref (ad 30)), some (.int c), some (.int i), some (.int k), some (.int d), none, none] [.int 1] (sI (sI h (ad 0) 6 0) (ad 0) 6 (-14)) _
                        refine r_if_ne (tg := 22) rfl rfl (fun _ => ?_) (fun q => absurd q (by decide))
                        refine r_iload rfl rfl ?_
                        refine WR_tI (y := nI k8) ek8 ?_
                        refine r_i2l rfl ?_
                        refine WR_tL (y := lN k8) (nI_l (by have := i_nlt c7; have := i_rg k; have : (0 : Int32).toInt = 0 := rfl; have := i_eq ek8; have : (nI k8).toInt = ((k8 : Nat) : Int) := nI_toInt (by omega); have := i_nlt c9; have : (7 : Int32).toInt = 7 := rfl; omega)) ?_
                        refine r_lc (x := 0) rfl rfl ?_
                        refine r_ldc (x := .long 7) rfl rfl ?_
                        refine r_cs (y := 155) (ra := [.long 7, .long 0, .long (lN k8)]) (rest := []) rfl ⟨⟨rfl, rfl⟩, by decide⟩ rfl rfl (Nat.le_of_ble_eq_true rfl) ?_
                        refine in_155 (Nat.le_of_ble_eq_true rfl) ?_
                        show WR _ cd_155 0 [some (.long (lN k8)), none, some (.long 0), none, some (.long 7), none] [] (sI (sI h (ad 0) 6 0) (ad 0) 6 (-14)) _
                        refine r_lload rfl rfl ?_
                        refine r_lload rfl rfl ?_
                        refine r_lif_lt (tg := 17) rfl rfl rfl (fun q => False.elim (by have := i_nlt c7; have := i_rg k; have : (0 : Int32).toInt = 0 := rfl; have := i_eq ek8; have : (nI k8).toInt = ((k8 : Nat) : Int) := nI_toInt (by omega); have := i_nlt c9; have : (7 : Int32).toInt = 7 := rfl; have : (lN k8).toInt = ((k8 : Nat) : Int) := lN_toInt (by omega); have : (0 : Int64).toInt = 0 := rfl; have := l_lt q; omega)) (fun _ => ?_)
                        refine r_lload rfl rfl ?_
                        refine r_lload rfl rfl ?_
                        refine r_lif_gt (tg := 17) rfl rfl rfl (fun q => False.elim (by have := i_nlt c7; have := i_rg k; have : (0 : Int32).toInt = 0 := rfl; have := i_eq ek8; have : (nI k8).toInt = ((k8 : Nat) : Int) := nI_toInt (by omega); have := i_nlt c9; have : (7 : Int32).toInt = 7 := rfl; have : (lN k8).toInt = ((k8 : Nat) : Int) := lN_toInt (by omega); have : (7 : Int64).toInt = 7 := rfl; have := l_lt q; omega)) (fun _ => ?_)
                        refine r_ic (x := 1) rfl rfl ?_
                        refine r_goto (tg := 18) rfl rfl ?_
                        refine r_zret rfl (.inr rfl) ?_
                        show WR _ cd_178 31 [some (.ref (ad 30)), some (.int c), some (.int i), some (.int k), some (.int d), none, none] [.int 1] (sI (sI h (ad 0) 6 0) (ad 0) 6 (-14)) _
                        refine r_if_ne (tg := 41) rfl rfl (fun _ => ?_) (fun q => absurd q (by decide))
                        refine r_aload rfl rfl ?_
                        refine r_aload rfl rfl ?_
                        refine r_getA (b := ad 31) rfl ⟨rfl, rfl, rfl⟩ (fx_t30 fx) (fx_r30_0 fx) ?_
                        refine r_iload rfl rfl ?_
                        refine WR_tI (y := nI k2) ek2 ?_
                        refine r_iaload rfl (.inl (fx_t31 fx)) (vp_ct (fx_n31 fx) (vp_in_nI (by have := i_nlt c1; have := i_rg c; have : (0 : Int32).toInt = 0 := rfl; have := i_eq ek2; have : (nI k2).toInt = ((k2 : Nat) : Int) := nI_toInt (by omega); have := i_nle c3; have : (24 : Int32).toInt = 24 := rfl; omega) (by omega))) ?_
                        refine WR_tI (congrArg (hI (sI (sI h (ad 0) 6 0) (ad 0) 6 (-14)) (ad 31)) ((nI_clamp (by have := i_nlt c1; have := i_rg c; have : (0 : Int32).toInt = 0 := rfl; have := i_eq ek2; have : (nI k2).toInt = ((k2 : Nat) : Int) := nI_toInt (by omega); have := i_nle c3; have : (24 : Int32).toInt = 24 := rfl; omega)) : _ = k2)) ?_
                        refine WR_tI (y := nI t10) (Eq.trans (I_ne (fx_ne fx (by decide))) (Eq.trans (I_ne (fx_ne fx (by decide))) v10)) ?_
                        refine r_ic (x := 9) rfl rfl ?_
                        refine r_iload rfl rfl ?_
                        refine WR_tI (y := nI k12) ek12 ?_
                        refine r_cv (y := 168) (ra := [.int (nI k12), .int 9, .int (nI t10)]) (rest := []) rfl ⟨⟨rfl, rfl⟩, rfl, by decide⟩ (fx_t30 fx) rfl rfl (Nat.le_of_ble_eq_true rfl) ?_
                        refine in_168 (Nat.le_of_ble_eq_true rfl) ?_
                        show WR _ cd_168 0 [some (.ref (ad 30)), some (.int (nI t10)), some (.int 9), some (.int (nI k12))] [] (sI (sI h (ad 0) 6 0) (ad 0) 6 (-14)) _
                        refine r_iload rfl rfl ?_
                        refine r_ic (x := (-1)) rfl rfl ?_
                        refine r_icmp_eq (tg := 18) rfl rfl (fun q => False.elim (by have : (nI t10).toInt = ((t10 : Nat) : Int) := nI_toInt (by omega); have : (-1 : Int32).toInt = -1 := rfl; have := i_eq q; omega)) (fun _ => ?_)
                        refine r_aload rfl rfl ?_
                        refine r_iload rfl rfl ?_
                        refine r_cv (y := 166) (ra := [.int (nI t10)]) (rest := []) rfl ⟨⟨rfl, rfl⟩, rfl, by decide⟩ (fx_t30 fx) rfl rfl (Nat.le_of_ble_eq_true rfl) ?_
                        refine in_166 (Nat.le_of_ble_eq_true rfl) ?_
                        show WR _ cd_166 0 [some (.ref (ad 30)), some (.int (nI t10))] [] (sI (sI h (ad 0) 6 0) (ad 0) 6 (-14)) _
                        refine r_iload rfl rfl ?_
                        refine r_ic (x := (-1)) rfl rfl ?_
                        refine r_icmp_ne (tg := 9) rfl rfl (fun _ => ?_) (fun q => False.elim (by have : (nI t10).toInt = ((t10 : Nat) : Int) := nI_toInt (by omega); have : (-1 : Int32).toInt = -1 := rfl; have := i_eq q; omega))
                        refine r_iload rfl rfl ?_
                        refine r_ic (x := 1000) rfl rfl ?_
                        refine r_icmp_lt (tg := 21) rfl rfl (fun _ => ?_) (fun q => False.elim (by have : (nI t10).toInt = ((t10 : Nat) : Int) := nI_toInt (by omega); have : (1000 : Int32).toInt = 1000 := rfl; have := i_nlt q; omega))
                        refine r_aload rfl rfl ?_
                        refine r_getA (b := ad 33) rfl ⟨rfl, rfl, rfl⟩ (fx_t30 fx) (fx_r30_2 fx) ?_
                        refine r_iload rfl rfl ?_
                        refine r_iaload rfl (.inl (fx_t33 fx)) (vp_ct (fx_n33 fx) (vp_in_nI (by omega) (by omega))) ?_
                        refine WR_tI (congrArg (hI (sI (sI h (ad 0) 6 0) (ad 0) 6 (-14)) (ad 33)) ((nI_clamp (by omega)) : _ = t10)) ?_
                        refine WR_tI (y := 9) (Eq.trans (I_ne (fx_ne fx (by decide))) (Eq.trans (I_ne (fx_ne fx (by decide))) l2_10)) ?_
                        refine r_iret rfl ?_
                        show WR _ cd_168 10 [some (.ref (ad 30)), some (.int (nI t10)), some (.int 9), some (.int (nI k12))] [.int 9] (sI (sI h (ad 0) 6 0) (ad 0) 6 (-14)) _
                        refine r_iload rfl rfl ?_
                        refine r_icmp_eq (tg := 18) rfl rfl (fun _ => ?_) (fun q => absurd q (by decide))
                        refine r_iload rfl rfl ?_
                        refine r_ic (x := (-1)) rfl rfl ?_
                        refine r_icmp_ne (tg := 27) rfl rfl (fun _ => ?_) (fun q => False.elim (by have : (nI t10).toInt = ((t10 : Nat) : Int) := nI_toInt (by omega); have : (-1 : Int32).toInt = -1 := rfl; have := i_eq q; omega))
                        refine r_iload rfl rfl ?_
                        refine r_i2l rfl ?_
                        refine WR_tL (y := lN k12) (nI_l (by have := i_nlt c11; have := i_rg i; have : (0 : Int32).toInt = 0 := rfl; have := i_eq ek12; have : (nI k12).toInt = ((k12 : Nat) : Int) := nI_toInt (by omega); have := i_nlt c13; have : (1 : Int32).toInt = 1 := rfl; have : (nI sz10).toInt = ((sz10 : Nat) : Int) := nI_toInt (by omega); have := sub_t (x := nI sz10) (y := nI k12) (by have := i_nlt c11; have := i_rg i; have : (0 : Int32).toInt = 0 := rfl; have := i_eq ek12; have : (nI k12).toInt = ((k12 : Nat) : Int) := nI_toInt (by omega); have : (nI sz10).toInt = ((sz10 : Nat) : Int) := nI_toInt (by omega); omega) (by have := i_nlt c11; have := i_rg i; have : (0 : Int32).toInt = 0 := rfl; have := i_eq ek12; have : (nI k12).toInt = ((k12 : Nat) : Int) := nI_toInt (by omega); have : (nI sz10).toInt = ((sz10 : Nat) : Int) := nI_toInt (by omega); omega); omega)) ?_
                        refine r_lc (x := 0) rfl rfl ?_
                        refine r_aload rfl rfl ?_
                        refine r_getA (b := ad 35) rfl ⟨rfl, rfl, rfl⟩ (fx_t30 fx) (fx_r30_4 fx) ?_
                        refine r_iload rfl rfl ?_
                        refine r_iaload rfl (.inl (fx_t35 fx)) (vp_ct (fx_n35 fx) (vp_in_nI (by omega) (by omega))) ?_
                        refine WR_tI (congrArg (hI (sI (sI h (ad 0) 6 0) (ad 0) 6 (-14)) (ad 35)) ((nI_clamp (by omega)) : _ = t10)) ?_
                        refine WR_tI (y := nI sz10) (Eq.trans (I_ne (fx_ne fx (by decide))) (Eq.trans (I_ne (fx_ne fx (by decide))) sz_10)) ?_
                        refine r_ic (x := 1) rfl rfl ?_
                        refine r_isub rfl ?_
                        refine WR_tI (y := nI (sz10 - 1)) (Eq.trans (pk_sub (a := sz10) (b := 1) (by have := i_nlt c11; have := i_rg i; have : (0 : Int32).toInt = 0 := rfl; have := i_eq ek12; have : (nI k12).toInt = ((k12 : Nat) : Int) := nI_toInt (by omega); have := i_nlt c13; have : (1 : Int32).toInt = 1 := rfl; have : (nI sz10).toInt = ((sz10 : Nat) : Int) := nI_toInt (by omega); have := sub_t (x := nI sz10) (y := nI k12) (by have := i_nlt c11; have := i_rg i; have : (0 : Int32).toInt = 0 := rfl; have := i_eq ek12; have : (nI k12).toInt = ((k12 : Nat) : Int) := nI_toInt (by omega); have : (nI sz10).toInt = ((sz10 : Nat) : Int) := nI_toInt (by omega); omega) (by have := i_nlt c11; have := i_rg i; have : (0 : Int32).toInt = 0 := rfl; have := i_eq ek12; have : (nI k12).toInt = ((k12 : Nat) : Int) := nI_toInt (by omega); have : (nI sz10).toInt = ((sz10 : Nat) : Int) := nI_toInt (by omega); omega); omega)) (congrArg nI (by have := i_nlt c11; have := i_rg i; have : (0 : Int32).toInt = 0 := rfl; have := i_eq ek12; have : (nI k12).toInt = ((k12 : Nat) : Int) := nI_toInt (by omega); have := i_nlt c13; have : (1 : Int32).toInt = 1 := rfl; have : (nI sz10).toInt = ((sz10 : Nat) : Int) := nI_toInt (by omega); have := sub_t (x := nI sz10) (y := nI k12) (by have := i_nlt c11; have := i_rg i; have : (0 : Int32).toInt = 0 := rfl; have := i_eq ek12; have : (nI k12).toInt = ((k12 : Nat) : Int) := nI_toInt (by omega); have : (nI sz10).toInt = ((sz10 : Nat) : Int) := nI_toInt (by omega); omega) (by have := i_nlt c11; have := i_rg i; have : (0 : Int32).toInt = 0 := rfl; have := i_eq ek12; have : (nI k12).toInt = ((k12 : Nat) : Int) := nI_toInt (by omega); have : (nI sz10).toInt = ((sz10 : Nat) : Int) := nI_toInt (by omega); omega); omega))) ?_
                        refine r_i2l rfl ?_
                        refine WR_tL (y := lN (sz10 - 1)) (nI_l (by have := i_nlt c11; have := i_rg i; have : (0 : Int32).toInt = 0 := rfl; have := i_eq ek12; have : (nI k12).toInt = ((k12 : Nat) : Int) := nI_toInt (by omega); have := i_nlt c13; have : (1 : Int32).toInt = 1 := rfl; have : (nI sz10).toInt = ((sz10 : Nat) : Int) := nI_toInt (by omega); have := sub_t (x := nI sz10) (y := nI k12) (by have := i_nlt c11; have := i_rg i; have : (0 : Int32).toInt = 0 := rfl; have := i_eq ek12; have : (nI k12).toInt = ((k12 : Nat) : Int) := nI_toInt (by omega); have : (nI sz10).toInt = ((sz10 : Nat) : Int) := nI_toInt (by omega); omega) (by have := i_nlt c11; have := i_rg i; have : (0 : Int32).toInt = 0 := rfl; have := i_eq ek12; have : (nI k12).toInt = ((k12 : Nat) : Int) := nI_toInt (by omega); have : (nI sz10).toInt = ((sz10 : Nat) : Int) := nI_toInt (by omega); omega); omega)) ?_
                        refine r_cs (y := 155) (ra := [.long (lN (sz10 - 1)), .long 0, .long (lN k12)]) (rest := []) rfl ⟨⟨rfl, rfl⟩, by decide⟩ rfl rfl (Nat.le_of_ble_eq_true rfl) ?_
                        refine in_155 (Nat.le_of_ble_eq_true rfl) ?_
                        show WR _ cd_155 0 [some (.long (lN k12)), none, some (.long 0), none, some (.long (lN (sz10 - 1))), none] [] (sI (sI h (ad 0) 6 0) (ad 0) 6 (-14)) _
                        refine r_lload rfl rfl ?_
                        refine r_lload rfl rfl ?_
                        refine r_lif_lt (tg := 17) rfl rfl rfl (fun q => False.elim (by have := i_nlt c11; have := i_rg i; have : (0 : Int32).toInt = 0 := rfl; have := i_eq ek12; have : (nI k12).toInt = ((k12 : Nat) : Int) := nI_toInt (by omega); have := i_nlt c13; have : (1 : Int32).toInt = 1 := rfl; have : (nI sz10).toInt = ((sz10 : Nat) : Int) := nI_toInt (by omega); have := sub_t (x := nI sz10) (y := nI k12) (by have := i_nlt c11; have := i_rg i; have : (0 : Int32).toInt = 0 := rfl; have := i_eq ek12; have : (nI k12).toInt = ((k12 : Nat) : Int) := nI_toInt (by omega); have : (nI sz10).toInt = ((sz10 : Nat) : Int) := nI_toInt (by omega); omega) (by have := i_nlt c11; have := i_rg i; have : (0 : Int32).toInt = 0 := rfl; have := i_eq ek12; have : (nI k12).toInt = ((k12 : Nat) : Int) := nI_toInt (by omega); have : (nI sz10).toInt = ((sz10 : Nat) : Int) := nI_toInt (by omega); omega); have : (lN k12).toInt = ((k12 : Nat) : Int) := lN_toInt (by omega); have : (0 : Int64).toInt = 0 := rfl; have := l_lt q; omega)) (fun _ => ?_)
                        refine r_lload rfl rfl ?_
                        refine r_lload rfl rfl ?_
                        refine r_lif_gt (tg := 17) rfl rfl rfl (fun q => False.elim (by have := i_nlt c11; have := i_rg i; have : (0 : Int32).toInt = 0 := rfl; have := i_eq ek12; have : (nI k12).toInt = ((k12 : Nat) : Int) := nI_toInt (by omega); have := i_nlt c13; have : (1 : Int32).toInt = 1 := rfl; have : (nI sz10).toInt = ((sz10 : Nat) : Int) := nI_toInt (by omega); have := sub_t (x := nI sz10) (y := nI k12) (by have := i_nlt c11; have := i_rg i; have : (0 : Int32).toInt = 0 := rfl; have := i_eq ek12; have : (nI k12).toInt = ((k12 : Nat) : Int) := nI_toInt (by omega); have : (nI sz10).toInt = ((sz10 : Nat) : Int) := nI_toInt (by omega); omega) (by have := i_nlt c11; have := i_rg i; have : (0 : Int32).toInt = 0 := rfl; have := i_eq ek12; have : (nI k12).toInt = ((k12 : Nat) : Int) := nI_toInt (by omega); have : (nI sz10).toInt = ((sz10 : Nat) : Int) := nI_toInt (by omega); omega); have : (lN k12).toInt = ((k12 : Nat) : Int) := lN_toInt (by omega); have : (lN (sz10 - 1)).toInt = ((sz10 - 1 : Nat) : Int) := lN_toInt (by omega); have := l_lt q; omega)) (fun _ => ?_)
                        refine r_ic (x := 1) rfl rfl ?_
                        refine r_goto (tg := 18) rfl rfl ?_
                        refine r_zret rfl (.inr rfl) ?_
                        show WR _ cd_168 42 [some (.ref (ad 30)), some (.int (nI t10)), some (.int 9), some (.int (nI k12))] [.int 1] (sI (sI h (ad 0) 6 0) (ad 0) 6 (-14)) _
                        refine r_if_ne (tg := 49) rfl rfl (fun _ => ?_) (fun q => absurd q (by decide))
                        refine r_ic (x := 0) rfl rfl ?_
                        refine r_iret rfl ?_
                        show WR _ cd_178 54 [some (.ref (ad 30)), some (.int c), some (.int i), some (.int k), some (.int d), none, none] [.int 0] (sI (sI h (ad 0) 6 0) (ad 0) 6 (-14)) _
                        refine r_istore (lv' := [some (.ref (ad 30)), some (.int c), some (.int i), some (.int k), some (.int d), some (.int 0), none]) rfl (Nat.le_of_ble_eq_true rfl) rfl ?_
                        refine r_iload rfl rfl ?_
                        refine r_if_le (tg := 68) rfl rfl (fun _ => ?_) (fun q => absurd q (by decide))
                        refine r_aload rfl rfl ?_
                        refine r_getA (b := ad 36) rfl ⟨rfl, rfl, rfl⟩ (fx_t30 fx) (fx_r30_5 fx) ?_
                        refine r_ic (x := 30) rfl rfl ?_
                        refine r_aload rfl rfl ?_
                        refine r_getA (b := ad 31) rfl ⟨rfl, rfl, rfl⟩ (fx_t30 fx) (fx_r30_0 fx) ?_
                        refine r_iload rfl rfl ?_
                        refine WR_tI (y := nI k2) ek2 ?_
                        refine r_iaload rfl (.inl (fx_t31 fx)) (vp_ct (fx_n31 fx) (vp_in_nI (by have := i_nlt c1; have := i_rg c; have : (0 : Int32).toInt = 0 := rfl; have := i_eq ek2; have : (nI k2).toInt = ((k2 : Nat) : Int) := nI_toInt (by omega); have := i_nle c3; have : (24 : Int32).toInt = 24 := rfl; omega) (by omega))) ?_
                        refine WR_tI (congrArg (hI (sI (sI h (ad 0) 6 0) (ad 0) 6 (-14)) (ad 31)) ((nI_clamp (by have := i_nlt c1; have := i_rg c; have : (0 : Int32).toInt = 0 := rfl; have := i_eq ek2; have : (nI k2).toInt = ((k2 : Nat) : Int) := nI_toInt (by omega); have := i_nle c3; have : (24 : Int32).toInt = 24 := rfl; omega)) : _ = k2)) ?_
                        refine WR_tI (y := nI t10) (Eq.trans (I_ne (fx_ne fx (by decide))) (Eq.trans (I_ne (fx_ne fx (by decide))) v10)) ?_
                        refine r_imul rfl ?_
                        refine WR_tI (y := nI (30 * t10)) (Eq.trans (pk_mul 30 t10) (congrArg nI (by omega))) ?_
                        refine r_iload rfl rfl ?_
                        refine WR_tI (y := nI k12) ek12 ?_
                        refine r_iadd rfl ?_
                        refine WR_tI (y := nI (30 * t10 + k12)) (Eq.trans (nI_add (30 * t10) k12) (congrArg nI (by have := i_nlt c11; have := i_rg i; have : (0 : Int32).toInt = 0 := rfl; have := i_eq ek12; have : (nI k12).toInt = ((k12 : Nat) : Int) := nI_toInt (by omega); have := i_nlt c13; have : (1 : Int32).toInt = 1 := rfl; have : (nI sz10).toInt = ((sz10 : Nat) : Int) := nI_toInt (by omega); have := sub_t (x := nI sz10) (y := nI k12) (by have := i_nlt c11; have := i_rg i; have : (0 : Int32).toInt = 0 := rfl; have := i_eq ek12; have : (nI k12).toInt = ((k12 : Nat) : Int) := nI_toInt (by omega); have : (nI sz10).toInt = ((sz10 : Nat) : Int) := nI_toInt (by omega); omega) (by have := i_nlt c11; have := i_rg i; have : (0 : Int32).toInt = 0 := rfl; have := i_eq ek12; have : (nI k12).toInt = ((k12 : Nat) : Int) := nI_toInt (by omega); have : (nI sz10).toInt = ((sz10 : Nat) : Int) := nI_toInt (by omega); omega); omega))) ?_
                        refine r_laload rfl (fx_t36 fx) (vp_ct (fx_n36 fx) (vp_in_nI (by have := i_nlt c11; have := i_rg i; have : (0 : Int32).toInt = 0 := rfl; have := i_eq ek12; have : (nI k12).toInt = ((k12 : Nat) : Int) := nI_toInt (by omega); have := i_nlt c13; have : (1 : Int32).toInt = 1 := rfl; have : (nI sz10).toInt = ((sz10 : Nat) : Int) := nI_toInt (by omega); have := sub_t (x := nI sz10) (y := nI k12) (by have := i_nlt c11; have := i_rg i; have : (0 : Int32).toInt = 0 := rfl; have := i_eq ek12; have : (nI k12).toInt = ((k12 : Nat) : Int) := nI_toInt (by omega); have : (nI sz10).toInt = ((sz10 : Nat) : Int) := nI_toInt (by omega); omega) (by have := i_nlt c11; have := i_rg i; have : (0 : Int32).toInt = 0 := rfl; have := i_eq ek12; have : (nI k12).toInt = ((k12 : Nat) : Int) := nI_toInt (by omega); have : (nI sz10).toInt = ((sz10 : Nat) : Int) := nI_toInt (by omega); omega); omega) (by omega))) ?_
                        refine WR_tL (congrArg (hL (sI (sI h (ad 0) 6 0) (ad 0) 6 (-14)) (ad 36)) ((nI_clamp (by have := i_nlt c11; have := i_rg i; have : (0 : Int32).toInt = 0 := rfl; have := i_eq ek12; have : (nI k12).toInt = ((k12 : Nat) : Int) := nI_toInt (by omega); have := i_nlt c13; have : (1 : Int32).toInt = 1 := rfl; have : (nI sz10).toInt = ((sz10 : Nat) : Int) := nI_toInt (by omega); have := sub_t (x := nI sz10) (y := nI k12) (by have := i_nlt c11; have := i_rg i; have : (0 : Int32).toInt = 0 := rfl; have := i_eq ek12; have : (nI k12).toInt = ((k12 : Nat) : Int) := nI_toInt (by omega); have : (nI sz10).toInt = ((sz10 : Nat) : Int) := nI_toInt (by omega); omega) (by have := i_nlt c11; have := i_rg i; have : (0 : Int32).toInt = 0 := rfl; have := i_eq ek12; have : (nI k12).toInt = ((k12 : Nat) : Int) := nI_toInt (by omega); have : (nI sz10).toInt = ((sz10 : Nat) : Int) := nI_toInt (by omega); omega); omega)) : _ = 30 * t10 + k12)) ?_
                        refine WR_tL (y := lN (q14 + 1000)) (Eq.trans L_oI (Eq.trans L_oI (Eq.trans v14 (congrArg lN (Nat.add_comm 1000 q14))))) ?_
                        refine r_l2i rfl ?_
                        refine WR_tI (y := nI (q14 + 1000)) (lN_i _) ?_
                        refine r_istore (lv' := [some (.ref (ad 30)), some (.int c), some (.int i), some (.int k), some (.int d), some (.int 0), some (.int (nI (q14 + 1000)))]) rfl (Nat.le_of_ble_eq_true rfl) rfl ?_
                        refine r_iload rfl rfl ?_
                        refine r_ic (x := (-1)) rfl rfl ?_
                        refine r_icmp_eq (tg := 113) rfl rfl (fun q => False.elim (by have : (nI (q14 + 1000)).toInt = ((q14 + 1000 : Nat) : Int) := nI_toInt (by omega); have : (-1 : Int32).toInt = -1 := rfl; have := i_eq q; omega)) (fun _ => ?_)
                        refine r_aload rfl rfl ?_
                        refine r_iload rfl rfl ?_
                        refine r_ic (x := 1000) rfl rfl ?_
                        refine r_isub rfl ?_
                        refine WR_tI (y := nI q14) (Eq.trans (pk_sub (a := q14 + 1000) (b := 1000) (by omega)) (congrArg nI (by omega))) ?_
                        refine r_iload rfl rfl ?_
                        refine WR_tI (y := nI k8) ek8 ?_
                        refine r_cv (y := 177) (ra := [.int (nI k8), .int (nI q14)]) (rest := []) rfl ⟨⟨rfl, rfl⟩, rfl, by decide⟩ (fx_t30 fx) rfl rfl (Nat.le_of_ble_eq_true rfl) ?_
                        refine c_misOf (h := sI (sI h (ad 0) 6 0) (ad 0) 6 (-14)) (q := q14) (kd := kd14) (k := k8) fx (by omega) (Eq.trans (I_ne (fx_ne fx (by decide))) (Eq.trans (I_ne (fx_ne fx (by decide))) k2_14)) (by omega) (by have := i_nlt c7; have := i_rg k; have : (0 : Int32).toInt = 0 := rfl; have := i_eq ek8; have : (nI k8).toInt = ((k8 : Nat) : Int) := nI_toInt (by omega); have := i_nlt c9; have : (7 : Int32).toInt = 7 := rfl; omega) ?_
                        rw [if_neg of15]
                        show WR _ cd_178 104 [some (.ref (ad 30)), some (.int c), some (.int i), some (.int k), some (.int d), some (.int 0), some (.int (nI (q14 + 1000)))] [.int 0] (sI (sI h (ad 0) 6 0) (ad 0) 6 (-14)) _
                        refine r_if_ne (tg := 113) rfl rfl (fun q => absurd q (by decide)) (fun _ => ?_)
                        refine r_aload rfl rfl ?_
                        refine r_ic (x := 4) rfl rfl ?_
                        refine r_cv (y := 156) (ra := [.int 4]) (rest := []) rfl ⟨⟨rfl, rfl⟩, rfl, by decide⟩ (fx_t30 fx) rfl rfl (Nat.le_of_ble_eq_true rfl) ?_
                        refine in_156 (Nat.le_of_ble_eq_true rfl) ?_
                        show WR _ cd_156 0 [some (.ref (ad 30)), some (.int 4)] [] (sI (sI h (ad 0) 6 0) (ad 0) 6 (-14)) _
                        refine r_aload rfl rfl ?_
                        refine r_ic (x := (-10)) rfl rfl ?_
                        refine r_iload rfl rfl ?_
                        refine r_isub rfl ?_
                        refine WR_tI (y := (-14)) rfl ?_
                        refine r_cv (y := 154) (ra := [.int (-14)]) (rest := []) rfl ⟨⟨rfl, rfl⟩, rfl, by decide⟩ (fx_t30 fx) rfl rfl (Nat.le_of_ble_eq_true rfl) ?_
                        refine in_154 (Nat.le_of_ble_eq_true rfl) ?_
                        show WR _ cd_154 0 [some (.ref (ad 30)), some (.int (-14))] [] (sI (sI h (ad 0) 6 0) (ad 0) 6 (-14)) _
                        refine r_aload rfl rfl ?_
                        refine r_iload rfl rfl ?_
                        refine r_ic (x := (-1)) rfl rfl ?_
                        refine r_icmp_ge (tg := 10) rfl rfl (fun q => absurd q (by decide)) (fun _ => ?_)
                        refine r_iload rfl rfl ?_
                        refine r_goto (tg := 11) rfl rfl ?_
                        refine r_putI rfl ⟨rfl, rfl, rfl⟩ (fx_t30 fx) ?_
                        have fx : FX n ad sa z0 (sI (sI (sI h (ad 0) 6 0) (ad 0) 6 (-14)) (ad 30) 11 (-14)) := (FX.sI fx)
                        refine r_iload rfl rfl ?_
                        refine r_iret rfl ?_
                        show WR _ cd_156 8 [some (.ref (ad 30)), some (.int 4)] [.int (-14)] (sI (sI (sI h (ad 0) 6 0) (ad 0) 6 (-14)) (ad 30) 11 (-14)) _
                        refine r_iret rfl ?_
                        show WR _ cd_178 112 [some (.ref (ad 30)), some (.int c), some (.int i), some (.int k), some (.int d), some (.int 0), some (.int (nI (q14 + 1000)))] [.int (-14)] (sI (sI (sI h (ad 0) 6 0) (ad 0) 6 (-14)) (ad 30) 11 (-14)) _
                        refine r_iret rfl ?_
                        exact ⟨rfl, Rel.why r (((Chg.rf.sI (fx_j fx) (.inl (by decide))).sI (fx_j fx) (.inl (by decide))).sI (fx_j fx) (.inl (by decide))) ⟨rfl, by decide⟩ (Eq.trans (Eq.trans (I_ne (fx_ne fx (by decide))) I_eq) (Eq.symm I_eq)), (by (try simp only [hZ_sI, hZ_sL, hZ_sD, hZ_sR]); omega), (by (try simp only [hU_sI, hU_sL, hU_sD, hU_sR]); omega)⟩

set_option maxHeartbeats 10000000 in
theorem k_put {n : Nat} {ad sa : Nat → Nat} {z0 : Nat} {h : mH} (r : Rel n ad sa z0 h) (c : Int32) (l : Int32) (i : Int32) (b : Int64) : AP n ad sa z0 h 29 167 [.int c, .int l, .int i, .long b] := by
  obtain ⟨mid, pa, np, fx, ry, rt, ra, rp, rf, rst, ru, rs⟩ := id r
  have fx0 := fx
  unfold AP
  refine in_29 (Nat.le_of_ble_eq_true rfl) ?_
  show WR _ cd_29 0 [some (.ref (ad 0)), some (.int c), some (.int l), some (.int i), some (.long b), none, none] [] h _
  refine r_aload rfl rfl ?_
  refine r_ic (x := 0) rfl rfl ?_
  refine r_putI rfl ⟨rfl, rfl, rfl⟩ (fx_t0 fx) ?_
  have fx : FX n ad sa z0 (sI h (ad 0) 6 0) := (FX.sI fx)
  refine r_aload rfl rfl ?_
  refine r_iload rfl rfl ?_
  refine r_iload rfl rfl ?_
  refine r_iload rfl rfl ?_
  refine r_cv (y := 30) (ra := [.int i, .int l, .int c]) (rest := []) rfl ⟨⟨rfl, rfl⟩, rfl, by decide⟩ (fx_t0 fx) rfl rfl (Nat.le_of_ble_eq_true rfl) ?_
  refine in_30 (Nat.le_of_ble_eq_true rfl) ?_
  show WR _ cd_30 0 [some (.ref (ad 0)), some (.int c), some (.int l), some (.int i), none] [] (sI h (ad 0) 6 0) _
  refine r_iload rfl rfl ?_
  refine r_cs (y := 12) (ra := [.int c]) (rest := []) rfl ⟨⟨rfl, rfl⟩, by decide⟩ rfl rfl (Nat.le_of_ble_eq_true rfl) ?_
  refine in_12 (Nat.le_of_ble_eq_true rfl) ?_
  show WR _ cd_12 0 [some (.int c)] [] (sI h (ad 0) 6 0) _
  refine r_iload rfl rfl ?_
  refine r_if_lt (tg := 14) rfl rfl (fun c1 => ?_) (fun c1 => ?_)
  · refine r_ic (x := 0) rfl rfl ?_
    refine r_zret rfl (.inl rfl) ?_
    show WR _ cd_30 4 [some (.ref (ad 0)), some (.int c), some (.int l), some (.int i), none] [.int 0] (sI h (ad 0) 6 0) _
    refine r_if_ne (tg := 15) rfl rfl (fun q => absurd q (by decide)) (fun _ => ?_)
    refine r_aload rfl rfl ?_
    refine r_ic (x := (-2)) rfl rfl ?_
    refine r_putI rfl ⟨rfl, rfl, rfl⟩ (fx_t0 fx) ?_
    have fx : FX n ad sa z0 (sI (sI h (ad 0) 6 0) (ad 0) 6 (-2)) := (FX.sI fx)
    refine r_null rfl ?_
    refine r_aret0 rfl ?_
    show WR _ cd_29 12 [some (.ref (ad 0)), some (.int c), some (.int l), some (.int i), some (.long b), none, none] [.null] (sI (sI h (ad 0) 6 0) (ad 0) 6 (-2)) _
    refine r_astore0 (lv' := [some (.ref (ad 0)), some (.int c), some (.int l), some (.int i), some (.long b), none, some (.null)]) rfl (Nat.le_of_ble_eq_true rfl) rfl ?_
    refine r_aload0 rfl rfl ?_
    refine r_ifnonnullN (tg := 24) rfl rfl ?_
    refine r_aload rfl rfl ?_
    refine r_getI rfl ⟨rfl, rfl, rfl⟩ (fx_t0 fx) ?_
    refine WR_tI (y := (-2)) I_eq ?_
    refine r_iret rfl ?_
    show EV _ 167 [.ref (ad 30), .int c, .int l, .int i, .long b] (sI (sI h (ad 0) 6 0) (ad 0) 6 (-2)) _
    refine in_167 (Nat.le_of_ble_eq_true rfl) ?_
    show WR _ cd_167 0 [some (.ref (ad 30)), some (.int c), some (.int l), some (.int i), some (.long b), none, none] [] (sI (sI h (ad 0) 6 0) (ad 0) 6 (-2)) _
    refine r_iload rfl rfl ?_
    refine r_cs (y := 153) (ra := [.int c]) (rest := []) rfl ⟨⟨rfl, rfl⟩, by decide⟩ rfl rfl (Nat.le_of_ble_eq_true rfl) ?_
    refine in_153 (Nat.le_of_ble_eq_true rfl) ?_
    show WR _ cd_153 0 [some (.int c)] [] (sI (sI h (ad 0) 6 0) (ad 0) 6 (-2)) _
    refine r_iload rfl rfl ?_
    refine r_if_lt (tg := 14) rfl rfl (fun _ => ?_) (fun q => False.elim (by have := i_lt c1; have := i_rg c; have : (0 : Int32).toInt = 0 := rfl; have := i_nlt q; omega))
    refine r_ic (x := 0) rfl rfl ?_
    refine r_zret rfl (.inl rfl) ?_
    show WR _ cd_167 4 [some (.ref (ad 30)), some (.int c), some (.int l), some (.int i), some (.long b), none, none] [.int 0] (sI (sI h (ad 0) 6 0) (ad 0) 6 (-2)) _
    refine r_if_ne (tg := 14) rfl rfl (fun q => absurd q (by decide)) (fun _ => ?_)
    refine r_aload rfl rfl ?_
    refine r_ic (x := (-2)) rfl rfl ?_
    refine r_cv (y := 154) (ra := [.int (-2)]) (rest := []) rfl ⟨⟨rfl, rfl⟩, rfl, by decide⟩ (fx_t30 fx) rfl rfl (Nat.le_of_ble_eq_true rfl) ?_
    refine in_154 (Nat.le_of_ble_eq_true rfl) ?_
    show WR _ cd_154 0 [some (.ref (ad 30)), some (.int (-2))] [] (sI (sI h (ad 0) 6 0) (ad 0) 6 (-2)) _
    refine r_aload rfl rfl ?_
    refine r_iload rfl rfl ?_
    refine r_ic (x := (-1)) rfl rfl ?_
    refine r_icmp_ge (tg := 10) rfl rfl (fun q => absurd q (by decide)) (fun _ => ?_)
    refine r_iload rfl rfl ?_
    refine r_goto (tg := 11) rfl rfl ?_
    refine r_putI rfl ⟨rfl, rfl, rfl⟩ (fx_t30 fx) ?_
    have fx : FX n ad sa z0 (sI (sI (sI h (ad 0) 6 0) (ad 0) 6 (-2)) (ad 30) 11 (-2)) := (FX.sI fx)
    refine r_iload rfl rfl ?_
    refine r_iret rfl ?_
    show WR _ cd_167 13 [some (.ref (ad 30)), some (.int c), some (.int l), some (.int i), some (.long b), none, none] [.int (-2)] (sI (sI (sI h (ad 0) 6 0) (ad 0) 6 (-2)) (ad 30) 11 (-2)) _
    refine r_iret rfl ?_
    exact ⟨rfl, Rel.why r (((Chg.rf.sI (fx_j fx) (.inl (by decide))).sI (fx_j fx) (.inl (by decide))).sI (fx_j fx) (.inl (by decide))) ⟨rfl, by decide⟩ (Eq.trans (Eq.trans (I_ne (fx_ne fx (by decide))) I_eq) (Eq.symm I_eq)), (by (try simp only [hZ_sI, hZ_sL, hZ_sD, hZ_sR]); omega), (by (try simp only [hU_sI, hU_sL, hU_sD, hU_sR]); omega)⟩
  · obtain ⟨k2, hk2, ek2⟩ := ix_of (x := c) (n := 2147483648) (by have := i_nlt c1; have := i_rg c; have : (0 : Int32).toInt = 0 := rfl; omega) (by have := i_nlt c1; have := i_rg c; have : (0 : Int32).toInt = 0 := rfl; omega)
    refine r_iload rfl rfl ?_
    refine WR_tI (y := nI k2) ek2 ?_
    refine r_ic (x := 24) rfl rfl ?_
    refine r_icmp_ge (tg := 14) rfl rfl (fun c3 => ?_) (fun c3 => ?_)
    · refine r_ic (x := 0) rfl rfl ?_
      refine r_zret rfl (.inl rfl) ?_
      show WR _ cd_30 4 [some (.ref (ad 0)), some (.int c), some (.int l), some (.int i), none] [.int 0] (sI h (ad 0) 6 0) _
      refine r_if_ne (tg := 15) rfl rfl (fun q => absurd q (by decide)) (fun _ => ?_)
      refine r_aload rfl rfl ?_
      refine r_ic (x := (-2)) rfl rfl ?_
      refine r_putI rfl ⟨rfl, rfl, rfl⟩ (fx_t0 fx) ?_
      have fx : FX n ad sa z0 (sI (sI h (ad 0) 6 0) (ad 0) 6 (-2)) := (FX.sI fx)
      refine r_null rfl ?_
      refine r_aret0 rfl ?_
      show WR _ cd_29 12 [some (.ref (ad 0)), some (.int c), some (.int l), some (.int i), some (.long b), none, none] [.null] (sI (sI h (ad 0) 6 0) (ad 0) 6 (-2)) _
      refine r_astore0 (lv' := [some (.ref (ad 0)), some (.int c), some (.int l), some (.int i), some (.long b), none, some (.null)]) rfl (Nat.le_of_ble_eq_true rfl) rfl ?_
      refine r_aload0 rfl rfl ?_
      refine r_ifnonnullN (tg := 24) rfl rfl ?_
      refine r_aload rfl rfl ?_
      refine r_getI rfl ⟨rfl, rfl, rfl⟩ (fx_t0 fx) ?_
      refine WR_tI (y := (-2)) I_eq ?_
      refine r_iret rfl ?_
      show EV _ 167 [.ref (ad 30), .int c, .int l, .int i, .long b] (sI (sI h (ad 0) 6 0) (ad 0) 6 (-2)) _
      refine in_167 (Nat.le_of_ble_eq_true rfl) ?_
      show WR _ cd_167 0 [some (.ref (ad 30)), some (.int c), some (.int l), some (.int i), some (.long b), none, none] [] (sI (sI h (ad 0) 6 0) (ad 0) 6 (-2)) _
      refine r_iload rfl rfl ?_
      refine WR_tI (y := nI k2) ek2 ?_
      refine r_cs (y := 153) (ra := [.int (nI k2)]) (rest := []) rfl ⟨⟨rfl, rfl⟩, by decide⟩ rfl rfl (Nat.le_of_ble_eq_true rfl) ?_
      refine in_153 (Nat.le_of_ble_eq_true rfl) ?_
      show WR _ cd_153 0 [some (.int (nI k2))] [] (sI (sI h (ad 0) 6 0) (ad 0) 6 (-2)) _
      refine r_iload rfl rfl ?_
      refine r_if_lt (tg := 14) rfl rfl (fun q => False.elim (by have := i_nlt c1; have := i_rg c; have : (0 : Int32).toInt = 0 := rfl; have := i_eq ek2; have : (nI k2).toInt = ((k2 : Nat) : Int) := nI_toInt (by omega); have := i_le c3; have : (24 : Int32).toInt = 24 := rfl; have := i_lt q; omega)) (fun _ => ?_)
      refine r_iload rfl rfl ?_
      refine r_ic (x := 24) rfl rfl ?_
      refine r_icmp_ge (tg := 14) rfl rfl (fun _ => ?_) (fun q => False.elim (by have := i_nlt c1; have := i_rg c; have : (0 : Int32).toInt = 0 := rfl; have := i_eq ek2; have : (nI k2).toInt = ((k2 : Nat) : Int) := nI_toInt (by omega); have := i_le c3; have : (24 : Int32).toInt = 24 := rfl; have := i_nle q; omega))
      refine r_ic (x := 0) rfl rfl ?_
      refine r_zret rfl (.inl rfl) ?_
      show WR _ cd_167 4 [some (.ref (ad 30)), some (.int c), some (.int l), some (.int i), some (.long b), none, none] [.int 0] (sI (sI h (ad 0) 6 0) (ad 0) 6 (-2)) _
      refine r_if_ne (tg := 14) rfl rfl (fun q => absurd q (by decide)) (fun _ => ?_)
      refine r_aload rfl rfl ?_
      refine r_ic (x := (-2)) rfl rfl ?_
      refine r_cv (y := 154) (ra := [.int (-2)]) (rest := []) rfl ⟨⟨rfl, rfl⟩, rfl, by decide⟩ (fx_t30 fx) rfl rfl (Nat.le_of_ble_eq_true rfl) ?_
      refine in_154 (Nat.le_of_ble_eq_true rfl) ?_
      show WR _ cd_154 0 [some (.ref (ad 30)), some (.int (-2))] [] (sI (sI h (ad 0) 6 0) (ad 0) 6 (-2)) _
      refine r_aload rfl rfl ?_
      refine r_iload rfl rfl ?_
      refine r_ic (x := (-1)) rfl rfl ?_
      refine r_icmp_ge (tg := 10) rfl rfl (fun q => absurd q (by decide)) (fun _ => ?_)
      refine r_iload rfl rfl ?_
      refine r_goto (tg := 11) rfl rfl ?_
      refine r_putI rfl ⟨rfl, rfl, rfl⟩ (fx_t30 fx) ?_
      have fx : FX n ad sa z0 (sI (sI (sI h (ad 0) 6 0) (ad 0) 6 (-2)) (ad 30) 11 (-2)) := (FX.sI fx)
      refine r_iload rfl rfl ?_
      refine r_iret rfl ?_
      show WR _ cd_167 13 [some (.ref (ad 30)), some (.int c), some (.int l), some (.int i), some (.long b), none, none] [.int (-2)] (sI (sI (sI h (ad 0) 6 0) (ad 0) 6 (-2)) (ad 30) 11 (-2)) _
      refine r_iret rfl ?_
      exact ⟨rfl, Rel.why r (((Chg.rf.sI (fx_j fx) (.inl (by decide))).sI (fx_j fx) (.inl (by decide))).sI (fx_j fx) (.inl (by decide))) ⟨rfl, by decide⟩ (Eq.trans (Eq.trans (I_ne (fx_ne fx (by decide))) I_eq) (Eq.symm I_eq)), (by (try simp only [hZ_sI, hZ_sL, hZ_sD, hZ_sR]); omega), (by (try simp only [hU_sI, hU_sL, hU_sD, hU_sR]); omega)⟩
    · refine r_ic (x := 1) rfl rfl ?_
      refine r_goto (tg := 15) rfl rfl ?_
      refine r_zret rfl (.inr rfl) ?_
      show WR _ cd_30 4 [some (.ref (ad 0)), some (.int c), some (.int l), some (.int i), none] [.int 1] (sI h (ad 0) 6 0) _
      refine r_if_ne (tg := 15) rfl rfl (fun _ => ?_) (fun q => absurd q (by decide))
      refine r_iload rfl rfl ?_
      refine r_cs (y := 14) (ra := [.int l]) (rest := []) rfl ⟨⟨rfl, rfl⟩, by decide⟩ rfl rfl (Nat.le_of_ble_eq_true rfl) ?_
      refine in_14 (Nat.le_of_ble_eq_true rfl) ?_
      show WR _ cd_14 0 [some (.int l)] [] (sI h (ad 0) 6 0) _
      refine r_iload rfl rfl ?_
      refine r_if_lt (tg := 14) rfl rfl (fun c4 => ?_) (fun c4 => ?_)
      · refine r_ic (x := 0) rfl rfl ?_
        refine r_zret rfl (.inl rfl) ?_
        show WR _ cd_30 19 [some (.ref (ad 0)), some (.int c), some (.int l), some (.int i), none] [.int 0] (sI h (ad 0) 6 0) _
        refine r_if_ne (tg := 30) rfl rfl (fun q => absurd q (by decide)) (fun _ => ?_)
        refine r_aload rfl rfl ?_
        refine r_ic (x := (-3)) rfl rfl ?_
        refine r_putI rfl ⟨rfl, rfl, rfl⟩ (fx_t0 fx) ?_
        have fx : FX n ad sa z0 (sI (sI h (ad 0) 6 0) (ad 0) 6 (-3)) := (FX.sI fx)
        refine r_null rfl ?_
        refine r_aret0 rfl ?_
        show WR _ cd_29 12 [some (.ref (ad 0)), some (.int c), some (.int l), some (.int i), some (.long b), none, none] [.null] (sI (sI h (ad 0) 6 0) (ad 0) 6 (-3)) _
        refine r_astore0 (lv' := [some (.ref (ad 0)), some (.int c), some (.int l), some (.int i), some (.long b), none, some (.null)]) rfl (Nat.le_of_ble_eq_true rfl) rfl ?_
        refine r_aload0 rfl rfl ?_
        refine r_ifnonnullN (tg := 24) rfl rfl ?_
        refine r_aload rfl rfl ?_
        refine r_getI rfl ⟨rfl, rfl, rfl⟩ (fx_t0 fx) ?_
        refine WR_tI (y := (-3)) I_eq ?_
        refine r_iret rfl ?_
        show EV _ 167 [.ref (ad 30), .int c, .int l, .int i, .long b] (sI (sI h (ad 0) 6 0) (ad 0) 6 (-3)) _
        refine in_167 (Nat.le_of_ble_eq_true rfl) ?_
        show WR _ cd_167 0 [some (.ref (ad 30)), some (.int c), some (.int l), some (.int i), some (.long b), none, none] [] (sI (sI h (ad 0) 6 0) (ad 0) 6 (-3)) _
        refine r_iload rfl rfl ?_
        refine WR_tI (y := nI k2) ek2 ?_
        refine r_cs (y := 153) (ra := [.int (nI k2)]) (rest := []) rfl ⟨⟨rfl, rfl⟩, by decide⟩ rfl rfl (Nat.le_of_ble_eq_true rfl) ?_
        refine in_153 (Nat.le_of_ble_eq_true rfl) ?_
        show WR _ cd_153 0 [some (.int (nI k2))] [] (sI (sI h (ad 0) 6 0) (ad 0) 6 (-3)) _
        refine r_iload rfl rfl ?_
        refine r_if_lt (tg := 14) rfl rfl (fun q => False.elim (by have := i_nlt c1; have := i_rg c; have : (0 : Int32).toInt = 0 := rfl; have := i_eq ek2; have : (nI k2).toInt = ((k2 : Nat) : Int) := nI_toInt (by omega); have := i_nle c3; have : (24 : Int32).toInt = 24 := rfl; have := i_lt q; omega)) (fun _ => ?_)
        refine r_iload rfl rfl ?_
        refine r_ic (x := 24) rfl rfl ?_
        refine r_icmp_ge (tg := 14) rfl rfl (fun q => False.elim (by have := i_nlt c1; have := i_rg c; have : (0 : Int32).toInt = 0 := rfl; have := i_eq ek2; have : (nI k2).toInt = ((k2 : Nat) : Int) := nI_toInt (by omega); have := i_nle c3; have : (24 : Int32).toInt = 24 := rfl; have := i_le q; omega)) (fun _ => ?_)
        refine r_ic (x := 1) rfl rfl ?_
        refine r_goto (tg := 15) rfl rfl ?_
        refine r_zret rfl (.inr rfl) ?_
        show WR _ cd_167 4 [some (.ref (ad 30)), some (.int c), some (.int l), some (.int i), some (.long b), none, none] [.int 1] (sI (sI h (ad 0) 6 0) (ad 0) 6 (-3)) _
        refine r_if_ne (tg := 14) rfl rfl (fun _ => ?_) (fun q => absurd q (by decide))
        refine r_iload rfl rfl ?_
        refine r_i2l rfl ?_
        refine r_lc (x := 0) rfl rfl ?_
        refine r_ldc (x := .long 7) rfl rfl ?_
        refine r_cs (y := 155) (ra := [.long 7, .long 0, .long l.toInt64]) (rest := []) rfl ⟨⟨rfl, rfl⟩, by decide⟩ rfl rfl (Nat.le_of_ble_eq_true rfl) ?_
        refine in_155 (Nat.le_of_ble_eq_true rfl) ?_
        show WR _ cd_155 0 [some (.long l.toInt64), none, some (.long 0), none, some (.long 7), none] [] (sI (sI h (ad 0) 6 0) (ad 0) 6 (-3)) _
        refine r_lload rfl rfl ?_
        refine r_lload rfl rfl ?_
        refine r_lif_lt (tg := 17) rfl rfl rfl (fun _ => ?_) (fun q => False.elim (by have := i_lt c4; have := i_rg l; have : (0 : Int32).toInt = 0 := rfl; have := w_t l; have : (0 : Int64).toInt = 0 := rfl; have := l_nlt q; omega))
        refine r_ic (x := 0) rfl rfl ?_
        refine r_zret rfl (.inl rfl) ?_
        show WR _ cd_167 23 [some (.ref (ad 30)), some (.int c), some (.int l), some (.int i), some (.long b), none, none] [.int 0] (sI (sI h (ad 0) 6 0) (ad 0) 6 (-3)) _
        refine r_if_ne (tg := 33) rfl rfl (fun q => absurd q (by decide)) (fun _ => ?_)
        refine r_aload rfl rfl ?_
        refine r_ic (x := (-3)) rfl rfl ?_
        refine r_cv (y := 154) (ra := [.int (-3)]) (rest := []) rfl ⟨⟨rfl, rfl⟩, rfl, by decide⟩ (fx_t30 fx) rfl rfl (Nat.le_of_ble_eq_true rfl) ?_
        refine in_154 (Nat.le_of_ble_eq_true rfl) ?_
        show WR _ cd_154 0 [some (.ref (ad 30)), some (.int (-3))] [] (sI (sI h (ad 0) 6 0) (ad 0) 6 (-3)) _
        refine r_aload rfl rfl ?_
        refine r_iload rfl rfl ?_
        refine r_ic (x := (-1)) rfl rfl ?_
        refine r_icmp_ge (tg := 10) rfl rfl (fun q => absurd q (by decide)) (fun _ => ?_)
        refine r_iload rfl rfl ?_
        refine r_goto (tg := 11) rfl rfl ?_
        refine r_putI rfl ⟨rfl, rfl, rfl⟩ (fx_t30 fx) ?_
        have fx : FX n ad sa z0 (sI (sI (sI h (ad 0) 6 0) (ad 0) 6 (-3)) (ad 30) 11 (-3)) := (FX.sI fx)
        refine r_iload rfl rfl ?_
        refine r_iret rfl ?_
        show WR _ cd_167 32 [some (.ref (ad 30)), some (.int c), some (.int l), some (.int i), some (.long b), none, none] [.int (-3)] (sI (sI (sI h (ad 0) 6 0) (ad 0) 6 (-3)) (ad 30) 11 (-3)) _
        refine r_iret rfl ?_
        exact ⟨rfl, Rel.why r (((Chg.rf.sI (fx_j fx) (.inl (by decide))).sI (fx_j fx) (.inl (by decide))).sI (fx_j fx) (.inl (by decide))) ⟨rfl, by decide⟩ (Eq.trans (Eq.trans (I_ne (fx_ne fx (by decide))) I_eq) (Eq.symm I_eq)), (by (try simp only [hZ_sI, hZ_sL, hZ_sD, hZ_sR]); omega), (by (try simp only [hU_sI, hU_sL, hU_sD, hU_sR]); omega)⟩
      · obtain ⟨k5, hk5, ek5⟩ := ix_of (x := l) (n := 2147483648) (by have := i_nlt c4; have := i_rg l; have : (0 : Int32).toInt = 0 := rfl; omega) (by have := i_nlt c4; have := i_rg l; have : (0 : Int32).toInt = 0 := rfl; omega)
        refine r_iload rfl rfl ?_
        refine WR_tI (y := nI k5) ek5 ?_
        refine r_ic (x := 8) rfl rfl ?_
        refine r_icmp_ge (tg := 14) rfl rfl (fun c6 => ?_) (fun c6 => ?_)
        · refine r_ic (x := 0) rfl rfl ?_
          refine r_zret rfl (.inl rfl) ?_
          show WR _ cd_30 19 [some (.ref (ad 0)), some (.int c), some (.int l), some (.int i), none] [.int 0] (sI h (ad 0) 6 0) _
          refine r_if_ne (tg := 30) rfl rfl (fun q => absurd q (by decide)) (fun _ => ?_)
          refine r_aload rfl rfl ?_
          refine r_ic (x := (-3)) rfl rfl ?_
          refine r_putI rfl ⟨rfl, rfl, rfl⟩ (fx_t0 fx) ?_
          have fx : FX n ad sa z0 (sI (sI h (ad 0) 6 0) (ad 0) 6 (-3)) := (FX.sI fx)
          refine r_null rfl ?_
          refine r_aret0 rfl ?_
          show WR _ cd_29 12 [some (.ref (ad 0)), some (.int c), some (.int l), some (.int i), some (.long b), none, none] [.null] (sI (sI h (ad 0) 6 0) (ad 0) 6 (-3)) _
          refine r_astore0 (lv' := [some (.ref (ad 0)), some (.int c), some (.int l), some (.int i), some (.long b), none, some (.null)]) rfl (Nat.le_of_ble_eq_true rfl) rfl ?_
          refine r_aload0 rfl rfl ?_
          refine r_ifnonnullN (tg := 24) rfl rfl ?_
          refine r_aload rfl rfl ?_
          refine r_getI rfl ⟨rfl, rfl, rfl⟩ (fx_t0 fx) ?_
          refine WR_tI (y := (-3)) I_eq ?_
          refine r_iret rfl ?_
          show EV _ 167 [.ref (ad 30), .int c, .int l, .int i, .long b] (sI (sI h (ad 0) 6 0) (ad 0) 6 (-3)) _
          refine in_167 (Nat.le_of_ble_eq_true rfl) ?_
          show WR _ cd_167 0 [some (.ref (ad 30)), some (.int c), some (.int l), some (.int i), some (.long b), none, none] [] (sI (sI h (ad 0) 6 0) (ad 0) 6 (-3)) _
          refine r_iload rfl rfl ?_
          refine WR_tI (y := nI k2) ek2 ?_
          refine r_cs (y := 153) (ra := [.int (nI k2)]) (rest := []) rfl ⟨⟨rfl, rfl⟩, by decide⟩ rfl rfl (Nat.le_of_ble_eq_true rfl) ?_
          refine in_153 (Nat.le_of_ble_eq_true rfl) ?_
          show WR _ cd_153 0 [some (.int (nI k2))] [] (sI (sI h (ad 0) 6 0) (ad 0) 6 (-3)) _
          refine r_iload rfl rfl ?_
          refine r_if_lt (tg := 14) rfl rfl (fun q => False.elim (by have := i_nlt c1; have := i_rg c; have : (0 : Int32).toInt = 0 := rfl; have := i_eq ek2; have : (nI k2).toInt = ((k2 : Nat) : Int) := nI_toInt (by omega); have := i_nle c3; have : (24 : Int32).toInt = 24 := rfl; have := i_lt q; omega)) (fun _ => ?_)
          refine r_iload rfl rfl ?_
          refine r_ic (x := 24) rfl rfl ?_
          refine r_icmp_ge (tg := 14) rfl rfl (fun q => False.elim (by have := i_nlt c1; have := i_rg c; have : (0 : Int32).toInt = 0 := rfl; have := i_eq ek2; have : (nI k2).toInt = ((k2 : Nat) : Int) := nI_toInt (by omega); have := i_nle c3; have : (24 : Int32).toInt = 24 := rfl; have := i_le q; omega)) (fun _ => ?_)
          refine r_ic (x := 1) rfl rfl ?_
          refine r_goto (tg := 15) rfl rfl ?_
          refine r_zret rfl (.inr rfl) ?_
          show WR _ cd_167 4 [some (.ref (ad 30)), some (.int c), some (.int l), some (.int i), some (.long b), none, none] [.int 1] (sI (sI h (ad 0) 6 0) (ad 0) 6 (-3)) _
          refine r_if_ne (tg := 14) rfl rfl (fun _ => ?_) (fun q => absurd q (by decide))
          refine r_iload rfl rfl ?_
          refine WR_tI (y := nI k5) ek5 ?_
          refine r_i2l rfl ?_
          refine WR_tL (y := lN k5) (nI_l (by have := i_nlt c4; have := i_rg l; have : (0 : Int32).toInt = 0 := rfl; have := i_eq ek5; have : (nI k5).toInt = ((k5 : Nat) : Int) := nI_toInt (by omega); have := i_le c6; have : (8 : Int32).toInt = 8 := rfl; omega)) ?_
          refine r_lc (x := 0) rfl rfl ?_
          refine r_ldc (x := .long 7) rfl rfl ?_
          refine r_cs (y := 155) (ra := [.long 7, .long 0, .long (lN k5)]) (rest := []) rfl ⟨⟨rfl, rfl⟩, by decide⟩ rfl rfl (Nat.le_of_ble_eq_true rfl) ?_
          refine in_155 (Nat.le_of_ble_eq_true rfl) ?_
          show WR _ cd_155 0 [some (.long (lN k5)), none, some (.long 0), none, some (.long 7), none] [] (sI (sI h (ad 0) 6 0) (ad 0) 6 (-3)) _
          refine r_lload rfl rfl ?_
          refine r_lload rfl rfl ?_
          refine r_lif_lt (tg := 17) rfl rfl rfl (fun q => False.elim (by have := i_nlt c4; have := i_rg l; have : (0 : Int32).toInt = 0 := rfl; have := i_eq ek5; have : (nI k5).toInt = ((k5 : Nat) : Int) := nI_toInt (by omega); have := i_le c6; have : (8 : Int32).toInt = 8 := rfl; have : (lN k5).toInt = ((k5 : Nat) : Int) := lN_toInt (by omega); have : (0 : Int64).toInt = 0 := rfl; have := l_lt q; omega)) (fun _ => ?_)
          refine r_lload rfl rfl ?_
          refine r_lload rfl rfl ?_
          refine r_lif_gt (tg := 17) rfl rfl rfl (fun _ => ?_) (fun q => False.elim (by have := i_nlt c4; have := i_rg l; have : (0 : Int32).toInt = 0 := rfl; have := i_eq ek5; have : (nI k5).toInt = ((k5 : Nat) : Int) := nI_toInt (by omega); have := i_le c6; have : (8 : Int32).toInt = 8 := rfl; have : (lN k5).toInt = ((k5 : Nat) : Int) := lN_toInt (by omega); have : (7 : Int64).toInt = 7 := rfl; have := l_nlt q; omega))
          refine r_ic (x := 0) rfl rfl ?_
          refine r_zret rfl (.inl rfl) ?_
          show WR _ cd_167 23 [some (.ref (ad 30)), some (.int c), some (.int l), some (.int i), some (.long b), none, none] [.int 0] (sI (sI h (ad 0) 6 0) (ad 0) 6 (-3)) _
          refine r_if_ne (tg := 33) rfl rfl (fun q => absurd q (by decide)) (fun _ => ?_)
          refine r_aload rfl rfl ?_
          refine r_ic (x := (-3)) rfl rfl ?_
          refine r_cv (y := 154) (ra := [.int (-3)]) (rest := []) rfl ⟨⟨rfl, rfl⟩, rfl, by decide⟩ (fx_t30 fx) rfl rfl (Nat.le_of_ble_eq_true rfl) ?_
          refine in_154 (Nat.le_of_ble_eq_true rfl) ?_
          show WR _ cd_154 0 [some (.ref (ad 30)), some (.int (-3))] [] (sI (sI h (ad 0) 6 0) (ad 0) 6 (-3)) _
          refine r_aload rfl rfl ?_
          refine r_iload rfl rfl ?_
          refine r_ic (x := (-1)) rfl rfl ?_
          refine r_icmp_ge (tg := 10) rfl rfl (fun q => absurd q (by decide)) (fun _ => ?_)
          refine r_iload rfl rfl ?_
          refine r_goto (tg := 11) rfl rfl ?_
          refine r_putI rfl ⟨rfl, rfl, rfl⟩ (fx_t30 fx) ?_
          have fx : FX n ad sa z0 (sI (sI (sI h (ad 0) 6 0) (ad 0) 6 (-3)) (ad 30) 11 (-3)) := (FX.sI fx)
          refine r_iload rfl rfl ?_
          refine r_iret rfl ?_
          show WR _ cd_167 32 [some (.ref (ad 30)), some (.int c), some (.int l), some (.int i), some (.long b), none, none] [.int (-3)] (sI (sI (sI h (ad 0) 6 0) (ad 0) 6 (-3)) (ad 30) 11 (-3)) _
          refine r_iret rfl ?_
          exact ⟨rfl, Rel.why r (((Chg.rf.sI (fx_j fx) (.inl (by decide))).sI (fx_j fx) (.inl (by decide))).sI (fx_j fx) (.inl (by decide))) ⟨rfl, by decide⟩ (Eq.trans (Eq.trans (I_ne (fx_ne fx (by decide))) I_eq) (Eq.symm I_eq)), (by (try simp only [hZ_sI, hZ_sL, hZ_sD, hZ_sR]); omega), (by (try simp only [hU_sI, hU_sL, hU_sD, hU_sR]); omega)⟩
        · refine r_ic (x := 1) rfl rfl ?_
          refine r_goto (tg := 15) rfl rfl ?_
          refine r_zret rfl (.inr rfl) ?_
          show WR _ cd_30 19 [some (.ref (ad 0)), some (.int c), some (.int l), some (.int i), none] [.int 1] (sI h (ad 0) 6 0) _
          refine r_if_ne (tg := 30) rfl rfl (fun _ => ?_) (fun q => absurd q (by decide))
          refine r_aload rfl rfl ?_
          refine r_iload rfl rfl ?_
          refine WR_tI (y := nI k2) ek2 ?_
          refine r_iload rfl rfl ?_
          refine WR_tI (y := nI k5) ek5 ?_
          refine r_cv (y := 31) (ra := [.int (nI k5), .int (nI k2)]) (rest := []) rfl ⟨⟨rfl, rfl⟩, rfl, by decide⟩ (fx_t0 fx) rfl rfl (Nat.le_of_ble_eq_true rfl) ?_
          refine in_31 (Nat.le_of_ble_eq_true rfl) ?_
          show WR _ cd_31 0 [some (.ref (ad 0)), some (.int (nI k2)), some (.int (nI k5)), none, none] [] (sI h (ad 0) 6 0) _
          refine r_aload rfl rfl ?_
          refine r_getA (b := ad 1) rfl ⟨rfl, rfl, rfl⟩ (fx_t0 fx) (fx_r0_0 fx) ?_
          refine r_iload rfl rfl ?_
          rcases rs.cs (n := n) (sa := sa) (c := k2) (by have := i_nlt c1; have := i_rg c; have : (0 : Int32).toInt = 0 := rfl; have := i_eq ek2; have : (nI k2).toInt = ((k2 : Nat) : Int) := nI_toInt (by omega); have := i_nle c3; have : (24 : Int32).toInt = 24 := rfl; omega) with ⟨v7, w7⟩ | ⟨q7, kd7, hq7, hn7, v7, w7, dz7, tg7, s1_7, k1_7, k2_7, hk_7, we7⟩ | ⟨t7, ln7, sz7, ht7, v7, w7, dz7, tg7, r_7, tg2_7, l1_7, l2_7, hl_7, kd_7, n_7, sz_7, hs_7, al7, rw7⟩ | ⟨t7, sz7, ht7, v7, w7, dz7, tg7, r_7, tg2_7, k1_7, l2_7, k2_7, n_7, sz_7, hs_7, al7, rw7⟩ | ⟨t7, kd7, sz7, ht7, v7, w7, dz7, tg7, r_7, tg2_7, k1_7, l2_7, k2_7, hk_7, n_7, sz_7, hs_7, al7, rw7⟩
          · refine r_aaload0 rfl (isQ_of (fx_t1 fx) (by decide)) (vp_ct (fx_n1 fx) (vp_in_nI (by have := i_nlt c1; have := i_rg c; have : (0 : Int32).toInt = 0 := rfl; have := i_eq ek2; have : (nI k2).toInt = ((k2 : Nat) : Int) := nI_toInt (by omega); have := i_nle c3; have : (24 : Int32).toInt = 24 := rfl; omega) (by omega))) (Eq.trans (congrArg (hR (sI h (ad 0) 6 0) (ad 1)) ((nI_clamp (by have := i_nlt c1; have := i_rg c; have : (0 : Int32).toInt = 0 := rfl; have := i_eq ek2; have : (nI k2).toInt = ((k2 : Nat) : Int) := nI_toInt (by omega); have := i_nle c3; have : (24 : Int32).toInt = 24 := rfl; omega)) : _ = k2)) (Eq.trans R_oI w7)) ?_
            refine r_astore0 (lv' := [some (.ref (ad 0)), some (.int (nI k2)), some (.int (nI k5)), some (.null), none]) rfl (Nat.le_of_ble_eq_true rfl) rfl ?_
            refine r_aload0 rfl rfl ?_
            refine r_instN rfl (by decide) ?_
            refine r_if_eq (tg := 32) rfl rfl (fun _ => ?_) (fun q => absurd q (by decide))
            refine r_aload rfl rfl ?_
            refine r_aload0 rfl rfl ?_
            refine r_ifnonnullN (tg := 42) rfl rfl ?_
            refine r_ic (x := (-11)) rfl rfl ?_
            refine r_goto (tg := 44) rfl rfl ?_
            refine r_putI rfl ⟨rfl, rfl, rfl⟩ (fx_t0 fx) ?_
            have fx : FX n ad sa z0 (sI (sI h (ad 0) 6 0) (ad 0) 6 (-11)) := (FX.sI fx)
            refine r_null rfl ?_
            refine r_aret0 rfl ?_
            show WR _ cd_30 36 [some (.ref (ad 0)), some (.int c), some (.int l), some (.int i), none] [.null] (sI (sI h (ad 0) 6 0) (ad 0) 6 (-11)) _
            refine r_astore0 (lv' := [some (.ref (ad 0)), some (.int c), some (.int l), some (.int i), some (.null)]) rfl (Nat.le_of_ble_eq_true rfl) rfl ?_
            refine r_aload0 rfl rfl ?_
            refine r_ifnullN (tg := 61) rfl rfl ?_
            refine r_aload0 rfl rfl ?_
            refine r_aret0 rfl ?_
            show WR _ cd_29 12 [some (.ref (ad 0)), some (.int c), some (.int l), some (.int i), some (.long b), none, none] [.null] (sI (sI h (ad 0) 6 0) (ad 0) 6 (-11)) _
            refine r_astore0 (lv' := [some (.ref (ad 0)), some (.int c), some (.int l), some (.int i), some (.long b), none, some (.null)]) rfl (Nat.le_of_ble_eq_true rfl) rfl ?_
            refine r_aload0 rfl rfl ?_
            refine r_ifnonnullN (tg := 24) rfl rfl ?_
            refine r_aload rfl rfl ?_
            refine r_getI rfl ⟨rfl, rfl, rfl⟩ (fx_t0 fx) ?_
            refine WR_tI (y := (-11)) I_eq ?_
            refine r_iret rfl ?_
            show EV _ 167 [.ref (ad 30), .int c, .int l, .int i, .long b] (sI (sI h (ad 0) 6 0) (ad 0) 6 (-11)) _
            refine in_167 (Nat.le_of_ble_eq_true rfl) ?_
            show WR _ cd_167 0 [some (.ref (ad 30)), some (.int c), some (.int l), some (.int i), some (.long b), none, none] [] (sI (sI h (ad 0) 6 0) (ad 0) 6 (-11)) _
            refine r_iload rfl rfl ?_
            refine WR_tI (y := nI k2) ek2 ?_
            refine r_cs (y := 153) (ra := [.int (nI k2)]) (rest := []) rfl ⟨⟨rfl, rfl⟩, by decide⟩ rfl rfl (Nat.le_of_ble_eq_true rfl) ?_
            refine in_153 (Nat.le_of_ble_eq_true rfl) ?_
            show WR _ cd_153 0 [some (.int (nI k2))] [] (sI (sI h (ad 0) 6 0) (ad 0) 6 (-11)) _
            refine r_iload rfl rfl ?_
            refine r_if_lt (tg := 14) rfl rfl (fun q => False.elim (by have := i_nlt c1; have := i_rg c; have : (0 : Int32).toInt = 0 := rfl; have := i_eq ek2; have : (nI k2).toInt = ((k2 : Nat) : Int) := nI_toInt (by omega); have := i_nle c3; have : (24 : Int32).toInt = 24 := rfl; have := i_lt q; omega)) (fun _ => ?_)
            refine r_iload rfl rfl ?_
            refine r_ic (x := 24) rfl rfl ?_
            refine r_icmp_ge (tg := 14) rfl rfl (fun q => False.elim (by have := i_nlt c1; have := i_rg c; have : (0 : Int32).toInt = 0 := rfl; have := i_eq ek2; have : (nI k2).toInt = ((k2 : Nat) : Int) := nI_toInt (by omega); have := i_nle c3; have : (24 : Int32).toInt = 24 := rfl; have := i_le q; omega)) (fun _ => ?_)
            refine r_ic (x := 1) rfl rfl ?_
            refine r_goto (tg := 15) rfl rfl ?_
            refine r_zret rfl (.inr rfl) ?_
            show WR _ cd_167 4 [some (.ref (ad 30)), some (.int c), some (.int l), some (.int i), some (.long b), none, none] [.int 1] (sI (sI h (ad 0) 6 0) (ad 0) 6 (-11)) _
            refine r_if_ne (tg := 14) rfl rfl (fun _ => ?_) (fun q => absurd q (by decide))
            refine r_iload rfl rfl ?_
            refine WR_tI (y := nI k5) ek5 ?_
            refine r_i2l rfl ?_
            refine WR_tL (y := lN k5) (nI_l (by have := i_nlt c4; have := i_rg l; have : (0 : Int32).toInt = 0 := rfl; have := i_eq ek5; have : (nI k5).toInt = ((k5 : Nat) : Int) := nI_toInt (by omega); have := i_nle c6; have : (8 : Int32).toInt = 8 := rfl; omega)) ?_
            refine r_lc (x := 0) rfl rfl ?_
            refine r_ldc (x := .long 7) rfl rfl ?_
            refine r_cs (y := 155) (ra := [.long 7, .long 0, .long (lN k5)]) (rest := []) rfl ⟨⟨rfl, rfl⟩, by decide⟩ rfl rfl (Nat.le_of_ble_eq_true rfl) ?_
            refine in_155 (Nat.le_of_ble_eq_true rfl) ?_
            show WR _ cd_155 0 [some (.long (lN k5)), none, some (.long 0), none, some (.long 7), none] [] (sI (sI h (ad 0) 6 0) (ad 0) 6 (-11)) _
            refine r_lload rfl rfl ?_
            refine r_lload rfl rfl ?_
            refine r_lif_lt (tg := 17) rfl rfl rfl (fun q => False.elim (by have := i_nlt c4; have := i_rg l; have : (0 : Int32).toInt = 0 := rfl; have := i_eq ek5; have : (nI k5).toInt = ((k5 : Nat) : Int) := nI_toInt (by omega); have := i_nle c6; have : (8 : Int32).toInt = 8 := rfl; have : (lN k5).toInt = ((k5 : Nat) : Int) := lN_toInt (by omega); have : (0 : Int64).toInt = 0 := rfl; have := l_lt q; omega)) (fun _ => ?_)
            refine r_lload rfl rfl ?_
            refine r_lload rfl rfl ?_
            refine r_lif_gt (tg := 17) rfl rfl rfl (fun q => False.elim (by have := i_nlt c4; have := i_rg l; have : (0 : Int32).toInt = 0 := rfl; have := i_eq ek5; have : (nI k5).toInt = ((k5 : Nat) : Int) := nI_toInt (by omega); have := i_nle c6; have : (8 : Int32).toInt = 8 := rfl; have : (lN k5).toInt = ((k5 : Nat) : Int) := lN_toInt (by omega); have : (7 : Int64).toInt = 7 := rfl; have := l_lt q; omega)) (fun _ => ?_)
            refine r_ic (x := 1) rfl rfl ?_
            refine r_goto (tg := 18) rfl rfl ?_
            refine r_zret rfl (.inr rfl) ?_
            show WR _ cd_167 23 [some (.ref (ad 30)), some (.int c), some (.int l), some (.int i), some (.long b), none, none] [.int 1] (sI (sI h (ad 0) 6 0) (ad 0) 6 (-11)) _
            refine r_if_ne (tg := 33) rfl rfl (fun _ => ?_) (fun q => absurd q (by decide))
            refine r_aload rfl rfl ?_
            refine r_aload rfl rfl ?_
            refine r_getA (b := ad 31) rfl ⟨rfl, rfl, rfl⟩ (fx_t30 fx) (fx_r30_0 fx) ?_
            refine r_iload rfl rfl ?_
            refine WR_tI (y := nI k2) ek2 ?_
            refine r_iaload rfl (.inl (fx_t31 fx)) (vp_ct (fx_n31 fx) (vp_in_nI (by have := i_nlt c1; have := i_rg c; have : (0 : Int32).toInt = 0 := rfl; have := i_eq ek2; have : (nI k2).toInt = ((k2 : Nat) : Int) := nI_toInt (by omega); have := i_nle c3; have : (24 : Int32).toInt = 24 := rfl; omega) (by omega))) ?_
            refine WR_tI (congrArg (hI (sI (sI h (ad 0) 6 0) (ad 0) 6 (-11)) (ad 31)) ((nI_clamp (by have := i_nlt c1; have := i_rg c; have : (0 : Int32).toInt = 0 := rfl; have := i_eq ek2; have : (nI k2).toInt = ((k2 : Nat) : Int) := nI_toInt (by omega); have := i_nle c3; have : (24 : Int32).toInt = 24 := rfl; omega)) : _ = k2)) ?_
            refine WR_tI (y := (-1)) (Eq.trans (I_ne (fx_ne fx (by decide))) (Eq.trans (I_ne (fx_ne fx (by decide))) v7)) ?_
            refine r_iload rfl rfl ?_
            refine WR_tI (y := nI k5) ek5 ?_
            refine r_iload rfl rfl ?_
            refine r_cv (y := 168) (ra := [.int i, .int (nI k5), .int (-1)]) (rest := []) rfl ⟨⟨rfl, rfl⟩, rfl, by decide⟩ (fx_t30 fx) rfl rfl (Nat.le_of_ble_eq_true rfl) ?_
            refine in_168 (Nat.le_of_ble_eq_true rfl) ?_
            show WR _ cd_168 0 [some (.ref (ad 30)), some (.int (-1)), some (.int (nI k5)), some (.int i)] [] (sI (sI h (ad 0) 6 0) (ad 0) 6 (-11)) _
            refine r_iload rfl rfl ?_
            refine r_ic (x := (-1)) rfl rfl ?_
            refine r_icmp_eq (tg := 18) rfl rfl (fun _ => ?_) (fun q => absurd q (by decide))
            refine r_iload rfl rfl ?_
            refine r_ic (x := (-1)) rfl rfl ?_
            refine r_icmp_ne (tg := 27) rfl rfl (fun q => absurd q (by decide)) (fun _ => ?_)
            refine r_ic (x := 1) rfl rfl ?_
            refine r_goto (tg := 50) rfl rfl ?_
            refine r_iret rfl ?_
            show WR _ cd_167 45 [some (.ref (ad 30)), some (.int c), some (.int l), some (.int i), some (.long b), none, none] [.int 1] (sI (sI h (ad 0) 6 0) (ad 0) 6 (-11)) _
            refine r_istore (lv' := [some (.ref (ad 30)), some (.int c), some (.int l), some (.int i), some (.long b), none, some (.int 1)]) rfl (Nat.le_of_ble_eq_true rfl) rfl ?_
            refine r_iload rfl rfl ?_
            refine r_if_le (tg := 59) rfl rfl (fun q => absurd q (by decide)) (fun _ => ?_)
            refine r_aload rfl rfl ?_
            refine r_iload rfl rfl ?_
            refine r_cv (y := 156) (ra := [.int 1]) (rest := []) rfl ⟨⟨rfl, rfl⟩, rfl, by decide⟩ (fx_t30 fx) rfl rfl (Nat.le_of_ble_eq_true rfl) ?_
            refine in_156 (Nat.le_of_ble_eq_true rfl) ?_
            show WR _ cd_156 0 [some (.ref (ad 30)), some (.int 1)] [] (sI (sI h (ad 0) 6 0) (ad 0) 6 (-11)) _
            refine r_aload rfl rfl ?_
            refine r_ic (x := (-10)) rfl rfl ?_
            refine r_iload rfl rfl ?_
            refine r_isub rfl ?_
            refine WR_tI (y := (-11)) rfl ?_
            refine r_cv (y := 154) (ra := [.int (-11)]) (rest := []) rfl ⟨⟨rfl, rfl⟩, rfl, by decide⟩ (fx_t30 fx) rfl rfl (Nat.le_of_ble_eq_true rfl) ?_
            refine in_154 (Nat.le_of_ble_eq_true rfl) ?_
            show WR _ cd_154 0 [some (.ref (ad 30)), some (.int (-11))] [] (sI (sI h (ad 0) 6 0) (ad 0) 6 (-11)) _
            refine r_aload rfl rfl ?_
            refine r_iload rfl rfl ?_
            refine r_ic (x := (-1)) rfl rfl ?_
            refine r_icmp_ge (tg := 10) rfl rfl (fun q => absurd q (by decide)) (fun _ => ?_)
            refine r_iload rfl rfl ?_
            refine r_goto (tg := 11) rfl rfl ?_
            refine r_putI rfl ⟨rfl, rfl, rfl⟩ (fx_t30 fx) ?_
            have fx : FX n ad sa z0 (sI (sI (sI h (ad 0) 6 0) (ad 0) 6 (-11)) (ad 30) 11 (-11)) := (FX.sI fx)
            refine r_iload rfl rfl ?_
            refine r_iret rfl ?_
            show WR _ cd_156 8 [some (.ref (ad 30)), some (.int 1)] [.int (-11)] (sI (sI (sI h (ad 0) 6 0) (ad 0) 6 (-11)) (ad 30) 11 (-11)) _
            refine r_iret rfl ?_
            show WR _ cd_167 58 [some (.ref (ad 30)), some (.int c), some (.int l), some (.int i), some (.long b), none, some (.int 1)] [.int (-11)] (sI (sI (sI h (ad 0) 6 0) (ad 0) 6 (-11)) (ad 30) 11 (-11)) _
            refine r_iret rfl ?_
            exact ⟨rfl, Rel.why r (((Chg.rf.sI (fx_j fx) (.inl (by decide))).sI (fx_j fx) (.inl (by decide))).sI (fx_j fx) (.inl (by decide))) ⟨rfl, by decide⟩ (Eq.trans (Eq.trans (I_ne (fx_ne fx (by decide))) I_eq) (Eq.symm I_eq)), (by (try simp only [hZ_sI, hZ_sL, hZ_sD, hZ_sR]); omega), (by (try simp only [hU_sI, hU_sL, hU_sD, hU_sR]); omega)⟩
          · refine r_aaloadA (b := pa q7) rfl (isQ_of (fx_t1 fx) (by decide)) (vp_ct (fx_n1 fx) (vp_in_nI (by have := i_nlt c1; have := i_rg c; have : (0 : Int32).toInt = 0 := rfl; have := i_eq ek2; have : (nI k2).toInt = ((k2 : Nat) : Int) := nI_toInt (by omega); have := i_nle c3; have : (24 : Int32).toInt = 24 := rfl; omega) (by omega))) (Eq.trans (congrArg (hR (sI h (ad 0) 6 0) (ad 1)) ((nI_clamp (by have := i_nlt c1; have := i_rg c; have : (0 : Int32).toInt = 0 := rfl; have := i_eq ek2; have : (nI k2).toInt = ((k2 : Nat) : Int) := nI_toInt (by omega); have := i_nle c3; have : (24 : Int32).toInt = 24 := rfl; omega)) : _ = k2)) (Eq.trans R_oI w7)) ?_
            refine r_astore (lv' := [some (.ref (ad 0)), some (.int (nI k2)), some (.int (nI k5)), some (.ref (pa q7)), none]) rfl (Nat.le_of_ble_eq_true rfl) rfl ?_
            refine r_aload rfl rfl ?_
            refine r_instW rfl (by decide) tg7 (by decide) ?_
            refine r_if_eq (tg := 32) rfl rfl (fun _ => ?_) (fun q => absurd q (by decide))
            refine r_aload rfl rfl ?_
            refine r_aload rfl rfl ?_
            refine r_ifnonnullA (tg := 42) rfl rfl ?_
            refine r_ic (x := (-14)) rfl rfl ?_
            refine r_putI rfl ⟨rfl, rfl, rfl⟩ (fx_t0 fx) ?_
            have fx : FX n ad sa z0 (sI (sI h (ad 0) 6 0) (ad 0) 6 (-14)) := (FX.sI fx)
            refine r_null rfl ?_
            refine r_aret0 rfl ?_
            show WR _ cd_30 36 [some (.ref (ad 0)), some (.int c), some (.int l), some (.int i), none] [.null] (sI (sI h (ad 0) 6 0) (ad 0) 6 (-14)) _
            refine r_astore0 (lv' := [some (.ref (ad 0)), some (.int c), some (.int l), some (.int i), some (.null)]) rfl (Nat.le_of_ble_eq_true rfl) rfl ?_
            refine r_aload0 rfl rfl ?_
            refine r_ifnullN (tg := 61) rfl rfl ?_
            refine r_aload0 rfl rfl ?_
            refine r_aret0 rfl ?_
            show WR _ cd_29 12 [some (.ref (ad 0)), some (.int c), some (.int l), some (.int i), some (.long b), none, none] [.null] (sI (sI h (ad 0) 6 0) (ad 0) 6 (-14)) _
            refine r_astore0 (lv' := [some (.ref (ad 0)), some (.int c), some (.int l), some (.int i), some (.long b), none, some (.null)]) rfl (Nat.le_of_ble_eq_true rfl) rfl ?_
            refine r_aload0 rfl rfl ?_
            refine r_ifnonnullN (tg := 24) rfl rfl ?_
            refine r_aload rfl rfl ?_
            refine r_getI rfl ⟨rfl, rfl, rfl⟩ (fx_t0 fx) ?_
            refine WR_tI (y := (-14)) I_eq ?_
            refine r_iret rfl ?_
            show EV _ 167 [.ref (ad 30), .int c, .int l, .int i, .long b] (sI (sI h (ad 0) 6 0) (ad 0) 6 (-14)) _
            refine in_167 (Nat.le_of_ble_eq_true rfl) ?_
            show WR _ cd_167 0 [some (.ref (ad 30)), some (.int c), some (.int l), some (.int i), some (.long b), none, none] [] (sI (sI h (ad 0) 6 0) (ad 0) 6 (-14)) _
            refine r_iload rfl rfl ?_
            refine WR_tI (y := nI k2) ek2 ?_
            refine r_cs (y := 153) (ra := [.int (nI k2)]) (rest := []) rfl ⟨⟨rfl, rfl⟩, by decide⟩ rfl rfl (Nat.le_of_ble_eq_true rfl) ?_
            refine in_153 (Nat.le_of_ble_eq_true rfl) ?_
            show WR _ cd_153 0 [some (.int (nI k2))] [] (sI (sI h (ad 0) 6 0) (ad 0) 6 (-14)) _
            refine r_iload rfl rfl ?_
            refine r_if_lt (tg := 14) rfl rfl (fun q => False.elim (by have := i_nlt c1; have := i_rg c; have : (0 : Int32).toInt = 0 := rfl; have := i_eq ek2; have : (nI k2).toInt = ((k2 : Nat) : Int) := nI_toInt (by omega); have := i_nle c3; have : (24 : Int32).toInt = 24 := rfl; have := i_lt q; omega)) (fun _ => ?_)
            refine r_iload rfl rfl ?_
            refine r_ic (x := 24) rfl rfl ?_
            refine r_icmp_ge (tg := 14) rfl rfl (fun q => False.elim (by have := i_nlt c1; have := i_rg c; have : (0 : Int32).toInt = 0 := rfl; have := i_eq ek2; have : (nI k2).toInt = ((k2 : Nat) : Int) := nI_toInt (by omega); have := i_nle c3; have : (24 : Int32).toInt = 24 := rfl; have := i_le q; omega)) (fun _ => ?_)
            refine r_ic (x := 1) rfl rfl ?_
            refine r_goto (tg := 15) rfl rfl ?_
            refine r_zret rfl (.inr rfl) ?_
            show WR _ cd_167 4 [some (.ref (ad 30)), some (.int c), some (.int l), some (.int i), some (.long b), none, none] [.int 1] (sI (sI h (ad 0) 6 0) (ad 0) 6 (-14)) _
            refine r_if_ne (tg := 14) rfl rfl (fun _ => ?_) (fun q => absurd q (by decide))
            refine r_iload rfl rfl ?_
            refine WR_tI (y := nI k5) ek5 ?_
            refine r_i2l rfl ?_
            refine WR_tL (y := lN k5) (nI_l (by have := i_nlt c4; have := i_rg l; have : (0 : Int32).toInt = 0 := rfl; have := i_eq ek5; have : (nI k5).toInt = ((k5 : Nat) : Int) := nI_toInt (by omega); have := i_nle c6; have : (8 : Int32).toInt = 8 := rfl; omega)) ?_
            refine r_lc (x := 0) rfl rfl ?_
            refine r_ldc (x := .long 7) rfl rfl ?_
            refine r_cs (y := 155) (ra := [.long 7, .long 0, .long (lN k5)]) (rest := []) rfl ⟨⟨rfl, rfl⟩, by decide⟩ rfl rfl (Nat.le_of_ble_eq_true rfl) ?_
            refine in_155 (Nat.le_of_ble_eq_true rfl) ?_
            show WR _ cd_155 0 [some (.long (lN k5)), none, some (.long 0), none, some (.long 7), none] [] (sI (sI h (ad 0) 6 0) (ad 0) 6 (-14)) _
            refine r_lload rfl rfl ?_
            refine r_lload rfl rfl ?_
            refine r_lif_lt (tg := 17) rfl rfl rfl (fun q => False.elim (by have := i_nlt c4; have := i_rg l; have : (0 : Int32).toInt = 0 := rfl; have := i_eq ek5; have : (nI k5).toInt = ((k5 : Nat) : Int) := nI_toInt (by omega); have := i_nle c6; have : (8 : Int32).toInt = 8 := rfl; have : (lN k5).toInt = ((k5 : Nat) : Int) := lN_toInt (by omega); have : (0 : Int64).toInt = 0 := rfl; have := l_lt q; omega)) (fun _ => ?_)
            refine r_lload rfl rfl ?_
            refine r_lload rfl rfl ?_
            refine r_lif_gt (tg := 17) rfl rfl rfl (fun q => False.elim (by have := i_nlt c4; have := i_rg l; have : (0 : Int32).toInt = 0 := rfl; have := i_eq ek5; have : (nI k5).toInt = ((k5 : Nat) : Int) := nI_toInt (by omega); have := i_nle c6; have : (8 : Int32).toInt = 8 := rfl; have : (lN k5).toInt = ((k5 : Nat) : Int) := lN_toInt (by omega); have : (7 : Int64).toInt = 7 := rfl; have := l_lt q; omega)) (fun _ => ?_)
            refine r_ic (x := 1) rfl rfl ?_
            refine r_goto (tg := 18) rfl rfl ?_
            refine r_zret rfl (.inr rfl) ?_
            show WR _ cd_167 23 [some (.ref (ad 30)), some (.int c), some (.int l), some (.int i), some (.long b), none, none] [.int 1] (sI (sI h (ad 0) 6 0) (ad 0) 6 (-14)) _
            refine r_if_ne (tg := 33) rfl rfl (fun _ => ?_) (fun q => absurd q (by decide))
            refine r_aload rfl rfl ?_
            refine r_aload rfl rfl ?_
            refine r_getA (b := ad 31) rfl ⟨rfl, rfl, rfl⟩ (fx_t30 fx) (fx_r30_0 fx) ?_
            refine r_iload rfl rfl ?_
            refine WR_tI (y := nI k2) ek2 ?_
            refine r_iaload rfl (.inl (fx_t31 fx)) (vp_ct (fx_n31 fx) (vp_in_nI (by have := i_nlt c1; have := i_rg c; have : (0 : Int32).toInt = 0 := rfl; have := i_eq ek2; have : (nI k2).toInt = ((k2 : Nat) : Int) := nI_toInt (by omega); have := i_nle c3; have : (24 : Int32).toInt = 24 := rfl; omega) (by omega))) ?_
            refine WR_tI (congrArg (hI (sI (sI h (ad 0) 6 0) (ad 0) 6 (-14)) (ad 31)) ((nI_clamp (by have := i_nlt c1; have := i_rg c; have : (0 : Int32).toInt = 0 := rfl; have := i_eq ek2; have : (nI k2).toInt = ((k2 : Nat) : Int) := nI_toInt (by omega); have := i_nle c3; have : (24 : Int32).toInt = 24 := rfl; omega)) : _ = k2)) ?_
            refine WR_tI (y := nI (q7 + 1000)) (Eq.trans (I_ne (fx_ne fx (by decide))) (Eq.trans (I_ne (fx_ne fx (by decide))) v7)) ?_
            refine r_iload rfl rfl ?_
            refine WR_tI (y := nI k5) ek5 ?_
            refine r_iload rfl rfl ?_
            refine r_cv (y := 168) (ra := [.int i, .int (nI k5), .int (nI (q7 + 1000))]) (rest := []) rfl ⟨⟨rfl, rfl⟩, rfl, by decide⟩ (fx_t30 fx) rfl rfl (Nat.le_of_ble_eq_true rfl) ?_
            refine in_168 (Nat.le_of_ble_eq_true rfl) ?_
            show WR _ cd_168 0 [some (.ref (ad 30)), some (.int (nI (q7 + 1000))), some (.int (nI k5)), some (.int i)] [] (sI (sI h (ad 0) 6 0) (ad 0) 6 (-14)) _
            refine r_iload rfl rfl ?_
            refine r_ic (x := (-1)) rfl rfl ?_
            refine r_icmp_eq (tg := 18) rfl rfl (fun q => False.elim (by have : (nI (q7 + 1000)).toInt = ((q7 + 1000 : Nat) : Int) := nI_toInt (by omega); have : (-1 : Int32).toInt = -1 := rfl; have := i_eq q; omega)) (fun _ => ?_)
            refine r_aload rfl rfl ?_
            refine r_iload rfl rfl ?_
            refine r_cv (y := 166) (ra := [.int (nI (q7 + 1000))]) (rest := []) rfl ⟨⟨rfl, rfl⟩, rfl, by decide⟩ (fx_t30 fx) rfl rfl (Nat.le_of_ble_eq_true rfl) ?_
            refine in_166 (Nat.le_of_ble_eq_true rfl) ?_
            show WR _ cd_166 0 [some (.ref (ad 30)), some (.int (nI (q7 + 1000)))] [] (sI (sI h (ad 0) 6 0) (ad 0) 6 (-14)) _
            refine r_iload rfl rfl ?_
            refine r_ic (x := (-1)) rfl rfl ?_
            refine r_icmp_ne (tg := 9) rfl rfl (fun _ => ?_) (fun q => False.elim (by have : (nI (q7 + 1000)).toInt = ((q7 + 1000 : Nat) : Int) := nI_toInt (by omega); have : (-1 : Int32).toInt = -1 := rfl; have := i_eq q; omega))
            refine r_iload rfl rfl ?_
            refine r_ic (x := 1000) rfl rfl ?_
            refine r_icmp_lt (tg := 21) rfl rfl (fun q => False.elim (by have : (nI (q7 + 1000)).toInt = ((q7 + 1000 : Nat) : Int) := nI_toInt (by omega); have : (1000 : Int32).toInt = 1000 := rfl; have := i_lt q; omega)) (fun _ => ?_)
            refine r_ic (x := 10) rfl rfl ?_
            refine r_goto (tg := 27) rfl rfl ?_
            refine r_iret rfl ?_
            show WR _ cd_168 10 [some (.ref (ad 30)), some (.int (nI (q7 + 1000))), some (.int (nI k5)), some (.int i)] [.int 10] (sI (sI h (ad 0) 6 0) (ad 0) 6 (-14)) _
            refine r_iload rfl rfl ?_
            refine r_icmp_eq (tg := 18) rfl rfl (fun q => False.elim (by have := i_nlt c4; have := i_rg l; have : (0 : Int32).toInt = 0 := rfl; have := i_eq ek5; have : (nI k5).toInt = ((k5 : Nat) : Int) := nI_toInt (by omega); have := i_nle c6; have : (8 : Int32).toInt = 8 := rfl; have : (10 : Int32).toInt = 10 := rfl; have := i_eq q; omega)) (fun _ => ?_)
            refine r_ic (x := 4) rfl rfl ?_
            refine r_goto (tg := 50) rfl rfl ?_
            refine r_iret rfl ?_
            show WR _ cd_167 45 [some (.ref (ad 30)), some (.int c), some (.int l), some (.int i), some (.long b), none, none] [.int 4] (sI (sI h (ad 0) 6 0) (ad 0) 6 (-14)) _
            refine r_istore (lv' := [some (.ref (ad 30)), some (.int c), some (.int l), some (.int i), some (.long b), none, some (.int 4)]) rfl (Nat.le_of_ble_eq_true rfl) rfl ?_
            refine r_iload rfl rfl ?_
            refine r_if_le (tg := 59) rfl rfl (fun q => absurd q (by decide)) (fun _ => ?_)
            refine r_aload rfl rfl ?_
            refine r_iload rfl rfl ?_
            refine r_cv (y := 156) (ra := [.int 4]) (rest := []) rfl ⟨⟨rfl, rfl⟩, rfl, by decide⟩ (fx_t30 fx) rfl rfl (Nat.le_of_ble_eq_true rfl) ?_
            refine in_156 (Nat.le_of_ble_eq_true rfl) ?_
            show WR _ cd_156 0 [some (.ref (ad 30)), some (.int 4)] [] (sI (sI h (ad 0) 6 0) (ad 0) 6 (-14)) _
            refine r_aload rfl rfl ?_
            refine r_ic (x := (-10)) rfl rfl ?_
            refine r_iload rfl rfl ?_
            refine r_isub rfl ?_
            refine WR_tI (y := (-14)) rfl ?_
            refine r_cv (y := 154) (ra := [.int (-14)]) (rest := []) rfl ⟨⟨rfl, rfl⟩, rfl, by decide⟩ (fx_t30 fx) rfl rfl (Nat.le_of_ble_eq_true rfl) ?_
            refine in_154 (Nat.le_of_ble_eq_true rfl) ?_
            show WR _ cd_154 0 [some (.ref (ad 30)), some (.int (-14))] [] (sI (sI h (ad 0) 6 0) (ad 0) 6 (-14)) _
            refine r_aload rfl rfl ?_
            refine r_iload rfl rfl ?_
            refine r_ic (x := (-1)) rfl rfl ?_
            refine r_icmp_ge (tg := 10) rfl rfl (fun q => absurd q (by decide)) (fun _ => ?_)
            refine r_iload rfl rfl ?_
            refine r_goto (tg := 11) rfl rfl ?_
            refine r_putI rfl ⟨rfl, rfl, rfl⟩ (fx_t30 fx) ?_
            have fx : FX n ad sa z0 (sI (sI (sI h (ad 0) 6 0) (ad 0) 6 (-14)) (ad 30) 11 (-14)) := (FX.sI fx)
            refine r_iload rfl rfl ?_
            refine r_iret rfl ?_
            show WR _ cd_156 8 [some (.ref (ad 30)), some (.int 4)] [.int (-14)] (sI (sI (sI h (ad 0) 6 0) (ad 0) 6 (-14)) (ad 30) 11 (-14)) _
            refine r_iret rfl ?_
            show WR _ cd_167 58 [some (.ref (ad 30)), some (.int c), some (.int l), some (.int i), some (.long b), none, some (.int 4)] [.int (-14)] (sI (sI (sI h (ad 0) 6 0) (ad 0) 6 (-14)) (ad 30) 11 (-14)) _
            refine r_iret rfl ?_
            exact ⟨rfl, Rel.why r (((Chg.rf.sI (fx_j fx) (.inl (by decide))).sI (fx_j fx) (.inl (by decide))).sI (fx_j fx) (.inl (by decide))) ⟨rfl, by decide⟩ (Eq.trans (Eq.trans (I_ne (fx_ne fx (by decide))) I_eq) (Eq.symm I_eq)), (by (try simp only [hZ_sI, hZ_sL, hZ_sD, hZ_sR]); omega), (by (try simp only [hU_sI, hU_sL, hU_sD, hU_sR]); omega)⟩
          · refine r_aaloadA (b := mid t7) rfl (isQ_of (fx_t1 fx) (by decide)) (vp_ct (fx_n1 fx) (vp_in_nI (by have := i_nlt c1; have := i_rg c; have : (0 : Int32).toInt = 0 := rfl; have := i_eq ek2; have : (nI k2).toInt = ((k2 : Nat) : Int) := nI_toInt (by omega); have := i_nle c3; have : (24 : Int32).toInt = 24 := rfl; omega) (by omega))) (Eq.trans (congrArg (hR (sI h (ad 0) 6 0) (ad 1)) ((nI_clamp (by have := i_nlt c1; have := i_rg c; have : (0 : Int32).toInt = 0 := rfl; have := i_eq ek2; have : (nI k2).toInt = ((k2 : Nat) : Int) := nI_toInt (by omega); have := i_nle c3; have : (24 : Int32).toInt = 24 := rfl; omega)) : _ = k2)) (Eq.trans R_oI w7)) ?_
            refine r_astore (lv' := [some (.ref (ad 0)), some (.int (nI k2)), some (.int (nI k5)), some (.ref (mid t7)), none]) rfl (Nat.le_of_ble_eq_true rfl) rfl ?_
            refine r_aload rfl rfl ?_
            refine r_instY rfl (by decide) tg7 ?_
            refine r_if_eq (tg := 32) rfl rfl (fun q => absurd q (by decide)) (fun _ => ?_)
            refine r_aload rfl rfl ?_
            refine r_cast rfl tg7 ?_
            refine r_astore (lv' := [some (.ref (ad 0)), some (.int (nI k2)), some (.int (nI k5)), some (.ref (mid t7)), some (.ref (mid t7))]) rfl (Nat.le_of_ble_eq_true rfl) rfl ?_
            refine r_aload rfl rfl ?_
            refine r_getI rfl ⟨rfl, rfl, rfl⟩ tg7 ?_
            refine WR_tI (y := nI ln7) (Eq.trans (I_ne (dy_ad fx (.inl (by decide)) dz7)) l1_7) ?_
            refine r_iload rfl rfl ?_
            refine r_icmp_ne (tg := 32) rfl rfl (fun c8 => ?_) (fun c8 => ?_)
            · refine r_aload rfl rfl ?_
              refine r_aload rfl rfl ?_
              refine r_ifnonnullA (tg := 42) rfl rfl ?_
              refine r_ic (x := (-14)) rfl rfl ?_
              refine r_putI rfl ⟨rfl, rfl, rfl⟩ (fx_t0 fx) ?_
              have fx : FX n ad sa z0 (sI (sI h (ad 0) 6 0) (ad 0) 6 (-14)) := (FX.sI fx)
              refine r_null rfl ?_
              refine r_aret0 rfl ?_
              show WR _ cd_30 36 [some (.ref (ad 0)), some (.int c), some (.int l), some (.int i), none] [.null] (sI (sI h (ad 0) 6 0) (ad 0) 6 (-14)) _
              refine r_astore0 (lv' := [some (.ref (ad 0)), some (.int c), some (.int l), some (.int i), some (.null)]) rfl (Nat.le_of_ble_eq_true rfl) rfl ?_
              refine r_aload0 rfl rfl ?_
              refine r_ifnullN (tg := 61) rfl rfl ?_
              refine r_aload0 rfl rfl ?_
              refine r_aret0 rfl ?_
              show WR _ cd_29 12 [some (.ref (ad 0)), some (.int c), some (.int l), some (.int i), some (.long b), none, none] [.null] (sI (sI h (ad 0) 6 0) (ad 0) 6 (-14)) _
              refine r_astore0 (lv' := [some (.ref (ad 0)), some (.int c), some (.int l), some (.int i), some (.long b), none, some (.null)]) rfl (Nat.le_of_ble_eq_true rfl) rfl ?_
              refine r_aload0 rfl rfl ?_
              refine r_ifnonnullN (tg := 24) rfl rfl ?_
              refine r_aload rfl rfl ?_
              refine r_getI rfl ⟨rfl, rfl, rfl⟩ (fx_t0 fx) ?_
              refine WR_tI (y := (-14)) I_eq ?_
              refine r_iret rfl ?_
              show EV _ 167 [.ref (ad 30), .int c, .int l, .int i, .long b] (sI (sI h (ad 0) 6 0) (ad 0) 6 (-14)) _
              refine in_167 (Nat.le_of_ble_eq_true rfl) ?_
              show WR _ cd_167 0 [some (.ref (ad 30)), some (.int c), some (.int l), some (.int i), some (.long b), none, none] [] (sI (sI h (ad 0) 6 0) (ad 0) 6 (-14)) _
              refine r_iload rfl rfl ?_
              refine WR_tI (y := nI k2) ek2 ?_
              refine r_cs (y := 153) (ra := [.int (nI k2)]) (rest := []) rfl ⟨⟨rfl, rfl⟩, by decide⟩ rfl rfl (Nat.le_of_ble_eq_true rfl) ?_
              refine in_153 (Nat.le_of_ble_eq_true rfl) ?_
              show WR _ cd_153 0 [some (.int (nI k2))] [] (sI (sI h (ad 0) 6 0) (ad 0) 6 (-14)) _
              refine r_iload rfl rfl ?_
              refine r_if_lt (tg := 14) rfl rfl (fun q => False.elim (by have := i_nlt c1; have := i_rg c; have : (0 : Int32).toInt = 0 := rfl; have := i_eq ek2; have : (nI k2).toInt = ((k2 : Nat) : Int) := nI_toInt (by omega); have := i_nle c3; have : (24 : Int32).toInt = 24 := rfl; have := i_lt q; omega)) (fun _ => ?_)
              refine r_iload rfl rfl ?_
              refine r_ic (x := 24) rfl rfl ?_
              refine r_icmp_ge (tg := 14) rfl rfl (fun q => False.elim (by have := i_nlt c1; have := i_rg c; have : (0 : Int32).toInt = 0 := rfl; have := i_eq ek2; have : (nI k2).toInt = ((k2 : Nat) : Int) := nI_toInt (by omega); have := i_nle c3; have : (24 : Int32).toInt = 24 := rfl; have := i_le q; omega)) (fun _ => ?_)
              refine r_ic (x := 1) rfl rfl ?_
              refine r_goto (tg := 15) rfl rfl ?_
              refine r_zret rfl (.inr rfl) ?_
              show WR _ cd_167 4 [some (.ref (ad 30)), some (.int c), some (.int l), some (.int i), some (.long b), none, none] [.int 1] (sI (sI h (ad 0) 6 0) (ad 0) 6 (-14)) _
              refine r_if_ne (tg := 14) rfl rfl (fun _ => ?_) (fun q => absurd q (by decide))
              refine r_iload rfl rfl ?_
              refine WR_tI (y := nI k5) ek5 ?_
              refine r_i2l rfl ?_
              refine WR_tL (y := lN k5) (nI_l (by have := i_nlt c4; have := i_rg l; have : (0 : Int32).toInt = 0 := rfl; have := i_eq ek5; have : (nI k5).toInt = ((k5 : Nat) : Int) := nI_toInt (by omega); have := i_nle c6; have : (8 : Int32).toInt = 8 := rfl; omega)) ?_
              refine r_lc (x := 0) rfl rfl ?_
              refine r_ldc (x := .long 7) rfl rfl ?_
              refine r_cs (y := 155) (ra := [.long 7, .long 0, .long (lN k5)]) (rest := []) rfl ⟨⟨rfl, rfl⟩, by decide⟩ rfl rfl (Nat.le_of_ble_eq_true rfl) ?_
              refine in_155 (Nat.le_of_ble_eq_true rfl) ?_
              show WR _ cd_155 0 [some (.long (lN k5)), none, some (.long 0), none, some (.long 7), none] [] (sI (sI h (ad 0) 6 0) (ad 0) 6 (-14)) _
              refine r_lload rfl rfl ?_
              refine r_lload rfl rfl ?_
              refine r_lif_lt (tg := 17) rfl rfl rfl (fun q => False.elim (by have := i_nlt c4; have := i_rg l; have : (0 : Int32).toInt = 0 := rfl; have := i_eq ek5; have : (nI k5).toInt = ((k5 : Nat) : Int) := nI_toInt (by omega); have := i_nle c6; have : (8 : Int32).toInt = 8 := rfl; have : (lN k5).toInt = ((k5 : Nat) : Int) := lN_toInt (by omega); have : (0 : Int64).toInt = 0 := rfl; have := l_lt q; omega)) (fun _ => ?_)
              refine r_lload rfl rfl ?_
              refine r_lload rfl rfl ?_
              refine r_lif_gt (tg := 17) rfl rfl rfl (fun q => False.elim (by have := i_nlt c4; have := i_rg l; have : (0 : Int32).toInt = 0 := rfl; have := i_eq ek5; have : (nI k5).toInt = ((k5 : Nat) : Int) := nI_toInt (by omega); have := i_nle c6; have : (8 : Int32).toInt = 8 := rfl; have : (lN k5).toInt = ((k5 : Nat) : Int) := lN_toInt (by omega); have : (7 : Int64).toInt = 7 := rfl; have := l_lt q; omega)) (fun _ => ?_)
              refine r_ic (x := 1) rfl rfl ?_
              refine r_goto (tg := 18) rfl rfl ?_
              refine r_zret rfl (.inr rfl) ?_
              show WR _ cd_167 23 [some (.ref (ad 30)), some (.int c), some (.int l), some (.int i), some (.long b), none, none] [.int 1] (sI (sI h (ad 0) 6 0) (ad 0) 6 (-14)) _
              refine r_if_ne (tg := 33) rfl rfl (fun _ => ?_) (fun q => absurd q (by decide))
              refine r_aload rfl rfl ?_
              refine r_aload rfl rfl ?_
              refine r_getA (b := ad 31) rfl ⟨rfl, rfl, rfl⟩ (fx_t30 fx) (fx_r30_0 fx) ?_
              refine r_iload rfl rfl ?_
              refine WR_tI (y := nI k2) ek2 ?_
              refine r_iaload rfl (.inl (fx_t31 fx)) (vp_ct (fx_n31 fx) (vp_in_nI (by have := i_nlt c1; have := i_rg c; have : (0 : Int32).toInt = 0 := rfl; have := i_eq ek2; have : (nI k2).toInt = ((k2 : Nat) : Int) := nI_toInt (by omega); have := i_nle c3; have : (24 : Int32).toInt = 24 := rfl; omega) (by omega))) ?_
              refine WR_tI (congrArg (hI (sI (sI h (ad 0) 6 0) (ad 0) 6 (-14)) (ad 31)) ((nI_clamp (by have := i_nlt c1; have := i_rg c; have : (0 : Int32).toInt = 0 := rfl; have := i_eq ek2; have : (nI k2).toInt = ((k2 : Nat) : Int) := nI_toInt (by omega); have := i_nle c3; have : (24 : Int32).toInt = 24 := rfl; omega)) : _ = k2)) ?_
              refine WR_tI (y := nI t7) (Eq.trans (I_ne (fx_ne fx (by decide))) (Eq.trans (I_ne (fx_ne fx (by decide))) v7)) ?_
              refine r_iload rfl rfl ?_
              refine WR_tI (y := nI k5) ek5 ?_
              refine r_iload rfl rfl ?_
              refine r_cv (y := 168) (ra := [.int i, .int (nI k5), .int (nI t7)]) (rest := []) rfl ⟨⟨rfl, rfl⟩, rfl, by decide⟩ (fx_t30 fx) rfl rfl (Nat.le_of_ble_eq_true rfl) ?_
              refine in_168 (Nat.le_of_ble_eq_true rfl) ?_
              show WR _ cd_168 0 [some (.ref (ad 30)), some (.int (nI t7)), some (.int (nI k5)), some (.int i)] [] (sI (sI h (ad 0) 6 0) (ad 0) 6 (-14)) _
              refine r_iload rfl rfl ?_
              refine r_ic (x := (-1)) rfl rfl ?_
              refine r_icmp_eq (tg := 18) rfl rfl (fun q => False.elim (by have : (nI t7).toInt = ((t7 : Nat) : Int) := nI_toInt (by omega); have : (-1 : Int32).toInt = -1 := rfl; have := i_eq q; omega)) (fun _ => ?_)
              refine r_aload rfl rfl ?_
              refine r_iload rfl rfl ?_
              refine r_cv (y := 166) (ra := [.int (nI t7)]) (rest := []) rfl ⟨⟨rfl, rfl⟩, rfl, by decide⟩ (fx_t30 fx) rfl rfl (Nat.le_of_ble_eq_true rfl) ?_
              refine in_166 (Nat.le_of_ble_eq_true rfl) ?_
              show WR _ cd_166 0 [some (.ref (ad 30)), some (.int (nI t7))] [] (sI (sI h (ad 0) 6 0) (ad 0) 6 (-14)) _
              refine r_iload rfl rfl ?_
              refine r_ic (x := (-1)) rfl rfl ?_
              refine r_icmp_ne (tg := 9) rfl rfl (fun _ => ?_) (fun q => False.elim (by have : (nI t7).toInt = ((t7 : Nat) : Int) := nI_toInt (by omega); have : (-1 : Int32).toInt = -1 := rfl; have := i_eq q; omega))
              refine r_iload rfl rfl ?_
              refine r_ic (x := 1000) rfl rfl ?_
              refine r_icmp_lt (tg := 21) rfl rfl (fun _ => ?_) (fun q => False.elim (by have : (nI t7).toInt = ((t7 : Nat) : Int) := nI_toInt (by omega); have : (1000 : Int32).toInt = 1000 := rfl; have := i_nlt q; omega))
              refine r_aload rfl rfl ?_
              refine r_getA (b := ad 33) rfl ⟨rfl, rfl, rfl⟩ (fx_t30 fx) (fx_r30_2 fx) ?_
              refine r_iload rfl rfl ?_
              refine r_iaload rfl (.inl (fx_t33 fx)) (vp_ct (fx_n33 fx) (vp_in_nI (by omega) (by omega))) ?_
              refine WR_tI (congrArg (hI (sI (sI h (ad 0) 6 0) (ad 0) 6 (-14)) (ad 33)) ((nI_clamp (by omega)) : _ = t7)) ?_
              refine WR_tI (y := nI ln7) (Eq.trans (I_ne (fx_ne fx (by decide))) (Eq.trans (I_ne (fx_ne fx (by decide))) l2_7)) ?_
              refine r_iret rfl ?_
              show WR _ cd_168 10 [some (.ref (ad 30)), some (.int (nI t7)), some (.int (nI k5)), some (.int i)] [.int (nI ln7)] (sI (sI h (ad 0) 6 0) (ad 0) 6 (-14)) _
              refine r_iload rfl rfl ?_
              refine r_icmp_eq (tg := 18) rfl rfl (fun q => False.elim (by have := i_nlt c4; have := i_rg l; have : (0 : Int32).toInt = 0 := rfl; have := i_eq ek5; have : (nI k5).toInt = ((k5 : Nat) : Int) := nI_toInt (by omega); have := i_nle c6; have : (8 : Int32).toInt = 8 := rfl; have := i_neq c8; have : (nI ln7).toInt = ((ln7 : Nat) : Int) := nI_toInt (by omega); have := i_eq q; omega)) (fun _ => ?_)
              refine r_ic (x := 4) rfl rfl ?_
              refine r_goto (tg := 50) rfl rfl ?_
              refine r_iret rfl ?_
              show WR _ cd_167 45 [some (.ref (ad 30)), some (.int c), some (.int l), some (.int i), some (.long b), none, none] [.int 4] (sI (sI h (ad 0) 6 0) (ad 0) 6 (-14)) _
              refine r_istore (lv' := [some (.ref (ad 30)), some (.int c), some (.int l), some (.int i), some (.long b), none, some (.int 4)]) rfl (Nat.le_of_ble_eq_true rfl) rfl ?_
              refine r_iload rfl rfl ?_
              refine r_if_le (tg := 59) rfl rfl (fun q => absurd q (by decide)) (fun _ => ?_)
              refine r_aload rfl rfl ?_
              refine r_iload rfl rfl ?_
              refine r_cv (y := 156) (ra := [.int 4]) (rest := []) rfl ⟨⟨rfl, rfl⟩, rfl, by decide⟩ (fx_t30 fx) rfl rfl (Nat.le_of_ble_eq_true rfl) ?_
              refine in_156 (Nat.le_of_ble_eq_true rfl) ?_
              show WR _ cd_156 0 [some (.ref (ad 30)), some (.int 4)] [] (sI (sI h (ad 0) 6 0) (ad 0) 6 (-14)) _
              refine r_aload rfl rfl ?_
              refine r_ic (x := (-10)) rfl rfl ?_
              refine r_iload rfl rfl ?_
              refine r_isub rfl ?_
              refine WR_tI (y := (-14)) rfl ?_
              refine r_cv (y := 154) (ra := [.int (-14)]) (rest := []) rfl ⟨⟨rfl, rfl⟩, rfl, by decide⟩ (fx_t30 fx) rfl rfl (Nat.le_of_ble_eq_true rfl) ?_
              refine in_154 (Nat.le_of_ble_eq_true rfl) ?_
              show WR _ cd_154 0 [some (.ref (ad 30)), some (.int (-14))] [] (sI (sI h (ad 0) 6 0) (ad 0) 6 (-14)) _
              refine r_aload rfl rfl ?_
              refine r_iload rfl rfl ?_
              refine r_ic (x := (-1)) rfl rfl ?_
              refine r_icmp_ge (tg := 10) rfl rfl (fun q => absurd q (by decide)) (fun _ => ?_)
              refine r_iload rfl rfl ?_
              refine r_goto (tg := 11) rfl rfl ?_
              refine r_putI rfl ⟨rfl, rfl, rfl⟩ (fx_t30 fx) ?_
              have fx : FX n ad sa z0 (sI (sI (sI h (ad 0) 6 0) (ad 0) 6 (-14)) (ad 30) 11 (-14)) := (FX.sI fx)
              refine r_iload rfl rfl ?_
              refine r_iret rfl ?_
              show WR _ cd_156 8 [some (.ref (ad 30)), some (.int 4)] [.int (-14)] (sI (sI (sI h (ad 0) 6 0) (ad 0) 6 (-14)) (ad 30) 11 (-14)) _
              refine r_iret rfl ?_
              show WR _ cd_167 58 [some (.ref (ad 30)), some (.int c), some (.int l), some (.int i), some (.long b), none, some (.int 4)] [.int (-14)] (sI (sI (sI h (ad 0) 6 0) (ad 0) 6 (-14)) (ad 30) 11 (-14)) _
              refine r_iret rfl ?_
              exact ⟨rfl, Rel.why r (((Chg.rf.sI (fx_j fx) (.inl (by decide))).sI (fx_j fx) (.inl (by decide))).sI (fx_j fx) (.inl (by decide))) ⟨rfl, by decide⟩ (Eq.trans (Eq.trans (I_ne (fx_ne fx (by decide))) I_eq) (Eq.symm I_eq)), (by (try simp only [hZ_sI, hZ_sL, hZ_sD, hZ_sR]); omega), (by (try simp only [hU_sI, hU_sL, hU_sD, hU_sR]); omega)⟩
            · refine r_aload rfl rfl ?_
              refine r_aret rfl ?_
              show WR _ cd_30 36 [some (.ref (ad 0)), some (.int c), some (.int l), some (.int i), none] [.ref (mid t7)] (sI h (ad 0) 6 0) _
              refine r_astore (lv' := [some (.ref (ad 0)), some (.int c), some (.int l), some (.int i), some (.ref (mid t7))]) rfl (Nat.le_of_ble_eq_true rfl) rfl ?_
              refine r_aload rfl rfl ?_
              refine r_ifnullA (tg := 61) rfl rfl ?_
              refine r_aload rfl rfl ?_
              refine r_iload rfl rfl ?_
              refine r_ic (x := 1) rfl rfl ?_
              refine r_cv (y := 32) (ra := [.int 1, .int i]) (rest := []) rfl ⟨⟨rfl, rfl⟩, rfl, by decide⟩ tg7 rfl rfl (Nat.le_of_ble_eq_true rfl) ?_
              refine in_32 (Nat.le_of_ble_eq_true rfl) ?_
              show WR _ cd_32 0 [some (.ref (mid t7)), some (.int i), some (.int 1)] [] (sI h (ad 0) 6 0) _
              refine r_iload rfl rfl ?_
              refine r_if_lt (tg := 22) rfl rfl (fun c9 => ?_) (fun c9 => ?_)
              · refine r_ic (x := 0) rfl rfl ?_
                refine r_zret rfl (.inl rfl) ?_
                show WR _ cd_30 50 [some (.ref (ad 0)), some (.int c), some (.int l), some (.int i), some (.ref (mid t7))] [.int 0] (sI h (ad 0) 6 0) _
                refine r_if_ne (tg := 61) rfl rfl (fun q => absurd q (by decide)) (fun _ => ?_)
                refine r_aload rfl rfl ?_
                refine r_ic (x := (-12)) rfl rfl ?_
                refine r_putI rfl ⟨rfl, rfl, rfl⟩ (fx_t0 fx) ?_
                have fx : FX n ad sa z0 (sI (sI h (ad 0) 6 0) (ad 0) 6 (-12)) := (FX.sI fx)
                refine r_null rfl ?_
                refine r_aret0 rfl ?_
                show WR _ cd_29 12 [some (.ref (ad 0)), some (.int c), some (.int l), some (.int i), some (.long b), none, none] [.null] (sI (sI h (ad 0) 6 0) (ad 0) 6 (-12)) _
                refine r_astore0 (lv' := [some (.ref (ad 0)), some (.int c), some (.int l), some (.int i), some (.long b), none, some (.null)]) rfl (Nat.le_of_ble_eq_true rfl) rfl ?_
                refine r_aload0 rfl rfl ?_
                refine r_ifnonnullN (tg := 24) rfl rfl ?_
                refine r_aload rfl rfl ?_
                refine r_getI rfl ⟨rfl, rfl, rfl⟩ (fx_t0 fx) ?_
                refine WR_tI (y := (-12)) I_eq ?_
                refine r_iret rfl ?_
                show EV _ 167 [.ref (ad 30), .int c, .int l, .int i, .long b] (sI (sI h (ad 0) 6 0) (ad 0) 6 (-12)) _
                refine in_167 (Nat.le_of_ble_eq_true rfl) ?_
                show WR _ cd_167 0 [some (.ref (ad 30)), some (.int c), some (.int l), some (.int i), some (.long b), none, none] [] (sI (sI h (ad 0) 6 0) (ad 0) 6 (-12)) _
                refine r_iload rfl rfl ?_
                refine WR_tI (y := nI k2) ek2 ?_
                refine r_cs (y := 153) (ra := [.int (nI k2)]) (rest := []) rfl ⟨⟨rfl, rfl⟩, by decide⟩ rfl rfl (Nat.le_of_ble_eq_true rfl) ?_
                refine in_153 (Nat.le_of_ble_eq_true rfl) ?_
                show WR _ cd_153 0 [some (.int (nI k2))] [] (sI (sI h (ad 0) 6 0) (ad 0) 6 (-12)) _
                refine r_iload rfl rfl ?_
                refine r_if_lt (tg := 14) rfl rfl (fun q => False.elim (by have := i_nlt c1; have := i_rg c; have : (0 : Int32).toInt = 0 := rfl; have := i_eq ek2; have : (nI k2).toInt = ((k2 : Nat) : Int) := nI_toInt (by omega); have := i_nle c3; have : (24 : Int32).toInt = 24 := rfl; have := i_lt q; omega)) (fun _ => ?_)
                refine r_iload rfl rfl ?_
                refine r_ic (x := 24) rfl rfl ?_
                refine r_icmp_ge (tg := 14) rfl rfl (fun q => False.elim (by have := i_nlt c1; have := i_rg c; have : (0 : Int32).toInt = 0 := rfl; have := i_eq ek2; have : (nI k2).toInt = ((k2 : Nat) : Int) := nI_toInt (by omega); have := i_nle c3; have : (24 : Int32).toInt = 24 := rfl; have := i_le q; omega)) (fun _ => ?_)
                refine r_ic (x := 1) rfl rfl ?_
                refine r_goto (tg := 15) rfl rfl ?_
                refine r_zret rfl (.inr rfl) ?_
                show WR _ cd_167 4 [some (.ref (ad 30)), some (.int c), some (.int l), some (.int i), some (.long b), none, none] [.int 1] (sI (sI h (ad 0) 6 0) (ad 0) 6 (-12)) _
                refine r_if_ne (tg := 14) rfl rfl (fun _ => ?_) (fun q => absurd q (by decide))
                refine r_iload rfl rfl ?_
                refine WR_tI (y := nI k5) ek5 ?_
                refine r_i2l rfl ?_
                refine WR_tL (y := lN k5) (nI_l (by have := i_nlt c4; have := i_rg l; have : (0 : Int32).toInt = 0 := rfl; have := i_eq ek5; have : (nI k5).toInt = ((k5 : Nat) : Int) := nI_toInt (by omega); have := i_nle c6; have : (8 : Int32).toInt = 8 := rfl; have := i_eq c8; have : (nI ln7).toInt = ((ln7 : Nat) : Int) := nI_toInt (by omega); omega)) ?_
                refine r_lc (x := 0) rfl rfl ?_
                refine r_ldc (x := .long 7) rfl rfl ?_
                refine r_cs (y := 155) (ra := [.long 7, .long 0, .long (lN k5)]) (rest := []) rfl ⟨⟨rfl, rfl⟩, by decide⟩ rfl rfl (Nat.le_of_ble_eq_true rfl) ?_
                refine in_155 (Nat.le_of_ble_eq_true rfl) ?_
                show WR _ cd_155 0 [some (.long (lN k5)), none, some (.long 0), none, some (.long 7), none] [] (sI (sI h (ad 0) 6 0) (ad 0) 6 (-12)) _
                refine r_lload rfl rfl ?_
                refine r_lload rfl rfl ?_
                refine r_lif_lt (tg := 17) rfl rfl rfl (fun q => False.elim (by have := i_nlt c4; have := i_rg l; have : (0 : Int32).toInt = 0 := rfl; have := i_eq ek5; have : (nI k5).toInt = ((k5 : Nat) : Int) := nI_toInt (by omega); have := i_nle c6; have : (8 : Int32).toInt = 8 := rfl; have := i_eq c8; have : (nI ln7).toInt = ((ln7 : Nat) : Int) := nI_toInt (by omega); have : (lN k5).toInt = ((k5 : Nat) : Int) := lN_toInt (by omega); have : (0 : Int64).toInt = 0 := rfl; have := l_lt q; omega)) (fun _ => ?_)
                refine r_lload rfl rfl ?_
                refine r_lload rfl rfl ?_
                refine r_lif_gt (tg := 17) rfl rfl rfl (fun q => False.elim (by have := i_nlt c4; have := i_rg l; have : (0 : Int32).toInt = 0 := rfl; have := i_eq ek5; have : (nI k5).toInt = ((k5 : Nat) : Int) := nI_toInt (by omega); have := i_nle c6; have : (8 : Int32).toInt = 8 := rfl; have := i_eq c8; have : (nI ln7).toInt = ((ln7 : Nat) : Int) := nI_toInt (by omega); have : (lN k5).toInt = ((k5 : Nat) : Int) := lN_toInt (by omega); have : (7 : Int64).toInt = 7 := rfl; have := l_lt q; omega)) (fun _ => ?_)
                refine r_ic (x := 1) rfl rfl ?_
                refine r_goto (tg := 18) rfl rfl ?_
                refine r_zret rfl (.inr rfl) ?_
                show WR _ cd_167 23 [some (.ref (ad 30)), some (.int c), some (.int l), some (.int i), some (.long b), none, none] [.int 1] (sI (sI h (ad 0) 6 0) (ad 0) 6 (-12)) _
                refine r_if_ne (tg := 33) rfl rfl (fun _ => ?_) (fun q => absurd q (by decide))
                refine r_aload rfl rfl ?_
                refine r_aload rfl rfl ?_
                refine r_getA (b := ad 31) rfl ⟨rfl, rfl, rfl⟩ (fx_t30 fx) (fx_r30_0 fx) ?_
                refine r_iload rfl rfl ?_
                refine WR_tI (y := nI k2) ek2 ?_
                refine r_iaload rfl (.inl (fx_t31 fx)) (vp_ct (fx_n31 fx) (vp_in_nI (by have := i_nlt c1; have := i_rg c; have : (0 : Int32).toInt = 0 := rfl; have := i_eq ek2; have : (nI k2).toInt = ((k2 : Nat) : Int) := nI_toInt (by omega); have := i_nle c3; have : (24 : Int32).toInt = 24 := rfl; omega) (by omega))) ?_
                refine WR_tI (congrArg (hI (sI (sI h (ad 0) 6 0) (ad 0) 6 (-12)) (ad 31)) ((nI_clamp (by have := i_nlt c1; have := i_rg c; have : (0 : Int32).toInt = 0 := rfl; have := i_eq ek2; have : (nI k2).toInt = ((k2 : Nat) : Int) := nI_toInt (by omega); have := i_nle c3; have : (24 : Int32).toInt = 24 := rfl; omega)) : _ = k2)) ?_
                refine WR_tI (y := nI t7) (Eq.trans (I_ne (fx_ne fx (by decide))) (Eq.trans (I_ne (fx_ne fx (by decide))) v7)) ?_
                refine r_iload rfl rfl ?_
                refine WR_tI (y := nI k5) ek5 ?_
                refine r_iload rfl rfl ?_
                refine r_cv (y := 168) (ra := [.int i, .int (nI k5), .int (nI t7)]) (rest := []) rfl ⟨⟨rfl, rfl⟩, rfl, by decide⟩ (fx_t30 fx) rfl rfl (Nat.le_of_ble_eq_true rfl) ?_
                refine in_168 (Nat.le_of_ble_eq_true rfl) ?_
                show WR _ cd_168 0 [some (.ref (ad 30)), some (.int (nI t7)), some (.int (nI k5)), some (.int i)] [] (sI (sI h (ad 0) 6 0) (ad 0) 6 (-12)) _
                refine r_iload rfl rfl ?_
                refine r_ic (x := (-1)) rfl rfl ?_
                refine r_icmp_eq (tg := 18) rfl rfl (fun q => False.elim (by have : (nI t7).toInt = ((t7 : Nat) : Int) := nI_toInt (by omega); have : (-1 : Int32).toInt = -1 := rfl; have := i_eq q; omega)) (fun _ => ?_)
                refine r_aload rfl rfl ?_
                refine r_iload rfl rfl ?_
                refine r_cv (y := 166) (ra := [.int (nI t7)]) (rest := []) rfl ⟨⟨rfl, rfl⟩, rfl, by decide⟩ (fx_t30 fx) rfl rfl (Nat.le_of_ble_eq_true rfl) ?_
                refine in_166 (Nat.le_of_ble_eq_true rfl) ?_
                show WR _ cd_166 0 [some (.ref (ad 30)), some (.int (nI t7))] [] (sI (sI h (ad 0) 6 0) (ad 0) 6 (-12)) _
                refine r_iload rfl rfl ?_
                refine r_ic (x := (-1)) rfl rfl ?_
                refine r_icmp_ne (tg := 9) rfl rfl (fun _ => ?_) (fun q => False.elim (by have : (nI t7).toInt = ((t7 : Nat) : Int) := nI_toInt (by omega); have : (-1 : Int32).toInt = -1 := rfl; have := i_eq q; omega))
                refine r_iload rfl rfl ?_
                refine r_ic (x := 1000) rfl rfl ?_
                refine r_icmp_lt (tg := 21) rfl rfl (fun _ => ?_) (fun q => False.elim (by have : (nI t7).toInt = ((t7 : Nat) : Int) := nI_toInt (by omega); have : (1000 : Int32).toInt = 1000 := rfl; have := i_nlt q; omega))
                refine r_aload rfl rfl ?_
                refine r_getA (b := ad 33) rfl ⟨rfl, rfl, rfl⟩ (fx_t30 fx) (fx_r30_2 fx) ?_
                refine r_iload rfl rfl ?_
                refine r_iaload rfl (.inl (fx_t33 fx)) (vp_ct (fx_n33 fx) (vp_in_nI (by omega) (by omega))) ?_
                refine WR_tI (congrArg (hI (sI (sI h (ad 0) 6 0) (ad 0) 6 (-12)) (ad 33)) ((nI_clamp (by omega)) : _ = t7)) ?_
                refine WR_tI (y := nI ln7) (Eq.trans (I_ne (fx_ne fx (by decide))) (Eq.trans (I_ne (fx_ne fx (by decide))) l2_7)) ?_
                refine r_iret rfl ?_
                show WR _ cd_168 10 [some (.ref (ad 30)), some (.int (nI t7)), some (.int (nI k5)), some (.int i)] [.int (nI ln7)] (sI (sI h (ad 0) 6 0) (ad 0) 6 (-12)) _
                refine r_iload rfl rfl ?_
                refine r_icmp_eq (tg := 18) rfl rfl (fun _ => ?_) (fun q => False.elim (by have := i_nlt c4; have := i_rg l; have : (0 : Int32).toInt = 0 := rfl; have := i_eq ek5; have : (nI k5).toInt = ((k5 : Nat) : Int) := nI_toInt (by omega); have := i_nle c6; have : (8 : Int32).toInt = 8 := rfl; have := i_eq c8; have : (nI ln7).toInt = ((ln7 : Nat) : Int) := nI_toInt (by omega); have := i_neq q; omega))
                refine r_iload rfl rfl ?_
                refine r_ic (x := (-1)) rfl rfl ?_
                refine r_icmp_ne (tg := 27) rfl rfl (fun _ => ?_) (fun q => False.elim (by have : (nI t7).toInt = ((t7 : Nat) : Int) := nI_toInt (by omega); have : (-1 : Int32).toInt = -1 := rfl; have := i_eq q; omega))
                refine r_iload rfl rfl ?_
                refine r_i2l rfl ?_
                refine r_lc (x := 0) rfl rfl ?_
                refine r_aload rfl rfl ?_
                refine r_getA (b := ad 35) rfl ⟨rfl, rfl, rfl⟩ (fx_t30 fx) (fx_r30_4 fx) ?_
                refine r_iload rfl rfl ?_
                refine r_iaload rfl (.inl (fx_t35 fx)) (vp_ct (fx_n35 fx) (vp_in_nI (by omega) (by omega))) ?_
                refine WR_tI (congrArg (hI (sI (sI h (ad 0) 6 0) (ad 0) 6 (-12)) (ad 35)) ((nI_clamp (by omega)) : _ = t7)) ?_
                refine WR_tI (y := nI sz7) (Eq.trans (I_ne (fx_ne fx (by decide))) (Eq.trans (I_ne (fx_ne fx (by decide))) sz_7)) ?_
                refine r_ic (x := 1) rfl rfl ?_
                refine r_isub rfl ?_
                refine r_i2l rfl ?_
                refine r_cs (y := 155) (ra := [.long (((nI sz7) - 1).toInt64), .long 0, .long i.toInt64]) (rest := []) rfl ⟨⟨rfl, rfl⟩, by decide⟩ rfl rfl (Nat.le_of_ble_eq_true rfl) ?_
                refine in_155 (Nat.le_of_ble_eq_true rfl) ?_
                show WR _ cd_155 0 [some (.long i.toInt64), none, some (.long 0), none, some (.long (((nI sz7) - 1).toInt64)), none] [] (sI (sI h (ad 0) 6 0) (ad 0) 6 (-12)) _
                refine r_lload rfl rfl ?_
                refine r_lload rfl rfl ?_
                refine r_lif_lt (tg := 17) rfl rfl rfl (fun _ => ?_) (fun q => False.elim (by have := i_lt c9; have := i_rg i; have : (0 : Int32).toInt = 0 := rfl; have := w_t i; have : (0 : Int64).toInt = 0 := rfl; have := l_nlt q; omega))
                refine r_ic (x := 0) rfl rfl ?_
                refine r_zret rfl (.inl rfl) ?_
                show WR _ cd_168 42 [some (.ref (ad 30)), some (.int (nI t7)), some (.int (nI k5)), some (.int i)] [.int 0] (sI (sI h (ad 0) 6 0) (ad 0) 6 (-12)) _
                refine r_if_ne (tg := 49) rfl rfl (fun q => absurd q (by decide)) (fun _ => ?_)
                refine r_ic (x := 2) rfl rfl ?_
                refine r_goto (tg := 50) rfl rfl ?_
                refine r_iret rfl ?_
                show WR _ cd_167 45 [some (.ref (ad 30)), some (.int c), some (.int l), some (.int i), some (.long b), none, none] [.int 2] (sI (sI h (ad 0) 6 0) (ad 0) 6 (-12)) _
                refine r_istore (lv' := [some (.ref (ad 30)), some (.int c), some (.int l), some (.int i), some (.long b), none, some (.int 2)]) rfl (Nat.le_of_ble_eq_true rfl) rfl ?_
                refine r_iload rfl rfl ?_
                refine r_if_le (tg := 59) rfl rfl (fun q => absurd q (by decide)) (fun _ => ?_)
                refine r_aload rfl rfl ?_
                refine r_iload rfl rfl ?_
                refine r_cv (y := 156) (ra := [.int 2]) (rest := []) rfl ⟨⟨rfl, rfl⟩, rfl, by decide⟩ (fx_t30 fx) rfl rfl (Nat.le_of_ble_eq_true rfl) ?_
                refine in_156 (Nat.le_of_ble_eq_true rfl) ?_
                show WR _ cd_156 0 [some (.ref (ad 30)), some (.int 2)] [] (sI (sI h (ad 0) 6 0) (ad 0) 6 (-12)) _
                refine r_aload rfl rfl ?_
                refine r_ic (x := (-10)) rfl rfl ?_
                refine r_iload rfl rfl ?_
                refine r_isub rfl ?_
                refine WR_tI (y := (-12)) rfl ?_
                refine r_cv (y := 154) (ra := [.int (-12)]) (rest := []) rfl ⟨⟨rfl, rfl⟩, rfl, by decide⟩ (fx_t30 fx) rfl rfl (Nat.le_of_ble_eq_true rfl) ?_
                refine in_154 (Nat.le_of_ble_eq_true rfl) ?_
                show WR _ cd_154 0 [some (.ref (ad 30)), some (.int (-12))] [] (sI (sI h (ad 0) 6 0) (ad 0) 6 (-12)) _
                refine r_aload rfl rfl ?_
                refine r_iload rfl rfl ?_
                refine r_ic (x := (-1)) rfl rfl ?_
                refine r_icmp_ge (tg := 10) rfl rfl (fun q => absurd q (by decide)) (fun _ => ?_)
                refine r_iload rfl rfl ?_
                refine r_goto (tg := 11) rfl rfl ?_
                refine r_putI rfl ⟨rfl, rfl, rfl⟩ (fx_t30 fx) ?_
                have fx : FX n ad sa z0 (sI (sI (sI h (ad 0) 6 0) (ad 0) 6 (-12)) (ad 30) 11 (-12)) := (FX.sI fx)
                refine r_iload rfl rfl ?_
                refine r_iret rfl ?_
                show WR _ cd_156 8 [some (.ref (ad 30)), some (.int 2)] [.int (-12)] (sI (sI (sI h (ad 0) 6 0) (ad 0) 6 (-12)) (ad 30) 11 (-12)) _
                refine r_iret rfl ?_
                show WR _ cd_167 58 [some (.ref (ad 30)), some (.int c), some (.int l), some (.int i), some (.long b), none, some (.int 2)] [.int (-12)] (sI (sI (sI h (ad 0) 6 0) (ad 0) 6 (-12)) (ad 30) 11 (-12)) _
                refine r_iret rfl ?_
                exact ⟨rfl, Rel.why r (((Chg.rf.sI (fx_j fx) (.inl (by decide))).sI (fx_j fx) (.inl (by decide))).sI (fx_j fx) (.inl (by decide))) ⟨rfl, by decide⟩ (Eq.trans (Eq.trans (I_ne (fx_ne fx (by decide))) I_eq) (Eq.symm I_eq)), (by (try simp only [hZ_sI, hZ_sL, hZ_sD, hZ_sR]); omega), (by (try simp only [hU_sI, hU_sL, hU_sD, hU_sR]); omega)⟩
              · refine r_iload rfl rfl ?_
                refine r_if_lt (tg := 22) rfl rfl (fun q => absurd q (by decide)) (fun _ => ?_)
                refine r_iload rfl rfl ?_
                refine r_aload rfl rfl ?_
                refine r_cw (y := 34) (ra := []) (rest := [.int 1]) rfl ⟨rfl, rfl⟩ (by rw [show hT (sI h (ad 0) 6 0) (mid t7) = 5 from tg7]; rfl) rfl rfl (Nat.le_of_ble_eq_true rfl) ?_
                refine in_34 (Nat.le_of_ble_eq_true rfl) ?_
                show WR _ cd_34 0 [some (.ref (mid t7))] [] (sI h (ad 0) 6 0) _
                refine r_aload rfl rfl ?_
                refine r_getA (b := mid t7 + 1) rfl ⟨rfl, rfl, rfl⟩ tg7 (Eq.trans R_oI r_7) ?_
                refine r_alen rfl (isA_of tg2_7 (by decide)) ?_
                refine WR_tI (y := nI sz7) (congrArg nI n_7) ?_
                refine r_iret rfl ?_
                show WR _ cd_32 13 [some (.ref (mid t7)), some (.int i), some (.int 1)] [.int (nI sz7), .int 1] (sI h (ad 0) 6 0) _
                obtain ⟨k10, hk10, ek10⟩ := ix_of (x := i) (n := 2147483648) (by have := i_nlt c9; have := i_rg i; have : (0 : Int32).toInt = 0 := rfl; omega) (by have := i_nlt c9; have := i_rg i; have : (0 : Int32).toInt = 0 := rfl; omega)
                refine r_iload rfl rfl ?_
                refine WR_tI (y := nI k10) ek10 ?_
                refine r_isub rfl ?_
                refine r_icmp_gt (tg := 22) rfl rfl (fun c11 => ?_) (fun c11 => ?_)
                · refine r_ic (x := 0) rfl rfl ?_
                  refine r_zret rfl (.inl rfl) ?_
                  show WR _ cd_30 50 [some (.ref (ad 0)), some (.int c), some (.int l), some (.int i), some (.ref (mid t7))] [.int 0] (sI h (ad 0) 6 0) _
                  refine r_if_ne (tg := 61) rfl rfl (fun q => absurd q (by decide)) (fun _ => ?_)
                  refine r_aload rfl rfl ?_
                  refine r_ic (x := (-12)) rfl rfl ?_
                  refine r_putI rfl ⟨rfl, rfl, rfl⟩ (fx_t0 fx) ?_
                  have fx : FX n ad sa z0 (sI (sI h (ad 0) 6 0) (ad 0) 6 (-12)) := (FX.sI fx)
                  refine r_null rfl ?_
                  refine r_aret0 rfl ?_
                  show WR _ cd_29 12 [some (.ref (ad 0)), some (.int c), some (.int l), some (.int i), some (.long b), none, none] [.null] (sI (sI h (ad 0) 6 0) (ad 0) 6 (-12)) _
                  refine r_astore0 (lv' := [some (.ref (ad 0)), some (.int c), some (.int l), some (.int i), some (.long b), none, some (.null)]) rfl (Nat.le_of_ble_eq_true rfl) rfl ?_
                  refine r_aload0 rfl rfl ?_
                  refine r_ifnonnullN (tg := 24) rfl rfl ?_
                  refine r_aload rfl rfl ?_
                  refine r_getI rfl ⟨rfl, rfl, rfl⟩ (fx_t0 fx) ?_
                  refine WR_tI (y := (-12)) I_eq ?_
                  refine r_iret rfl ?_
                  show EV _ 167 [.ref (ad 30), .int c, .int l, .int i, .long b] (sI (sI h (ad 0) 6 0) (ad 0) 6 (-12)) _
                  refine in_167 (Nat.le_of_ble_eq_true rfl) ?_
                  show WR _ cd_167 0 [some (.ref (ad 30)), some (.int c), some (.int l), some (.int i), some (.long b), none, none] [] (sI (sI h (ad 0) 6 0) (ad 0) 6 (-12)) _
                  refine r_iload rfl rfl ?_
                  refine WR_tI (y := nI k2) ek2 ?_
                  refine r_cs (y := 153) (ra := [.int (nI k2)]) (rest := []) rfl ⟨⟨rfl, rfl⟩, by decide⟩ rfl rfl (Nat.le_of_ble_eq_true rfl) ?_
                  refine in_153 (Nat.le_of_ble_eq_true rfl) ?_
                  show WR _ cd_153 0 [some (.int (nI k2))] [] (sI (sI h (ad 0) 6 0) (ad 0) 6 (-12)) _
                  refine r_iload rfl rfl ?_
                  refine r_if_lt (tg := 14) rfl rfl (fun q => False.elim (by have := i_nlt c1; have := i_rg c; have : (0 : Int32).toInt = 0 := rfl; have := i_eq ek2; have : (nI k2).toInt = ((k2 : Nat) : Int) := nI_toInt (by omega); have := i_nle c3; have : (24 : Int32).toInt = 24 := rfl; have := i_lt q; omega)) (fun _ => ?_)
                  refine r_iload rfl rfl ?_
                  refine r_ic (x := 24) rfl rfl ?_
                  refine r_icmp_ge (tg := 14) rfl rfl (fun q => False.elim (by have := i_nlt c1; have := i_rg c; have : (0 : Int32).toInt = 0 := rfl; have := i_eq ek2; have : (nI k2).toInt = ((k2 : Nat) : Int) := nI_toInt (by omega); have := i_nle c3; have : (24 : Int32).toInt = 24 := rfl; have := i_le q; omega)) (fun _ => ?_)
                  refine r_ic (x := 1) rfl rfl ?_
                  refine r_goto (tg := 15) rfl rfl ?_
                  refine r_zret rfl (.inr rfl) ?_
                  show WR _ cd_167 4 [some (.ref (ad 30)), some (.int c), some (.int l), some (.int i), some (.long b), none, none] [.int 1] (sI (sI h (ad 0) 6 0) (ad 0) 6 (-12)) _
                  refine r_if_ne (tg := 14) rfl rfl (fun _ => ?_) (fun q => absurd q (by decide))
                  refine r_iload rfl rfl ?_
                  refine WR_tI (y := nI k5) ek5 ?_
                  refine r_i2l rfl ?_
                  refine WR_tL (y := lN k5) (nI_l (by have := i_nlt c4; have := i_rg l; have : (0 : Int32).toInt = 0 := rfl; have := i_eq ek5; have : (nI k5).toInt = ((k5 : Nat) : Int) := nI_toInt (by omega); have := i_nle c6; have : (8 : Int32).toInt = 8 := rfl; have := i_eq c8; have : (nI ln7).toInt = ((ln7 : Nat) : Int) := nI_toInt (by omega); omega)) ?_
                  refine r_lc (x := 0) rfl rfl ?_
                  refine r_ldc (x := .long 7) rfl rfl ?_
                  refine r_cs (y := 155) (ra := [.long 7, .long 0, .long (lN k5)]) (rest := []) rfl ⟨⟨rfl, rfl⟩, by decide⟩ rfl rfl (Nat.le_of_ble_eq_true rfl) ?_
                  refine in_155 (Nat.le_of_ble_eq_true rfl) ?_
                  show WR _ cd_155 0 [some (.long (lN k5)), none, some (.long 0), none, some (.long 7), none] [] (sI (sI h (ad 0) 6 0) (ad 0) 6 (-12)) _
                  refine r_lload rfl rfl ?_
                  refine r_lload rfl rfl ?_
                  refine r_lif_lt (tg := 17) rfl rfl rfl (fun q => False.elim (by have := i_nlt c4; have := i_rg l; have : (0 : Int32).toInt = 0 := rfl; have := i_eq ek5; have : (nI k5).toInt = ((k5 : Nat) : Int) := nI_toInt (by omega); have := i_nle c6; have : (8 : Int32).toInt = 8 := rfl; have := i_eq c8; have : (nI ln7).toInt = ((ln7 : Nat) : Int) := nI_toInt (by omega); have : (lN k5).toInt = ((k5 : Nat) : Int) := lN_toInt (by omega); have : (0 : Int64).toInt = 0 := rfl; have := l_lt q; omega)) (fun _ => ?_)
                  refine r_lload rfl rfl ?_
                  refine r_lload rfl rfl ?_
                  refine r_lif_gt (tg := 17) rfl rfl rfl (fun q => False.elim (by have := i_nlt c4; have := i_rg l; have : (0 : Int32).toInt = 0 := rfl; have := i_eq ek5; have : (nI k5).toInt = ((k5 : Nat) : Int) := nI_toInt (by omega); have := i_nle c6; have : (8 : Int32).toInt = 8 := rfl; have := i_eq c8; have : (nI ln7).toInt = ((ln7 : Nat) : Int) := nI_toInt (by omega); have : (lN k5).toInt = ((k5 : Nat) : Int) := lN_toInt (by omega); have : (7 : Int64).toInt = 7 := rfl; have := l_lt q; omega)) (fun _ => ?_)
                  refine r_ic (x := 1) rfl rfl ?_
                  refine r_goto (tg := 18) rfl rfl ?_
                  refine r_zret rfl (.inr rfl) ?_
                  show WR _ cd_167 23 [some (.ref (ad 30)), some (.int c), some (.int l), some (.int i), some (.long b), none, none] [.int 1] (sI (sI h (ad 0) 6 0) (ad 0) 6 (-12)) _
                  refine r_if_ne (tg := 33) rfl rfl (fun _ => ?_) (fun q => absurd q (by decide))
                  refine r_aload rfl rfl ?_
                  refine r_aload rfl rfl ?_
                  refine r_getA (b := ad 31) rfl ⟨rfl, rfl, rfl⟩ (fx_t30 fx) (fx_r30_0 fx) ?_
                  refine r_iload rfl rfl ?_
                  refine WR_tI (y := nI k2) ek2 ?_
                  refine r_iaload rfl (.inl (fx_t31 fx)) (vp_ct (fx_n31 fx) (vp_in_nI (by have := i_nlt c1; have := i_rg c; have : (0 : Int32).toInt = 0 := rfl; have := i_eq ek2; have : (nI k2).toInt = ((k2 : Nat) : Int) := nI_toInt (by omega); have := i_nle c3; have : (24 : Int32).toInt = 24 := rfl; omega) (by omega))) ?_
                  refine WR_tI (congrArg (hI (sI (sI h (ad 0) 6 0) (ad 0) 6 (-12)) (ad 31)) ((nI_clamp (by have := i_nlt c1; have := i_rg c; have : (0 : Int32).toInt = 0 := rfl; have := i_eq ek2; have : (nI k2).toInt = ((k2 : Nat) : Int) := nI_toInt (by omega); have := i_nle c3; have : (24 : Int32).toInt = 24 := rfl; omega)) : _ = k2)) ?_
                  refine WR_tI (y := nI t7) (Eq.trans (I_ne (fx_ne fx (by decide))) (Eq.trans (I_ne (fx_ne fx (by decide))) v7)) ?_
                  refine r_iload rfl rfl ?_
                  refine WR_tI (y := nI k5) ek5 ?_
                  refine r_iload rfl rfl ?_
                  refine WR_tI (y := nI k10) ek10 ?_
                  refine r_cv (y := 168) (ra := [.int (nI k10), .int (nI k5), .int (nI t7)]) (rest := []) rfl ⟨⟨rfl, rfl⟩, rfl, by decide⟩ (fx_t30 fx) rfl rfl (Nat.le_of_ble_eq_true rfl) ?_
                  refine in_168 (Nat.le_of_ble_eq_true rfl) ?_
                  show WR _ cd_168 0 [some (.ref (ad 30)), some (.int (nI t7)), some (.int (nI k5)), some (.int (nI k10))] [] (sI (sI h (ad 0) 6 0) (ad 0) 6 (-12)) _
                  refine r_iload rfl rfl ?_
                  refine r_ic (x := (-1)) rfl rfl ?_
                  refine r_icmp_eq (tg := 18) rfl rfl (fun q => False.elim (by have : (nI t7).toInt = ((t7 : Nat) : Int) := nI_toInt (by omega); have : (-1 : Int32).toInt = -1 := rfl; have := i_eq q; omega)) (fun _ => ?_)
                  refine r_aload rfl rfl ?_
                  refine r_iload rfl rfl ?_
                  refine r_cv (y := 166) (ra := [.int (nI t7)]) (rest := []) rfl ⟨⟨rfl, rfl⟩, rfl, by decide⟩ (fx_t30 fx) rfl rfl (Nat.le_of_ble_eq_true rfl) ?_
                  refine in_166 (Nat.le_of_ble_eq_true rfl) ?_
                  show WR _ cd_166 0 [some (.ref (ad 30)), some (.int (nI t7))] [] (sI (sI h (ad 0) 6 0) (ad 0) 6 (-12)) _
                  refine r_iload rfl rfl ?_
                  refine r_ic (x := (-1)) rfl rfl ?_
                  refine r_icmp_ne (tg := 9) rfl rfl (fun _ => ?_) (fun q => False.elim (by have : (nI t7).toInt = ((t7 : Nat) : Int) := nI_toInt (by omega); have : (-1 : Int32).toInt = -1 := rfl; have := i_eq q; omega))
                  refine r_iload rfl rfl ?_
                  refine r_ic (x := 1000) rfl rfl ?_
                  refine r_icmp_lt (tg := 21) rfl rfl (fun _ => ?_) (fun q => False.elim (by have : (nI t7).toInt = ((t7 : Nat) : Int) := nI_toInt (by omega); have : (1000 : Int32).toInt = 1000 := rfl; have := i_nlt q; omega))
                  refine r_aload rfl rfl ?_
                  refine r_getA (b := ad 33) rfl ⟨rfl, rfl, rfl⟩ (fx_t30 fx) (fx_r30_2 fx) ?_
                  refine r_iload rfl rfl ?_
                  refine r_iaload rfl (.inl (fx_t33 fx)) (vp_ct (fx_n33 fx) (vp_in_nI (by omega) (by omega))) ?_
                  refine WR_tI (congrArg (hI (sI (sI h (ad 0) 6 0) (ad 0) 6 (-12)) (ad 33)) ((nI_clamp (by omega)) : _ = t7)) ?_
                  refine WR_tI (y := nI ln7) (Eq.trans (I_ne (fx_ne fx (by decide))) (Eq.trans (I_ne (fx_ne fx (by decide))) l2_7)) ?_
                  refine r_iret rfl ?_
                  show WR _ cd_168 10 [some (.ref (ad 30)), some (.int (nI t7)), some (.int (nI k5)), some (.int (nI k10))] [.int (nI ln7)] (sI (sI h (ad 0) 6 0) (ad 0) 6 (-12)) _
                  refine r_iload rfl rfl ?_
                  refine r_icmp_eq (tg := 18) rfl rfl (fun _ => ?_) (fun q => False.elim (by have := i_nlt c4; have := i_rg l; have : (0 : Int32).toInt = 0 := rfl; have := i_eq ek5; have : (nI k5).toInt = ((k5 : Nat) : Int) := nI_toInt (by omega); have := i_nle c6; have : (8 : Int32).toInt = 8 := rfl; have := i_eq c8; have : (nI ln7).toInt = ((ln7 : Nat) : Int) := nI_toInt (by omega); have := i_neq q; omega))
                  refine r_iload rfl rfl ?_
                  refine r_ic (x := (-1)) rfl rfl ?_
                  refine r_icmp_ne (tg := 27) rfl rfl (fun _ => ?_) (fun q => False.elim (by have : (nI t7).toInt = ((t7 : Nat) : Int) := nI_toInt (by omega); have : (-1 : Int32).toInt = -1 := rfl; have := i_eq q; omega))
                  refine r_iload rfl rfl ?_
                  refine r_i2l rfl ?_
                  refine WR_tL (y := lN k10) (nI_l (by have := i_nlt c9; have := i_rg i; have : (0 : Int32).toInt = 0 := rfl; have := i_eq ek10; have : (nI k10).toInt = ((k10 : Nat) : Int) := nI_toInt (by omega); have := i_lt c11; have : (1 : Int32).toInt = 1 := rfl; have : (nI sz7).toInt = ((sz7 : Nat) : Int) := nI_toInt (by omega); have := sub_t (x := nI sz7) (y := nI k10) (by have := i_nlt c9; have := i_rg i; have : (0 : Int32).toInt = 0 := rfl; have := i_eq ek10; have : (nI k10).toInt = ((k10 : Nat) : Int) := nI_toInt (by omega); have : (nI sz7).toInt = ((sz7 : Nat) : Int) := nI_toInt (by omega); omega) (by have := i_nlt c9; have := i_rg i; have : (0 : Int32).toInt = 0 := rfl; have := i_eq ek10; have : (nI k10).toInt = ((k10 : Nat) : Int) := nI_toInt (by omega); have : (nI sz7).toInt = ((sz7 : Nat) : Int) := nI_toInt (by omega); omega); omega)) ?_
                  refine r_lc (x := 0) rfl rfl ?_
                  refine r_aload rfl rfl ?_
                  refine r_getA (b := ad 35) rfl ⟨rfl, rfl, rfl⟩ (fx_t30 fx) (fx_r30_4 fx) ?_
                  refine r_iload rfl rfl ?_
                  refine r_iaload rfl (.inl (fx_t35 fx)) (vp_ct (fx_n35 fx) (vp_in_nI (by omega) (by omega))) ?_
                  refine WR_tI (congrArg (hI (sI (sI h (ad 0) 6 0) (ad 0) 6 (-12)) (ad 35)) ((nI_clamp (by omega)) : _ = t7)) ?_
                  refine WR_tI (y := nI sz7) (Eq.trans (I_ne (fx_ne fx (by decide))) (Eq.trans (I_ne (fx_ne fx (by decide))) sz_7)) ?_
                  refine r_ic (x := 1) rfl rfl ?_
                  refine r_isub rfl ?_
                  refine r_i2l rfl ?_
                  refine r_cs (y := 155) (ra := [.long (((nI sz7) - 1).toInt64), .long 0, .long (lN k10)]) (rest := []) rfl ⟨⟨rfl, rfl⟩, by decide⟩ rfl rfl (Nat.le_of_ble_eq_true rfl) ?_
                  refine in_155 (Nat.le_of_ble_eq_true rfl) ?_
                  show WR _ cd_155 0 [some (.long (lN k10)), none, some (.long 0), none, some (.long (((nI sz7) - 1).toInt64)), none] [] (sI (sI h (ad 0) 6 0) (ad 0) 6 (-12)) _
                  refine r_lload rfl rfl ?_
                  refine r_lload rfl rfl ?_
                  refine r_lif_lt (tg := 17) rfl rfl rfl (fun q => False.elim (by have := i_nlt c9; have := i_rg i; have : (0 : Int32).toInt = 0 := rfl; have := i_eq ek10; have : (nI k10).toInt = ((k10 : Nat) : Int) := nI_toInt (by omega); have := i_lt c11; have : (1 : Int32).toInt = 1 := rfl; have : (nI sz7).toInt = ((sz7 : Nat) : Int) := nI_toInt (by omega); have := sub_t (x := nI sz7) (y := nI k10) (by have := i_nlt c9; have := i_rg i; have : (0 : Int32).toInt = 0 := rfl; have := i_eq ek10; have : (nI k10).toInt = ((k10 : Nat) : Int) := nI_toInt (by omega); have : (nI sz7).toInt = ((sz7 : Nat) : Int) := nI_toInt (by omega); omega) (by have := i_nlt c9; have := i_rg i; have : (0 : Int32).toInt = 0 := rfl; have := i_eq ek10; have : (nI k10).toInt = ((k10 : Nat) : Int) := nI_toInt (by omega); have : (nI sz7).toInt = ((sz7 : Nat) : Int) := nI_toInt (by omega); omega); have : (lN k10).toInt = ((k10 : Nat) : Int) := lN_toInt (by omega); have : (0 : Int64).toInt = 0 := rfl; have := l_lt q; omega)) (fun _ => ?_)
                  refine r_lload rfl rfl ?_
                  refine r_lload rfl rfl ?_
                  refine r_lif_gt (tg := 17) rfl rfl rfl (fun _ => ?_) (fun q => False.elim (by have := i_nlt c9; have := i_rg i; have : (0 : Int32).toInt = 0 := rfl; have := i_eq ek10; have : (nI k10).toInt = ((k10 : Nat) : Int) := nI_toInt (by omega); have := i_lt c11; have : (1 : Int32).toInt = 1 := rfl; have : (nI sz7).toInt = ((sz7 : Nat) : Int) := nI_toInt (by omega); have := sub_t (x := nI sz7) (y := nI k10) (by have := i_nlt c9; have := i_rg i; have : (0 : Int32).toInt = 0 := rfl; have := i_eq ek10; have : (nI k10).toInt = ((k10 : Nat) : Int) := nI_toInt (by omega); have : (nI sz7).toInt = ((sz7 : Nat) : Int) := nI_toInt (by omega); omega) (by have := i_nlt c9; have := i_rg i; have : (0 : Int32).toInt = 0 := rfl; have := i_eq ek10; have : (nI k10).toInt = ((k10 : Nat) : Int) := nI_toInt (by omega); have : (nI sz7).toInt = ((sz7 : Nat) : Int) := nI_toInt (by omega); omega); have : (lN k10).toInt = ((k10 : Nat) : Int) := lN_toInt (by omega); have := sub_t (x := nI sz7) (y := 1) (by have := i_nlt c9; have := i_rg i; have : (0 : Int32).toInt = 0 := rfl; have := i_eq ek10; have : (nI k10).toInt = ((k10 : Nat) : Int) := nI_toInt (by omega); have := i_lt c11; have : (1 : Int32).toInt = 1 := rfl; have : (nI sz7).toInt = ((sz7 : Nat) : Int) := nI_toInt (by omega); have := sub_t (x := nI sz7) (y := nI k10) (by have := i_nlt c9; have := i_rg i; have : (0 : Int32).toInt = 0 := rfl; have := i_eq ek10; have : (nI k10).toInt = ((k10 : Nat) : Int) := nI_toInt (by omega); have : (nI sz7).toInt = ((sz7 : Nat) : Int) := nI_toInt (by omega); omega) (by have := i_nlt c9; have := i_rg i; have : (0 : Int32).toInt = 0 := rfl; have := i_eq ek10; have : (nI k10).toInt = ((k10 : Nat) : Int) := nI_toInt (by omega); have : (nI sz7).toInt = ((sz7 : Nat) : Int) := nI_toInt (by omega); omega); omega) (by have := i_nlt c9; have := i_rg i; have : (0 : Int32).toInt = 0 := rfl; have := i_eq ek10; have : (nI k10).toInt = ((k10 : Nat) : Int) := nI_toInt (by omega); have := i_lt c11; have : (1 : Int32).toInt = 1 := rfl; have : (nI sz7).toInt = ((sz7 : Nat) : Int) := nI_toInt (by omega); have := sub_t (x := nI sz7) (y := nI k10) (by have := i_nlt c9; have := i_rg i; have : (0 : Int32).toInt = 0 := rfl; have := i_eq ek10; have : (nI k10).toInt = ((k10 : Nat) : Int) := nI_toInt (by omega); have : (nI sz7).toInt = ((sz7 : Nat) : Int) := nI_toInt (by omega); omega) (by have := i_nlt c9; have := i_rg i; have : (0 : Int32).toInt = 0 := rfl; have := i_eq ek10; have : (nI k10).toInt = ((k10 : Nat) : Int) := nI_toInt (by omega); have : (nI sz7).toInt = ((sz7 : Nat) : Int) := nI_toInt (by omega); omega); omega); have := w_t ((nI sz7) - 1); have := l_nlt q; omega))
                  refine r_ic (x := 0) rfl rfl ?_
                  refine r_zret rfl (.inl rfl) ?_
                  show WR _ cd_168 42 [some (.ref (ad 30)), some (.int (nI t7)), some (.int (nI k5)), some (.int (nI k10))] [.int 0] (sI (sI h (ad 0) 6 0) (ad 0) 6 (-12)) _
                  refine r_if_ne (tg := 49) rfl rfl (fun q => absurd q (by decide)) (fun _ => ?_)
                  refine r_ic (x := 2) rfl rfl ?_
                  refine r_goto (tg := 50) rfl rfl ?_
                  refine r_iret rfl ?_
                  show WR _ cd_167 45 [some (.ref (ad 30)), some (.int c), some (.int l), some (.int i), some (.long b), none, none] [.int 2] (sI (sI h (ad 0) 6 0) (ad 0) 6 (-12)) _
                  refine r_istore (lv' := [some (.ref (ad 30)), some (.int c), some (.int l), some (.int i), some (.long b), none, some (.int 2)]) rfl (Nat.le_of_ble_eq_true rfl) rfl ?_
                  refine r_iload rfl rfl ?_
                  refine r_if_le (tg := 59) rfl rfl (fun q => absurd q (by decide)) (fun _ => ?_)
                  refine r_aload rfl rfl ?_
                  refine r_iload rfl rfl ?_
                  refine r_cv (y := 156) (ra := [.int 2]) (rest := []) rfl ⟨⟨rfl, rfl⟩, rfl, by decide⟩ (fx_t30 fx) rfl rfl (Nat.le_of_ble_eq_true rfl) ?_
                  refine in_156 (Nat.le_of_ble_eq_true rfl) ?_
                  show WR _ cd_156 0 [some (.ref (ad 30)), some (.int 2)] [] (sI (sI h (ad 0) 6 0) (ad 0) 6 (-12)) _
                  refine r_aload rfl rfl ?_
                  refine r_ic (x := (-10)) rfl rfl ?_
                  refine r_iload rfl rfl ?_
                  refine r_isub rfl ?_
                  refine WR_tI (y := (-12)) rfl ?_
                  refine r_cv (y := 154) (ra := [.int (-12)]) (rest := []) rfl ⟨⟨rfl, rfl⟩, rfl, by decide⟩ (fx_t30 fx) rfl rfl (Nat.le_of_ble_eq_true rfl) ?_
                  refine in_154 (Nat.le_of_ble_eq_true rfl) ?_
                  show WR _ cd_154 0 [some (.ref (ad 30)), some (.int (-12))] [] (sI (sI h (ad 0) 6 0) (ad 0) 6 (-12)) _
                  refine r_aload rfl rfl ?_
                  refine r_iload rfl rfl ?_
                  refine r_ic (x := (-1)) rfl rfl ?_
                  refine r_icmp_ge (tg := 10) rfl rfl (fun q => absurd q (by decide)) (fun _ => ?_)
                  refine r_iload rfl rfl ?_
                  refine r_goto (tg := 11) rfl rfl ?_
                  refine r_putI rfl ⟨rfl, rfl, rfl⟩ (fx_t30 fx) ?_
                  have fx : FX n ad sa z0 (sI (sI (sI h (ad 0) 6 0) (ad 0) 6 (-12)) (ad 30) 11 (-12)) := (FX.sI fx)
                  refine r_iload rfl rfl ?_
                  refine r_iret rfl ?_
                  show WR _ cd_156 8 [some (.ref (ad 30)), some (.int 2)] [.int (-12)] (sI (sI (sI h (ad 0) 6 0) (ad 0) 6 (-12)) (ad 30) 11 (-12)) _
                  refine r_iret rfl ?_
                  show WR _ cd_167 58 [some (.ref (ad 30)), some (.int c), some (.int l), some (.int i), some (.long b), none, some (.int 2)] [.int (-12)] (sI (sI (sI h (ad 0) 6 0) (ad 0) 6 (-12)) (ad 30) 11 (-12)) _
                  refine r_iret rfl ?_
                  exact ⟨rfl, Rel.why r (((Chg.rf.sI (fx_j fx) (.inl (by decide))).sI (fx_j fx) (.inl (by decide))).sI (fx_j fx) (.inl (by decide))) ⟨rfl, by decide⟩ (Eq.trans (Eq.trans (I_ne (fx_ne fx (by decide))) I_eq) (Eq.symm I_eq)), (by (try simp only [hZ_sI, hZ_sL, hZ_sD, hZ_sR]); omega), (by (try simp only [hU_sI, hU_sL, hU_sD, hU_sR]); omega)⟩
                · refine r_ic (x := 1) rfl rfl ?_
                  refine r_goto (tg := 23) rfl rfl ?_
                  refine r_zret rfl (.inr rfl) ?_
                  show WR _ cd_30 50 [some (.ref (ad 0)), some (.int c), some (.int l), some (.int i), some (.ref (mid t7))] [.int 1] (sI h (ad 0) 6 0) _
                  refine r_if_ne (tg := 61) rfl rfl (fun _ => ?_) (fun q => absurd q (by decide))
                  refine r_aload rfl rfl ?_
                  refine r_aret rfl ?_
                  show WR _ cd_29 12 [some (.ref (ad 0)), some (.int c), some (.int l), some (.int i), some (.long b), none, none] [.ref (mid t7)] (sI h (ad 0) 6 0) _
                  refine r_astore (lv' := [some (.ref (ad 0)), some (.int c), some (.int l), some (.int i), some (.long b), none, some (.ref (mid t7))]) rfl (Nat.le_of_ble_eq_true rfl) rfl ?_
                  refine r_aload rfl rfl ?_
                  refine r_ifnonnullA (tg := 24) rfl rfl ?_
                  refine r_aload rfl rfl ?_
                  refine r_getA (b := mid t7 + 1) rfl ⟨rfl, rfl, rfl⟩ tg7 (Eq.trans R_oI r_7) ?_
                  refine r_iload rfl rfl ?_
                  refine WR_tI (y := nI k10) ek10 ?_
                  refine r_iload rfl rfl ?_
                  refine WR_tI (y := nI k5) ek5 ?_
                  refine r_lload rfl rfl ?_
                  refine r_cs (y := 36) (ra := [.long b, .int (nI k5)]) (rest := [.int (nI k10), .ref (mid t7 + 1)]) rfl ⟨⟨rfl, rfl⟩, by decide⟩ rfl rfl (Nat.le_of_ble_eq_true rfl) ?_
                  refine c_fitted (h := sI h (ad 0) 6 0) fx ?_
                  show WR _ cd_29 36 [some (.ref (ad 0)), some (.int c), some (.int l), some (.int i), some (.long b), none, some (.ref (mid t7))] [.long (fitV (nI k5) b), .int (nI k10), .ref (mid t7 + 1)] (sI h (ad 0) 6 0) _
                  refine r_lastore rfl tg2_7 (vp_ct n_7 (vp_in_nI (by have := i_nlt c9; have := i_rg i; have : (0 : Int32).toInt = 0 := rfl; have := i_eq ek10; have : (nI k10).toInt = ((k10 : Nat) : Int) := nI_toInt (by omega); have := i_nlt c11; have : (1 : Int32).toInt = 1 := rfl; have : (nI sz7).toInt = ((sz7 : Nat) : Int) := nI_toInt (by omega); have := sub_t (x := nI sz7) (y := nI k10) (by have := i_nlt c9; have := i_rg i; have : (0 : Int32).toInt = 0 := rfl; have := i_eq ek10; have : (nI k10).toInt = ((k10 : Nat) : Int) := nI_toInt (by omega); have : (nI sz7).toInt = ((sz7 : Nat) : Int) := nI_toInt (by omega); omega) (by have := i_nlt c9; have := i_rg i; have : (0 : Int32).toInt = 0 := rfl; have := i_eq ek10; have : (nI k10).toInt = ((k10 : Nat) : Int) := nI_toInt (by omega); have : (nI sz7).toInt = ((sz7 : Nat) : Int) := nI_toInt (by omega); omega); omega) (by omega))) ?_
                  refine WR_h (h2 := sL (sI h (ad 0) 6 0) (mid t7 + 1) k10 (fitV (nI k5) b)) (congrArg (fun z => sL (sI h (ad 0) 6 0) (mid t7 + 1) z (fitV (nI k5) b)) ((nI_clamp (by have := i_nlt c9; have := i_rg i; have : (0 : Int32).toInt = 0 := rfl; have := i_eq ek10; have : (nI k10).toInt = ((k10 : Nat) : Int) := nI_toInt (by omega); have := i_nlt c11; have : (1 : Int32).toInt = 1 := rfl; have : (nI sz7).toInt = ((sz7 : Nat) : Int) := nI_toInt (by omega); have := sub_t (x := nI sz7) (y := nI k10) (by have := i_nlt c9; have := i_rg i; have : (0 : Int32).toInt = 0 := rfl; have := i_eq ek10; have : (nI k10).toInt = ((k10 : Nat) : Int) := nI_toInt (by omega); have : (nI sz7).toInt = ((sz7 : Nat) : Int) := nI_toInt (by omega); omega) (by have := i_nlt c9; have := i_rg i; have : (0 : Int32).toInt = 0 := rfl; have := i_eq ek10; have : (nI k10).toInt = ((k10 : Nat) : Int) := nI_toInt (by omega); have : (nI sz7).toInt = ((sz7 : Nat) : Int) := nI_toInt (by omega); omega); omega)) : _ = k10)) ?_
                  have fx : FX n ad sa z0 (sL (sI h (ad 0) 6 0) (mid t7 + 1) k10 (fitV (nI k5) b)) := (FX.sL fx)
                  refine r_ic (x := 1) rfl rfl ?_
                  refine r_iret rfl ?_
                  show EV _ 167 [.ref (ad 30), .int c, .int l, .int i, .long b] (sL (sI h (ad 0) 6 0) (mid t7 + 1) k10 (fitV (nI k5) b)) _
                  refine in_167 (Nat.le_of_ble_eq_true rfl) ?_
                  show WR _ cd_167 0 [some (.ref (ad 30)), some (.int c), some (.int l), some (.int i), some (.long b), none, none] [] (sL (sI h (ad 0) 6 0) (mid t7 + 1) k10 (fitV (nI k5) b)) _
                  refine r_iload rfl rfl ?_
                  refine WR_tI (y := nI k2) ek2 ?_
                  refine r_cs (y := 153) (ra := [.int (nI k2)]) (rest := []) rfl ⟨⟨rfl, rfl⟩, by decide⟩ rfl rfl (Nat.le_of_ble_eq_true rfl) ?_
                  refine in_153 (Nat.le_of_ble_eq_true rfl) ?_
                  show WR _ cd_153 0 [some (.int (nI k2))] [] (sL (sI h (ad 0) 6 0) (mid t7 + 1) k10 (fitV (nI k5) b)) _
                  refine r_iload rfl rfl ?_
                  refine r_if_lt (tg := 14) rfl rfl (fun q => False.elim (by have := i_nlt c1; have := i_rg c; have : (0 : Int32).toInt = 0 := rfl; have := i_eq ek2; have : (nI k2).toInt = ((k2 : Nat) : Int) := nI_toInt (by omega); have := i_nle c3; have : (24 : Int32).toInt = 24 := rfl; have := i_lt q; omega)) (fun _ => ?_)
                  refine r_iload rfl rfl ?_
                  refine r_ic (x := 24) rfl rfl ?_
                  refine r_icmp_ge (tg := 14) rfl rfl (fun q => False.elim (by have := i_nlt c1; have := i_rg c; have : (0 : Int32).toInt = 0 := rfl; have := i_eq ek2; have : (nI k2).toInt = ((k2 : Nat) : Int) := nI_toInt (by omega); have := i_nle c3; have : (24 : Int32).toInt = 24 := rfl; have := i_le q; omega)) (fun _ => ?_)
                  refine r_ic (x := 1) rfl rfl ?_
                  refine r_goto (tg := 15) rfl rfl ?_
                  refine r_zret rfl (.inr rfl) ?_
                  show WR _ cd_167 4 [some (.ref (ad 30)), some (.int c), some (.int l), some (.int i), some (.long b), none, none] [.int 1] (sL (sI h (ad 0) 6 0) (mid t7 + 1) k10 (fitV (nI k5) b)) _
                  refine r_if_ne (tg := 14) rfl rfl (fun _ => ?_) (fun q => absurd q (by decide))
                  refine r_iload rfl rfl ?_
                  refine WR_tI (y := nI k5) ek5 ?_
                  refine r_i2l rfl ?_
                  refine WR_tL (y := lN k5) (nI_l (by have := i_nlt c4; have := i_rg l; have : (0 : Int32).toInt = 0 := rfl; have := i_eq ek5; have : (nI k5).toInt = ((k5 : Nat) : Int) := nI_toInt (by omega); have := i_nle c6; have : (8 : Int32).toInt = 8 := rfl; have := i_eq c8; have : (nI ln7).toInt = ((ln7 : Nat) : Int) := nI_toInt (by omega); omega)) ?_
                  refine r_lc (x := 0) rfl rfl ?_
                  refine r_ldc (x := .long 7) rfl rfl ?_
                  refine r_cs (y := 155) (ra := [.long 7, .long 0, .long (lN k5)]) (rest := []) rfl ⟨⟨rfl, rfl⟩, by decide⟩ rfl rfl (Nat.le_of_ble_eq_true rfl) ?_
                  refine in_155 (Nat.le_of_ble_eq_true rfl) ?_
                  show WR _ cd_155 0 [some (.long (lN k5)), none, some (.long 0), none, some (.long 7), none] [] (sL (sI h (ad 0) 6 0) (mid t7 + 1) k10 (fitV (nI k5) b)) _
                  refine r_lload rfl rfl ?_
                  refine r_lload rfl rfl ?_
                  refine r_lif_lt (tg := 17) rfl rfl rfl (fun q => False.elim (by have := i_nlt c4; have := i_rg l; have : (0 : Int32).toInt = 0 := rfl; have := i_eq ek5; have : (nI k5).toInt = ((k5 : Nat) : Int) := nI_toInt (by omega); have := i_nle c6; have : (8 : Int32).toInt = 8 := rfl; have := i_eq c8; have : (nI ln7).toInt = ((ln7 : Nat) : Int) := nI_toInt (by omega); have : (lN k5).toInt = ((k5 : Nat) : Int) := lN_toInt (by omega); have : (0 : Int64).toInt = 0 := rfl; have := l_lt q; omega)) (fun _ => ?_)
                  refine r_lload rfl rfl ?_
                  refine r_lload rfl rfl ?_
                  refine r_lif_gt (tg := 17) rfl rfl rfl (fun q => False.elim (by have := i_nlt c4; have := i_rg l; have : (0 : Int32).toInt = 0 := rfl; have := i_eq ek5; have : (nI k5).toInt = ((k5 : Nat) : Int) := nI_toInt (by omega); have := i_nle c6; have : (8 : Int32).toInt = 8 := rfl; have := i_eq c8; have : (nI ln7).toInt = ((ln7 : Nat) : Int) := nI_toInt (by omega); have : (lN k5).toInt = ((k5 : Nat) : Int) := lN_toInt (by omega); have : (7 : Int64).toInt = 7 := rfl; have := l_lt q; omega)) (fun _ => ?_)
                  refine r_ic (x := 1) rfl rfl ?_
                  refine r_goto (tg := 18) rfl rfl ?_
                  refine r_zret rfl (.inr rfl) ?_
                  show WR _ cd_167 23 [some (.ref (ad 30)), some (.int c), some (.int l), some (.int i), some (.long b), none, none] [.int 1] (sL (sI h (ad 0) 6 0) (mid t7 + 1) k10 (fitV (nI k5) b)) _
                  refine r_if_ne (tg := 33) rfl rfl (fun _ => ?_) (fun q => absurd q (by decide))
                  refine r_aload rfl rfl ?_
                  refine r_aload rfl rfl ?_
                  refine r_getA (b := ad 31) rfl ⟨rfl, rfl, rfl⟩ (fx_t30 fx) (fx_r30_0 fx) ?_
                  refine r_iload rfl rfl ?_
                  refine WR_tI (y := nI k2) ek2 ?_
                  refine r_iaload rfl (.inl (fx_t31 fx)) (vp_ct (fx_n31 fx) (vp_in_nI (by have := i_nlt c1; have := i_rg c; have : (0 : Int32).toInt = 0 := rfl; have := i_eq ek2; have : (nI k2).toInt = ((k2 : Nat) : Int) := nI_toInt (by omega); have := i_nle c3; have : (24 : Int32).toInt = 24 := rfl; omega) (by omega))) ?_
                  refine WR_tI (congrArg (hI (sL (sI h (ad 0) 6 0) (mid t7 + 1) k10 (fitV (nI k5) b)) (ad 31)) ((nI_clamp (by have := i_nlt c1; have := i_rg c; have : (0 : Int32).toInt = 0 := rfl; have := i_eq ek2; have : (nI k2).toInt = ((k2 : Nat) : Int) := nI_toInt (by omega); have := i_nle c3; have : (24 : Int32).toInt = 24 := rfl; omega)) : _ = k2)) ?_
                  refine WR_tI (y := nI t7) (Eq.trans I_oL (Eq.trans (I_ne (fx_ne fx (by decide))) v7)) ?_
                  refine r_iload rfl rfl ?_
                  refine WR_tI (y := nI k5) ek5 ?_
                  refine r_iload rfl rfl ?_
                  refine WR_tI (y := nI k10) ek10 ?_
                  refine r_cv (y := 168) (ra := [.int (nI k10), .int (nI k5), .int (nI t7)]) (rest := []) rfl ⟨⟨rfl, rfl⟩, rfl, by decide⟩ (fx_t30 fx) rfl rfl (Nat.le_of_ble_eq_true rfl) ?_
                  refine in_168 (Nat.le_of_ble_eq_true rfl) ?_
                  show WR _ cd_168 0 [some (.ref (ad 30)), some (.int (nI t7)), some (.int (nI k5)), some (.int (nI k10))] [] (sL (sI h (ad 0) 6 0) (mid t7 + 1) k10 (fitV (nI k5) b)) _
                  refine r_iload rfl rfl ?_
                  refine r_ic (x := (-1)) rfl rfl ?_
                  refine r_icmp_eq (tg := 18) rfl rfl (fun q => False.elim (by have : (nI t7).toInt = ((t7 : Nat) : Int) := nI_toInt (by omega); have : (-1 : Int32).toInt = -1 := rfl; have := i_eq q; omega)) (fun _ => ?_)
                  refine r_aload rfl rfl ?_
                  refine r_iload rfl rfl ?_
                  refine r_cv (y := 166) (ra := [.int (nI t7)]) (rest := []) rfl ⟨⟨rfl, rfl⟩, rfl, by decide⟩ (fx_t30 fx) rfl rfl (Nat.le_of_ble_eq_true rfl) ?_
                  refine in_166 (Nat.le_of_ble_eq_true rfl) ?_
                  show WR _ cd_166 0 [some (.ref (ad 30)), some (.int (nI t7))] [] (sL (sI h (ad 0) 6 0) (mid t7 + 1) k10 (fitV (nI k5) b)) _
                  refine r_iload rfl rfl ?_
                  refine r_ic (x := (-1)) rfl rfl ?_
                  refine r_icmp_ne (tg := 9) rfl rfl (fun _ => ?_) (fun q => False.elim (by have : (nI t7).toInt = ((t7 : Nat) : Int) := nI_toInt (by omega); have : (-1 : Int32).toInt = -1 := rfl; have := i_eq q; omega))
                  refine r_iload rfl rfl ?_
                  refine r_ic (x := 1000) rfl rfl ?_
                  refine r_icmp_lt (tg := 21) rfl rfl (fun _ => ?_) (fun q => False.elim (by have : (nI t7).toInt = ((t7 : Nat) : Int) := nI_toInt (by omega); have : (1000 : Int32).toInt = 1000 := rfl; have := i_nlt q; omega))
                  refine r_aload rfl rfl ?_
                  refine r_getA (b := ad 33) rfl ⟨rfl, rfl, rfl⟩ (fx_t30 fx) (fx_r30_2 fx) ?_
                  refine r_iload rfl rfl ?_
                  refine r_iaload rfl (.inl (fx_t33 fx)) (vp_ct (fx_n33 fx) (vp_in_nI (by omega) (by omega))) ?_
                  refine WR_tI (congrArg (hI (sL (sI h (ad 0) 6 0) (mid t7 + 1) k10 (fitV (nI k5) b)) (ad 33)) ((nI_clamp (by omega)) : _ = t7)) ?_
                  refine WR_tI (y := nI ln7) (Eq.trans I_oL (Eq.trans (I_ne (fx_ne fx (by decide))) l2_7)) ?_
                  refine r_iret rfl ?_
                  show WR _ cd_168 10 [some (.ref (ad 30)), some (.int (nI t7)), some (.int (nI k5)), some (.int (nI k10))] [.int (nI ln7)] (sL (sI h (ad 0) 6 0) (mid t7 + 1) k10 (fitV (nI k5) b)) _
                  refine r_iload rfl rfl ?_
                  refine r_icmp_eq (tg := 18) rfl rfl (fun _ => ?_) (fun q => False.elim (by have := i_nlt c4; have := i_rg l; have : (0 : Int32).toInt = 0 := rfl; have := i_eq ek5; have : (nI k5).toInt = ((k5 : Nat) : Int) := nI_toInt (by omega); have := i_nle c6; have : (8 : Int32).toInt = 8 := rfl; have := i_eq c8; have : (nI ln7).toInt = ((ln7 : Nat) : Int) := nI_toInt (by omega); have := i_neq q; omega))
                  refine r_iload rfl rfl ?_
                  refine r_ic (x := (-1)) rfl rfl ?_
                  refine r_icmp_ne (tg := 27) rfl rfl (fun _ => ?_) (fun q => False.elim (by have : (nI t7).toInt = ((t7 : Nat) : Int) := nI_toInt (by omega); have : (-1 : Int32).toInt = -1 := rfl; have := i_eq q; omega))
                  refine r_iload rfl rfl ?_
                  refine r_i2l rfl ?_
                  refine WR_tL (y := lN k10) (nI_l (by have := i_nlt c9; have := i_rg i; have : (0 : Int32).toInt = 0 := rfl; have := i_eq ek10; have : (nI k10).toInt = ((k10 : Nat) : Int) := nI_toInt (by omega); have := i_nlt c11; have : (1 : Int32).toInt = 1 := rfl; have : (nI sz7).toInt = ((sz7 : Nat) : Int) := nI_toInt (by omega); have := sub_t (x := nI sz7) (y := nI k10) (by have := i_nlt c9; have := i_rg i; have : (0 : Int32).toInt = 0 := rfl; have := i_eq ek10; have : (nI k10).toInt = ((k10 : Nat) : Int) := nI_toInt (by omega); have : (nI sz7).toInt = ((sz7 : Nat) : Int) := nI_toInt (by omega); omega) (by have := i_nlt c9; have := i_rg i; have : (0 : Int32).toInt = 0 := rfl; have := i_eq ek10; have : (nI k10).toInt = ((k10 : Nat) : Int) := nI_toInt (by omega); have : (nI sz7).toInt = ((sz7 : Nat) : Int) := nI_toInt (by omega); omega); omega)) ?_
                  refine r_lc (x := 0) rfl rfl ?_
                  refine r_aload rfl rfl ?_
                  refine r_getA (b := ad 35) rfl ⟨rfl, rfl, rfl⟩ (fx_t30 fx) (fx_r30_4 fx) ?_
                  refine r_iload rfl rfl ?_
                  refine r_iaload rfl (.inl (fx_t35 fx)) (vp_ct (fx_n35 fx) (vp_in_nI (by omega) (by omega))) ?_
                  refine WR_tI (congrArg (hI (sL (sI h (ad 0) 6 0) (mid t7 + 1) k10 (fitV (nI k5) b)) (ad 35)) ((nI_clamp (by omega)) : _ = t7)) ?_
                  refine WR_tI (y := nI sz7) (Eq.trans I_oL (Eq.trans (I_ne (fx_ne fx (by decide))) sz_7)) ?_
                  refine r_ic (x := 1) rfl rfl ?_
                  refine r_isub rfl ?_
                  refine WR_tI (y := nI (sz7 - 1)) (Eq.trans (pk_sub (a := sz7) (b := 1) (by have := i_nlt c9; have := i_rg i; have : (0 : Int32).toInt = 0 := rfl; have := i_eq ek10; have : (nI k10).toInt = ((k10 : Nat) : Int) := nI_toInt (by omega); have := i_nlt c11; have : (1 : Int32).toInt = 1 := rfl; have : (nI sz7).toInt = ((sz7 : Nat) : Int) := nI_toInt (by omega); have := sub_t (x := nI sz7) (y := nI k10) (by have := i_nlt c9; have := i_rg i; have : (0 : Int32).toInt = 0 := rfl; have := i_eq ek10; have : (nI k10).toInt = ((k10 : Nat) : Int) := nI_toInt (by omega); have : (nI sz7).toInt = ((sz7 : Nat) : Int) := nI_toInt (by omega); omega) (by have := i_nlt c9; have := i_rg i; have : (0 : Int32).toInt = 0 := rfl; have := i_eq ek10; have : (nI k10).toInt = ((k10 : Nat) : Int) := nI_toInt (by omega); have : (nI sz7).toInt = ((sz7 : Nat) : Int) := nI_toInt (by omega); omega); omega)) (congrArg nI (by have := i_nlt c9; have := i_rg i; have : (0 : Int32).toInt = 0 := rfl; have := i_eq ek10; have : (nI k10).toInt = ((k10 : Nat) : Int) := nI_toInt (by omega); have := i_nlt c11; have : (1 : Int32).toInt = 1 := rfl; have : (nI sz7).toInt = ((sz7 : Nat) : Int) := nI_toInt (by omega); have := sub_t (x := nI sz7) (y := nI k10) (by have := i_nlt c9; have := i_rg i; have : (0 : Int32).toInt = 0 := rfl; have := i_eq ek10; have : (nI k10).toInt = ((k10 : Nat) : Int) := nI_toInt (by omega); have : (nI sz7).toInt = ((sz7 : Nat) : Int) := nI_toInt (by omega); omega) (by have := i_nlt c9; have := i_rg i; have : (0 : Int32).toInt = 0 := rfl; have := i_eq ek10; have : (nI k10).toInt = ((k10 : Nat) : Int) := nI_toInt (by omega); have : (nI sz7).toInt = ((sz7 : Nat) : Int) := nI_toInt (by omega); omega); omega))) ?_
                  refine r_i2l rfl ?_
                  refine WR_tL (y := lN (sz7 - 1)) (nI_l (by have := i_nlt c9; have := i_rg i; have : (0 : Int32).toInt = 0 := rfl; have := i_eq ek10; have : (nI k10).toInt = ((k10 : Nat) : Int) := nI_toInt (by omega); have := i_nlt c11; have : (1 : Int32).toInt = 1 := rfl; have : (nI sz7).toInt = ((sz7 : Nat) : Int) := nI_toInt (by omega); have := sub_t (x := nI sz7) (y := nI k10) (by have := i_nlt c9; have := i_rg i; have : (0 : Int32).toInt = 0 := rfl; have := i_eq ek10; have : (nI k10).toInt = ((k10 : Nat) : Int) := nI_toInt (by omega); have : (nI sz7).toInt = ((sz7 : Nat) : Int) := nI_toInt (by omega); omega) (by have := i_nlt c9; have := i_rg i; have : (0 : Int32).toInt = 0 := rfl; have := i_eq ek10; have : (nI k10).toInt = ((k10 : Nat) : Int) := nI_toInt (by omega); have : (nI sz7).toInt = ((sz7 : Nat) : Int) := nI_toInt (by omega); omega); omega)) ?_
                  refine r_cs (y := 155) (ra := [.long (lN (sz7 - 1)), .long 0, .long (lN k10)]) (rest := []) rfl ⟨⟨rfl, rfl⟩, by decide⟩ rfl rfl (Nat.le_of_ble_eq_true rfl) ?_
                  refine in_155 (Nat.le_of_ble_eq_true rfl) ?_
                  show WR _ cd_155 0 [some (.long (lN k10)), none, some (.long 0), none, some (.long (lN (sz7 - 1))), none] [] (sL (sI h (ad 0) 6 0) (mid t7 + 1) k10 (fitV (nI k5) b)) _
                  refine r_lload rfl rfl ?_
                  refine r_lload rfl rfl ?_
                  refine r_lif_lt (tg := 17) rfl rfl rfl (fun q => False.elim (by have := i_nlt c9; have := i_rg i; have : (0 : Int32).toInt = 0 := rfl; have := i_eq ek10; have : (nI k10).toInt = ((k10 : Nat) : Int) := nI_toInt (by omega); have := i_nlt c11; have : (1 : Int32).toInt = 1 := rfl; have : (nI sz7).toInt = ((sz7 : Nat) : Int) := nI_toInt (by omega); have := sub_t (x := nI sz7) (y := nI k10) (by have := i_nlt c9; have := i_rg i; have : (0 : Int32).toInt = 0 := rfl; have := i_eq ek10; have : (nI k10).toInt = ((k10 : Nat) : Int) := nI_toInt (by omega); have : (nI sz7).toInt = ((sz7 : Nat) : Int) := nI_toInt (by omega); omega) (by have := i_nlt c9; have := i_rg i; have : (0 : Int32).toInt = 0 := rfl; have := i_eq ek10; have : (nI k10).toInt = ((k10 : Nat) : Int) := nI_toInt (by omega); have : (nI sz7).toInt = ((sz7 : Nat) : Int) := nI_toInt (by omega); omega); have : (lN k10).toInt = ((k10 : Nat) : Int) := lN_toInt (by omega); have : (0 : Int64).toInt = 0 := rfl; have := l_lt q; omega)) (fun _ => ?_)
                  refine r_lload rfl rfl ?_
                  refine r_lload rfl rfl ?_
                  refine r_lif_gt (tg := 17) rfl rfl rfl (fun q => False.elim (by have := i_nlt c9; have := i_rg i; have : (0 : Int32).toInt = 0 := rfl; have := i_eq ek10; have : (nI k10).toInt = ((k10 : Nat) : Int) := nI_toInt (by omega); have := i_nlt c11; have : (1 : Int32).toInt = 1 := rfl; have : (nI sz7).toInt = ((sz7 : Nat) : Int) := nI_toInt (by omega); have := sub_t (x := nI sz7) (y := nI k10) (by have := i_nlt c9; have := i_rg i; have : (0 : Int32).toInt = 0 := rfl; have := i_eq ek10; have : (nI k10).toInt = ((k10 : Nat) : Int) := nI_toInt (by omega); have : (nI sz7).toInt = ((sz7 : Nat) : Int) := nI_toInt (by omega); omega) (by have := i_nlt c9; have := i_rg i; have : (0 : Int32).toInt = 0 := rfl; have := i_eq ek10; have : (nI k10).toInt = ((k10 : Nat) : Int) := nI_toInt (by omega); have : (nI sz7).toInt = ((sz7 : Nat) : Int) := nI_toInt (by omega); omega); have : (lN k10).toInt = ((k10 : Nat) : Int) := lN_toInt (by omega); have : (lN (sz7 - 1)).toInt = ((sz7 - 1 : Nat) : Int) := lN_toInt (by omega); have := l_lt q; omega)) (fun _ => ?_)
                  refine r_ic (x := 1) rfl rfl ?_
                  refine r_goto (tg := 18) rfl rfl ?_
                  refine r_zret rfl (.inr rfl) ?_
                  show WR _ cd_168 42 [some (.ref (ad 30)), some (.int (nI t7)), some (.int (nI k5)), some (.int (nI k10))] [.int 1] (sL (sI h (ad 0) 6 0) (mid t7 + 1) k10 (fitV (nI k5) b)) _
                  refine r_if_ne (tg := 49) rfl rfl (fun _ => ?_) (fun q => absurd q (by decide))
                  refine r_ic (x := 0) rfl rfl ?_
                  refine r_iret rfl ?_
                  show WR _ cd_167 45 [some (.ref (ad 30)), some (.int c), some (.int l), some (.int i), some (.long b), none, none] [.int 0] (sL (sI h (ad 0) 6 0) (mid t7 + 1) k10 (fitV (nI k5) b)) _
                  refine r_istore (lv' := [some (.ref (ad 30)), some (.int c), some (.int l), some (.int i), some (.long b), none, some (.int 0)]) rfl (Nat.le_of_ble_eq_true rfl) rfl ?_
                  refine r_iload rfl rfl ?_
                  refine r_if_le (tg := 59) rfl rfl (fun _ => ?_) (fun q => absurd q (by decide))
                  refine r_aload rfl rfl ?_
                  refine r_getA (b := ad 36) rfl ⟨rfl, rfl, rfl⟩ (fx_t30 fx) (fx_r30_5 fx) ?_
                  refine r_ic (x := 30) rfl rfl ?_
                  refine r_aload rfl rfl ?_
                  refine r_getA (b := ad 31) rfl ⟨rfl, rfl, rfl⟩ (fx_t30 fx) (fx_r30_0 fx) ?_
                  refine r_iload rfl rfl ?_
                  refine WR_tI (y := nI k2) ek2 ?_
                  refine r_iaload rfl (.inl (fx_t31 fx)) (vp_ct (fx_n31 fx) (vp_in_nI (by have := i_nlt c1; have := i_rg c; have : (0 : Int32).toInt = 0 := rfl; have := i_eq ek2; have : (nI k2).toInt = ((k2 : Nat) : Int) := nI_toInt (by omega); have := i_nle c3; have : (24 : Int32).toInt = 24 := rfl; omega) (by omega))) ?_
                  refine WR_tI (congrArg (hI (sL (sI h (ad 0) 6 0) (mid t7 + 1) k10 (fitV (nI k5) b)) (ad 31)) ((nI_clamp (by have := i_nlt c1; have := i_rg c; have : (0 : Int32).toInt = 0 := rfl; have := i_eq ek2; have : (nI k2).toInt = ((k2 : Nat) : Int) := nI_toInt (by omega); have := i_nle c3; have : (24 : Int32).toInt = 24 := rfl; omega)) : _ = k2)) ?_
                  refine WR_tI (y := nI t7) (Eq.trans I_oL (Eq.trans (I_ne (fx_ne fx (by decide))) v7)) ?_
                  refine r_imul rfl ?_
                  refine WR_tI (y := nI (30 * t7)) (Eq.trans (pk_mul 30 t7) (congrArg nI (by omega))) ?_
                  refine r_iload rfl rfl ?_
                  refine WR_tI (y := nI k10) ek10 ?_
                  refine r_iadd rfl ?_
                  refine WR_tI (y := nI (30 * t7 + k10)) (Eq.trans (nI_add (30 * t7) k10) (congrArg nI (by have := i_nlt c9; have := i_rg i; have : (0 : Int32).toInt = 0 := rfl; have := i_eq ek10; have : (nI k10).toInt = ((k10 : Nat) : Int) := nI_toInt (by omega); have := i_nlt c11; have : (1 : Int32).toInt = 1 := rfl; have : (nI sz7).toInt = ((sz7 : Nat) : Int) := nI_toInt (by omega); have := sub_t (x := nI sz7) (y := nI k10) (by have := i_nlt c9; have := i_rg i; have : (0 : Int32).toInt = 0 := rfl; have := i_eq ek10; have : (nI k10).toInt = ((k10 : Nat) : Int) := nI_toInt (by omega); have : (nI sz7).toInt = ((sz7 : Nat) : Int) := nI_toInt (by omega); omega) (by have := i_nlt c9; have := i_rg i; have : (0 : Int32).toInt = 0 := rfl; have := i_eq ek10; have : (nI k10).toInt = ((k10 : Nat) : Int) := nI_toInt (by omega); have : (nI sz7).toInt = ((sz7 : Nat) : Int) := nI_toInt (by omega); omega); omega))) ?_
                  refine r_iload rfl rfl ?_
                  refine WR_tI (y := nI k5) ek5 ?_
                  refine r_lload rfl rfl ?_
                  refine r_cs (y := 169) (ra := [.long b, .int (nI k5)]) (rest := [.int (nI (30 * t7 + k10)), .ref (ad 36)]) rfl ⟨⟨rfl, rfl⟩, by decide⟩ rfl rfl (Nat.le_of_ble_eq_true rfl) ?_
                  refine c_cut (h := sL (sI h (ad 0) 6 0) (mid t7 + 1) k10 (fitV (nI k5) b)) (l := nI k5) fx (by have := i_nlt c4; have := i_rg l; have : (0 : Int32).toInt = 0 := rfl; have := i_eq ek5; have : (nI k5).toInt = ((k5 : Nat) : Int) := nI_toInt (by omega); have := i_nle c6; have : (8 : Int32).toInt = 8 := rfl; have := i_eq c8; have : (nI ln7).toInt = ((ln7 : Nat) : Int) := nI_toInt (by omega); omega) ?_
                  show WR _ cd_167 80 [some (.ref (ad 30)), some (.int c), some (.int l), some (.int i), some (.long b), none, some (.int 0)] [.long (fitV (nI k5) b), .int (nI (30 * t7 + k10)), .ref (ad 36)] (sL (sI h (ad 0) 6 0) (mid t7 + 1) k10 (fitV (nI k5) b)) _
                  refine r_lastore rfl (fx_t36 fx) (vp_ct (fx_n36 fx) (vp_in_nI (by have := i_nlt c9; have := i_rg i; have : (0 : Int32).toInt = 0 := rfl; have := i_eq ek10; have : (nI k10).toInt = ((k10 : Nat) : Int) := nI_toInt (by omega); have := i_nlt c11; have : (1 : Int32).toInt = 1 := rfl; have : (nI sz7).toInt = ((sz7 : Nat) : Int) := nI_toInt (by omega); have := sub_t (x := nI sz7) (y := nI k10) (by have := i_nlt c9; have := i_rg i; have : (0 : Int32).toInt = 0 := rfl; have := i_eq ek10; have : (nI k10).toInt = ((k10 : Nat) : Int) := nI_toInt (by omega); have : (nI sz7).toInt = ((sz7 : Nat) : Int) := nI_toInt (by omega); omega) (by have := i_nlt c9; have := i_rg i; have : (0 : Int32).toInt = 0 := rfl; have := i_eq ek10; have : (nI k10).toInt = ((k10 : Nat) : Int) := nI_toInt (by omega); have : (nI sz7).toInt = ((sz7 : Nat) : Int) := nI_toInt (by omega); omega); omega) (by omega))) ?_
                  refine WR_h (h2 := sL (sL (sI h (ad 0) 6 0) (mid t7 + 1) k10 (fitV (nI k5) b)) (ad 36) (30 * t7 + k10) (fitV (nI k5) b)) (congrArg (fun z => sL (sL (sI h (ad 0) 6 0) (mid t7 + 1) k10 (fitV (nI k5) b)) (ad 36) z (fitV (nI k5) b)) ((nI_clamp (by have := i_nlt c9; have := i_rg i; have : (0 : Int32).toInt = 0 := rfl; have := i_eq ek10; have : (nI k10).toInt = ((k10 : Nat) : Int) := nI_toInt (by omega); have := i_nlt c11; have : (1 : Int32).toInt = 1 := rfl; have : (nI sz7).toInt = ((sz7 : Nat) : Int) := nI_toInt (by omega); have := sub_t (x := nI sz7) (y := nI k10) (by have := i_nlt c9; have := i_rg i; have : (0 : Int32).toInt = 0 := rfl; have := i_eq ek10; have : (nI k10).toInt = ((k10 : Nat) : Int) := nI_toInt (by omega); have : (nI sz7).toInt = ((sz7 : Nat) : Int) := nI_toInt (by omega); omega) (by have := i_nlt c9; have := i_rg i; have : (0 : Int32).toInt = 0 := rfl; have := i_eq ek10; have : (nI k10).toInt = ((k10 : Nat) : Int) := nI_toInt (by omega); have : (nI sz7).toInt = ((sz7 : Nat) : Int) := nI_toInt (by omega); omega); omega)) : _ = 30 * t7 + k10)) ?_
                  have fx : FX n ad sa z0 (sL (sL (sI h (ad 0) 6 0) (mid t7 + 1) k10 (fitV (nI k5) b)) (ad 36) (30 * t7 + k10) (fitV (nI k5) b)) := (FX.sL fx)
                  refine r_aload rfl rfl ?_
                  refine r_ic (x := 1) rfl rfl ?_
                  refine r_cv (y := 154) (ra := [.int 1]) (rest := []) rfl ⟨⟨rfl, rfl⟩, rfl, by decide⟩ (fx_t30 fx) rfl rfl (Nat.le_of_ble_eq_true rfl) ?_
                  refine in_154 (Nat.le_of_ble_eq_true rfl) ?_
                  show WR _ cd_154 0 [some (.ref (ad 30)), some (.int 1)] [] (sL (sL (sI h (ad 0) 6 0) (mid t7 + 1) k10 (fitV (nI k5) b)) (ad 36) (30 * t7 + k10) (fitV (nI k5) b)) _
                  refine r_aload rfl rfl ?_
                  refine r_iload rfl rfl ?_
                  refine r_ic (x := (-1)) rfl rfl ?_
                  refine r_icmp_ge (tg := 10) rfl rfl (fun _ => ?_) (fun q => absurd q (by decide))
                  refine r_ic (x := 0) rfl rfl ?_
                  refine r_putI rfl ⟨rfl, rfl, rfl⟩ (fx_t30 fx) ?_
                  have fx : FX n ad sa z0 (sI (sL (sL (sI h (ad 0) 6 0) (mid t7 + 1) k10 (fitV (nI k5) b)) (ad 36) (30 * t7 + k10) (fitV (nI k5) b)) (ad 30) 11 0) := (FX.sI fx)
                  refine r_iload rfl rfl ?_
                  refine r_iret rfl ?_
                  show WR _ cd_167 86 [some (.ref (ad 30)), some (.int c), some (.int l), some (.int i), some (.long b), none, some (.int 0)] [.int 1] (sI (sL (sL (sI h (ad 0) 6 0) (mid t7 + 1) k10 (fitV (nI k5) b)) (ad 36) (30 * t7 + k10) (fitV (nI k5) b)) (ad 30) 11 0) _
                  refine r_iret rfl ?_
                  have rI : Rel n ad sa z0 (sL (sL h (mid t7 + 1) k10 (fitV (nI k5) b)) (ad 36) (30 * t7 + k10) (fitV (nI k5) b)) := Rel_item fx0 ry rt ra rp rf rst ru rs (ln := ln7) ht7 (.inl ⟨k2, (by have := i_nlt c1; have := i_rg c; have : (0 : Int32).toInt = 0 := rfl; have := i_eq ek2; have : (nI k2).toInt = ((k2 : Nat) : Int) := nI_toInt (by omega); have := i_nle c3; have : (24 : Int32).toInt = 24 := rfl; omega), v7⟩) rw7 sz_7 (by have := i_nlt c9; have := i_rg i; have : (0 : Int32).toInt = 0 := rfl; have := i_eq ek10; have : (nI k10).toInt = ((k10 : Nat) : Int) := nI_toInt (by omega); have := i_nlt c11; have : (1 : Int32).toInt = 1 := rfl; have : (nI sz7).toInt = ((sz7 : Nat) : Int) := nI_toInt (by omega); have := sub_t (x := nI sz7) (y := nI k10) (by have := i_nlt c9; have := i_rg i; have : (0 : Int32).toInt = 0 := rfl; have := i_eq ek10; have : (nI k10).toInt = ((k10 : Nat) : Int) := nI_toInt (by omega); have : (nI sz7).toInt = ((sz7 : Nat) : Int) := nI_toInt (by omega); omega) (by have := i_nlt c9; have := i_rg i; have : (0 : Int32).toInt = 0 := rfl; have := i_eq ek10; have : (nI k10).toInt = ((k10 : Nat) : Int) := nI_toInt (by omega); have : (nI sz7).toInt = ((sz7 : Nat) : Int) := nI_toInt (by omega); omega); omega) hs_7 (canL_fit2 (by have := i_nlt c4; have := i_rg l; have : (0 : Int32).toInt = 0 := rfl; have := i_eq ek5; have : (nI k5).toInt = ((k5 : Nat) : Int) := nI_toInt (by omega); have := i_nle c6; have : (8 : Int32).toInt = 8 := rfl; have := i_eq c8; have : (nI ln7).toInt = ((ln7 : Nat) : Int) := nI_toInt (by omega); omega) (by have := i_nlt c4; have := i_rg l; have : (0 : Int32).toInt = 0 := rfl; have := i_eq ek5; have : (nI k5).toInt = ((k5 : Nat) : Int) := nI_toInt (by omega); have := i_nle c6; have : (8 : Int32).toInt = 8 := rfl; have := i_eq c8; have : (nI ln7).toInt = ((ln7 : Nat) : Int) := nI_toInt (by omega); omega) b)
                  exact ⟨rfl, Rel.why rI ((Chg.rf.sI (fx_j fx0) (k := 6) (v := 0) (.inl (by decide))).sI (fx_j fx0) (k := 11) (v := 0) (.inl (by decide))) ⟨rfl, by decide⟩ (Eq.trans (Eq.trans (I_ne (fx_ne fx (by decide))) I_eq) (Eq.symm I_eq)), (by (try simp only [hZ_sI, hZ_sL, hZ_sD, hZ_sR]); omega), (by (try simp only [hU_sI, hU_sL, hU_sD, hU_sR]); omega)⟩
          · refine r_aaloadA (b := mid t7) rfl (isQ_of (fx_t1 fx) (by decide)) (vp_ct (fx_n1 fx) (vp_in_nI (by have := i_nlt c1; have := i_rg c; have : (0 : Int32).toInt = 0 := rfl; have := i_eq ek2; have : (nI k2).toInt = ((k2 : Nat) : Int) := nI_toInt (by omega); have := i_nle c3; have : (24 : Int32).toInt = 24 := rfl; omega) (by omega))) (Eq.trans (congrArg (hR (sI h (ad 0) 6 0) (ad 1)) ((nI_clamp (by have := i_nlt c1; have := i_rg c; have : (0 : Int32).toInt = 0 := rfl; have := i_eq ek2; have : (nI k2).toInt = ((k2 : Nat) : Int) := nI_toInt (by omega); have := i_nle c3; have : (24 : Int32).toInt = 24 := rfl; omega)) : _ = k2)) (Eq.trans R_oI w7)) ?_
            refine r_astore (lv' := [some (.ref (ad 0)), some (.int (nI k2)), some (.int (nI k5)), some (.ref (mid t7)), none]) rfl (Nat.le_of_ble_eq_true rfl) rfl ?_
            refine r_aload rfl rfl ?_
            refine r_instW rfl (by decide) tg7 (by decide) ?_
            refine r_if_eq (tg := 32) rfl rfl (fun _ => ?_) (fun q => absurd q (by decide))
            refine r_aload rfl rfl ?_
            refine r_aload rfl rfl ?_
            refine r_ifnonnullA (tg := 42) rfl rfl ?_
            refine r_ic (x := (-14)) rfl rfl ?_
            refine r_putI rfl ⟨rfl, rfl, rfl⟩ (fx_t0 fx) ?_
            have fx : FX n ad sa z0 (sI (sI h (ad 0) 6 0) (ad 0) 6 (-14)) := (FX.sI fx)
            refine r_null rfl ?_
            refine r_aret0 rfl ?_
            show WR _ cd_30 36 [some (.ref (ad 0)), some (.int c), some (.int l), some (.int i), none] [.null] (sI (sI h (ad 0) 6 0) (ad 0) 6 (-14)) _
            refine r_astore0 (lv' := [some (.ref (ad 0)), some (.int c), some (.int l), some (.int i), some (.null)]) rfl (Nat.le_of_ble_eq_true rfl) rfl ?_
            refine r_aload0 rfl rfl ?_
            refine r_ifnullN (tg := 61) rfl rfl ?_
            refine r_aload0 rfl rfl ?_
            refine r_aret0 rfl ?_
            show WR _ cd_29 12 [some (.ref (ad 0)), some (.int c), some (.int l), some (.int i), some (.long b), none, none] [.null] (sI (sI h (ad 0) 6 0) (ad 0) 6 (-14)) _
            refine r_astore0 (lv' := [some (.ref (ad 0)), some (.int c), some (.int l), some (.int i), some (.long b), none, some (.null)]) rfl (Nat.le_of_ble_eq_true rfl) rfl ?_
            refine r_aload0 rfl rfl ?_
            refine r_ifnonnullN (tg := 24) rfl rfl ?_
            refine r_aload rfl rfl ?_
            refine r_getI rfl ⟨rfl, rfl, rfl⟩ (fx_t0 fx) ?_
            refine WR_tI (y := (-14)) I_eq ?_
            refine r_iret rfl ?_
            show EV _ 167 [.ref (ad 30), .int c, .int l, .int i, .long b] (sI (sI h (ad 0) 6 0) (ad 0) 6 (-14)) _
            refine in_167 (Nat.le_of_ble_eq_true rfl) ?_
            show WR _ cd_167 0 [some (.ref (ad 30)), some (.int c), some (.int l), some (.int i), some (.long b), none, none] [] (sI (sI h (ad 0) 6 0) (ad 0) 6 (-14)) _
            refine r_iload rfl rfl ?_
            refine WR_tI (y := nI k2) ek2 ?_
            refine r_cs (y := 153) (ra := [.int (nI k2)]) (rest := []) rfl ⟨⟨rfl, rfl⟩, by decide⟩ rfl rfl (Nat.le_of_ble_eq_true rfl) ?_
            refine in_153 (Nat.le_of_ble_eq_true rfl) ?_
            show WR _ cd_153 0 [some (.int (nI k2))] [] (sI (sI h (ad 0) 6 0) (ad 0) 6 (-14)) _
            refine r_iload rfl rfl ?_
            refine r_if_lt (tg := 14) rfl rfl (fun q => False.elim (by have := i_nlt c1; have := i_rg c; have : (0 : Int32).toInt = 0 := rfl; have := i_eq ek2; have : (nI k2).toInt = ((k2 : Nat) : Int) := nI_toInt (by omega); have := i_nle c3; have : (24 : Int32).toInt = 24 := rfl; have := i_lt q; omega)) (fun _ => ?_)
            refine r_iload rfl rfl ?_
            refine r_ic (x := 24) rfl rfl ?_
            refine r_icmp_ge (tg := 14) rfl rfl (fun q => False.elim (by have := i_nlt c1; have := i_rg c; have : (0 : Int32).toInt = 0 := rfl; have := i_eq ek2; have : (nI k2).toInt = ((k2 : Nat) : Int) := nI_toInt (by omega); have := i_nle c3; have : (24 : Int32).toInt = 24 := rfl; have := i_le q; omega)) (fun _ => ?_)
            refine r_ic (x := 1) rfl rfl ?_
            refine r_goto (tg := 15) rfl rfl ?_
            refine r_zret rfl (.inr rfl) ?_
            show WR _ cd_167 4 [some (.ref (ad 30)), some (.int c), some (.int l), some (.int i), some (.long b), none, none] [.int 1] (sI (sI h (ad 0) 6 0) (ad 0) 6 (-14)) _
            refine r_if_ne (tg := 14) rfl rfl (fun _ => ?_) (fun q => absurd q (by decide))
            refine r_iload rfl rfl ?_
            refine WR_tI (y := nI k5) ek5 ?_
            refine r_i2l rfl ?_
            refine WR_tL (y := lN k5) (nI_l (by have := i_nlt c4; have := i_rg l; have : (0 : Int32).toInt = 0 := rfl; have := i_eq ek5; have : (nI k5).toInt = ((k5 : Nat) : Int) := nI_toInt (by omega); have := i_nle c6; have : (8 : Int32).toInt = 8 := rfl; omega)) ?_
            refine r_lc (x := 0) rfl rfl ?_
            refine r_ldc (x := .long 7) rfl rfl ?_
            refine r_cs (y := 155) (ra := [.long 7, .long 0, .long (lN k5)]) (rest := []) rfl ⟨⟨rfl, rfl⟩, by decide⟩ rfl rfl (Nat.le_of_ble_eq_true rfl) ?_
            refine in_155 (Nat.le_of_ble_eq_true rfl) ?_
            show WR _ cd_155 0 [some (.long (lN k5)), none, some (.long 0), none, some (.long 7), none] [] (sI (sI h (ad 0) 6 0) (ad 0) 6 (-14)) _
            refine r_lload rfl rfl ?_
            refine r_lload rfl rfl ?_
            refine r_lif_lt (tg := 17) rfl rfl rfl (fun q => False.elim (by have := i_nlt c4; have := i_rg l; have : (0 : Int32).toInt = 0 := rfl; have := i_eq ek5; have : (nI k5).toInt = ((k5 : Nat) : Int) := nI_toInt (by omega); have := i_nle c6; have : (8 : Int32).toInt = 8 := rfl; have : (lN k5).toInt = ((k5 : Nat) : Int) := lN_toInt (by omega); have : (0 : Int64).toInt = 0 := rfl; have := l_lt q; omega)) (fun _ => ?_)
            refine r_lload rfl rfl ?_
            refine r_lload rfl rfl ?_
            refine r_lif_gt (tg := 17) rfl rfl rfl (fun q => False.elim (by have := i_nlt c4; have := i_rg l; have : (0 : Int32).toInt = 0 := rfl; have := i_eq ek5; have : (nI k5).toInt = ((k5 : Nat) : Int) := nI_toInt (by omega); have := i_nle c6; have : (8 : Int32).toInt = 8 := rfl; have : (lN k5).toInt = ((k5 : Nat) : Int) := lN_toInt (by omega); have : (7 : Int64).toInt = 7 := rfl; have := l_lt q; omega)) (fun _ => ?_)
            refine r_ic (x := 1) rfl rfl ?_
            refine r_goto (tg := 18) rfl rfl ?_
            refine r_zret rfl (.inr rfl) ?_
            show WR _ cd_167 23 [some (.ref (ad 30)), some (.int c), some (.int l), some (.int i), some (.long b), none, none] [.int 1] (sI (sI h (ad 0) 6 0) (ad 0) 6 (-14)) _
            refine r_if_ne (tg := 33) rfl rfl (fun _ => ?_) (fun q => absurd q (by decide))
            refine r_aload rfl rfl ?_
            refine r_aload rfl rfl ?_
            refine r_getA (b := ad 31) rfl ⟨rfl, rfl, rfl⟩ (fx_t30 fx) (fx_r30_0 fx) ?_
            refine r_iload rfl rfl ?_
            refine WR_tI (y := nI k2) ek2 ?_
            refine r_iaload rfl (.inl (fx_t31 fx)) (vp_ct (fx_n31 fx) (vp_in_nI (by have := i_nlt c1; have := i_rg c; have : (0 : Int32).toInt = 0 := rfl; have := i_eq ek2; have : (nI k2).toInt = ((k2 : Nat) : Int) := nI_toInt (by omega); have := i_nle c3; have : (24 : Int32).toInt = 24 := rfl; omega) (by omega))) ?_
            refine WR_tI (congrArg (hI (sI (sI h (ad 0) 6 0) (ad 0) 6 (-14)) (ad 31)) ((nI_clamp (by have := i_nlt c1; have := i_rg c; have : (0 : Int32).toInt = 0 := rfl; have := i_eq ek2; have : (nI k2).toInt = ((k2 : Nat) : Int) := nI_toInt (by omega); have := i_nle c3; have : (24 : Int32).toInt = 24 := rfl; omega)) : _ = k2)) ?_
            refine WR_tI (y := nI t7) (Eq.trans (I_ne (fx_ne fx (by decide))) (Eq.trans (I_ne (fx_ne fx (by decide))) v7)) ?_
            refine r_iload rfl rfl ?_
            refine WR_tI (y := nI k5) ek5 ?_
            refine r_iload rfl rfl ?_
            refine r_cv (y := 168) (ra := [.int i, .int (nI k5), .int (nI t7)]) (rest := []) rfl ⟨⟨rfl, rfl⟩, rfl, by decide⟩ (fx_t30 fx) rfl rfl (Nat.le_of_ble_eq_true rfl) ?_
            refine in_168 (Nat.le_of_ble_eq_true rfl) ?_
            show WR _ cd_168 0 [some (.ref (ad 30)), some (.int (nI t7)), some (.int (nI k5)), some (.int i)] [] (sI (sI h (ad 0) 6 0) (ad 0) 6 (-14)) _
            refine r_iload rfl rfl ?_
            refine r_ic (x := (-1)) rfl rfl ?_
            refine r_icmp_eq (tg := 18) rfl rfl (fun q => False.elim (by have : (nI t7).toInt = ((t7 : Nat) : Int) := nI_toInt (by omega); have : (-1 : Int32).toInt = -1 := rfl; have := i_eq q; omega)) (fun _ => ?_)
            refine r_aload rfl rfl ?_
            refine r_iload rfl rfl ?_
            refine r_cv (y := 166) (ra := [.int (nI t7)]) (rest := []) rfl ⟨⟨rfl, rfl⟩, rfl, by decide⟩ (fx_t30 fx) rfl rfl (Nat.le_of_ble_eq_true rfl) ?_
            refine in_166 (Nat.le_of_ble_eq_true rfl) ?_
            show WR _ cd_166 0 [some (.ref (ad 30)), some (.int (nI t7))] [] (sI (sI h (ad 0) 6 0) (ad 0) 6 (-14)) _
            refine r_iload rfl rfl ?_
            refine r_ic (x := (-1)) rfl rfl ?_
            refine r_icmp_ne (tg := 9) rfl rfl (fun _ => ?_) (fun q => False.elim (by have : (nI t7).toInt = ((t7 : Nat) : Int) := nI_toInt (by omega); have : (-1 : Int32).toInt = -1 := rfl; have := i_eq q; omega))
            refine r_iload rfl rfl ?_
            refine r_ic (x := 1000) rfl rfl ?_
            refine r_icmp_lt (tg := 21) rfl rfl (fun _ => ?_) (fun q => False.elim (by have : (nI t7).toInt = ((t7 : Nat) : Int) := nI_toInt (by omega); have : (1000 : Int32).toInt = 1000 := rfl; have := i_nlt q; omega))
            refine r_aload rfl rfl ?_
            refine r_getA (b := ad 33) rfl ⟨rfl, rfl, rfl⟩ (fx_t30 fx) (fx_r30_2 fx) ?_
            refine r_iload rfl rfl ?_
            refine r_iaload rfl (.inl (fx_t33 fx)) (vp_ct (fx_n33 fx) (vp_in_nI (by omega) (by omega))) ?_
            refine WR_tI (congrArg (hI (sI (sI h (ad 0) 6 0) (ad 0) 6 (-14)) (ad 33)) ((nI_clamp (by omega)) : _ = t7)) ?_
            refine WR_tI (y := 8) (Eq.trans (I_ne (fx_ne fx (by decide))) (Eq.trans (I_ne (fx_ne fx (by decide))) l2_7)) ?_
            refine r_iret rfl ?_
            show WR _ cd_168 10 [some (.ref (ad 30)), some (.int (nI t7)), some (.int (nI k5)), some (.int i)] [.int 8] (sI (sI h (ad 0) 6 0) (ad 0) 6 (-14)) _
            refine r_iload rfl rfl ?_
            refine r_icmp_eq (tg := 18) rfl rfl (fun q => False.elim (by have := i_nlt c4; have := i_rg l; have : (0 : Int32).toInt = 0 := rfl; have := i_eq ek5; have : (nI k5).toInt = ((k5 : Nat) : Int) := nI_toInt (by omega); have := i_nle c6; have : (8 : Int32).toInt = 8 := rfl; have := i_eq q; omega)) (fun _ => ?_)
            refine r_ic (x := 4) rfl rfl ?_
            refine r_goto (tg := 50) rfl rfl ?_
            refine r_iret rfl ?_
            show WR _ cd_167 45 [some (.ref (ad 30)), some (.int c), some (.int l), some (.int i), some (.long b), none, none] [.int 4] (sI (sI h (ad 0) 6 0) (ad 0) 6 (-14)) _
            refine r_istore (lv' := [some (.ref (ad 30)), some (.int c), some (.int l), some (.int i), some (.long b), none, some (.int 4)]) rfl (Nat.le_of_ble_eq_true rfl) rfl ?_
            refine r_iload rfl rfl ?_
            refine r_if_le (tg := 59) rfl rfl (fun q => absurd q (by decide)) (fun _ => ?_)
            refine r_aload rfl rfl ?_
            refine r_iload rfl rfl ?_
            refine r_cv (y := 156) (ra := [.int 4]) (rest := []) rfl ⟨⟨rfl, rfl⟩, rfl, by decide⟩ (fx_t30 fx) rfl rfl (Nat.le_of_ble_eq_true rfl) ?_
            refine in_156 (Nat.le_of_ble_eq_true rfl) ?_
            show WR _ cd_156 0 [some (.ref (ad 30)), some (.int 4)] [] (sI (sI h (ad 0) 6 0) (ad 0) 6 (-14)) _
            refine r_aload rfl rfl ?_
            refine r_ic (x := (-10)) rfl rfl ?_
            refine r_iload rfl rfl ?_
            refine r_isub rfl ?_
            refine WR_tI (y := (-14)) rfl ?_
            refine r_cv (y := 154) (ra := [.int (-14)]) (rest := []) rfl ⟨⟨rfl, rfl⟩, rfl, by decide⟩ (fx_t30 fx) rfl rfl (Nat.le_of_ble_eq_true rfl) ?_
            refine in_154 (Nat.le_of_ble_eq_true rfl) ?_
            show WR _ cd_154 0 [some (.ref (ad 30)), some (.int (-14))] [] (sI (sI h (ad 0) 6 0) (ad 0) 6 (-14)) _
            refine r_aload rfl rfl ?_
            refine r_iload rfl rfl ?_
            refine r_ic (x := (-1)) rfl rfl ?_
            refine r_icmp_ge (tg := 10) rfl rfl (fun q => absurd q (by decide)) (fun _ => ?_)
            refine r_iload rfl rfl ?_
            refine r_goto (tg := 11) rfl rfl ?_
            refine r_putI rfl ⟨rfl, rfl, rfl⟩ (fx_t30 fx) ?_
            have fx : FX n ad sa z0 (sI (sI (sI h (ad 0) 6 0) (ad 0) 6 (-14)) (ad 30) 11 (-14)) := (FX.sI fx)
            refine r_iload rfl rfl ?_
            refine r_iret rfl ?_
            show WR _ cd_156 8 [some (.ref (ad 30)), some (.int 4)] [.int (-14)] (sI (sI (sI h (ad 0) 6 0) (ad 0) 6 (-14)) (ad 30) 11 (-14)) _
            refine r_iret rfl ?_
            show WR _ cd_167 58 [some (.ref (ad 30)), some (.int c), some (.int l), some (.int i), some (.long b), none, some (.int 4)] [.int (-14)] (sI (sI (sI h (ad 0) 6 0) (ad 0) 6 (-14)) (ad 30) 11 (-14)) _
            refine r_iret rfl ?_
            exact ⟨rfl, Rel.why r (((Chg.rf.sI (fx_j fx) (.inl (by decide))).sI (fx_j fx) (.inl (by decide))).sI (fx_j fx) (.inl (by decide))) ⟨rfl, by decide⟩ (Eq.trans (Eq.trans (I_ne (fx_ne fx (by decide))) I_eq) (Eq.symm I_eq)), (by (try simp only [hZ_sI, hZ_sL, hZ_sD, hZ_sR]); omega), (by (try simp only [hU_sI, hU_sL, hU_sD, hU_sR]); omega)⟩
          · refine r_aaloadA (b := mid t7) rfl (isQ_of (fx_t1 fx) (by decide)) (vp_ct (fx_n1 fx) (vp_in_nI (by have := i_nlt c1; have := i_rg c; have : (0 : Int32).toInt = 0 := rfl; have := i_eq ek2; have : (nI k2).toInt = ((k2 : Nat) : Int) := nI_toInt (by omega); have := i_nle c3; have : (24 : Int32).toInt = 24 := rfl; omega) (by omega))) (Eq.trans (congrArg (hR (sI h (ad 0) 6 0) (ad 1)) ((nI_clamp (by have := i_nlt c1; have := i_rg c; have : (0 : Int32).toInt = 0 := rfl; have := i_eq ek2; have : (nI k2).toInt = ((k2 : Nat) : Int) := nI_toInt (by omega); have := i_nle c3; have : (24 : Int32).toInt = 24 := rfl; omega)) : _ = k2)) (Eq.trans R_oI w7)) ?_
            refine r_astore (lv' := [some (.ref (ad 0)), some (.int (nI k2)), some (.int (nI k5)), some (.ref (mid t7)), none]) rfl (Nat.le_of_ble_eq_true rfl) rfl ?_
            refine r_aload rfl rfl ?_
            refine r_instW rfl (by decide) tg7 (by decide) ?_
            refine r_if_eq (tg := 32) rfl rfl (fun _ => ?_) (fun q => absurd q (by decide))
            refine r_aload rfl rfl ?_
            refine r_aload rfl rfl ?_
            refine r_ifnonnullA (tg := 42) rfl rfl ?_
            refine r_ic (x := (-14)) rfl rfl ?_
            refine r_putI rfl ⟨rfl, rfl, rfl⟩ (fx_t0 fx) ?_
            have fx : FX n ad sa z0 (sI (sI h (ad 0) 6 0) (ad 0) 6 (-14)) := (FX.sI fx)
            refine r_null rfl ?_
            refine r_aret0 rfl ?_
            show WR _ cd_30 36 [some (.ref (ad 0)), some (.int c), some (.int l), some (.int i), none] [.null] (sI (sI h (ad 0) 6 0) (ad 0) 6 (-14)) _
            refine r_astore0 (lv' := [some (.ref (ad 0)), some (.int c), some (.int l), some (.int i), some (.null)]) rfl (Nat.le_of_ble_eq_true rfl) rfl ?_
            refine r_aload0 rfl rfl ?_
            refine r_ifnullN (tg := 61) rfl rfl ?_
            refine r_aload0 rfl rfl ?_
            refine r_aret0 rfl ?_
            show WR _ cd_29 12 [some (.ref (ad 0)), some (.int c), some (.int l), some (.int i), some (.long b), none, none] [.null] (sI (sI h (ad 0) 6 0) (ad 0) 6 (-14)) _
            refine r_astore0 (lv' := [some (.ref (ad 0)), some (.int c), some (.int l), some (.int i), some (.long b), none, some (.null)]) rfl (Nat.le_of_ble_eq_true rfl) rfl ?_
            refine r_aload0 rfl rfl ?_
            refine r_ifnonnullN (tg := 24) rfl rfl ?_
            refine r_aload rfl rfl ?_
            refine r_getI rfl ⟨rfl, rfl, rfl⟩ (fx_t0 fx) ?_
            refine WR_tI (y := (-14)) I_eq ?_
            refine r_iret rfl ?_
            show EV _ 167 [.ref (ad 30), .int c, .int l, .int i, .long b] (sI (sI h (ad 0) 6 0) (ad 0) 6 (-14)) _
            refine in_167 (Nat.le_of_ble_eq_true rfl) ?_
            show WR _ cd_167 0 [some (.ref (ad 30)), some (.int c), some (.int l), some (.int i), some (.long b), none, none] [] (sI (sI h (ad 0) 6 0) (ad 0) 6 (-14)) _
            refine r_iload rfl rfl ?_
            refine WR_tI (y := nI k2) ek2 ?_
            refine r_cs (y := 153) (ra := [.int (nI k2)]) (rest := []) rfl ⟨⟨rfl, rfl⟩, by decide⟩ rfl rfl (Nat.le_of_ble_eq_true rfl) ?_
            refine in_153 (Nat.le_of_ble_eq_true rfl) ?_
            show WR _ cd_153 0 [some (.int (nI k2))] [] (sI (sI h (ad 0) 6 0) (ad 0) 6 (-14)) _
            refine r_iload rfl rfl ?_
            refine r_if_lt (tg := 14) rfl rfl (fun q => False.elim (by have := i_nlt c1; have := i_rg c; have : (0 : Int32).toInt = 0 := rfl; have := i_eq ek2; have : (nI k2).toInt = ((k2 : Nat) : Int) := nI_toInt (by omega); have := i_nle c3; have : (24 : Int32).toInt = 24 := rfl; have := i_lt q; omega)) (fun _ => ?_)
            refine r_iload rfl rfl ?_
            refine r_ic (x := 24) rfl rfl ?_
            refine r_icmp_ge (tg := 14) rfl rfl (fun q => False.elim (by have := i_nlt c1; have := i_rg c; have : (0 : Int32).toInt = 0 := rfl; have := i_eq ek2; have : (nI k2).toInt = ((k2 : Nat) : Int) := nI_toInt (by omega); have := i_nle c3; have : (24 : Int32).toInt = 24 := rfl; have := i_le q; omega)) (fun _ => ?_)
            refine r_ic (x := 1) rfl rfl ?_
            refine r_goto (tg := 15) rfl rfl ?_
            refine r_zret rfl (.inr rfl) ?_
            show WR _ cd_167 4 [some (.ref (ad 30)), some (.int c), some (.int l), some (.int i), some (.long b), none, none] [.int 1] (sI (sI h (ad 0) 6 0) (ad 0) 6 (-14)) _
            refine r_if_ne (tg := 14) rfl rfl (fun _ => ?_) (fun q => absurd q (by decide))
            refine r_iload rfl rfl ?_
            refine WR_tI (y := nI k5) ek5 ?_
            refine r_i2l rfl ?_
            refine WR_tL (y := lN k5) (nI_l (by have := i_nlt c4; have := i_rg l; have : (0 : Int32).toInt = 0 := rfl; have := i_eq ek5; have : (nI k5).toInt = ((k5 : Nat) : Int) := nI_toInt (by omega); have := i_nle c6; have : (8 : Int32).toInt = 8 := rfl; omega)) ?_
            refine r_lc (x := 0) rfl rfl ?_
            refine r_ldc (x := .long 7) rfl rfl ?_
            refine r_cs (y := 155) (ra := [.long 7, .long 0, .long (lN k5)]) (rest := []) rfl ⟨⟨rfl, rfl⟩, by decide⟩ rfl rfl (Nat.le_of_ble_eq_true rfl) ?_
            refine in_155 (Nat.le_of_ble_eq_true rfl) ?_
            show WR _ cd_155 0 [some (.long (lN k5)), none, some (.long 0), none, some (.long 7), none] [] (sI (sI h (ad 0) 6 0) (ad 0) 6 (-14)) _
            refine r_lload rfl rfl ?_
            refine r_lload rfl rfl ?_
            refine r_lif_lt (tg := 17) rfl rfl rfl (fun q => False.elim (by have := i_nlt c4; have := i_rg l; have : (0 : Int32).toInt = 0 := rfl; have := i_eq ek5; have : (nI k5).toInt = ((k5 : Nat) : Int) := nI_toInt (by omega); have := i_nle c6; have : (8 : Int32).toInt = 8 := rfl; have : (lN k5).toInt = ((k5 : Nat) : Int) := lN_toInt (by omega); have : (0 : Int64).toInt = 0 := rfl; have := l_lt q; omega)) (fun _ => ?_)
            refine r_lload rfl rfl ?_
            refine r_lload rfl rfl ?_
            refine r_lif_gt (tg := 17) rfl rfl rfl (fun q => False.elim (by have := i_nlt c4; have := i_rg l; have : (0 : Int32).toInt = 0 := rfl; have := i_eq ek5; have : (nI k5).toInt = ((k5 : Nat) : Int) := nI_toInt (by omega); have := i_nle c6; have : (8 : Int32).toInt = 8 := rfl; have : (lN k5).toInt = ((k5 : Nat) : Int) := lN_toInt (by omega); have : (7 : Int64).toInt = 7 := rfl; have := l_lt q; omega)) (fun _ => ?_)
            refine r_ic (x := 1) rfl rfl ?_
            refine r_goto (tg := 18) rfl rfl ?_
            refine r_zret rfl (.inr rfl) ?_
            show WR _ cd_167 23 [some (.ref (ad 30)), some (.int c), some (.int l), some (.int i), some (.long b), none, none] [.int 1] (sI (sI h (ad 0) 6 0) (ad 0) 6 (-14)) _
            refine r_if_ne (tg := 33) rfl rfl (fun _ => ?_) (fun q => absurd q (by decide))
            refine r_aload rfl rfl ?_
            refine r_aload rfl rfl ?_
            refine r_getA (b := ad 31) rfl ⟨rfl, rfl, rfl⟩ (fx_t30 fx) (fx_r30_0 fx) ?_
            refine r_iload rfl rfl ?_
            refine WR_tI (y := nI k2) ek2 ?_
            refine r_iaload rfl (.inl (fx_t31 fx)) (vp_ct (fx_n31 fx) (vp_in_nI (by have := i_nlt c1; have := i_rg c; have : (0 : Int32).toInt = 0 := rfl; have := i_eq ek2; have : (nI k2).toInt = ((k2 : Nat) : Int) := nI_toInt (by omega); have := i_nle c3; have : (24 : Int32).toInt = 24 := rfl; omega) (by omega))) ?_
            refine WR_tI (congrArg (hI (sI (sI h (ad 0) 6 0) (ad 0) 6 (-14)) (ad 31)) ((nI_clamp (by have := i_nlt c1; have := i_rg c; have : (0 : Int32).toInt = 0 := rfl; have := i_eq ek2; have : (nI k2).toInt = ((k2 : Nat) : Int) := nI_toInt (by omega); have := i_nle c3; have : (24 : Int32).toInt = 24 := rfl; omega)) : _ = k2)) ?_
            refine WR_tI (y := nI t7) (Eq.trans (I_ne (fx_ne fx (by decide))) (Eq.trans (I_ne (fx_ne fx (by decide))) v7)) ?_
            refine r_iload rfl rfl ?_
            refine WR_tI (y := nI k5) ek5 ?_
            refine r_iload rfl rfl ?_
            refine r_cv (y := 168) (ra := [.int i, .int (nI k5), .int (nI t7)]) (rest := []) rfl ⟨⟨rfl, rfl⟩, rfl, by decide⟩ (fx_t30 fx) rfl rfl (Nat.le_of_ble_eq_true rfl) ?_
            refine in_168 (Nat.le_of_ble_eq_true rfl) ?_
            show WR _ cd_168 0 [some (.ref (ad 30)), some (.int (nI t7)), some (.int (nI k5)), some (.int i)] [] (sI (sI h (ad 0) 6 0) (ad 0) 6 (-14)) _
            refine r_iload rfl rfl ?_
            refine r_ic (x := (-1)) rfl rfl ?_
            refine r_icmp_eq (tg := 18) rfl rfl (fun q => False.elim (by have : (nI t7).toInt = ((t7 : Nat) : Int) := nI_toInt (by omega); have : (-1 : Int32).toInt = -1 := rfl; have := i_eq q; omega)) (fun _ => ?_)
            refine r_aload rfl rfl ?_
            refine r_iload rfl rfl ?_
            refine r_cv (y := 166) (ra := [.int (nI t7)]) (rest := []) rfl ⟨⟨rfl, rfl⟩, rfl, by decide⟩ (fx_t30 fx) rfl rfl (Nat.le_of_ble_eq_true rfl) ?_
            refine in_166 (Nat.le_of_ble_eq_true rfl) ?_
            show WR _ cd_166 0 [some (.ref (ad 30)), some (.int (nI t7))] [] (sI (sI h (ad 0) 6 0) (ad 0) 6 (-14)) _
            refine r_iload rfl rfl ?_
            refine r_ic (x := (-1)) rfl rfl ?_
            refine r_icmp_ne (tg := 9) rfl rfl (fun _ => ?_) (fun q => False.elim (by have : (nI t7).toInt = ((t7 : Nat) : Int) := nI_toInt (by omega); have : (-1 : Int32).toInt = -1 := rfl; have := i_eq q; omega))
            refine r_iload rfl rfl ?_
            refine r_ic (x := 1000) rfl rfl ?_
            refine r_icmp_lt (tg := 21) rfl rfl (fun _ => ?_) (fun q => False.elim (by have : (nI t7).toInt = ((t7 : Nat) : Int) := nI_toInt (by omega); have : (1000 : Int32).toInt = 1000 := rfl; have := i_nlt q; omega))
            refine r_aload rfl rfl ?_
            refine r_getA (b := ad 33) rfl ⟨rfl, rfl, rfl⟩ (fx_t30 fx) (fx_r30_2 fx) ?_
            refine r_iload rfl rfl ?_
            refine r_iaload rfl (.inl (fx_t33 fx)) (vp_ct (fx_n33 fx) (vp_in_nI (by omega) (by omega))) ?_
            refine WR_tI (congrArg (hI (sI (sI h (ad 0) 6 0) (ad 0) 6 (-14)) (ad 33)) ((nI_clamp (by omega)) : _ = t7)) ?_
            refine WR_tI (y := 9) (Eq.trans (I_ne (fx_ne fx (by decide))) (Eq.trans (I_ne (fx_ne fx (by decide))) l2_7)) ?_
            refine r_iret rfl ?_
            show WR _ cd_168 10 [some (.ref (ad 30)), some (.int (nI t7)), some (.int (nI k5)), some (.int i)] [.int 9] (sI (sI h (ad 0) 6 0) (ad 0) 6 (-14)) _
            refine r_iload rfl rfl ?_
            refine r_icmp_eq (tg := 18) rfl rfl (fun q => False.elim (by have := i_nlt c4; have := i_rg l; have : (0 : Int32).toInt = 0 := rfl; have := i_eq ek5; have : (nI k5).toInt = ((k5 : Nat) : Int) := nI_toInt (by omega); have := i_nle c6; have : (8 : Int32).toInt = 8 := rfl; have : (9 : Int32).toInt = 9 := rfl; have := i_eq q; omega)) (fun _ => ?_)
            refine r_ic (x := 4) rfl rfl ?_
            refine r_goto (tg := 50) rfl rfl ?_
            refine r_iret rfl ?_
            show WR _ cd_167 45 [some (.ref (ad 30)), some (.int c), some (.int l), some (.int i), some (.long b), none, none] [.int 4] (sI (sI h (ad 0) 6 0) (ad 0) 6 (-14)) _
            refine r_istore (lv' := [some (.ref (ad 30)), some (.int c), some (.int l), some (.int i), some (.long b), none, some (.int 4)]) rfl (Nat.le_of_ble_eq_true rfl) rfl ?_
            refine r_iload rfl rfl ?_
            refine r_if_le (tg := 59) rfl rfl (fun q => absurd q (by decide)) (fun _ => ?_)
            refine r_aload rfl rfl ?_
            refine r_iload rfl rfl ?_
            refine r_cv (y := 156) (ra := [.int 4]) (rest := []) rfl ⟨⟨rfl, rfl⟩, rfl, by decide⟩ (fx_t30 fx) rfl rfl (Nat.le_of_ble_eq_true rfl) ?_
            refine in_156 (Nat.le_of_ble_eq_true rfl) ?_
            show WR _ cd_156 0 [some (.ref (ad 30)), some (.int 4)] [] (sI (sI h (ad 0) 6 0) (ad 0) 6 (-14)) _
            refine r_aload rfl rfl ?_
            refine r_ic (x := (-10)) rfl rfl ?_
            refine r_iload rfl rfl ?_
            refine r_isub rfl ?_
            refine WR_tI (y := (-14)) rfl ?_
            refine r_cv (y := 154) (ra := [.int (-14)]) (rest := []) rfl ⟨⟨rfl, rfl⟩, rfl, by decide⟩ (fx_t30 fx) rfl rfl (Nat.le_of_ble_eq_true rfl) ?_
            refine in_154 (Nat.le_of_ble_eq_true rfl) ?_
            show WR _ cd_154 0 [some (.ref (ad 30)), some (.int (-14))] [] (sI (sI h (ad 0) 6 0) (ad 0) 6 (-14)) _
            refine r_aload rfl rfl ?_
            refine r_iload rfl rfl ?_
            refine r_ic (x := (-1)) rfl rfl ?_
            refine r_icmp_ge (tg := 10) rfl rfl (fun q => absurd q (by decide)) (fun _ => ?_)
            refine r_iload rfl rfl ?_
            refine r_goto (tg := 11) rfl rfl ?_
            refine r_putI rfl ⟨rfl, rfl, rfl⟩ (fx_t30 fx) ?_
            have fx : FX n ad sa z0 (sI (sI (sI h (ad 0) 6 0) (ad 0) 6 (-14)) (ad 30) 11 (-14)) := (FX.sI fx)
            refine r_iload rfl rfl ?_
            refine r_iret rfl ?_
            show WR _ cd_156 8 [some (.ref (ad 30)), some (.int 4)] [.int (-14)] (sI (sI (sI h (ad 0) 6 0) (ad 0) 6 (-14)) (ad 30) 11 (-14)) _
            refine r_iret rfl ?_
            show WR _ cd_167 58 [some (.ref (ad 30)), some (.int c), some (.int l), some (.int i), some (.long b), none, some (.int 4)] [.int (-14)] (sI (sI (sI h (ad 0) 6 0) (ad 0) 6 (-14)) (ad 30) 11 (-14)) _
            refine r_iret rfl ?_
            exact ⟨rfl, Rel.why r (((Chg.rf.sI (fx_j fx) (.inl (by decide))).sI (fx_j fx) (.inl (by decide))).sI (fx_j fx) (.inl (by decide))) ⟨rfl, by decide⟩ (Eq.trans (Eq.trans (I_ne (fx_ne fx (by decide))) I_eq) (Eq.symm I_eq)), (by (try simp only [hZ_sI, hZ_sL, hZ_sD, hZ_sR]); omega), (by (try simp only [hU_sI, hU_sL, hU_sD, hU_sR]); omega)⟩

set_option maxHeartbeats 10000000 in
theorem k_place {n : Nat} {ad sa : Nat → Nat} {z0 : Nat} {h : mH} (r : Rel n ad sa z0 h) (t : Int32) (x : Int32) (y : Int32) : AP n ad sa z0 h 121 226 [.int t, .int x, .int y] := by
  obtain ⟨mid, pa, np, fx, ry, rt, ra, rp, rf, rst, ru, rs⟩ := id r
  have fx0 := fx
  have hn_ := fx_k fx
  unfold AP
  refine in_121 (Nat.le_of_ble_eq_true rfl) ?_
  show WR _ cd_121 0 [some (.ref (ad 0)), some (.int t), some (.int x), some (.int y)] [] h _
  refine r_aload rfl rfl ?_
  refine r_ic (x := 0) rfl rfl ?_
  refine r_putI rfl ⟨rfl, rfl, rfl⟩ (fx_t0 fx) ?_
  have fx : FX n ad sa z0 (sI h (ad 0) 6 0) := (FX.sI fx)
  refine r_aload rfl rfl ?_
  refine r_iload rfl rfl ?_
  refine r_cv (y := 95) (ra := [.int t]) (rest := []) rfl ⟨⟨rfl, rfl⟩, rfl, by decide⟩ (fx_t0 fx) rfl rfl (Nat.le_of_ble_eq_true rfl) ?_
  refine in_95 (Nat.le_of_ble_eq_true rfl) ?_
  show WR _ cd_95 0 [some (.ref (ad 0)), some (.int t)] [] (sI h (ad 0) 6 0) _
  refine r_iload rfl rfl ?_
  refine r_if_lt (tg := 20) rfl rfl (fun c1 => ?_) (fun c1 => ?_)
  · refine r_ic (x := 0) rfl rfl ?_
    refine r_zret rfl (.inl rfl) ?_
    show WR _ cd_121 10 [some (.ref (ad 0)), some (.int t), some (.int x), some (.int y)] [.int 0] (sI h (ad 0) 6 0) _
    refine r_if_ne (tg := 20) rfl rfl (fun q => absurd q (by decide)) (fun _ => ?_)
    refine r_aload rfl rfl ?_
    refine r_ic (x := (-2)) rfl rfl ?_
    refine r_cv (y := 13) (ra := [.int (-2)]) (rest := []) rfl ⟨⟨rfl, rfl⟩, rfl, by decide⟩ (fx_t0 fx) rfl rfl (Nat.le_of_ble_eq_true rfl) ?_
    refine in_13 (Nat.le_of_ble_eq_true rfl) ?_
    show WR _ cd_13 0 [some (.ref (ad 0)), some (.int (-2))] [] (sI h (ad 0) 6 0) _
    refine r_aload rfl rfl ?_
    refine r_iload rfl rfl ?_
    refine r_putI rfl ⟨rfl, rfl, rfl⟩ (fx_t0 fx) ?_
    have fx : FX n ad sa z0 (sI (sI h (ad 0) 6 0) (ad 0) 6 (-2)) := (FX.sI fx)
    refine r_iload rfl rfl ?_
    refine r_iret rfl ?_
    show WR _ cd_121 19 [some (.ref (ad 0)), some (.int t), some (.int x), some (.int y)] [.int (-2)] (sI (sI h (ad 0) 6 0) (ad 0) 6 (-2)) _
    refine r_iret rfl ?_
    show EV _ 226 [.ref (ad 30), .int t, .int x, .int y] (sI (sI h (ad 0) 6 0) (ad 0) 6 (-2)) _
    refine in_226 (Nat.le_of_ble_eq_true rfl) ?_
    show WR _ cd_226 0 [some (.ref (ad 30)), some (.int t), some (.int x), some (.int y)] [] (sI (sI h (ad 0) 6 0) (ad 0) 6 (-2)) _
    refine r_aload rfl rfl ?_
    refine r_iload rfl rfl ?_
    refine r_cv (y := 206) (ra := [.int t]) (rest := []) rfl ⟨⟨rfl, rfl⟩, rfl, by decide⟩ (fx_t30 fx) rfl rfl (Nat.le_of_ble_eq_true rfl) ?_
    refine in_206 (Nat.le_of_ble_eq_true rfl) ?_
    show WR _ cd_206 0 [some (.ref (ad 30)), some (.int t)] [] (sI (sI h (ad 0) 6 0) (ad 0) 6 (-2)) _
    refine r_iload rfl rfl ?_
    refine r_if_lt (tg := 16) rfl rfl (fun _ => ?_) (fun q => False.elim (by have := i_lt c1; have := i_rg t; have : (0 : Int32).toInt = 0 := rfl; have := i_nlt q; omega))
    refine r_ic (x := 0) rfl rfl ?_
    refine r_zret rfl (.inl rfl) ?_
    show WR _ cd_226 5 [some (.ref (ad 30)), some (.int t), some (.int x), some (.int y)] [.int 0] (sI (sI h (ad 0) 6 0) (ad 0) 6 (-2)) _
    refine r_if_ne (tg := 15) rfl rfl (fun q => absurd q (by decide)) (fun _ => ?_)
    refine r_aload rfl rfl ?_
    refine r_ic (x := (-2)) rfl rfl ?_
    refine r_cv (y := 154) (ra := [.int (-2)]) (rest := []) rfl ⟨⟨rfl, rfl⟩, rfl, by decide⟩ (fx_t30 fx) rfl rfl (Nat.le_of_ble_eq_true rfl) ?_
    refine in_154 (Nat.le_of_ble_eq_true rfl) ?_
    show WR _ cd_154 0 [some (.ref (ad 30)), some (.int (-2))] [] (sI (sI h (ad 0) 6 0) (ad 0) 6 (-2)) _
    refine r_aload rfl rfl ?_
    refine r_iload rfl rfl ?_
    refine r_ic (x := (-1)) rfl rfl ?_
    refine r_icmp_ge (tg := 10) rfl rfl (fun q => absurd q (by decide)) (fun _ => ?_)
    refine r_iload rfl rfl ?_
    refine r_goto (tg := 11) rfl rfl ?_
    refine r_putI rfl ⟨rfl, rfl, rfl⟩ (fx_t30 fx) ?_
    have fx : FX n ad sa z0 (sI (sI (sI h (ad 0) 6 0) (ad 0) 6 (-2)) (ad 30) 11 (-2)) := (FX.sI fx)
    refine r_iload rfl rfl ?_
    refine r_iret rfl ?_
    show WR _ cd_226 14 [some (.ref (ad 30)), some (.int t), some (.int x), some (.int y)] [.int (-2)] (sI (sI (sI h (ad 0) 6 0) (ad 0) 6 (-2)) (ad 30) 11 (-2)) _
    refine r_iret rfl ?_
    exact ⟨rfl, Rel.why r (((Chg.rf.sI (fx_j fx) (.inl (by decide))).sI (fx_j fx) (.inl (by decide))).sI (fx_j fx) (.inl (by decide))) ⟨rfl, by decide⟩ (Eq.trans (Eq.trans (I_ne (fx_ne fx (by decide))) I_eq) (Eq.symm I_eq)), (by (try simp only [hZ_sI, hZ_sL, hZ_sD, hZ_sR]); omega), (by (try simp only [hU_sI, hU_sL, hU_sD, hU_sR]); omega)⟩
  · obtain ⟨k2, hk2, ek2⟩ := ix_of (x := t) (n := 2147483648) (by have := i_nlt c1; have := i_rg t; have : (0 : Int32).toInt = 0 := rfl; omega) (by have := i_nlt c1; have := i_rg t; have : (0 : Int32).toInt = 0 := rfl; omega)
    refine r_iload rfl rfl ?_
    refine WR_tI (y := nI k2) ek2 ?_
    refine r_aload rfl rfl ?_
    refine r_getA (b := ad 4) rfl ⟨rfl, rfl, rfl⟩ (fx_t0 fx) (fx_r0_2 fx) ?_
    refine r_getA (b := ad 7) rfl ⟨rfl, rfl, rfl⟩ (fx_t4 fx) (fx_r4_0 fx) ?_
    refine r_alen rfl (isA_of (fx_t7 fx) (by decide)) ?_
    refine WR_tI (y := nI n) (congrArg nI (fx_n7 fx)) ?_
    refine r_icmp_ge (tg := 20) rfl rfl (fun c3 => ?_) (fun c3 => ?_)
    · refine r_ic (x := 0) rfl rfl ?_
      refine r_zret rfl (.inl rfl) ?_
      show WR _ cd_121 10 [some (.ref (ad 0)), some (.int t), some (.int x), some (.int y)] [.int 0] (sI h (ad 0) 6 0) _
      refine r_if_ne (tg := 20) rfl rfl (fun q => absurd q (by decide)) (fun _ => ?_)
      refine r_aload rfl rfl ?_
      refine r_ic (x := (-2)) rfl rfl ?_
      refine r_cv (y := 13) (ra := [.int (-2)]) (rest := []) rfl ⟨⟨rfl, rfl⟩, rfl, by decide⟩ (fx_t0 fx) rfl rfl (Nat.le_of_ble_eq_true rfl) ?_
      refine in_13 (Nat.le_of_ble_eq_true rfl) ?_
      show WR _ cd_13 0 [some (.ref (ad 0)), some (.int (-2))] [] (sI h (ad 0) 6 0) _
      refine r_aload rfl rfl ?_
      refine r_iload rfl rfl ?_
      refine r_putI rfl ⟨rfl, rfl, rfl⟩ (fx_t0 fx) ?_
      have fx : FX n ad sa z0 (sI (sI h (ad 0) 6 0) (ad 0) 6 (-2)) := (FX.sI fx)
      refine r_iload rfl rfl ?_
      refine r_iret rfl ?_
      show WR _ cd_121 19 [some (.ref (ad 0)), some (.int t), some (.int x), some (.int y)] [.int (-2)] (sI (sI h (ad 0) 6 0) (ad 0) 6 (-2)) _
      refine r_iret rfl ?_
      show EV _ 226 [.ref (ad 30), .int t, .int x, .int y] (sI (sI h (ad 0) 6 0) (ad 0) 6 (-2)) _
      refine in_226 (Nat.le_of_ble_eq_true rfl) ?_
      show WR _ cd_226 0 [some (.ref (ad 30)), some (.int t), some (.int x), some (.int y)] [] (sI (sI h (ad 0) 6 0) (ad 0) 6 (-2)) _
      refine r_aload rfl rfl ?_
      refine r_iload rfl rfl ?_
      refine WR_tI (y := nI k2) ek2 ?_
      refine r_cv (y := 206) (ra := [.int (nI k2)]) (rest := []) rfl ⟨⟨rfl, rfl⟩, rfl, by decide⟩ (fx_t30 fx) rfl rfl (Nat.le_of_ble_eq_true rfl) ?_
      refine in_206 (Nat.le_of_ble_eq_true rfl) ?_
      show WR _ cd_206 0 [some (.ref (ad 30)), some (.int (nI k2))] [] (sI (sI h (ad 0) 6 0) (ad 0) 6 (-2)) _
      refine r_iload rfl rfl ?_
      refine r_if_lt (tg := 16) rfl rfl (fun q => False.elim (by have := i_nlt c1; have := i_rg t; have : (0 : Int32).toInt = 0 := rfl; have := i_eq ek2; have : (nI k2).toInt = ((k2 : Nat) : Int) := nI_toInt (by omega); have := i_le c3; have : (nI n).toInt = ((n : Nat) : Int) := nI_toInt (by omega); have := i_lt q; omega)) (fun _ => ?_)
      refine r_iload rfl rfl ?_
      refine r_aload rfl rfl ?_
      refine r_getI rfl ⟨rfl, rfl, rfl⟩ (fx_t30 fx) ?_
      refine WR_tI (y := nI n) (Eq.trans (I_ne (fx_ne fx (by decide))) (Eq.trans (I_ne (fx_ne fx (by decide))) ru.1)) ?_
      refine r_icmp_ge (tg := 16) rfl rfl (fun _ => ?_) (fun q => False.elim (by have := i_nlt c1; have := i_rg t; have : (0 : Int32).toInt = 0 := rfl; have := i_eq ek2; have : (nI k2).toInt = ((k2 : Nat) : Int) := nI_toInt (by omega); have := i_le c3; have : (nI n).toInt = ((n : Nat) : Int) := nI_toInt (by omega); have := i_nle q; omega))
      refine r_ic (x := 0) rfl rfl ?_
      refine r_zret rfl (.inl rfl) ?_
      show WR _ cd_226 5 [some (.ref (ad 30)), some (.int t), some (.int x), some (.int y)] [.int 0] (sI (sI h (ad 0) 6 0) (ad 0) 6 (-2)) _
      refine r_if_ne (tg := 15) rfl rfl (fun q => absurd q (by decide)) (fun _ => ?_)
      refine r_aload rfl rfl ?_
      refine r_ic (x := (-2)) rfl rfl ?_
      refine r_cv (y := 154) (ra := [.int (-2)]) (rest := []) rfl ⟨⟨rfl, rfl⟩, rfl, by decide⟩ (fx_t30 fx) rfl rfl (Nat.le_of_ble_eq_true rfl) ?_
      refine in_154 (Nat.le_of_ble_eq_true rfl) ?_
      show WR _ cd_154 0 [some (.ref (ad 30)), some (.int (-2))] [] (sI (sI h (ad 0) 6 0) (ad 0) 6 (-2)) _
      refine r_aload rfl rfl ?_
      refine r_iload rfl rfl ?_
      refine r_ic (x := (-1)) rfl rfl ?_
      refine r_icmp_ge (tg := 10) rfl rfl (fun q => absurd q (by decide)) (fun _ => ?_)
      refine r_iload rfl rfl ?_
      refine r_goto (tg := 11) rfl rfl ?_
      refine r_putI rfl ⟨rfl, rfl, rfl⟩ (fx_t30 fx) ?_
      have fx : FX n ad sa z0 (sI (sI (sI h (ad 0) 6 0) (ad 0) 6 (-2)) (ad 30) 11 (-2)) := (FX.sI fx)
      refine r_iload rfl rfl ?_
      refine r_iret rfl ?_
      show WR _ cd_226 14 [some (.ref (ad 30)), some (.int t), some (.int x), some (.int y)] [.int (-2)] (sI (sI (sI h (ad 0) 6 0) (ad 0) 6 (-2)) (ad 30) 11 (-2)) _
      refine r_iret rfl ?_
      exact ⟨rfl, Rel.why r (((Chg.rf.sI (fx_j fx) (.inl (by decide))).sI (fx_j fx) (.inl (by decide))).sI (fx_j fx) (.inl (by decide))) ⟨rfl, by decide⟩ (Eq.trans (Eq.trans (I_ne (fx_ne fx (by decide))) I_eq) (Eq.symm I_eq)), (by (try simp only [hZ_sI, hZ_sL, hZ_sD, hZ_sR]); omega), (by (try simp only [hU_sI, hU_sL, hU_sD, hU_sR]); omega)⟩
    · refine r_ic (x := 1) rfl rfl ?_
      refine r_goto (tg := 21) rfl rfl ?_
      refine r_zret rfl (.inr rfl) ?_
      show WR _ cd_121 10 [some (.ref (ad 0)), some (.int t), some (.int x), some (.int y)] [.int 1] (sI h (ad 0) 6 0) _
      refine r_if_ne (tg := 20) rfl rfl (fun _ => ?_) (fun q => absurd q (by decide))
      refine r_iload rfl rfl ?_
      refine r_ic (x := (-100)) rfl rfl ?_
      refine r_icmp_lt (tg := 44) rfl rfl (fun c4 => ?_) (fun c4 => ?_)
      · refine r_aload rfl rfl ?_
        refine r_ic (x := (-3)) rfl rfl ?_
        refine r_cv (y := 13) (ra := [.int (-3)]) (rest := []) rfl ⟨⟨rfl, rfl⟩, rfl, by decide⟩ (fx_t0 fx) rfl rfl (Nat.le_of_ble_eq_true rfl) ?_
        refine in_13 (Nat.le_of_ble_eq_true rfl) ?_
        show WR _ cd_13 0 [some (.ref (ad 0)), some (.int (-3))] [] (sI h (ad 0) 6 0) _
        refine r_aload rfl rfl ?_
        refine r_iload rfl rfl ?_
        refine r_putI rfl ⟨rfl, rfl, rfl⟩ (fx_t0 fx) ?_
        have fx : FX n ad sa z0 (sI (sI h (ad 0) 6 0) (ad 0) 6 (-3)) := (FX.sI fx)
        refine r_iload rfl rfl ?_
        refine r_iret rfl ?_
        show WR _ cd_121 50 [some (.ref (ad 0)), some (.int t), some (.int x), some (.int y)] [.int (-3)] (sI (sI h (ad 0) 6 0) (ad 0) 6 (-3)) _
        refine r_iret rfl ?_
        show EV _ 226 [.ref (ad 30), .int t, .int x, .int y] (sI (sI h (ad 0) 6 0) (ad 0) 6 (-3)) _
        refine in_226 (Nat.le_of_ble_eq_true rfl) ?_
        show WR _ cd_226 0 [some (.ref (ad 30)), some (.int t), some (.int x), some (.int y)] [] (sI (sI h (ad 0) 6 0) (ad 0) 6 (-3)) _
        refine r_aload rfl rfl ?_
        refine r_iload rfl rfl ?_
        refine WR_tI (y := nI k2) ek2 ?_
        refine r_cv (y := 206) (ra := [.int (nI k2)]) (rest := []) rfl ⟨⟨rfl, rfl⟩, rfl, by decide⟩ (fx_t30 fx) rfl rfl (Nat.le_of_ble_eq_true rfl) ?_
        refine in_206 (Nat.le_of_ble_eq_true rfl) ?_
        show WR _ cd_206 0 [some (.ref (ad 30)), some (.int (nI k2))] [] (sI (sI h (ad 0) 6 0) (ad 0) 6 (-3)) _
        refine r_iload rfl rfl ?_
        refine r_if_lt (tg := 16) rfl rfl (fun q => False.elim (by have := i_nlt c1; have := i_rg t; have : (0 : Int32).toInt = 0 := rfl; have := i_eq ek2; have : (nI k2).toInt = ((k2 : Nat) : Int) := nI_toInt (by omega); have := i_nle c3; have : (nI n).toInt = ((n : Nat) : Int) := nI_toInt (by omega); have := i_lt q; omega)) (fun _ => ?_)
        refine r_iload rfl rfl ?_
        refine r_aload rfl rfl ?_
        refine r_getI rfl ⟨rfl, rfl, rfl⟩ (fx_t30 fx) ?_
        refine WR_tI (y := nI n) (Eq.trans (I_ne (fx_ne fx (by decide))) (Eq.trans (I_ne (fx_ne fx (by decide))) ru.1)) ?_
        refine r_icmp_ge (tg := 16) rfl rfl (fun q => False.elim (by have := i_nlt c1; have := i_rg t; have : (0 : Int32).toInt = 0 := rfl; have := i_eq ek2; have : (nI k2).toInt = ((k2 : Nat) : Int) := nI_toInt (by omega); have := i_nle c3; have : (nI n).toInt = ((n : Nat) : Int) := nI_toInt (by omega); have := i_le q; omega)) (fun _ => ?_)
        refine r_ic (x := 1) rfl rfl ?_
        refine r_goto (tg := 17) rfl rfl ?_
        refine r_zret rfl (.inr rfl) ?_
        show WR _ cd_226 5 [some (.ref (ad 30)), some (.int t), some (.int x), some (.int y)] [.int 1] (sI (sI h (ad 0) 6 0) (ad 0) 6 (-3)) _
        refine r_if_ne (tg := 15) rfl rfl (fun _ => ?_) (fun q => absurd q (by decide))
        refine r_iload rfl rfl ?_
        refine r_i2l rfl ?_
        refine r_ldc (x := .long (-100)) rfl rfl ?_
        refine r_ldc (x := .long 100) rfl rfl ?_
        refine r_cs (y := 155) (ra := [.long 100, .long (-100), .long x.toInt64]) (rest := []) rfl ⟨⟨rfl, rfl⟩, by decide⟩ rfl rfl (Nat.le_of_ble_eq_true rfl) ?_
        refine in_155 (Nat.le_of_ble_eq_true rfl) ?_
        show WR _ cd_155 0 [some (.long x.toInt64), none, some (.long (-100)), none, some (.long 100), none] [] (sI (sI h (ad 0) 6 0) (ad 0) 6 (-3)) _
        refine r_lload rfl rfl ?_
        refine r_lload rfl rfl ?_
        refine r_lif_lt (tg := 17) rfl rfl rfl (fun _ => ?_) (fun q => False.elim (by have := i_lt c4; have := i_rg x; have : (-100 : Int32).toInt = -100 := rfl; have := w_t x; have : (-100 : Int64).toInt = -100 := rfl; have := l_nlt q; omega))
        refine r_ic (x := 0) rfl rfl ?_
        refine r_zret rfl (.inl rfl) ?_
        show WR _ cd_226 26 [some (.ref (ad 30)), some (.int t), some (.int x), some (.int y)] [.int 0] (sI (sI h (ad 0) 6 0) (ad 0) 6 (-3)) _
        refine r_if_eq (tg := 43) rfl rfl (fun _ => ?_) (fun q => absurd q (by decide))
        refine r_aload rfl rfl ?_
        refine r_ic (x := (-3)) rfl rfl ?_
        refine r_cv (y := 154) (ra := [.int (-3)]) (rest := []) rfl ⟨⟨rfl, rfl⟩, rfl, by decide⟩ (fx_t30 fx) rfl rfl (Nat.le_of_ble_eq_true rfl) ?_
        refine in_154 (Nat.le_of_ble_eq_true rfl) ?_
        show WR _ cd_154 0 [some (.ref (ad 30)), some (.int (-3))] [] (sI (sI h (ad 0) 6 0) (ad 0) 6 (-3)) _
        refine r_aload rfl rfl ?_
        refine r_iload rfl rfl ?_
        refine r_ic (x := (-1)) rfl rfl ?_
        refine r_icmp_ge (tg := 10) rfl rfl (fun q => absurd q (by decide)) (fun _ => ?_)
        refine r_iload rfl rfl ?_
        refine r_goto (tg := 11) rfl rfl ?_
        refine r_putI rfl ⟨rfl, rfl, rfl⟩ (fx_t30 fx) ?_
        have fx : FX n ad sa z0 (sI (sI (sI h (ad 0) 6 0) (ad 0) 6 (-3)) (ad 30) 11 (-3)) := (FX.sI fx)
        refine r_iload rfl rfl ?_
        refine r_iret rfl ?_
        show WR _ cd_226 49 [some (.ref (ad 30)), some (.int t), some (.int x), some (.int y)] [.int (-3)] (sI (sI (sI h (ad 0) 6 0) (ad 0) 6 (-3)) (ad 30) 11 (-3)) _
        refine r_iret rfl ?_
        exact ⟨rfl, Rel.why r (((Chg.rf.sI (fx_j fx) (.inl (by decide))).sI (fx_j fx) (.inl (by decide))).sI (fx_j fx) (.inl (by decide))) ⟨rfl, by decide⟩ (Eq.trans (Eq.trans (I_ne (fx_ne fx (by decide))) I_eq) (Eq.symm I_eq)), (by (try simp only [hZ_sI, hZ_sL, hZ_sD, hZ_sR]); omega), (by (try simp only [hU_sI, hU_sL, hU_sD, hU_sR]); omega)⟩
      · refine r_iload rfl rfl ?_
        refine r_ic (x := 100) rfl rfl ?_
        refine r_icmp_gt (tg := 44) rfl rfl (fun c5 => ?_) (fun c5 => ?_)
        · refine r_aload rfl rfl ?_
          refine r_ic (x := (-3)) rfl rfl ?_
          refine r_cv (y := 13) (ra := [.int (-3)]) (rest := []) rfl ⟨⟨rfl, rfl⟩, rfl, by decide⟩ (fx_t0 fx) rfl rfl (Nat.le_of_ble_eq_true rfl) ?_
          refine in_13 (Nat.le_of_ble_eq_true rfl) ?_
          show WR _ cd_13 0 [some (.ref (ad 0)), some (.int (-3))] [] (sI h (ad 0) 6 0) _
          refine r_aload rfl rfl ?_
          refine r_iload rfl rfl ?_
          refine r_putI rfl ⟨rfl, rfl, rfl⟩ (fx_t0 fx) ?_
          have fx : FX n ad sa z0 (sI (sI h (ad 0) 6 0) (ad 0) 6 (-3)) := (FX.sI fx)
          refine r_iload rfl rfl ?_
          refine r_iret rfl ?_
          show WR _ cd_121 50 [some (.ref (ad 0)), some (.int t), some (.int x), some (.int y)] [.int (-3)] (sI (sI h (ad 0) 6 0) (ad 0) 6 (-3)) _
          refine r_iret rfl ?_
          show EV _ 226 [.ref (ad 30), .int t, .int x, .int y] (sI (sI h (ad 0) 6 0) (ad 0) 6 (-3)) _
          refine in_226 (Nat.le_of_ble_eq_true rfl) ?_
          show WR _ cd_226 0 [some (.ref (ad 30)), some (.int t), some (.int x), some (.int y)] [] (sI (sI h (ad 0) 6 0) (ad 0) 6 (-3)) _
          refine r_aload rfl rfl ?_
          refine r_iload rfl rfl ?_
          refine WR_tI (y := nI k2) ek2 ?_
          refine r_cv (y := 206) (ra := [.int (nI k2)]) (rest := []) rfl ⟨⟨rfl, rfl⟩, rfl, by decide⟩ (fx_t30 fx) rfl rfl (Nat.le_of_ble_eq_true rfl) ?_
          refine in_206 (Nat.le_of_ble_eq_true rfl) ?_
          show WR _ cd_206 0 [some (.ref (ad 30)), some (.int (nI k2))] [] (sI (sI h (ad 0) 6 0) (ad 0) 6 (-3)) _
          refine r_iload rfl rfl ?_
          refine r_if_lt (tg := 16) rfl rfl (fun q => False.elim (by have := i_nlt c1; have := i_rg t; have : (0 : Int32).toInt = 0 := rfl; have := i_eq ek2; have : (nI k2).toInt = ((k2 : Nat) : Int) := nI_toInt (by omega); have := i_nle c3; have : (nI n).toInt = ((n : Nat) : Int) := nI_toInt (by omega); have := i_lt q; omega)) (fun _ => ?_)
          refine r_iload rfl rfl ?_
          refine r_aload rfl rfl ?_
          refine r_getI rfl ⟨rfl, rfl, rfl⟩ (fx_t30 fx) ?_
          refine WR_tI (y := nI n) (Eq.trans (I_ne (fx_ne fx (by decide))) (Eq.trans (I_ne (fx_ne fx (by decide))) ru.1)) ?_
          refine r_icmp_ge (tg := 16) rfl rfl (fun q => False.elim (by have := i_nlt c1; have := i_rg t; have : (0 : Int32).toInt = 0 := rfl; have := i_eq ek2; have : (nI k2).toInt = ((k2 : Nat) : Int) := nI_toInt (by omega); have := i_nle c3; have : (nI n).toInt = ((n : Nat) : Int) := nI_toInt (by omega); have := i_le q; omega)) (fun _ => ?_)
          refine r_ic (x := 1) rfl rfl ?_
          refine r_goto (tg := 17) rfl rfl ?_
          refine r_zret rfl (.inr rfl) ?_
          show WR _ cd_226 5 [some (.ref (ad 30)), some (.int t), some (.int x), some (.int y)] [.int 1] (sI (sI h (ad 0) 6 0) (ad 0) 6 (-3)) _
          refine r_if_ne (tg := 15) rfl rfl (fun _ => ?_) (fun q => absurd q (by decide))
          obtain ⟨k6, hk6, ek6⟩ := ix_of (x := x) (n := 2147483648) (by have := i_nlt c4; have := i_rg x; have : (-100 : Int32).toInt = -100 := rfl; have := i_lt c5; have : (100 : Int32).toInt = 100 := rfl; omega) (by have := i_nlt c4; have := i_rg x; have : (-100 : Int32).toInt = -100 := rfl; have := i_lt c5; have : (100 : Int32).toInt = 100 := rfl; omega)
          refine r_iload rfl rfl ?_
          refine WR_tI (y := nI k6) ek6 ?_
          refine r_i2l rfl ?_
          refine WR_tL (y := lN k6) (nI_l (by have := i_nlt c4; have := i_rg x; have : (-100 : Int32).toInt = -100 := rfl; have := i_lt c5; have : (100 : Int32).toInt = 100 := rfl; have := i_eq ek6; have : (nI k6).toInt = ((k6 : Nat) : Int) := nI_toInt (by omega); omega)) ?_
          refine r_ldc (x := .long (-100)) rfl rfl ?_
          refine r_ldc (x := .long 100) rfl rfl ?_
          refine r_cs (y := 155) (ra := [.long 100, .long (-100), .long (lN k6)]) (rest := []) rfl ⟨⟨rfl, rfl⟩, by decide⟩ rfl rfl (Nat.le_of_ble_eq_true rfl) ?_
          refine in_155 (Nat.le_of_ble_eq_true rfl) ?_
          show WR _ cd_155 0 [some (.long (lN k6)), none, some (.long (-100)), none, some (.long 100), none] [] (sI (sI h (ad 0) 6 0) (ad 0) 6 (-3)) _
          refine r_lload rfl rfl ?_
          refine r_lload rfl rfl ?_
          refine r_lif_lt (tg := 17) rfl rfl rfl (fun q => False.elim (by have := i_nlt c4; have := i_rg x; have : (-100 : Int32).toInt = -100 := rfl; have := i_lt c5; have : (100 : Int32).toInt = 100 := rfl; have := i_eq ek6; have : (nI k6).toInt = ((k6 : Nat) : Int) := nI_toInt (by omega); have : (lN k6).toInt = ((k6 : Nat) : Int) := lN_toInt (by omega); have : (-100 : Int64).toInt = -100 := rfl; have := l_lt q; omega)) (fun _ => ?_)
          refine r_lload rfl rfl ?_
          refine r_lload rfl rfl ?_
          refine r_lif_gt (tg := 17) rfl rfl rfl (fun _ => ?_) (fun q => False.elim (by have := i_nlt c4; have := i_rg x; have : (-100 : Int32).toInt = -100 := rfl; have := i_lt c5; have : (100 : Int32).toInt = 100 := rfl; have := i_eq ek6; have : (nI k6).toInt = ((k6 : Nat) : Int) := nI_toInt (by omega); have : (lN k6).toInt = ((k6 : Nat) : Int) := lN_toInt (by omega); have : (100 : Int64).toInt = 100 := rfl; have := l_nlt q; omega))
          refine r_ic (x := 0) rfl rfl ?_
          refine r_zret rfl (.inl rfl) ?_
          show WR _ cd_226 26 [some (.ref (ad 30)), some (.int t), some (.int x), some (.int y)] [.int 0] (sI (sI h (ad 0) 6 0) (ad 0) 6 (-3)) _
          refine r_if_eq (tg := 43) rfl rfl (fun _ => ?_) (fun q => absurd q (by decide))
          refine r_aload rfl rfl ?_
          refine r_ic (x := (-3)) rfl rfl ?_
          refine r_cv (y := 154) (ra := [.int (-3)]) (rest := []) rfl ⟨⟨rfl, rfl⟩, rfl, by decide⟩ (fx_t30 fx) rfl rfl (Nat.le_of_ble_eq_true rfl) ?_
          refine in_154 (Nat.le_of_ble_eq_true rfl) ?_
          show WR _ cd_154 0 [some (.ref (ad 30)), some (.int (-3))] [] (sI (sI h (ad 0) 6 0) (ad 0) 6 (-3)) _
          refine r_aload rfl rfl ?_
          refine r_iload rfl rfl ?_
          refine r_ic (x := (-1)) rfl rfl ?_
          refine r_icmp_ge (tg := 10) rfl rfl (fun q => absurd q (by decide)) (fun _ => ?_)
          refine r_iload rfl rfl ?_
          refine r_goto (tg := 11) rfl rfl ?_
          refine r_putI rfl ⟨rfl, rfl, rfl⟩ (fx_t30 fx) ?_
          have fx : FX n ad sa z0 (sI (sI (sI h (ad 0) 6 0) (ad 0) 6 (-3)) (ad 30) 11 (-3)) := (FX.sI fx)
          refine r_iload rfl rfl ?_
          refine r_iret rfl ?_
          show WR _ cd_226 49 [some (.ref (ad 30)), some (.int t), some (.int x), some (.int y)] [.int (-3)] (sI (sI (sI h (ad 0) 6 0) (ad 0) 6 (-3)) (ad 30) 11 (-3)) _
          refine r_iret rfl ?_
          exact ⟨rfl, Rel.why r (((Chg.rf.sI (fx_j fx) (.inl (by decide))).sI (fx_j fx) (.inl (by decide))).sI (fx_j fx) (.inl (by decide))) ⟨rfl, by decide⟩ (Eq.trans (Eq.trans (I_ne (fx_ne fx (by decide))) I_eq) (Eq.symm I_eq)), (by (try simp only [hZ_sI, hZ_sL, hZ_sD, hZ_sR]); omega), (by (try simp only [hU_sI, hU_sL, hU_sD, hU_sR]); omega)⟩
        · refine r_iload rfl rfl ?_
          refine r_ic (x := (-100)) rfl rfl ?_
          refine r_icmp_lt (tg := 44) rfl rfl (fun c7 => ?_) (fun c7 => ?_)
          · refine r_aload rfl rfl ?_
            refine r_ic (x := (-3)) rfl rfl ?_
            refine r_cv (y := 13) (ra := [.int (-3)]) (rest := []) rfl ⟨⟨rfl, rfl⟩, rfl, by decide⟩ (fx_t0 fx) rfl rfl (Nat.le_of_ble_eq_true rfl) ?_
            refine in_13 (Nat.le_of_ble_eq_true rfl) ?_
            show WR _ cd_13 0 [some (.ref (ad 0)), some (.int (-3))] [] (sI h (ad 0) 6 0) _
            refine r_aload rfl rfl ?_
            refine r_iload rfl rfl ?_
            refine r_putI rfl ⟨rfl, rfl, rfl⟩ (fx_t0 fx) ?_
            have fx : FX n ad sa z0 (sI (sI h (ad 0) 6 0) (ad 0) 6 (-3)) := (FX.sI fx)
            refine r_iload rfl rfl ?_
            refine r_iret rfl ?_
            show WR _ cd_121 50 [some (.ref (ad 0)), some (.int t), some (.int x), some (.int y)] [.int (-3)] (sI (sI h (ad 0) 6 0) (ad 0) 6 (-3)) _
            refine r_iret rfl ?_
            show EV _ 226 [.ref (ad 30), .int t, .int x, .int y] (sI (sI h (ad 0) 6 0) (ad 0) 6 (-3)) _
            refine in_226 (Nat.le_of_ble_eq_true rfl) ?_
            show WR _ cd_226 0 [some (.ref (ad 30)), some (.int t), some (.int x), some (.int y)] [] (sI (sI h (ad 0) 6 0) (ad 0) 6 (-3)) _
            refine r_aload rfl rfl ?_
            refine r_iload rfl rfl ?_
            refine WR_tI (y := nI k2) ek2 ?_
            refine r_cv (y := 206) (ra := [.int (nI k2)]) (rest := []) rfl ⟨⟨rfl, rfl⟩, rfl, by decide⟩ (fx_t30 fx) rfl rfl (Nat.le_of_ble_eq_true rfl) ?_
            refine in_206 (Nat.le_of_ble_eq_true rfl) ?_
            show WR _ cd_206 0 [some (.ref (ad 30)), some (.int (nI k2))] [] (sI (sI h (ad 0) 6 0) (ad 0) 6 (-3)) _
            refine r_iload rfl rfl ?_
            refine r_if_lt (tg := 16) rfl rfl (fun q => False.elim (by have := i_nlt c1; have := i_rg t; have : (0 : Int32).toInt = 0 := rfl; have := i_eq ek2; have : (nI k2).toInt = ((k2 : Nat) : Int) := nI_toInt (by omega); have := i_nle c3; have : (nI n).toInt = ((n : Nat) : Int) := nI_toInt (by omega); have := i_lt q; omega)) (fun _ => ?_)
            refine r_iload rfl rfl ?_
            refine r_aload rfl rfl ?_
            refine r_getI rfl ⟨rfl, rfl, rfl⟩ (fx_t30 fx) ?_
            refine WR_tI (y := nI n) (Eq.trans (I_ne (fx_ne fx (by decide))) (Eq.trans (I_ne (fx_ne fx (by decide))) ru.1)) ?_
            refine r_icmp_ge (tg := 16) rfl rfl (fun q => False.elim (by have := i_nlt c1; have := i_rg t; have : (0 : Int32).toInt = 0 := rfl; have := i_eq ek2; have : (nI k2).toInt = ((k2 : Nat) : Int) := nI_toInt (by omega); have := i_nle c3; have : (nI n).toInt = ((n : Nat) : Int) := nI_toInt (by omega); have := i_le q; omega)) (fun _ => ?_)
            refine r_ic (x := 1) rfl rfl ?_
            refine r_goto (tg := 17) rfl rfl ?_
            refine r_zret rfl (.inr rfl) ?_
            show WR _ cd_226 5 [some (.ref (ad 30)), some (.int t), some (.int x), some (.int y)] [.int 1] (sI (sI h (ad 0) 6 0) (ad 0) 6 (-3)) _
            refine r_if_ne (tg := 15) rfl rfl (fun _ => ?_) (fun q => absurd q (by decide))
            refine r_iload rfl rfl ?_
            refine r_i2l rfl ?_
            refine r_ldc (x := .long (-100)) rfl rfl ?_
            refine r_ldc (x := .long 100) rfl rfl ?_
            refine r_cs (y := 155) (ra := [.long 100, .long (-100), .long x.toInt64]) (rest := []) rfl ⟨⟨rfl, rfl⟩, by decide⟩ rfl rfl (Nat.le_of_ble_eq_true rfl) ?_
            refine in_155 (Nat.le_of_ble_eq_true rfl) ?_
            show WR _ cd_155 0 [some (.long x.toInt64), none, some (.long (-100)), none, some (.long 100), none] [] (sI (sI h (ad 0) 6 0) (ad 0) 6 (-3)) _
            refine r_lload rfl rfl ?_
            refine r_lload rfl rfl ?_
            refine r_lif_lt (tg := 17) rfl rfl rfl (fun q => False.elim (by have := i_nlt c4; have := i_rg x; have : (-100 : Int32).toInt = -100 := rfl; have := i_nlt c5; have : (100 : Int32).toInt = 100 := rfl; have := w_t x; have : (-100 : Int64).toInt = -100 := rfl; have := l_lt q; omega)) (fun _ => ?_)
            refine r_lload rfl rfl ?_
            refine r_lload rfl rfl ?_
            refine r_lif_gt (tg := 17) rfl rfl rfl (fun q => False.elim (by have := i_nlt c4; have := i_rg x; have : (-100 : Int32).toInt = -100 := rfl; have := i_nlt c5; have : (100 : Int32).toInt = 100 := rfl; have := w_t x; have : (100 : Int64).toInt = 100 := rfl; have := l_lt q; omega)) (fun _ => ?_)
            refine r_ic (x := 1) rfl rfl ?_
            refine r_goto (tg := 18) rfl rfl ?_
            refine r_zret rfl (.inr rfl) ?_
            show WR _ cd_226 26 [some (.ref (ad 30)), some (.int t), some (.int x), some (.int y)] [.int 1] (sI (sI h (ad 0) 6 0) (ad 0) 6 (-3)) _
            refine r_if_eq (tg := 43) rfl rfl (fun q => absurd q (by decide)) (fun _ => ?_)
            refine r_iload rfl rfl ?_
            refine r_i2l rfl ?_
            refine r_ldc (x := .long (-100)) rfl rfl ?_
            refine r_ldc (x := .long 100) rfl rfl ?_
            refine r_cs (y := 155) (ra := [.long 100, .long (-100), .long y.toInt64]) (rest := []) rfl ⟨⟨rfl, rfl⟩, by decide⟩ rfl rfl (Nat.le_of_ble_eq_true rfl) ?_
            refine in_155 (Nat.le_of_ble_eq_true rfl) ?_
            show WR _ cd_155 0 [some (.long y.toInt64), none, some (.long (-100)), none, some (.long 100), none] [] (sI (sI h (ad 0) 6 0) (ad 0) 6 (-3)) _
            refine r_lload rfl rfl ?_
            refine r_lload rfl rfl ?_
            refine r_lif_lt (tg := 17) rfl rfl rfl (fun _ => ?_) (fun q => False.elim (by have := i_lt c7; have := i_rg y; have : (-100 : Int32).toInt = -100 := rfl; have := w_t y; have : (-100 : Int64).toInt = -100 := rfl; have := l_nlt q; omega))
            refine r_ic (x := 0) rfl rfl ?_
            refine r_zret rfl (.inl rfl) ?_
            show WR _ cd_226 40 [some (.ref (ad 30)), some (.int t), some (.int x), some (.int y)] [.int 0] (sI (sI h (ad 0) 6 0) (ad 0) 6 (-3)) _
            refine r_if_ne (tg := 50) rfl rfl (fun q => absurd q (by decide)) (fun _ => ?_)
            refine r_aload rfl rfl ?_
            refine r_ic (x := (-3)) rfl rfl ?_
            refine r_cv (y := 154) (ra := [.int (-3)]) (rest := []) rfl ⟨⟨rfl, rfl⟩, rfl, by decide⟩ (fx_t30 fx) rfl rfl (Nat.le_of_ble_eq_true rfl) ?_
            refine in_154 (Nat.le_of_ble_eq_true rfl) ?_
            show WR _ cd_154 0 [some (.ref (ad 30)), some (.int (-3))] [] (sI (sI h (ad 0) 6 0) (ad 0) 6 (-3)) _
            refine r_aload rfl rfl ?_
            refine r_iload rfl rfl ?_
            refine r_ic (x := (-1)) rfl rfl ?_
            refine r_icmp_ge (tg := 10) rfl rfl (fun q => absurd q (by decide)) (fun _ => ?_)
            refine r_iload rfl rfl ?_
            refine r_goto (tg := 11) rfl rfl ?_
            refine r_putI rfl ⟨rfl, rfl, rfl⟩ (fx_t30 fx) ?_
            have fx : FX n ad sa z0 (sI (sI (sI h (ad 0) 6 0) (ad 0) 6 (-3)) (ad 30) 11 (-3)) := (FX.sI fx)
            refine r_iload rfl rfl ?_
            refine r_iret rfl ?_
            show WR _ cd_226 49 [some (.ref (ad 30)), some (.int t), some (.int x), some (.int y)] [.int (-3)] (sI (sI (sI h (ad 0) 6 0) (ad 0) 6 (-3)) (ad 30) 11 (-3)) _
            refine r_iret rfl ?_
            exact ⟨rfl, Rel.why r (((Chg.rf.sI (fx_j fx) (.inl (by decide))).sI (fx_j fx) (.inl (by decide))).sI (fx_j fx) (.inl (by decide))) ⟨rfl, by decide⟩ (Eq.trans (Eq.trans (I_ne (fx_ne fx (by decide))) I_eq) (Eq.symm I_eq)), (by (try simp only [hZ_sI, hZ_sL, hZ_sD, hZ_sR]); omega), (by (try simp only [hU_sI, hU_sL, hU_sD, hU_sR]); omega)⟩
          · refine r_iload rfl rfl ?_
            refine r_ic (x := 100) rfl rfl ?_
            refine r_icmp_le (tg := 51) rfl rfl (fun c8 => ?_) (fun c8 => ?_)
            · refine r_aload rfl rfl ?_
              refine r_getA (b := ad 4) rfl ⟨rfl, rfl, rfl⟩ (fx_t0 fx) (fx_r0_2 fx) ?_
              refine r_getA (b := ad 7) rfl ⟨rfl, rfl, rfl⟩ (fx_t4 fx) (fx_r4_0 fx) ?_
              refine r_iload rfl rfl ?_
              refine WR_tI (y := nI k2) ek2 ?_
              have hk9 : k2 < n := (by have := i_nlt c1; have := i_rg t; have : (0 : Int32).toInt = 0 := rfl; have := i_eq ek2; have : (nI k2).toInt = ((k2 : Nat) : Int) := nI_toInt (by omega); have := i_nle c3; have : (nI n).toInt = ((n : Nat) : Int) := nI_toInt (by omega); omega)
              have tb9 := fx_tb fx0 k2 hk9
              obtain ⟨⟨a1_9, a2_9, a3_9, a4_9⟩, ⟨b1_9, b2_9⟩, ⟨c1_9, c2_9⟩, ⟨d1_9, d2_9⟩, ⟨e1_9, e2_9, e3_9, e4_9, e5_9, e6_9, e7_9⟩, f_9, g_9⟩ := id (ru.2 k2 hk9)
              refine r_aaloadA (b := ad (100 + 5 * k2)) rfl (isQ_of (fx_t7 fx) (by decide)) (vp_ct (fx_n7 fx) (vp_in_nI (by have := i_nlt c1; have := i_rg t; have : (0 : Int32).toInt = 0 := rfl; have := i_eq ek2; have : (nI k2).toInt = ((k2 : Nat) : Int) := nI_toInt (by omega); have := i_nle c3; have : (nI n).toInt = ((n : Nat) : Int) := nI_toInt (by omega); omega) (by omega))) (Eq.trans (congrArg (hR (sI h (ad 0) 6 0) (ad 7)) ((nI_clamp (by have := i_nlt c1; have := i_rg t; have : (0 : Int32).toInt = 0 := rfl; have := i_eq ek2; have : (nI k2).toInt = ((k2 : Nat) : Int) := nI_toInt (by omega); have := i_nle c3; have : (nI n).toInt = ((n : Nat) : Int) := nI_toInt (by omega); omega)) : _ = k2)) (Eq.trans R_oI tb9.1)) ?_
              refine r_iload rfl rfl ?_
              refine r_putI rfl ⟨rfl, rfl, rfl⟩ tb9.2.1 ?_
              have fx : FX n ad sa z0 (sI (sI h (ad 0) 6 0) (ad (100 + 5 * k2)) 1 x) := (FX.sI fx)
              refine r_aload rfl rfl ?_
              refine r_getA (b := ad 4) rfl ⟨rfl, rfl, rfl⟩ (fx_t0 fx) (fx_r0_2 fx) ?_
              refine r_getA (b := ad 7) rfl ⟨rfl, rfl, rfl⟩ (fx_t4 fx) (fx_r4_0 fx) ?_
              refine r_iload rfl rfl ?_
              refine WR_tI (y := nI k2) ek2 ?_
              refine r_aaloadA (b := ad (100 + 5 * k2)) rfl (isQ_of (fx_t7 fx) (by decide)) (vp_ct (fx_n7 fx) (vp_in_nI (by have := i_nlt c1; have := i_rg t; have : (0 : Int32).toInt = 0 := rfl; have := i_eq ek2; have : (nI k2).toInt = ((k2 : Nat) : Int) := nI_toInt (by omega); have := i_nle c3; have : (nI n).toInt = ((n : Nat) : Int) := nI_toInt (by omega); omega) (by omega))) (Eq.trans (congrArg (hR (sI (sI h (ad 0) 6 0) (ad (100 + 5 * k2)) 1 x) (ad 7)) ((nI_clamp (by have := i_nlt c1; have := i_rg t; have : (0 : Int32).toInt = 0 := rfl; have := i_eq ek2; have : (nI k2).toInt = ((k2 : Nat) : Int) := nI_toInt (by omega); have := i_nle c3; have : (nI n).toInt = ((n : Nat) : Int) := nI_toInt (by omega); omega)) : _ = k2)) (Eq.trans R_oI (Eq.trans R_oI tb9.1))) ?_
              refine r_iload rfl rfl ?_
              refine r_putI rfl ⟨rfl, rfl, rfl⟩ tb9.2.1 ?_
              have fx : FX n ad sa z0 (sI (sI (sI h (ad 0) 6 0) (ad (100 + 5 * k2)) 1 x) (ad (100 + 5 * k2)) 2 y) := (FX.sI fx)
              refine r_ic (x := 1) rfl rfl ?_
              refine r_iret rfl ?_
              show EV _ 226 [.ref (ad 30), .int t, .int x, .int y] (sI (sI (sI h (ad 0) 6 0) (ad (100 + 5 * k2)) 1 x) (ad (100 + 5 * k2)) 2 y) _
              refine in_226 (Nat.le_of_ble_eq_true rfl) ?_
              show WR _ cd_226 0 [some (.ref (ad 30)), some (.int t), some (.int x), some (.int y)] [] (sI (sI (sI h (ad 0) 6 0) (ad (100 + 5 * k2)) 1 x) (ad (100 + 5 * k2)) 2 y) _
              refine r_aload rfl rfl ?_
              refine r_iload rfl rfl ?_
              refine WR_tI (y := nI k2) ek2 ?_
              refine r_cv (y := 206) (ra := [.int (nI k2)]) (rest := []) rfl ⟨⟨rfl, rfl⟩, rfl, by decide⟩ (fx_t30 fx) rfl rfl (Nat.le_of_ble_eq_true rfl) ?_
              refine in_206 (Nat.le_of_ble_eq_true rfl) ?_
              show WR _ cd_206 0 [some (.ref (ad 30)), some (.int (nI k2))] [] (sI (sI (sI h (ad 0) 6 0) (ad (100 + 5 * k2)) 1 x) (ad (100 + 5 * k2)) 2 y) _
              refine r_iload rfl rfl ?_
              refine r_if_lt (tg := 16) rfl rfl (fun q => False.elim (by have := i_nlt c1; have := i_rg t; have : (0 : Int32).toInt = 0 := rfl; have := i_eq ek2; have : (nI k2).toInt = ((k2 : Nat) : Int) := nI_toInt (by omega); have := i_nle c3; have : (nI n).toInt = ((n : Nat) : Int) := nI_toInt (by omega); have := i_lt q; omega)) (fun _ => ?_)
              refine r_iload rfl rfl ?_
              refine r_aload rfl rfl ?_
              refine r_getI rfl ⟨rfl, rfl, rfl⟩ (fx_t30 fx) ?_
              refine WR_tI (y := nI n) (Eq.trans (I_ne (fx_ne fx (by omega))) (Eq.trans (I_ne (fx_ne fx (by omega))) (Eq.trans (I_ne (fx_ne fx (by decide))) ru.1))) ?_
              refine r_icmp_ge (tg := 16) rfl rfl (fun q => False.elim (by have := i_nlt c1; have := i_rg t; have : (0 : Int32).toInt = 0 := rfl; have := i_eq ek2; have : (nI k2).toInt = ((k2 : Nat) : Int) := nI_toInt (by omega); have := i_nle c3; have : (nI n).toInt = ((n : Nat) : Int) := nI_toInt (by omega); have := i_le q; omega)) (fun _ => ?_)
              refine r_ic (x := 1) rfl rfl ?_
              refine r_goto (tg := 17) rfl rfl ?_
              refine r_zret rfl (.inr rfl) ?_
              show WR _ cd_226 5 [some (.ref (ad 30)), some (.int t), some (.int x), some (.int y)] [.int 1] (sI (sI (sI h (ad 0) 6 0) (ad (100 + 5 * k2)) 1 x) (ad (100 + 5 * k2)) 2 y) _
              refine r_if_ne (tg := 15) rfl rfl (fun _ => ?_) (fun q => absurd q (by decide))
              refine r_iload rfl rfl ?_
              refine r_i2l rfl ?_
              refine r_ldc (x := .long (-100)) rfl rfl ?_
              refine r_ldc (x := .long 100) rfl rfl ?_
              refine r_cs (y := 155) (ra := [.long 100, .long (-100), .long x.toInt64]) (rest := []) rfl ⟨⟨rfl, rfl⟩, by decide⟩ rfl rfl (Nat.le_of_ble_eq_true rfl) ?_
              refine in_155 (Nat.le_of_ble_eq_true rfl) ?_
              show WR _ cd_155 0 [some (.long x.toInt64), none, some (.long (-100)), none, some (.long 100), none] [] (sI (sI (sI h (ad 0) 6 0) (ad (100 + 5 * k2)) 1 x) (ad (100 + 5 * k2)) 2 y) _
              refine r_lload rfl rfl ?_
              refine r_lload rfl rfl ?_
              refine r_lif_lt (tg := 17) rfl rfl rfl (fun q => False.elim (by have := i_nlt c4; have := i_rg x; have : (-100 : Int32).toInt = -100 := rfl; have := i_nlt c5; have : (100 : Int32).toInt = 100 := rfl; have := w_t x; have : (-100 : Int64).toInt = -100 := rfl; have := l_lt q; omega)) (fun _ => ?_)
              refine r_lload rfl rfl ?_
              refine r_lload rfl rfl ?_
              refine r_lif_gt (tg := 17) rfl rfl rfl (fun q => False.elim (by have := i_nlt c4; have := i_rg x; have : (-100 : Int32).toInt = -100 := rfl; have := i_nlt c5; have : (100 : Int32).toInt = 100 := rfl; have := w_t x; have : (100 : Int64).toInt = 100 := rfl; have := l_lt q; omega)) (fun _ => ?_)
              refine r_ic (x := 1) rfl rfl ?_
              refine r_goto (tg := 18) rfl rfl ?_
              refine r_zret rfl (.inr rfl) ?_
              show WR _ cd_226 26 [some (.ref (ad 30)), some (.int t), some (.int x), some (.int y)] [.int 1] (sI (sI (sI h (ad 0) 6 0) (ad (100 + 5 * k2)) 1 x) (ad (100 + 5 * k2)) 2 y) _
              refine r_if_eq (tg := 43) rfl rfl (fun q => absurd q (by decide)) (fun _ => ?_)
              refine r_iload rfl rfl ?_
              refine r_i2l rfl ?_
              refine r_ldc (x := .long (-100)) rfl rfl ?_
              refine r_ldc (x := .long 100) rfl rfl ?_
              refine r_cs (y := 155) (ra := [.long 100, .long (-100), .long y.toInt64]) (rest := []) rfl ⟨⟨rfl, rfl⟩, by decide⟩ rfl rfl (Nat.le_of_ble_eq_true rfl) ?_
              refine in_155 (Nat.le_of_ble_eq_true rfl) ?_
              show WR _ cd_155 0 [some (.long y.toInt64), none, some (.long (-100)), none, some (.long 100), none] [] (sI (sI (sI h (ad 0) 6 0) (ad (100 + 5 * k2)) 1 x) (ad (100 + 5 * k2)) 2 y) _
              refine r_lload rfl rfl ?_
              refine r_lload rfl rfl ?_
              refine r_lif_lt (tg := 17) rfl rfl rfl (fun q => False.elim (by have := i_nlt c7; have := i_rg y; have : (-100 : Int32).toInt = -100 := rfl; have := i_le c8; have : (100 : Int32).toInt = 100 := rfl; have := w_t y; have : (-100 : Int64).toInt = -100 := rfl; have := l_lt q; omega)) (fun _ => ?_)
              refine r_lload rfl rfl ?_
              refine r_lload rfl rfl ?_
              refine r_lif_gt (tg := 17) rfl rfl rfl (fun q => False.elim (by have := i_nlt c7; have := i_rg y; have : (-100 : Int32).toInt = -100 := rfl; have := i_le c8; have : (100 : Int32).toInt = 100 := rfl; have := w_t y; have : (100 : Int64).toInt = 100 := rfl; have := l_lt q; omega)) (fun _ => ?_)
              refine r_ic (x := 1) rfl rfl ?_
              refine r_goto (tg := 18) rfl rfl ?_
              refine r_zret rfl (.inr rfl) ?_
              show WR _ cd_226 40 [some (.ref (ad 30)), some (.int t), some (.int x), some (.int y)] [.int 1] (sI (sI (sI h (ad 0) 6 0) (ad (100 + 5 * k2)) 1 x) (ad (100 + 5 * k2)) 2 y) _
              refine r_if_ne (tg := 50) rfl rfl (fun _ => ?_) (fun q => absurd q (by decide))
              refine r_aload rfl rfl ?_
              refine r_getA (b := ad 61) rfl ⟨rfl, rfl, rfl⟩ (fx_t30 fx) (fx_r30_48 fx) ?_
              refine r_iload rfl rfl ?_
              refine WR_tI (y := nI k2) ek2 ?_
              refine r_iload rfl rfl ?_
              refine r_iastore rfl (fx_t61 fx) (vp_ct (fx_n61 fx) (vp_in_nI (by have := i_nlt c1; have := i_rg t; have : (0 : Int32).toInt = 0 := rfl; have := i_eq ek2; have : (nI k2).toInt = ((k2 : Nat) : Int) := nI_toInt (by omega); have := i_nle c3; have : (nI n).toInt = ((n : Nat) : Int) := nI_toInt (by omega); omega) (by omega))) ?_
              refine WR_h (h2 := sI (sI (sI (sI h (ad 0) 6 0) (ad (100 + 5 * k2)) 1 x) (ad (100 + 5 * k2)) 2 y) (ad 61) k2 x) (congrArg (fun z => sI (sI (sI (sI h (ad 0) 6 0) (ad (100 + 5 * k2)) 1 x) (ad (100 + 5 * k2)) 2 y) (ad 61) z x) ((nI_clamp (by have := i_nlt c1; have := i_rg t; have : (0 : Int32).toInt = 0 := rfl; have := i_eq ek2; have : (nI k2).toInt = ((k2 : Nat) : Int) := nI_toInt (by omega); have := i_nle c3; have : (nI n).toInt = ((n : Nat) : Int) := nI_toInt (by omega); omega)) : _ = k2)) ?_
              have fx : FX n ad sa z0 (sI (sI (sI (sI h (ad 0) 6 0) (ad (100 + 5 * k2)) 1 x) (ad (100 + 5 * k2)) 2 y) (ad 61) k2 x) := (FX.sI fx)
              refine r_aload rfl rfl ?_
              refine r_getA (b := ad 62) rfl ⟨rfl, rfl, rfl⟩ (fx_t30 fx) (fx_r30_49 fx) ?_
              refine r_iload rfl rfl ?_
              refine WR_tI (y := nI k2) ek2 ?_
              refine r_iload rfl rfl ?_
              refine r_iastore rfl (fx_t62 fx) (vp_ct (fx_n62 fx) (vp_in_nI (by have := i_nlt c1; have := i_rg t; have : (0 : Int32).toInt = 0 := rfl; have := i_eq ek2; have : (nI k2).toInt = ((k2 : Nat) : Int) := nI_toInt (by omega); have := i_nle c3; have : (nI n).toInt = ((n : Nat) : Int) := nI_toInt (by omega); omega) (by omega))) ?_
              refine WR_h (h2 := sI (sI (sI (sI (sI h (ad 0) 6 0) (ad (100 + 5 * k2)) 1 x) (ad (100 + 5 * k2)) 2 y) (ad 61) k2 x) (ad 62) k2 y) (congrArg (fun z => sI (sI (sI (sI (sI h (ad 0) 6 0) (ad (100 + 5 * k2)) 1 x) (ad (100 + 5 * k2)) 2 y) (ad 61) k2 x) (ad 62) z y) ((nI_clamp (by have := i_nlt c1; have := i_rg t; have : (0 : Int32).toInt = 0 := rfl; have := i_eq ek2; have : (nI k2).toInt = ((k2 : Nat) : Int) := nI_toInt (by omega); have := i_nle c3; have : (nI n).toInt = ((n : Nat) : Int) := nI_toInt (by omega); omega)) : _ = k2)) ?_
              have fx : FX n ad sa z0 (sI (sI (sI (sI (sI h (ad 0) 6 0) (ad (100 + 5 * k2)) 1 x) (ad (100 + 5 * k2)) 2 y) (ad 61) k2 x) (ad 62) k2 y) := (FX.sI fx)
              refine r_aload rfl rfl ?_
              refine r_ic (x := 1) rfl rfl ?_
              refine r_cv (y := 154) (ra := [.int 1]) (rest := []) rfl ⟨⟨rfl, rfl⟩, rfl, by decide⟩ (fx_t30 fx) rfl rfl (Nat.le_of_ble_eq_true rfl) ?_
              refine in_154 (Nat.le_of_ble_eq_true rfl) ?_
              show WR _ cd_154 0 [some (.ref (ad 30)), some (.int 1)] [] (sI (sI (sI (sI (sI h (ad 0) 6 0) (ad (100 + 5 * k2)) 1 x) (ad (100 + 5 * k2)) 2 y) (ad 61) k2 x) (ad 62) k2 y) _
              refine r_aload rfl rfl ?_
              refine r_iload rfl rfl ?_
              refine r_ic (x := (-1)) rfl rfl ?_
              refine r_icmp_ge (tg := 10) rfl rfl (fun _ => ?_) (fun q => absurd q (by decide))
              refine r_ic (x := 0) rfl rfl ?_
              refine r_putI rfl ⟨rfl, rfl, rfl⟩ (fx_t30 fx) ?_
              have fx : FX n ad sa z0 (sI (sI (sI (sI (sI (sI h (ad 0) 6 0) (ad (100 + 5 * k2)) 1 x) (ad (100 + 5 * k2)) 2 y) (ad 61) k2 x) (ad 62) k2 y) (ad 30) 11 0) := (FX.sI fx)
              refine r_iload rfl rfl ?_
              refine r_iret rfl ?_
              show WR _ cd_226 69 [some (.ref (ad 30)), some (.int t), some (.int x), some (.int y)] [.int 1] (sI (sI (sI (sI (sI (sI h (ad 0) 6 0) (ad (100 + 5 * k2)) 1 x) (ad (100 + 5 * k2)) 2 y) (ad 61) k2 x) (ad 62) k2 y) (ad 30) 11 0) _
              refine r_iret rfl ?_
              have cg : Chg n ad [(30, 11), (100 + 5 * k2, 2), (100 + 5 * k2, 1), (0, 6)] [62, 61] h (sI (sI (sI (sI (sI (sI h (ad 0) 6 0) (ad (100 + 5 * k2)) 1 x) (ad (100 + 5 * k2)) 2 y) (ad 61) k2 x) (ad 62) k2 y) (ad 30) 11 0) := ((((((Chg.rf.sI (fx_j fx0) (k := 6) (v := 0) (.inl (by decide))).sI (fx_j fx0) (k := 1) (v := x) (.inr ⟨by omega, by omega⟩)).sI (fx_j fx0) (k := 2) (v := y) (.inr ⟨by omega, by omega⟩)).sI (fx_j fx0) (k := k2) (v := x) (.inl (by decide))).row.sI (fx_j fx0) (k := k2) (v := y) (.inl (by decide))).row.sI (fx_j fx0) (k := 11) (v := 0) (.inl (by decide)))
              refine ⟨rfl, Rel_tu fx0 rt ra rp rf rst rs cg (by intro p_ hp_; simp only [List.mem_cons, List.not_mem_nil, or_false] at hp_; rcases hp_ with rfl | rfl | rfl | rfl <;> first | (simp; done) | (simp; omega) | omega) (by intro i_ hi_; simp only [List.mem_cons, List.not_mem_nil, or_false] at hi_; rcases hi_ with rfl | rfl <;> first | (simp [tuL]; done) | (simp [tuL]; omega) | omega) rfl (Eq.trans (Eq.trans (I_ne (fx_ne fx (by decide))) (Eq.trans (I_ne (fx_ne fx (by decide))) (Eq.trans (I_ne (fx_ne fx (by decide))) (Eq.trans (I_ne (fx_ne fx (by omega))) (Eq.trans (I_ne (fx_ne fx (by omega))) I_eq))))) (Eq.symm I_eq)) ⟨(Eq.trans (Eq.trans (I_nk (by decide)) (Eq.trans (I_ne (fx_ne fx (by decide))) (Eq.trans (I_ne (fx_ne fx (by decide))) (Eq.trans (I_ne (fx_ne fx (by omega))) (Eq.trans (I_ne (fx_ne fx (by omega))) (I_ne (fx_ne fx (by decide)))))))) ru.1), fun t_ ht_ => ?_⟩, (by (try simp only [hZ_sI, hZ_sL, hZ_sD, hZ_sR]); omega), (by (try simp only [hU_sI, hU_sL, hU_sD, hU_sR]); omega)⟩
              by_cases e_ : t_ = k2
              · subst e_
                obtain ⟨g1, g2, g3, g4, g5, g6, g7⟩ := (tuR_i _ _ _ _ _).mp (ru.2 t_ ht_)
                refine (tuR_i _ _ _ _ _).mpr ⟨?_, g2.c (Eq.trans (I_ne (fx_ne fx (by omega))) (Eq.trans (I_ne (fx_ne fx (by omega))) (Eq.trans (I_ne (fx_ne fx (by omega))) (Eq.trans (I_nk (by decide)) (Eq.trans (I_nk (by decide)) (I_ne (fx_ne fx (by omega)))))))) (Eq.trans (I_ne (fx_ne fx (by decide))) (Eq.trans (I_ne (fx_ne fx (by decide))) (Eq.trans (I_ne (fx_ne fx (by decide))) (Eq.trans (I_ne (fx_ne fx (by omega))) (Eq.trans (I_ne (fx_ne fx (by omega))) (I_ne (fx_ne fx (by decide)))))))), g3.c (Eq.trans (I_ne (fx_ne fx (by omega))) (Eq.trans (I_ne (fx_ne fx (by omega))) (Eq.trans (I_ne (fx_ne fx (by omega))) (Eq.trans (I_nk (by decide)) (Eq.trans (I_nk (by decide)) (I_ne (fx_ne fx (by omega)))))))) (Eq.trans (I_ne (fx_ne fx (by decide))) (Eq.trans (I_ne (fx_ne fx (by decide))) (Eq.trans (I_ne (fx_ne fx (by decide))) (Eq.trans (I_ne (fx_ne fx (by omega))) (Eq.trans (I_ne (fx_ne fx (by omega))) (I_ne (fx_ne fx (by decide)))))))), g4.c (Eq.trans L_oI (Eq.trans L_oI (Eq.trans L_oI (Eq.trans L_oI (Eq.trans L_oI L_oI))))) (Eq.trans D_oI (Eq.trans D_oI (Eq.trans D_oI (Eq.trans D_oI (Eq.trans D_oI D_oI))))), g5.d (fun j_ => (Eq.trans D_oI (Eq.trans D_oI (Eq.trans D_oI (Eq.trans D_oI (Eq.trans D_oI D_oI)))))) (Eq.trans D_oI (Eq.trans D_oI (Eq.trans D_oI (Eq.trans D_oI (Eq.trans D_oI D_oI))))) (Eq.trans D_oI (Eq.trans D_oI (Eq.trans D_oI (Eq.trans D_oI (Eq.trans D_oI D_oI))))) (Eq.trans D_oI (Eq.trans D_oI (Eq.trans D_oI (Eq.trans D_oI (Eq.trans D_oI D_oI))))) (Eq.trans D_oI (Eq.trans D_oI (Eq.trans D_oI (Eq.trans D_oI (Eq.trans D_oI D_oI))))) (Eq.trans D_oI (Eq.trans D_oI (Eq.trans D_oI (Eq.trans D_oI (Eq.trans D_oI D_oI))))) (Eq.trans D_oI (Eq.trans D_oI (Eq.trans D_oI (Eq.trans D_oI (Eq.trans D_oI D_oI))))) (Eq.trans (I_nk (by decide)) (Eq.trans (I_ne (fx_ne fx (by decide))) (Eq.trans (I_ne (fx_ne fx (by decide))) (Eq.trans (I_ne (fx_ne fx (by omega))) (Eq.trans (I_ne (fx_ne fx (by omega))) (I_ne (fx_ne fx (by decide)))))))), g6.c (fun s_ hs_ => ⟨(Eq.trans L_oI (Eq.trans L_oI (Eq.trans L_oI (Eq.trans L_oI (Eq.trans L_oI L_oI))))), (Eq.trans L_oI (Eq.trans L_oI (Eq.trans L_oI (Eq.trans L_oI (Eq.trans L_oI L_oI))))), (Eq.trans L_oI (Eq.trans L_oI (Eq.trans L_oI (Eq.trans L_oI (Eq.trans L_oI L_oI))))), (Eq.trans D_oI (Eq.trans D_oI (Eq.trans D_oI (Eq.trans D_oI (Eq.trans D_oI D_oI))))), (Eq.trans L_oI (Eq.trans L_oI (Eq.trans L_oI (Eq.trans L_oI (Eq.trans L_oI L_oI))))), (Eq.trans L_oI (Eq.trans L_oI (Eq.trans L_oI (Eq.trans L_oI (Eq.trans L_oI L_oI)))))⟩), g7.c (fun s_ hs_ => ⟨(Eq.trans R_oI (Eq.trans R_oI (Eq.trans R_oI (Eq.trans R_oI (Eq.trans R_oI R_oI))))), (Eq.trans (I_ne (fx_ne fx (by decide))) (Eq.trans (I_ne (fx_ne fx (by decide))) (Eq.trans (I_ne (fx_ne fx (by decide))) (Eq.trans (I_ne (fx_ne fx (by omega))) (Eq.trans (I_ne (fx_ne fx (by omega))) (I_ne (fx_ne fx (by decide))))))))⟩)⟩
                · unfold tu1
                  rw [show hI (sI (sI (sI (sI (sI (sI h (ad 0) 6 0) (ad (100 + 5 * t_)) 1 x) (ad (100 + 5 * t_)) 2 y) (ad 61) t_ x) (ad 62) t_ y) (ad 30) 11 0) (ad 61) t_ = x from (Eq.trans (I_ne (fx_ne fx (by decide))) (Eq.trans (I_ne (fx_ne fx (by decide))) I_eq)), show hI (sI (sI (sI (sI (sI (sI h (ad 0) 6 0) (ad (100 + 5 * t_)) 1 x) (ad (100 + 5 * t_)) 2 y) (ad 61) t_ x) (ad 62) t_ y) (ad 30) 11 0) (ad 62) t_ = y from (Eq.trans (I_ne (fx_ne fx (by decide))) I_eq)]
                  exact ⟨Eq.trans (Eq.trans (I_ne (fx_ne fx (by omega))) (Eq.trans (I_ne (fx_ne fx (by omega))) (Eq.trans (I_ne (fx_ne fx (by omega))) (Eq.trans (I_nk (by decide)) (Eq.trans (I_nk (by decide)) (I_ne (fx_ne fx (by omega)))))))) g1.1, (Eq.trans (I_ne (fx_ne fx (by omega))) (Eq.trans (I_ne (fx_ne fx (by omega))) (Eq.trans (I_ne (fx_ne fx (by omega))) (Eq.trans (I_nk (by decide)) I_eq)))), (Eq.trans (I_ne (fx_ne fx (by omega))) (Eq.trans (I_ne (fx_ne fx (by omega))) (Eq.trans (I_ne (fx_ne fx (by omega))) I_eq))), (fun q_ => False.elim (by have := i_nlt c4; have := i_rg x; have : (-100 : Int32).toInt = -100 := rfl; have := i_nlt c5; have : (100 : Int32).toInt = 100 := rfl; have := i_lt q_; omega)), (fun q_ => False.elim (by have := i_nlt c4; have := i_rg x; have : (-100 : Int32).toInt = -100 := rfl; have := i_nlt c5; have : (100 : Int32).toInt = 100 := rfl; have := i_lt q_; omega)), (fun q_ => False.elim (by have := i_nlt c7; have := i_rg y; have : (-100 : Int32).toInt = -100 := rfl; have := i_le c8; have : (100 : Int32).toInt = 100 := rfl; have := i_lt q_; omega)), (fun q_ => False.elim (by have := i_nlt c7; have := i_rg y; have : (-100 : Int32).toInt = -100 := rfl; have := i_le c8; have : (100 : Int32).toInt = 100 := rfl; have := i_lt q_; omega))⟩
              · obtain ⟨g1, g2, g3, g4, g5, g6, g7⟩ := (tuR_i _ _ _ _ _).mp (ru.2 t_ ht_)
                refine (tuR_i _ _ _ _ _).mpr ⟨g1.c (Eq.trans (I_ne (fx_ne fx (by omega))) (Eq.trans (I_ne (fx_ne fx (by omega))) (Eq.trans (I_ne (fx_ne fx (by omega))) (Eq.trans (I_ne (fx_ne fx (by omega))) (Eq.trans (I_ne (fx_ne fx (by omega))) (I_ne (fx_ne fx (by omega)))))))) (Eq.trans (I_ne (fx_ne fx (by omega))) (Eq.trans (I_ne (fx_ne fx (by omega))) (Eq.trans (I_ne (fx_ne fx (by omega))) (Eq.trans (I_ne (fx_ne fx (by omega))) (Eq.trans (I_ne (fx_ne fx (by omega))) (I_ne (fx_ne fx (by omega)))))))) (Eq.trans (I_ne (fx_ne fx (by omega))) (Eq.trans (I_ne (fx_ne fx (by omega))) (Eq.trans (I_ne (fx_ne fx (by omega))) (Eq.trans (I_ne (fx_ne fx (by omega))) (Eq.trans (I_ne (fx_ne fx (by omega))) (I_ne (fx_ne fx (by omega)))))))) (Eq.trans (I_ne (fx_ne fx (by decide))) (Eq.trans (I_ne (fx_ne fx (by decide))) (Eq.trans (I_nk (by have := i_nlt c1; have := i_rg t; have : (0 : Int32).toInt = 0 := rfl; have := i_eq ek2; have : (nI k2).toInt = ((k2 : Nat) : Int) := nI_toInt (by omega); have := i_nle c3; have : (nI n).toInt = ((n : Nat) : Int) := nI_toInt (by omega); omega)) (Eq.trans (I_ne (fx_ne fx (by omega))) (Eq.trans (I_ne (fx_ne fx (by omega))) (I_ne (fx_ne fx (by decide)))))))) (Eq.trans (I_ne (fx_ne fx (by decide))) (Eq.trans (I_nk (by have := i_nlt c1; have := i_rg t; have : (0 : Int32).toInt = 0 := rfl; have := i_eq ek2; have : (nI k2).toInt = ((k2 : Nat) : Int) := nI_toInt (by omega); have := i_nle c3; have : (nI n).toInt = ((n : Nat) : Int) := nI_toInt (by omega); omega)) (Eq.trans (I_ne (fx_ne fx (by decide))) (Eq.trans (I_ne (fx_ne fx (by omega))) (Eq.trans (I_ne (fx_ne fx (by omega))) (I_ne (fx_ne fx (by decide)))))))), g2.c (Eq.trans (I_ne (fx_ne fx (by omega))) (Eq.trans (I_ne (fx_ne fx (by omega))) (Eq.trans (I_ne (fx_ne fx (by omega))) (Eq.trans (I_ne (fx_ne fx (by omega))) (Eq.trans (I_ne (fx_ne fx (by omega))) (I_ne (fx_ne fx (by omega)))))))) (Eq.trans (I_ne (fx_ne fx (by decide))) (Eq.trans (I_ne (fx_ne fx (by decide))) (Eq.trans (I_ne (fx_ne fx (by decide))) (Eq.trans (I_ne (fx_ne fx (by omega))) (Eq.trans (I_ne (fx_ne fx (by omega))) (I_ne (fx_ne fx (by decide)))))))), g3.c (Eq.trans (I_ne (fx_ne fx (by omega))) (Eq.trans (I_ne (fx_ne fx (by omega))) (Eq.trans (I_ne (fx_ne fx (by omega))) (Eq.trans (I_ne (fx_ne fx (by omega))) (Eq.trans (I_ne (fx_ne fx (by omega))) (I_ne (fx_ne fx (by omega)))))))) (Eq.trans (I_ne (fx_ne fx (by decide))) (Eq.trans (I_ne (fx_ne fx (by decide))) (Eq.trans (I_ne (fx_ne fx (by decide))) (Eq.trans (I_ne (fx_ne fx (by omega))) (Eq.trans (I_ne (fx_ne fx (by omega))) (I_ne (fx_ne fx (by decide)))))))), g4.c (Eq.trans L_oI (Eq.trans L_oI (Eq.trans L_oI (Eq.trans L_oI (Eq.trans L_oI L_oI))))) (Eq.trans D_oI (Eq.trans D_oI (Eq.trans D_oI (Eq.trans D_oI (Eq.trans D_oI D_oI))))), g5.d (fun j_ => (Eq.trans D_oI (Eq.trans D_oI (Eq.trans D_oI (Eq.trans D_oI (Eq.trans D_oI D_oI)))))) (Eq.trans D_oI (Eq.trans D_oI (Eq.trans D_oI (Eq.trans D_oI (Eq.trans D_oI D_oI))))) (Eq.trans D_oI (Eq.trans D_oI (Eq.trans D_oI (Eq.trans D_oI (Eq.trans D_oI D_oI))))) (Eq.trans D_oI (Eq.trans D_oI (Eq.trans D_oI (Eq.trans D_oI (Eq.trans D_oI D_oI))))) (Eq.trans D_oI (Eq.trans D_oI (Eq.trans D_oI (Eq.trans D_oI (Eq.trans D_oI D_oI))))) (Eq.trans D_oI (Eq.trans D_oI (Eq.trans D_oI (Eq.trans D_oI (Eq.trans D_oI D_oI))))) (Eq.trans D_oI (Eq.trans D_oI (Eq.trans D_oI (Eq.trans D_oI (Eq.trans D_oI D_oI))))) (Eq.trans (I_nk (by decide)) (Eq.trans (I_ne (fx_ne fx (by decide))) (Eq.trans (I_ne (fx_ne fx (by decide))) (Eq.trans (I_ne (fx_ne fx (by omega))) (Eq.trans (I_ne (fx_ne fx (by omega))) (I_ne (fx_ne fx (by decide)))))))), g6.c (fun s_ hs_ => ⟨(Eq.trans L_oI (Eq.trans L_oI (Eq.trans L_oI (Eq.trans L_oI (Eq.trans L_oI L_oI))))), (Eq.trans L_oI (Eq.trans L_oI (Eq.trans L_oI (Eq.trans L_oI (Eq.trans L_oI L_oI))))), (Eq.trans L_oI (Eq.trans L_oI (Eq.trans L_oI (Eq.trans L_oI (Eq.trans L_oI L_oI))))), (Eq.trans D_oI (Eq.trans D_oI (Eq.trans D_oI (Eq.trans D_oI (Eq.trans D_oI D_oI))))), (Eq.trans L_oI (Eq.trans L_oI (Eq.trans L_oI (Eq.trans L_oI (Eq.trans L_oI L_oI))))), (Eq.trans L_oI (Eq.trans L_oI (Eq.trans L_oI (Eq.trans L_oI (Eq.trans L_oI L_oI)))))⟩), g7.c (fun s_ hs_ => ⟨(Eq.trans R_oI (Eq.trans R_oI (Eq.trans R_oI (Eq.trans R_oI (Eq.trans R_oI R_oI))))), (Eq.trans (I_ne (fx_ne fx (by decide))) (Eq.trans (I_ne (fx_ne fx (by decide))) (Eq.trans (I_ne (fx_ne fx (by decide))) (Eq.trans (I_ne (fx_ne fx (by omega))) (Eq.trans (I_ne (fx_ne fx (by omega))) (I_ne (fx_ne fx (by decide))))))))⟩)⟩
            · refine r_aload rfl rfl ?_
              refine r_ic (x := (-3)) rfl rfl ?_
              refine r_cv (y := 13) (ra := [.int (-3)]) (rest := []) rfl ⟨⟨rfl, rfl⟩, rfl, by decide⟩ (fx_t0 fx) rfl rfl (Nat.le_of_ble_eq_true rfl) ?_
              refine in_13 (Nat.le_of_ble_eq_true rfl) ?_
              show WR _ cd_13 0 [some (.ref (ad 0)), some (.int (-3))] [] (sI h (ad 0) 6 0) _
              refine r_aload rfl rfl ?_
              refine r_iload rfl rfl ?_
              refine r_putI rfl ⟨rfl, rfl, rfl⟩ (fx_t0 fx) ?_
              have fx : FX n ad sa z0 (sI (sI h (ad 0) 6 0) (ad 0) 6 (-3)) := (FX.sI fx)
              refine r_iload rfl rfl ?_
              refine r_iret rfl ?_
              show WR _ cd_121 50 [some (.ref (ad 0)), some (.int t), some (.int x), some (.int y)] [.int (-3)] (sI (sI h (ad 0) 6 0) (ad 0) 6 (-3)) _
              refine r_iret rfl ?_
              show EV _ 226 [.ref (ad 30), .int t, .int x, .int y] (sI (sI h (ad 0) 6 0) (ad 0) 6 (-3)) _
              refine in_226 (Nat.le_of_ble_eq_true rfl) ?_
              show WR _ cd_226 0 [some (.ref (ad 30)), some (.int t), some (.int x), some (.int y)] [] (sI (sI h (ad 0) 6 0) (ad 0) 6 (-3)) _
              refine r_aload rfl rfl ?_
              refine r_iload rfl rfl ?_
              refine WR_tI (y := nI k2) ek2 ?_
              refine r_cv (y := 206) (ra := [.int (nI k2)]) (rest := []) rfl ⟨⟨rfl, rfl⟩, rfl, by decide⟩ (fx_t30 fx) rfl rfl (Nat.le_of_ble_eq_true rfl) ?_
              refine in_206 (Nat.le_of_ble_eq_true rfl) ?_
              show WR _ cd_206 0 [some (.ref (ad 30)), some (.int (nI k2))] [] (sI (sI h (ad 0) 6 0) (ad 0) 6 (-3)) _
              refine r_iload rfl rfl ?_
              refine r_if_lt (tg := 16) rfl rfl (fun q => False.elim (by have := i_nlt c1; have := i_rg t; have : (0 : Int32).toInt = 0 := rfl; have := i_eq ek2; have : (nI k2).toInt = ((k2 : Nat) : Int) := nI_toInt (by omega); have := i_nle c3; have : (nI n).toInt = ((n : Nat) : Int) := nI_toInt (by omega); have := i_lt q; omega)) (fun _ => ?_)
              refine r_iload rfl rfl ?_
              refine r_aload rfl rfl ?_
              refine r_getI rfl ⟨rfl, rfl, rfl⟩ (fx_t30 fx) ?_
              refine WR_tI (y := nI n) (Eq.trans (I_ne (fx_ne fx (by decide))) (Eq.trans (I_ne (fx_ne fx (by decide))) ru.1)) ?_
              refine r_icmp_ge (tg := 16) rfl rfl (fun q => False.elim (by have := i_nlt c1; have := i_rg t; have : (0 : Int32).toInt = 0 := rfl; have := i_eq ek2; have : (nI k2).toInt = ((k2 : Nat) : Int) := nI_toInt (by omega); have := i_nle c3; have : (nI n).toInt = ((n : Nat) : Int) := nI_toInt (by omega); have := i_le q; omega)) (fun _ => ?_)
              refine r_ic (x := 1) rfl rfl ?_
              refine r_goto (tg := 17) rfl rfl ?_
              refine r_zret rfl (.inr rfl) ?_
              show WR _ cd_226 5 [some (.ref (ad 30)), some (.int t), some (.int x), some (.int y)] [.int 1] (sI (sI h (ad 0) 6 0) (ad 0) 6 (-3)) _
              refine r_if_ne (tg := 15) rfl rfl (fun _ => ?_) (fun q => absurd q (by decide))
              refine r_iload rfl rfl ?_
              refine r_i2l rfl ?_
              refine r_ldc (x := .long (-100)) rfl rfl ?_
              refine r_ldc (x := .long 100) rfl rfl ?_
              refine r_cs (y := 155) (ra := [.long 100, .long (-100), .long x.toInt64]) (rest := []) rfl ⟨⟨rfl, rfl⟩, by decide⟩ rfl rfl (Nat.le_of_ble_eq_true rfl) ?_
              refine in_155 (Nat.le_of_ble_eq_true rfl) ?_
              show WR _ cd_155 0 [some (.long x.toInt64), none, some (.long (-100)), none, some (.long 100), none] [] (sI (sI h (ad 0) 6 0) (ad 0) 6 (-3)) _
              refine r_lload rfl rfl ?_
              refine r_lload rfl rfl ?_
              refine r_lif_lt (tg := 17) rfl rfl rfl (fun q => False.elim (by have := i_nlt c4; have := i_rg x; have : (-100 : Int32).toInt = -100 := rfl; have := i_nlt c5; have : (100 : Int32).toInt = 100 := rfl; have := w_t x; have : (-100 : Int64).toInt = -100 := rfl; have := l_lt q; omega)) (fun _ => ?_)
              refine r_lload rfl rfl ?_
              refine r_lload rfl rfl ?_
              refine r_lif_gt (tg := 17) rfl rfl rfl (fun q => False.elim (by have := i_nlt c4; have := i_rg x; have : (-100 : Int32).toInt = -100 := rfl; have := i_nlt c5; have : (100 : Int32).toInt = 100 := rfl; have := w_t x; have : (100 : Int64).toInt = 100 := rfl; have := l_lt q; omega)) (fun _ => ?_)
              refine r_ic (x := 1) rfl rfl ?_
              refine r_goto (tg := 18) rfl rfl ?_
              refine r_zret rfl (.inr rfl) ?_
              show WR _ cd_226 26 [some (.ref (ad 30)), some (.int t), some (.int x), some (.int y)] [.int 1] (sI (sI h (ad 0) 6 0) (ad 0) 6 (-3)) _
              refine r_if_eq (tg := 43) rfl rfl (fun q => absurd q (by decide)) (fun _ => ?_)
              obtain ⟨k10, hk10, ek10⟩ := ix_of (x := y) (n := 2147483648) (by have := i_nlt c7; have := i_rg y; have : (-100 : Int32).toInt = -100 := rfl; have := i_nle c8; have : (100 : Int32).toInt = 100 := rfl; omega) (by have := i_nlt c7; have := i_rg y; have : (-100 : Int32).toInt = -100 := rfl; have := i_nle c8; have : (100 : Int32).toInt = 100 := rfl; omega)
              refine r_iload rfl rfl ?_
              refine WR_tI (y := nI k10) ek10 ?_
              refine r_i2l rfl ?_
              refine WR_tL (y := lN k10) (nI_l (by have := i_nlt c7; have := i_rg y; have : (-100 : Int32).toInt = -100 := rfl; have := i_nle c8; have : (100 : Int32).toInt = 100 := rfl; have := i_eq ek10; have : (nI k10).toInt = ((k10 : Nat) : Int) := nI_toInt (by omega); omega)) ?_
              refine r_ldc (x := .long (-100)) rfl rfl ?_
              refine r_ldc (x := .long 100) rfl rfl ?_
              refine r_cs (y := 155) (ra := [.long 100, .long (-100), .long (lN k10)]) (rest := []) rfl ⟨⟨rfl, rfl⟩, by decide⟩ rfl rfl (Nat.le_of_ble_eq_true rfl) ?_
              refine in_155 (Nat.le_of_ble_eq_true rfl) ?_
              show WR _ cd_155 0 [some (.long (lN k10)), none, some (.long (-100)), none, some (.long 100), none] [] (sI (sI h (ad 0) 6 0) (ad 0) 6 (-3)) _
              refine r_lload rfl rfl ?_
              refine r_lload rfl rfl ?_
              refine r_lif_lt (tg := 17) rfl rfl rfl (fun q => False.elim (by have := i_nlt c7; have := i_rg y; have : (-100 : Int32).toInt = -100 := rfl; have := i_nle c8; have : (100 : Int32).toInt = 100 := rfl; have := i_eq ek10; have : (nI k10).toInt = ((k10 : Nat) : Int) := nI_toInt (by omega); have : (lN k10).toInt = ((k10 : Nat) : Int) := lN_toInt (by omega); have : (-100 : Int64).toInt = -100 := rfl; have := l_lt q; omega)) (fun _ => ?_)
              refine r_lload rfl rfl ?_
              refine r_lload rfl rfl ?_
              refine r_lif_gt (tg := 17) rfl rfl rfl (fun _ => ?_) (fun q => False.elim (by have := i_nlt c7; have := i_rg y; have : (-100 : Int32).toInt = -100 := rfl; have := i_nle c8; have : (100 : Int32).toInt = 100 := rfl; have := i_eq ek10; have : (nI k10).toInt = ((k10 : Nat) : Int) := nI_toInt (by omega); have : (lN k10).toInt = ((k10 : Nat) : Int) := lN_toInt (by omega); have : (100 : Int64).toInt = 100 := rfl; have := l_nlt q; omega))
              refine r_ic (x := 0) rfl rfl ?_
              refine r_zret rfl (.inl rfl) ?_
              show WR _ cd_226 40 [some (.ref (ad 30)), some (.int t), some (.int x), some (.int y)] [.int 0] (sI (sI h (ad 0) 6 0) (ad 0) 6 (-3)) _
              refine r_if_ne (tg := 50) rfl rfl (fun q => absurd q (by decide)) (fun _ => ?_)
              refine r_aload rfl rfl ?_
              refine r_ic (x := (-3)) rfl rfl ?_
              refine r_cv (y := 154) (ra := [.int (-3)]) (rest := []) rfl ⟨⟨rfl, rfl⟩, rfl, by decide⟩ (fx_t30 fx) rfl rfl (Nat.le_of_ble_eq_true rfl) ?_
              refine in_154 (Nat.le_of_ble_eq_true rfl) ?_
              show WR _ cd_154 0 [some (.ref (ad 30)), some (.int (-3))] [] (sI (sI h (ad 0) 6 0) (ad 0) 6 (-3)) _
              refine r_aload rfl rfl ?_
              refine r_iload rfl rfl ?_
              refine r_ic (x := (-1)) rfl rfl ?_
              refine r_icmp_ge (tg := 10) rfl rfl (fun q => absurd q (by decide)) (fun _ => ?_)
              refine r_iload rfl rfl ?_
              refine r_goto (tg := 11) rfl rfl ?_
              refine r_putI rfl ⟨rfl, rfl, rfl⟩ (fx_t30 fx) ?_
              have fx : FX n ad sa z0 (sI (sI (sI h (ad 0) 6 0) (ad 0) 6 (-3)) (ad 30) 11 (-3)) := (FX.sI fx)
              refine r_iload rfl rfl ?_
              refine r_iret rfl ?_
              show WR _ cd_226 49 [some (.ref (ad 30)), some (.int t), some (.int x), some (.int y)] [.int (-3)] (sI (sI (sI h (ad 0) 6 0) (ad 0) 6 (-3)) (ad 30) 11 (-3)) _
              refine r_iret rfl ?_
              exact ⟨rfl, Rel.why r (((Chg.rf.sI (fx_j fx) (.inl (by decide))).sI (fx_j fx) (.inl (by decide))).sI (fx_j fx) (.inl (by decide))) ⟨rfl, by decide⟩ (Eq.trans (Eq.trans (I_ne (fx_ne fx (by decide))) I_eq) (Eq.symm I_eq)), (by (try simp only [hZ_sI, hZ_sL, hZ_sD, hZ_sR]); omega), (by (try simp only [hU_sI, hU_sL, hU_sD, hU_sR]); omega)⟩

set_option maxHeartbeats 10000000 in
theorem k_reset {n : Nat} {ad sa : Nat → Nat} {z0 : Nat} {h : mH} (r : Rel n ad sa z0 h) (t : Int32) : AP n ad sa z0 h 142 245 [.int t] := by
  obtain ⟨mid, pa, np, fx, ry, rt, ra, rp, rf, rst, ru, rs⟩ := id r
  have fx0 := fx
  have hn_ := fx_k fx
  unfold AP
  refine in_142 (Nat.le_of_ble_eq_true rfl) ?_
  show WR _ cd_142 0 [some (.ref (ad 0)), some (.int t)] [] h _
  refine r_aload rfl rfl ?_
  refine r_ic (x := 0) rfl rfl ?_
  refine r_putI rfl ⟨rfl, rfl, rfl⟩ (fx_t0 fx) ?_
  have fx : FX n ad sa z0 (sI h (ad 0) 6 0) := (FX.sI fx)
  refine r_aload rfl rfl ?_
  refine r_iload rfl rfl ?_
  refine r_cv (y := 95) (ra := [.int t]) (rest := []) rfl ⟨⟨rfl, rfl⟩, rfl, by decide⟩ (fx_t0 fx) rfl rfl (Nat.le_of_ble_eq_true rfl) ?_
  refine in_95 (Nat.le_of_ble_eq_true rfl) ?_
  show WR _ cd_95 0 [some (.ref (ad 0)), some (.int t)] [] (sI h (ad 0) 6 0) _
  refine r_iload rfl rfl ?_
  refine r_if_lt (tg := 20) rfl rfl (fun c1 => ?_) (fun c1 => ?_)
  · refine r_ic (x := 0) rfl rfl ?_
    refine r_zret rfl (.inl rfl) ?_
    show WR _ cd_142 10 [some (.ref (ad 0)), some (.int t)] [.int 0] (sI h (ad 0) 6 0) _
    refine r_if_ne (tg := 20) rfl rfl (fun q => absurd q (by decide)) (fun _ => ?_)
    refine r_aload rfl rfl ?_
    refine r_ic (x := (-2)) rfl rfl ?_
    refine r_cv (y := 13) (ra := [.int (-2)]) (rest := []) rfl ⟨⟨rfl, rfl⟩, rfl, by decide⟩ (fx_t0 fx) rfl rfl (Nat.le_of_ble_eq_true rfl) ?_
    refine in_13 (Nat.le_of_ble_eq_true rfl) ?_
    show WR _ cd_13 0 [some (.ref (ad 0)), some (.int (-2))] [] (sI h (ad 0) 6 0) _
    refine r_aload rfl rfl ?_
    refine r_iload rfl rfl ?_
    refine r_putI rfl ⟨rfl, rfl, rfl⟩ (fx_t0 fx) ?_
    have fx : FX n ad sa z0 (sI (sI h (ad 0) 6 0) (ad 0) 6 (-2)) := (FX.sI fx)
    refine r_iload rfl rfl ?_
    refine r_iret rfl ?_
    show WR _ cd_142 19 [some (.ref (ad 0)), some (.int t)] [.int (-2)] (sI (sI h (ad 0) 6 0) (ad 0) 6 (-2)) _
    refine r_iret rfl ?_
    show EV _ 245 [.ref (ad 30), .int t] (sI (sI h (ad 0) 6 0) (ad 0) 6 (-2)) _
    refine in_245 (Nat.le_of_ble_eq_true rfl) ?_
    show WR _ cd_245 0 [some (.ref (ad 30)), some (.int t)] [] (sI (sI h (ad 0) 6 0) (ad 0) 6 (-2)) _
    refine r_aload rfl rfl ?_
    refine r_iload rfl rfl ?_
    refine r_cv (y := 206) (ra := [.int t]) (rest := []) rfl ⟨⟨rfl, rfl⟩, rfl, by decide⟩ (fx_t30 fx) rfl rfl (Nat.le_of_ble_eq_true rfl) ?_
    refine in_206 (Nat.le_of_ble_eq_true rfl) ?_
    show WR _ cd_206 0 [some (.ref (ad 30)), some (.int t)] [] (sI (sI h (ad 0) 6 0) (ad 0) 6 (-2)) _
    refine r_iload rfl rfl ?_
    refine r_if_lt (tg := 16) rfl rfl (fun _ => ?_) (fun q => False.elim (by have := i_lt c1; have := i_rg t; have : (0 : Int32).toInt = 0 := rfl; have := i_nlt q; omega))
    refine r_ic (x := 0) rfl rfl ?_
    refine r_zret rfl (.inl rfl) ?_
    show WR _ cd_245 5 [some (.ref (ad 30)), some (.int t)] [.int 0] (sI (sI h (ad 0) 6 0) (ad 0) 6 (-2)) _
    refine r_if_ne (tg := 15) rfl rfl (fun q => absurd q (by decide)) (fun _ => ?_)
    refine r_aload rfl rfl ?_
    refine r_ic (x := (-2)) rfl rfl ?_
    refine r_cv (y := 154) (ra := [.int (-2)]) (rest := []) rfl ⟨⟨rfl, rfl⟩, rfl, by decide⟩ (fx_t30 fx) rfl rfl (Nat.le_of_ble_eq_true rfl) ?_
    refine in_154 (Nat.le_of_ble_eq_true rfl) ?_
    show WR _ cd_154 0 [some (.ref (ad 30)), some (.int (-2))] [] (sI (sI h (ad 0) 6 0) (ad 0) 6 (-2)) _
    refine r_aload rfl rfl ?_
    refine r_iload rfl rfl ?_
    refine r_ic (x := (-1)) rfl rfl ?_
    refine r_icmp_ge (tg := 10) rfl rfl (fun q => absurd q (by decide)) (fun _ => ?_)
    refine r_iload rfl rfl ?_
    refine r_goto (tg := 11) rfl rfl ?_
    refine r_putI rfl ⟨rfl, rfl, rfl⟩ (fx_t30 fx) ?_
    have fx : FX n ad sa z0 (sI (sI (sI h (ad 0) 6 0) (ad 0) 6 (-2)) (ad 30) 11 (-2)) := (FX.sI fx)
    refine r_iload rfl rfl ?_
    refine r_iret rfl ?_
    show WR _ cd_245 14 [some (.ref (ad 30)), some (.int t)] [.int (-2)] (sI (sI (sI h (ad 0) 6 0) (ad 0) 6 (-2)) (ad 30) 11 (-2)) _
    refine r_iret rfl ?_
    exact ⟨rfl, Rel.why r (((Chg.rf.sI (fx_j fx) (.inl (by decide))).sI (fx_j fx) (.inl (by decide))).sI (fx_j fx) (.inl (by decide))) ⟨rfl, by decide⟩ (Eq.trans (Eq.trans (I_ne (fx_ne fx (by decide))) I_eq) (Eq.symm I_eq)), (by (try simp only [hZ_sI, hZ_sL, hZ_sD, hZ_sR]); omega), (by (try simp only [hU_sI, hU_sL, hU_sD, hU_sR]); omega)⟩
  · obtain ⟨k2, hk2, ek2⟩ := ix_of (x := t) (n := 2147483648) (by have := i_nlt c1; have := i_rg t; have : (0 : Int32).toInt = 0 := rfl; omega) (by have := i_nlt c1; have := i_rg t; have : (0 : Int32).toInt = 0 := rfl; omega)
    refine r_iload rfl rfl ?_
    refine WR_tI (y := nI k2) ek2 ?_
    refine r_aload rfl rfl ?_
    refine r_getA (b := ad 4) rfl ⟨rfl, rfl, rfl⟩ (fx_t0 fx) (fx_r0_2 fx) ?_
    refine r_getA (b := ad 7) rfl ⟨rfl, rfl, rfl⟩ (fx_t4 fx) (fx_r4_0 fx) ?_
    refine r_alen rfl (isA_of (fx_t7 fx) (by decide)) ?_
    refine WR_tI (y := nI n) (congrArg nI (fx_n7 fx)) ?_
    refine r_icmp_ge (tg := 20) rfl rfl (fun c3 => ?_) (fun c3 => ?_)
    · refine r_ic (x := 0) rfl rfl ?_
      refine r_zret rfl (.inl rfl) ?_
      show WR _ cd_142 10 [some (.ref (ad 0)), some (.int t)] [.int 0] (sI h (ad 0) 6 0) _
      refine r_if_ne (tg := 20) rfl rfl (fun q => absurd q (by decide)) (fun _ => ?_)
      refine r_aload rfl rfl ?_
      refine r_ic (x := (-2)) rfl rfl ?_
      refine r_cv (y := 13) (ra := [.int (-2)]) (rest := []) rfl ⟨⟨rfl, rfl⟩, rfl, by decide⟩ (fx_t0 fx) rfl rfl (Nat.le_of_ble_eq_true rfl) ?_
      refine in_13 (Nat.le_of_ble_eq_true rfl) ?_
      show WR _ cd_13 0 [some (.ref (ad 0)), some (.int (-2))] [] (sI h (ad 0) 6 0) _
      refine r_aload rfl rfl ?_
      refine r_iload rfl rfl ?_
      refine r_putI rfl ⟨rfl, rfl, rfl⟩ (fx_t0 fx) ?_
      have fx : FX n ad sa z0 (sI (sI h (ad 0) 6 0) (ad 0) 6 (-2)) := (FX.sI fx)
      refine r_iload rfl rfl ?_
      refine r_iret rfl ?_
      show WR _ cd_142 19 [some (.ref (ad 0)), some (.int t)] [.int (-2)] (sI (sI h (ad 0) 6 0) (ad 0) 6 (-2)) _
      refine r_iret rfl ?_
      show EV _ 245 [.ref (ad 30), .int t] (sI (sI h (ad 0) 6 0) (ad 0) 6 (-2)) _
      refine in_245 (Nat.le_of_ble_eq_true rfl) ?_
      show WR _ cd_245 0 [some (.ref (ad 30)), some (.int t)] [] (sI (sI h (ad 0) 6 0) (ad 0) 6 (-2)) _
      refine r_aload rfl rfl ?_
      refine r_iload rfl rfl ?_
      refine WR_tI (y := nI k2) ek2 ?_
      refine r_cv (y := 206) (ra := [.int (nI k2)]) (rest := []) rfl ⟨⟨rfl, rfl⟩, rfl, by decide⟩ (fx_t30 fx) rfl rfl (Nat.le_of_ble_eq_true rfl) ?_
      refine in_206 (Nat.le_of_ble_eq_true rfl) ?_
      show WR _ cd_206 0 [some (.ref (ad 30)), some (.int (nI k2))] [] (sI (sI h (ad 0) 6 0) (ad 0) 6 (-2)) _
      refine r_iload rfl rfl ?_
      refine r_if_lt (tg := 16) rfl rfl (fun q => False.elim (by have := i_nlt c1; have := i_rg t; have : (0 : Int32).toInt = 0 := rfl; have := i_eq ek2; have : (nI k2).toInt = ((k2 : Nat) : Int) := nI_toInt (by omega); have := i_le c3; have : (nI n).toInt = ((n : Nat) : Int) := nI_toInt (by omega); have := i_lt q; omega)) (fun _ => ?_)
      refine r_iload rfl rfl ?_
      refine r_aload rfl rfl ?_
      refine r_getI rfl ⟨rfl, rfl, rfl⟩ (fx_t30 fx) ?_
      refine WR_tI (y := nI n) (Eq.trans (I_ne (fx_ne fx (by decide))) (Eq.trans (I_ne (fx_ne fx (by decide))) ru.1)) ?_
      refine r_icmp_ge (tg := 16) rfl rfl (fun _ => ?_) (fun q => False.elim (by have := i_nlt c1; have := i_rg t; have : (0 : Int32).toInt = 0 := rfl; have := i_eq ek2; have : (nI k2).toInt = ((k2 : Nat) : Int) := nI_toInt (by omega); have := i_le c3; have : (nI n).toInt = ((n : Nat) : Int) := nI_toInt (by omega); have := i_nle q; omega))
      refine r_ic (x := 0) rfl rfl ?_
      refine r_zret rfl (.inl rfl) ?_
      show WR _ cd_245 5 [some (.ref (ad 30)), some (.int t)] [.int 0] (sI (sI h (ad 0) 6 0) (ad 0) 6 (-2)) _
      refine r_if_ne (tg := 15) rfl rfl (fun q => absurd q (by decide)) (fun _ => ?_)
      refine r_aload rfl rfl ?_
      refine r_ic (x := (-2)) rfl rfl ?_
      refine r_cv (y := 154) (ra := [.int (-2)]) (rest := []) rfl ⟨⟨rfl, rfl⟩, rfl, by decide⟩ (fx_t30 fx) rfl rfl (Nat.le_of_ble_eq_true rfl) ?_
      refine in_154 (Nat.le_of_ble_eq_true rfl) ?_
      show WR _ cd_154 0 [some (.ref (ad 30)), some (.int (-2))] [] (sI (sI h (ad 0) 6 0) (ad 0) 6 (-2)) _
      refine r_aload rfl rfl ?_
      refine r_iload rfl rfl ?_
      refine r_ic (x := (-1)) rfl rfl ?_
      refine r_icmp_ge (tg := 10) rfl rfl (fun q => absurd q (by decide)) (fun _ => ?_)
      refine r_iload rfl rfl ?_
      refine r_goto (tg := 11) rfl rfl ?_
      refine r_putI rfl ⟨rfl, rfl, rfl⟩ (fx_t30 fx) ?_
      have fx : FX n ad sa z0 (sI (sI (sI h (ad 0) 6 0) (ad 0) 6 (-2)) (ad 30) 11 (-2)) := (FX.sI fx)
      refine r_iload rfl rfl ?_
      refine r_iret rfl ?_
      show WR _ cd_245 14 [some (.ref (ad 30)), some (.int t)] [.int (-2)] (sI (sI (sI h (ad 0) 6 0) (ad 0) 6 (-2)) (ad 30) 11 (-2)) _
      refine r_iret rfl ?_
      exact ⟨rfl, Rel.why r (((Chg.rf.sI (fx_j fx) (.inl (by decide))).sI (fx_j fx) (.inl (by decide))).sI (fx_j fx) (.inl (by decide))) ⟨rfl, by decide⟩ (Eq.trans (Eq.trans (I_ne (fx_ne fx (by decide))) I_eq) (Eq.symm I_eq)), (by (try simp only [hZ_sI, hZ_sL, hZ_sD, hZ_sR]); omega), (by (try simp only [hU_sI, hU_sL, hU_sD, hU_sR]); omega)⟩
    · refine r_ic (x := 1) rfl rfl ?_
      refine r_goto (tg := 21) rfl rfl ?_
      refine r_zret rfl (.inr rfl) ?_
      show WR _ cd_142 10 [some (.ref (ad 0)), some (.int t)] [.int 1] (sI h (ad 0) 6 0) _
      refine r_if_ne (tg := 20) rfl rfl (fun _ => ?_) (fun q => absurd q (by decide))
      refine r_aload rfl rfl ?_
      refine r_getA (b := ad 4) rfl ⟨rfl, rfl, rfl⟩ (fx_t0 fx) (fx_r0_2 fx) ?_
      refine r_getA (b := ad 7) rfl ⟨rfl, rfl, rfl⟩ (fx_t4 fx) (fx_r4_0 fx) ?_
      refine r_iload rfl rfl ?_
      refine WR_tI (y := nI k2) ek2 ?_
      have hk4 : k2 < n := (by have := i_nlt c1; have := i_rg t; have : (0 : Int32).toInt = 0 := rfl; have := i_eq ek2; have : (nI k2).toInt = ((k2 : Nat) : Int) := nI_toInt (by omega); have := i_nle c3; have : (nI n).toInt = ((n : Nat) : Int) := nI_toInt (by omega); omega)
      have tb4 := fx_tb fx0 k2 hk4
      obtain ⟨⟨a1_4, a2_4, a3_4, a4_4⟩, ⟨b1_4, b2_4⟩, ⟨c1_4, c2_4⟩, ⟨d1_4, d2_4⟩, ⟨e1_4, e2_4, e3_4, e4_4, e5_4, e6_4, e7_4⟩, f_4, g_4⟩ := id (ru.2 k2 hk4)
      refine r_aaloadA (b := ad (100 + 5 * k2)) rfl (isQ_of (fx_t7 fx) (by decide)) (vp_ct (fx_n7 fx) (vp_in_nI (by have := i_nlt c1; have := i_rg t; have : (0 : Int32).toInt = 0 := rfl; have := i_eq ek2; have : (nI k2).toInt = ((k2 : Nat) : Int) := nI_toInt (by omega); have := i_nle c3; have : (nI n).toInt = ((n : Nat) : Int) := nI_toInt (by omega); omega) (by omega))) (Eq.trans (congrArg (hR (sI h (ad 0) 6 0) (ad 7)) ((nI_clamp (by have := i_nlt c1; have := i_rg t; have : (0 : Int32).toInt = 0 := rfl; have := i_eq ek2; have : (nI k2).toInt = ((k2 : Nat) : Int) := nI_toInt (by omega); have := i_nle c3; have : (nI n).toInt = ((n : Nat) : Int) := nI_toInt (by omega); omega)) : _ = k2)) (Eq.trans R_oI tb4.1)) ?_
      refine r_getI rfl ⟨rfl, rfl, rfl⟩ tb4.2.1 ?_
      refine WR_tI (y := hI h (ad (100 + 5 * k2)) 10) (I_ne (fx_ne fx (by omega))) ?_
      refine r_ic (x := 4) rfl rfl ?_
      refine r_icmp_eq (tg := 43) rfl rfl (fun c5 => ?_) (fun c5 => ?_)
      · refine r_aload rfl rfl ?_
        refine r_getA (b := ad 4) rfl ⟨rfl, rfl, rfl⟩ (fx_t0 fx) (fx_r0_2 fx) ?_
        refine r_getA (b := ad 7) rfl ⟨rfl, rfl, rfl⟩ (fx_t4 fx) (fx_r4_0 fx) ?_
        refine r_iload rfl rfl ?_
        refine WR_tI (y := nI k2) ek2 ?_
        refine r_aaloadA (b := ad (100 + 5 * k2)) rfl (isQ_of (fx_t7 fx) (by decide)) (vp_ct (fx_n7 fx) (vp_in_nI (by have := i_nlt c1; have := i_rg t; have : (0 : Int32).toInt = 0 := rfl; have := i_eq ek2; have : (nI k2).toInt = ((k2 : Nat) : Int) := nI_toInt (by omega); have := i_nle c3; have : (nI n).toInt = ((n : Nat) : Int) := nI_toInt (by omega); omega) (by omega))) (Eq.trans (congrArg (hR (sI h (ad 0) 6 0) (ad 7)) ((nI_clamp (by have := i_nlt c1; have := i_rg t; have : (0 : Int32).toInt = 0 := rfl; have := i_eq ek2; have : (nI k2).toInt = ((k2 : Nat) : Int) := nI_toInt (by omega); have := i_nle c3; have : (nI n).toInt = ((n : Nat) : Int) := nI_toInt (by omega); omega)) : _ = k2)) (Eq.trans R_oI tb4.1)) ?_
        refine r_ic (x := 0) rfl rfl ?_
        refine r_putI rfl ⟨rfl, rfl, rfl⟩ tb4.2.1 ?_
        have fx : FX n ad sa z0 (sI (sI h (ad 0) 6 0) (ad (100 + 5 * k2)) 10 0) := (FX.sI fx)
        refine r_ic (x := 1) rfl rfl ?_
        refine r_iret rfl ?_
        show EV _ 245 [.ref (ad 30), .int t] (sI (sI h (ad 0) 6 0) (ad (100 + 5 * k2)) 10 0) _
        refine in_245 (Nat.le_of_ble_eq_true rfl) ?_
        show WR _ cd_245 0 [some (.ref (ad 30)), some (.int t)] [] (sI (sI h (ad 0) 6 0) (ad (100 + 5 * k2)) 10 0) _
        refine r_aload rfl rfl ?_
        refine r_iload rfl rfl ?_
        refine WR_tI (y := nI k2) ek2 ?_
        refine r_cv (y := 206) (ra := [.int (nI k2)]) (rest := []) rfl ⟨⟨rfl, rfl⟩, rfl, by decide⟩ (fx_t30 fx) rfl rfl (Nat.le_of_ble_eq_true rfl) ?_
        refine in_206 (Nat.le_of_ble_eq_true rfl) ?_
        show WR _ cd_206 0 [some (.ref (ad 30)), some (.int (nI k2))] [] (sI (sI h (ad 0) 6 0) (ad (100 + 5 * k2)) 10 0) _
        refine r_iload rfl rfl ?_
        refine r_if_lt (tg := 16) rfl rfl (fun q => False.elim (by have := i_nlt c1; have := i_rg t; have : (0 : Int32).toInt = 0 := rfl; have := i_eq ek2; have : (nI k2).toInt = ((k2 : Nat) : Int) := nI_toInt (by omega); have := i_nle c3; have : (nI n).toInt = ((n : Nat) : Int) := nI_toInt (by omega); have := i_lt q; omega)) (fun _ => ?_)
        refine r_iload rfl rfl ?_
        refine r_aload rfl rfl ?_
        refine r_getI rfl ⟨rfl, rfl, rfl⟩ (fx_t30 fx) ?_
        refine WR_tI (y := nI n) (Eq.trans (I_ne (fx_ne fx (by omega))) (Eq.trans (I_ne (fx_ne fx (by decide))) ru.1)) ?_
        refine r_icmp_ge (tg := 16) rfl rfl (fun q => False.elim (by have := i_nlt c1; have := i_rg t; have : (0 : Int32).toInt = 0 := rfl; have := i_eq ek2; have : (nI k2).toInt = ((k2 : Nat) : Int) := nI_toInt (by omega); have := i_nle c3; have : (nI n).toInt = ((n : Nat) : Int) := nI_toInt (by omega); have := i_le q; omega)) (fun _ => ?_)
        refine r_ic (x := 1) rfl rfl ?_
        refine r_goto (tg := 17) rfl rfl ?_
        refine r_zret rfl (.inr rfl) ?_
        show WR _ cd_245 5 [some (.ref (ad 30)), some (.int t)] [.int 1] (sI (sI h (ad 0) 6 0) (ad (100 + 5 * k2)) 10 0) _
        refine r_if_ne (tg := 15) rfl rfl (fun _ => ?_) (fun q => absurd q (by decide))
        refine r_aload rfl rfl ?_
        refine r_getA (b := ad 66) rfl ⟨rfl, rfl, rfl⟩ (fx_t30 fx) (fx_r30_53 fx) ?_
        refine r_iload rfl rfl ?_
        refine WR_tI (y := nI k2) ek2 ?_
        refine r_iaload rfl (.inl (fx_t66 fx)) (vp_ct (fx_n66 fx) (vp_in_nI (by have := i_nlt c1; have := i_rg t; have : (0 : Int32).toInt = 0 := rfl; have := i_eq ek2; have : (nI k2).toInt = ((k2 : Nat) : Int) := nI_toInt (by omega); have := i_nle c3; have : (nI n).toInt = ((n : Nat) : Int) := nI_toInt (by omega); omega) (by omega))) ?_
        refine WR_tI (congrArg (hI (sI (sI h (ad 0) 6 0) (ad (100 + 5 * k2)) 10 0) (ad 66)) ((nI_clamp (by have := i_nlt c1; have := i_rg t; have : (0 : Int32).toInt = 0 := rfl; have := i_eq ek2; have : (nI k2).toInt = ((k2 : Nat) : Int) := nI_toInt (by omega); have := i_nle c3; have : (nI n).toInt = ((n : Nat) : Int) := nI_toInt (by omega); omega)) : _ = k2)) ?_
        refine WR_tI (y := hI h (ad (100 + 5 * k2)) 10) (Eq.trans (I_ne (fx_ne fx (by omega))) (Eq.trans (I_ne (fx_ne fx (by decide))) c1_4.symm)) ?_
        refine r_ic (x := 4) rfl rfl ?_
        refine r_icmp_eq (tg := 32) rfl rfl (fun _ => ?_) (fun q => False.elim (by have := i_eq c5; have := i_rg (hI h (ad (100 + 5 * k2)) 10); have : (4 : Int32).toInt = 4 := rfl; have := i_neq q; omega))
        refine r_aload rfl rfl ?_
        refine r_getA (b := ad 66) rfl ⟨rfl, rfl, rfl⟩ (fx_t30 fx) (fx_r30_53 fx) ?_
        refine r_iload rfl rfl ?_
        refine WR_tI (y := nI k2) ek2 ?_
        refine r_ic (x := 0) rfl rfl ?_
        refine r_iastore rfl (fx_t66 fx) (vp_ct (fx_n66 fx) (vp_in_nI (by have := i_nlt c1; have := i_rg t; have : (0 : Int32).toInt = 0 := rfl; have := i_eq ek2; have : (nI k2).toInt = ((k2 : Nat) : Int) := nI_toInt (by omega); have := i_nle c3; have : (nI n).toInt = ((n : Nat) : Int) := nI_toInt (by omega); omega) (by omega))) ?_
        refine WR_h (h2 := sI (sI (sI h (ad 0) 6 0) (ad (100 + 5 * k2)) 10 0) (ad 66) k2 0) (congrArg (fun z => sI (sI (sI h (ad 0) 6 0) (ad (100 + 5 * k2)) 10 0) (ad 66) z 0) ((nI_clamp (by have := i_nlt c1; have := i_rg t; have : (0 : Int32).toInt = 0 := rfl; have := i_eq ek2; have : (nI k2).toInt = ((k2 : Nat) : Int) := nI_toInt (by omega); have := i_nle c3; have : (nI n).toInt = ((n : Nat) : Int) := nI_toInt (by omega); omega)) : _ = k2)) ?_
        have fx : FX n ad sa z0 (sI (sI (sI h (ad 0) 6 0) (ad (100 + 5 * k2)) 10 0) (ad 66) k2 0) := (FX.sI fx)
        refine r_aload rfl rfl ?_
        refine r_ic (x := 1) rfl rfl ?_
        refine r_cv (y := 154) (ra := [.int 1]) (rest := []) rfl ⟨⟨rfl, rfl⟩, rfl, by decide⟩ (fx_t30 fx) rfl rfl (Nat.le_of_ble_eq_true rfl) ?_
        refine in_154 (Nat.le_of_ble_eq_true rfl) ?_
        show WR _ cd_154 0 [some (.ref (ad 30)), some (.int 1)] [] (sI (sI (sI h (ad 0) 6 0) (ad (100 + 5 * k2)) 10 0) (ad 66) k2 0) _
        refine r_aload rfl rfl ?_
        refine r_iload rfl rfl ?_
        refine r_ic (x := (-1)) rfl rfl ?_
        refine r_icmp_ge (tg := 10) rfl rfl (fun _ => ?_) (fun q => absurd q (by decide))
        refine r_ic (x := 0) rfl rfl ?_
        refine r_putI rfl ⟨rfl, rfl, rfl⟩ (fx_t30 fx) ?_
        have fx : FX n ad sa z0 (sI (sI (sI (sI h (ad 0) 6 0) (ad (100 + 5 * k2)) 10 0) (ad 66) k2 0) (ad 30) 11 0) := (FX.sI fx)
        refine r_iload rfl rfl ?_
        refine r_iret rfl ?_
        show WR _ cd_245 44 [some (.ref (ad 30)), some (.int t)] [.int 1] (sI (sI (sI (sI h (ad 0) 6 0) (ad (100 + 5 * k2)) 10 0) (ad 66) k2 0) (ad 30) 11 0) _
        refine r_iret rfl ?_
        have cg : Chg n ad [(30, 11), (100 + 5 * k2, 10), (0, 6)] [66] h (sI (sI (sI (sI h (ad 0) 6 0) (ad (100 + 5 * k2)) 10 0) (ad 66) k2 0) (ad 30) 11 0) := ((((Chg.rf.sI (fx_j fx0) (k := 6) (v := 0) (.inl (by decide))).sI (fx_j fx0) (k := 10) (v := 0) (.inr ⟨by omega, by omega⟩)).sI (fx_j fx0) (k := k2) (v := 0) (.inl (by decide))).row.sI (fx_j fx0) (k := 11) (v := 0) (.inl (by decide)))
        refine ⟨rfl, Rel_tu fx0 rt ra rp rf rst rs cg (by intro p_ hp_; simp only [List.mem_cons, List.not_mem_nil, or_false] at hp_; rcases hp_ with rfl | rfl | rfl <;> first | (simp; done) | (simp; omega) | omega) (by intro i_ hi_; simp only [List.mem_cons, List.not_mem_nil, or_false] at hi_; rcases hi_ with rfl <;> first | (simp [tuL]; done) | (simp [tuL]; omega) | omega) rfl (Eq.trans (Eq.trans (I_ne (fx_ne fx (by decide))) (Eq.trans (I_ne (fx_ne fx (by decide))) (Eq.trans (I_ne (fx_ne fx (by omega))) I_eq))) (Eq.symm I_eq)) ⟨(Eq.trans (Eq.trans (I_nk (by decide)) (Eq.trans (I_ne (fx_ne fx (by decide))) (Eq.trans (I_ne (fx_ne fx (by omega))) (I_ne (fx_ne fx (by decide)))))) ru.1), fun t_ ht_ => ?_⟩, (by (try simp only [hZ_sI, hZ_sL, hZ_sD, hZ_sR]); omega), (by (try simp only [hU_sI, hU_sL, hU_sD, hU_sR]); omega)⟩
        by_cases e_ : t_ = k2
        · subst e_
          obtain ⟨g1, g2, g3, g4, g5, g6, g7⟩ := (tuR_i _ _ _ _ _).mp (ru.2 t_ ht_)
          refine (tuR_i _ _ _ _ _).mpr ⟨g1.c (Eq.trans (I_ne (fx_ne fx (by omega))) (Eq.trans (I_ne (fx_ne fx (by omega))) (Eq.trans (I_nk (by decide)) (I_ne (fx_ne fx (by omega)))))) (Eq.trans (I_ne (fx_ne fx (by omega))) (Eq.trans (I_ne (fx_ne fx (by omega))) (Eq.trans (I_nk (by decide)) (I_ne (fx_ne fx (by omega)))))) (Eq.trans (I_ne (fx_ne fx (by omega))) (Eq.trans (I_ne (fx_ne fx (by omega))) (Eq.trans (I_nk (by decide)) (I_ne (fx_ne fx (by omega)))))) (Eq.trans (I_ne (fx_ne fx (by decide))) (Eq.trans (I_ne (fx_ne fx (by decide))) (Eq.trans (I_ne (fx_ne fx (by omega))) (I_ne (fx_ne fx (by decide)))))) (Eq.trans (I_ne (fx_ne fx (by decide))) (Eq.trans (I_ne (fx_ne fx (by decide))) (Eq.trans (I_ne (fx_ne fx (by omega))) (I_ne (fx_ne fx (by decide)))))), g2.c (Eq.trans (I_ne (fx_ne fx (by omega))) (Eq.trans (I_ne (fx_ne fx (by omega))) (Eq.trans (I_nk (by decide)) (I_ne (fx_ne fx (by omega)))))) (Eq.trans (I_ne (fx_ne fx (by decide))) (Eq.trans (I_ne (fx_ne fx (by decide))) (Eq.trans (I_ne (fx_ne fx (by omega))) (I_ne (fx_ne fx (by decide)))))), ?_, g4.c (Eq.trans L_oI (Eq.trans L_oI (Eq.trans L_oI L_oI))) (Eq.trans D_oI (Eq.trans D_oI (Eq.trans D_oI D_oI))), g5.d (fun j_ => (Eq.trans D_oI (Eq.trans D_oI (Eq.trans D_oI D_oI)))) (Eq.trans D_oI (Eq.trans D_oI (Eq.trans D_oI D_oI))) (Eq.trans D_oI (Eq.trans D_oI (Eq.trans D_oI D_oI))) (Eq.trans D_oI (Eq.trans D_oI (Eq.trans D_oI D_oI))) (Eq.trans D_oI (Eq.trans D_oI (Eq.trans D_oI D_oI))) (Eq.trans D_oI (Eq.trans D_oI (Eq.trans D_oI D_oI))) (Eq.trans D_oI (Eq.trans D_oI (Eq.trans D_oI D_oI))) (Eq.trans (I_nk (by decide)) (Eq.trans (I_ne (fx_ne fx (by decide))) (Eq.trans (I_ne (fx_ne fx (by omega))) (I_ne (fx_ne fx (by decide)))))), g6.c (fun s_ hs_ => ⟨(Eq.trans L_oI (Eq.trans L_oI (Eq.trans L_oI L_oI))), (Eq.trans L_oI (Eq.trans L_oI (Eq.trans L_oI L_oI))), (Eq.trans L_oI (Eq.trans L_oI (Eq.trans L_oI L_oI))), (Eq.trans D_oI (Eq.trans D_oI (Eq.trans D_oI D_oI))), (Eq.trans L_oI (Eq.trans L_oI (Eq.trans L_oI L_oI))), (Eq.trans L_oI (Eq.trans L_oI (Eq.trans L_oI L_oI)))⟩), g7.c (fun s_ hs_ => ⟨(Eq.trans R_oI (Eq.trans R_oI (Eq.trans R_oI R_oI))), (Eq.trans (I_ne (fx_ne fx (by decide))) (Eq.trans (I_ne (fx_ne fx (by decide))) (Eq.trans (I_ne (fx_ne fx (by omega))) (I_ne (fx_ne fx (by decide))))))⟩)⟩
          · exact ⟨Eq.trans (Eq.trans (I_ne (fx_ne fx (by omega))) (Eq.trans (I_ne (fx_ne fx (by omega))) I_eq)) (Eq.symm (Eq.trans (I_ne (fx_ne fx (by decide))) I_eq)), 0, by decide, (Eq.trans (I_ne (fx_ne fx (by decide))) I_eq)⟩
        · obtain ⟨g1, g2, g3, g4, g5, g6, g7⟩ := (tuR_i _ _ _ _ _).mp (ru.2 t_ ht_)
          refine (tuR_i _ _ _ _ _).mpr ⟨g1.c (Eq.trans (I_ne (fx_ne fx (by omega))) (Eq.trans (I_ne (fx_ne fx (by omega))) (Eq.trans (I_ne (fx_ne fx (by omega))) (I_ne (fx_ne fx (by omega)))))) (Eq.trans (I_ne (fx_ne fx (by omega))) (Eq.trans (I_ne (fx_ne fx (by omega))) (Eq.trans (I_ne (fx_ne fx (by omega))) (I_ne (fx_ne fx (by omega)))))) (Eq.trans (I_ne (fx_ne fx (by omega))) (Eq.trans (I_ne (fx_ne fx (by omega))) (Eq.trans (I_ne (fx_ne fx (by omega))) (I_ne (fx_ne fx (by omega)))))) (Eq.trans (I_ne (fx_ne fx (by decide))) (Eq.trans (I_ne (fx_ne fx (by decide))) (Eq.trans (I_ne (fx_ne fx (by omega))) (I_ne (fx_ne fx (by decide)))))) (Eq.trans (I_ne (fx_ne fx (by decide))) (Eq.trans (I_ne (fx_ne fx (by decide))) (Eq.trans (I_ne (fx_ne fx (by omega))) (I_ne (fx_ne fx (by decide)))))), g2.c (Eq.trans (I_ne (fx_ne fx (by omega))) (Eq.trans (I_ne (fx_ne fx (by omega))) (Eq.trans (I_ne (fx_ne fx (by omega))) (I_ne (fx_ne fx (by omega)))))) (Eq.trans (I_ne (fx_ne fx (by decide))) (Eq.trans (I_ne (fx_ne fx (by decide))) (Eq.trans (I_ne (fx_ne fx (by omega))) (I_ne (fx_ne fx (by decide)))))), g3.c (Eq.trans (I_ne (fx_ne fx (by omega))) (Eq.trans (I_ne (fx_ne fx (by omega))) (Eq.trans (I_ne (fx_ne fx (by omega))) (I_ne (fx_ne fx (by omega)))))) (Eq.trans (I_ne (fx_ne fx (by decide))) (Eq.trans (I_nk (by have := i_nlt c1; have := i_rg t; have : (0 : Int32).toInt = 0 := rfl; have := i_eq ek2; have : (nI k2).toInt = ((k2 : Nat) : Int) := nI_toInt (by omega); have := i_nle c3; have : (nI n).toInt = ((n : Nat) : Int) := nI_toInt (by omega); omega)) (Eq.trans (I_ne (fx_ne fx (by omega))) (I_ne (fx_ne fx (by decide)))))), g4.c (Eq.trans L_oI (Eq.trans L_oI (Eq.trans L_oI L_oI))) (Eq.trans D_oI (Eq.trans D_oI (Eq.trans D_oI D_oI))), g5.d (fun j_ => (Eq.trans D_oI (Eq.trans D_oI (Eq.trans D_oI D_oI)))) (Eq.trans D_oI (Eq.trans D_oI (Eq.trans D_oI D_oI))) (Eq.trans D_oI (Eq.trans D_oI (Eq.trans D_oI D_oI))) (Eq.trans D_oI (Eq.trans D_oI (Eq.trans D_oI D_oI))) (Eq.trans D_oI (Eq.trans D_oI (Eq.trans D_oI D_oI))) (Eq.trans D_oI (Eq.trans D_oI (Eq.trans D_oI D_oI))) (Eq.trans D_oI (Eq.trans D_oI (Eq.trans D_oI D_oI))) (Eq.trans (I_nk (by decide)) (Eq.trans (I_ne (fx_ne fx (by decide))) (Eq.trans (I_ne (fx_ne fx (by omega))) (I_ne (fx_ne fx (by decide)))))), g6.c (fun s_ hs_ => ⟨(Eq.trans L_oI (Eq.trans L_oI (Eq.trans L_oI L_oI))), (Eq.trans L_oI (Eq.trans L_oI (Eq.trans L_oI L_oI))), (Eq.trans L_oI (Eq.trans L_oI (Eq.trans L_oI L_oI))), (Eq.trans D_oI (Eq.trans D_oI (Eq.trans D_oI D_oI))), (Eq.trans L_oI (Eq.trans L_oI (Eq.trans L_oI L_oI))), (Eq.trans L_oI (Eq.trans L_oI (Eq.trans L_oI L_oI)))⟩), g7.c (fun s_ hs_ => ⟨(Eq.trans R_oI (Eq.trans R_oI (Eq.trans R_oI R_oI))), (Eq.trans (I_ne (fx_ne fx (by decide))) (Eq.trans (I_ne (fx_ne fx (by decide))) (Eq.trans (I_ne (fx_ne fx (by omega))) (I_ne (fx_ne fx (by decide))))))⟩)⟩
      · refine r_aload rfl rfl ?_
        refine r_ic (x := (-4)) rfl rfl ?_
        refine r_cv (y := 13) (ra := [.int (-4)]) (rest := []) rfl ⟨⟨rfl, rfl⟩, rfl, by decide⟩ (fx_t0 fx) rfl rfl (Nat.le_of_ble_eq_true rfl) ?_
        refine in_13 (Nat.le_of_ble_eq_true rfl) ?_
        show WR _ cd_13 0 [some (.ref (ad 0)), some (.int (-4))] [] (sI h (ad 0) 6 0) _
        refine r_aload rfl rfl ?_
        refine r_iload rfl rfl ?_
        refine r_putI rfl ⟨rfl, rfl, rfl⟩ (fx_t0 fx) ?_
        have fx : FX n ad sa z0 (sI (sI h (ad 0) 6 0) (ad 0) 6 (-4)) := (FX.sI fx)
        refine r_iload rfl rfl ?_
        refine r_iret rfl ?_
        show WR _ cd_142 42 [some (.ref (ad 0)), some (.int t)] [.int (-4)] (sI (sI h (ad 0) 6 0) (ad 0) 6 (-4)) _
        refine r_iret rfl ?_
        show EV _ 245 [.ref (ad 30), .int t] (sI (sI h (ad 0) 6 0) (ad 0) 6 (-4)) _
        refine in_245 (Nat.le_of_ble_eq_true rfl) ?_
        show WR _ cd_245 0 [some (.ref (ad 30)), some (.int t)] [] (sI (sI h (ad 0) 6 0) (ad 0) 6 (-4)) _
        refine r_aload rfl rfl ?_
        refine r_iload rfl rfl ?_
        refine WR_tI (y := nI k2) ek2 ?_
        refine r_cv (y := 206) (ra := [.int (nI k2)]) (rest := []) rfl ⟨⟨rfl, rfl⟩, rfl, by decide⟩ (fx_t30 fx) rfl rfl (Nat.le_of_ble_eq_true rfl) ?_
        refine in_206 (Nat.le_of_ble_eq_true rfl) ?_
        show WR _ cd_206 0 [some (.ref (ad 30)), some (.int (nI k2))] [] (sI (sI h (ad 0) 6 0) (ad 0) 6 (-4)) _
        refine r_iload rfl rfl ?_
        refine r_if_lt (tg := 16) rfl rfl (fun q => False.elim (by have := i_nlt c1; have := i_rg t; have : (0 : Int32).toInt = 0 := rfl; have := i_eq ek2; have : (nI k2).toInt = ((k2 : Nat) : Int) := nI_toInt (by omega); have := i_nle c3; have : (nI n).toInt = ((n : Nat) : Int) := nI_toInt (by omega); have := i_lt q; omega)) (fun _ => ?_)
        refine r_iload rfl rfl ?_
        refine r_aload rfl rfl ?_
        refine r_getI rfl ⟨rfl, rfl, rfl⟩ (fx_t30 fx) ?_
        refine WR_tI (y := nI n) (Eq.trans (I_ne (fx_ne fx (by decide))) (Eq.trans (I_ne (fx_ne fx (by decide))) ru.1)) ?_
        refine r_icmp_ge (tg := 16) rfl rfl (fun q => False.elim (by have := i_nlt c1; have := i_rg t; have : (0 : Int32).toInt = 0 := rfl; have := i_eq ek2; have : (nI k2).toInt = ((k2 : Nat) : Int) := nI_toInt (by omega); have := i_nle c3; have : (nI n).toInt = ((n : Nat) : Int) := nI_toInt (by omega); have := i_le q; omega)) (fun _ => ?_)
        refine r_ic (x := 1) rfl rfl ?_
        refine r_goto (tg := 17) rfl rfl ?_
        refine r_zret rfl (.inr rfl) ?_
        show WR _ cd_245 5 [some (.ref (ad 30)), some (.int t)] [.int 1] (sI (sI h (ad 0) 6 0) (ad 0) 6 (-4)) _
        refine r_if_ne (tg := 15) rfl rfl (fun _ => ?_) (fun q => absurd q (by decide))
        refine r_aload rfl rfl ?_
        refine r_getA (b := ad 66) rfl ⟨rfl, rfl, rfl⟩ (fx_t30 fx) (fx_r30_53 fx) ?_
        refine r_iload rfl rfl ?_
        refine WR_tI (y := nI k2) ek2 ?_
        refine r_iaload rfl (.inl (fx_t66 fx)) (vp_ct (fx_n66 fx) (vp_in_nI (by have := i_nlt c1; have := i_rg t; have : (0 : Int32).toInt = 0 := rfl; have := i_eq ek2; have : (nI k2).toInt = ((k2 : Nat) : Int) := nI_toInt (by omega); have := i_nle c3; have : (nI n).toInt = ((n : Nat) : Int) := nI_toInt (by omega); omega) (by omega))) ?_
        refine WR_tI (congrArg (hI (sI (sI h (ad 0) 6 0) (ad 0) 6 (-4)) (ad 66)) ((nI_clamp (by have := i_nlt c1; have := i_rg t; have : (0 : Int32).toInt = 0 := rfl; have := i_eq ek2; have : (nI k2).toInt = ((k2 : Nat) : Int) := nI_toInt (by omega); have := i_nle c3; have : (nI n).toInt = ((n : Nat) : Int) := nI_toInt (by omega); omega)) : _ = k2)) ?_
        refine WR_tI (y := hI h (ad (100 + 5 * k2)) 10) (Eq.trans (I_ne (fx_ne fx (by decide))) (Eq.trans (I_ne (fx_ne fx (by decide))) c1_4.symm)) ?_
        refine r_ic (x := 4) rfl rfl ?_
        refine r_icmp_eq (tg := 32) rfl rfl (fun q => False.elim (by have := i_neq c5; have := i_rg (hI h (ad (100 + 5 * k2)) 10); have : (4 : Int32).toInt = 4 := rfl; have := i_eq q; omega)) (fun _ => ?_)
        refine r_aload rfl rfl ?_
        refine r_ic (x := (-4)) rfl rfl ?_
        refine r_cv (y := 154) (ra := [.int (-4)]) (rest := []) rfl ⟨⟨rfl, rfl⟩, rfl, by decide⟩ (fx_t30 fx) rfl rfl (Nat.le_of_ble_eq_true rfl) ?_
        refine in_154 (Nat.le_of_ble_eq_true rfl) ?_
        show WR _ cd_154 0 [some (.ref (ad 30)), some (.int (-4))] [] (sI (sI h (ad 0) 6 0) (ad 0) 6 (-4)) _
        refine r_aload rfl rfl ?_
        refine r_iload rfl rfl ?_
        refine r_ic (x := (-1)) rfl rfl ?_
        refine r_icmp_ge (tg := 10) rfl rfl (fun q => absurd q (by decide)) (fun _ => ?_)
        refine r_iload rfl rfl ?_
        refine r_goto (tg := 11) rfl rfl ?_
        refine r_putI rfl ⟨rfl, rfl, rfl⟩ (fx_t30 fx) ?_
        have fx : FX n ad sa z0 (sI (sI (sI h (ad 0) 6 0) (ad 0) 6 (-4)) (ad 30) 11 (-4)) := (FX.sI fx)
        refine r_iload rfl rfl ?_
        refine r_iret rfl ?_
        show WR _ cd_245 31 [some (.ref (ad 30)), some (.int t)] [.int (-4)] (sI (sI (sI h (ad 0) 6 0) (ad 0) 6 (-4)) (ad 30) 11 (-4)) _
        refine r_iret rfl ?_
        exact ⟨rfl, Rel.why r (((Chg.rf.sI (fx_j fx) (.inl (by decide))).sI (fx_j fx) (.inl (by decide))).sI (fx_j fx) (.inl (by decide))) ⟨rfl, by decide⟩ (Eq.trans (Eq.trans (I_ne (fx_ne fx (by decide))) I_eq) (Eq.symm I_eq)), (by (try simp only [hZ_sI, hZ_sL, hZ_sD, hZ_sR]); omega), (by (try simp only [hU_sI, hU_sL, hU_sD, hU_sR]); omega)⟩

/-! ===== alike; printed ===== -/
set_option maxHeartbeats 2000000 in
theorem k_alike {n : Nat} {ad sa : Nat → Nat} {z0 : Nat} {h : mH} (r : Rel n ad sa z0 h) (c : Int32) (d : Int32) : AP n ad sa z0 h 59 181 [.int c, .int d] := by
  obtain ⟨mid, pa, np, fx, ry, rt, ra, rp, rf, rst, ru, rs⟩ := id r
  have fx0 := fx
  obtain ⟨np1, np2, np3, -, -⟩ := id rs.1
  unfold AP
  refine in_59 (Nat.le_of_ble_eq_true rfl) ?_
  show WR _ cd_59 0 [some (.ref (ad 0)), some (.int c), some (.int d), none, none] [] h _
  refine r_aload rfl rfl ?_
  refine r_ic (x := 0) rfl rfl ?_
  refine r_putI rfl ⟨rfl, rfl, rfl⟩ (fx_t0 fx) ?_
  have fx : FX n ad sa z0 (sI h (ad 0) 6 0) := (FX.sI fx)
  refine r_iload rfl rfl ?_
  refine r_cs (y := 12) (ra := [.int c]) (rest := []) rfl ⟨⟨rfl, rfl⟩, by decide⟩ rfl rfl (Nat.le_of_ble_eq_true rfl) ?_
  refine in_12 (Nat.le_of_ble_eq_true rfl) ?_
  show WR _ cd_12 0 [some (.int c)] [] (sI h (ad 0) 6 0) _
  refine r_iload rfl rfl ?_
  refine r_if_lt (tg := 14) rfl rfl (fun c1 => ?_) (fun c1 => ?_)
  · refine r_ic (x := 0) rfl rfl ?_
    refine r_zret rfl (.inl rfl) ?_
    show WR _ cd_59 9 [some (.ref (ad 0)), some (.int c), some (.int d), none, none] [.int 0] (sI h (ad 0) 6 0) _
    refine r_if_eq (tg := 19) rfl rfl (fun _ => ?_) (fun q => absurd q (by decide))
    refine r_aload rfl rfl ?_
    refine r_ic (x := (-2)) rfl rfl ?_
    refine r_cv (y := 13) (ra := [.int (-2)]) (rest := []) rfl ⟨⟨rfl, rfl⟩, rfl, by decide⟩ (fx_t0 fx) rfl rfl (Nat.le_of_ble_eq_true rfl) ?_
    refine in_13 (Nat.le_of_ble_eq_true rfl) ?_
    show WR _ cd_13 0 [some (.ref (ad 0)), some (.int (-2))] [] (sI h (ad 0) 6 0) _
    refine r_aload rfl rfl ?_
    refine r_iload rfl rfl ?_
    refine r_putI rfl ⟨rfl, rfl, rfl⟩ (fx_t0 fx) ?_
    have fx : FX n ad sa z0 (sI (sI h (ad 0) 6 0) (ad 0) 6 (-2)) := (FX.sI fx)
    refine r_iload rfl rfl ?_
    refine r_iret rfl ?_
    show WR _ cd_59 25 [some (.ref (ad 0)), some (.int c), some (.int d), none, none] [.int (-2)] (sI (sI h (ad 0) 6 0) (ad 0) 6 (-2)) _
    refine r_iret rfl ?_
    show EV _ 181 [.ref (ad 30), .int c, .int d] (sI (sI h (ad 0) 6 0) (ad 0) 6 (-2)) _
    refine in_181 (Nat.le_of_ble_eq_true rfl) ?_
    show WR _ cd_181 0 [some (.ref (ad 30)), some (.int c), some (.int d), none, none, none] [] (sI (sI h (ad 0) 6 0) (ad 0) 6 (-2)) _
    refine r_iload rfl rfl ?_
    refine r_cs (y := 153) (ra := [.int c]) (rest := []) rfl ⟨⟨rfl, rfl⟩, by decide⟩ rfl rfl (Nat.le_of_ble_eq_true rfl) ?_
    refine in_153 (Nat.le_of_ble_eq_true rfl) ?_
    show WR _ cd_153 0 [some (.int c)] [] (sI (sI h (ad 0) 6 0) (ad 0) 6 (-2)) _
    refine r_iload rfl rfl ?_
    refine r_if_lt (tg := 14) rfl rfl (fun _ => ?_) (fun q => False.elim (by have := i_lt c1; have := i_rg c; have : (0 : Int32).toInt = 0 := rfl; have := i_nlt q; omega))
    refine r_ic (x := 0) rfl rfl ?_
    refine r_zret rfl (.inl rfl) ?_
    show WR _ cd_181 4 [some (.ref (ad 30)), some (.int c), some (.int d), none, none, none] [.int 0] (sI (sI h (ad 0) 6 0) (ad 0) 6 (-2)) _
    refine r_if_eq (tg := 14) rfl rfl (fun _ => ?_) (fun q => absurd q (by decide))
    refine r_aload rfl rfl ?_
    refine r_ic (x := (-2)) rfl rfl ?_
    refine r_cv (y := 154) (ra := [.int (-2)]) (rest := []) rfl ⟨⟨rfl, rfl⟩, rfl, by decide⟩ (fx_t30 fx) rfl rfl (Nat.le_of_ble_eq_true rfl) ?_
    refine in_154 (Nat.le_of_ble_eq_true rfl) ?_
    show WR _ cd_154 0 [some (.ref (ad 30)), some (.int (-2))] [] (sI (sI h (ad 0) 6 0) (ad 0) 6 (-2)) _
    refine r_aload rfl rfl ?_
    refine r_iload rfl rfl ?_
    refine r_ic (x := (-1)) rfl rfl ?_
    refine r_icmp_ge (tg := 10) rfl rfl (fun q => absurd q (by decide)) (fun _ => ?_)
    refine r_iload rfl rfl ?_
    refine r_goto (tg := 11) rfl rfl ?_
    refine r_putI rfl ⟨rfl, rfl, rfl⟩ (fx_t30 fx) ?_
    have fx : FX n ad sa z0 (sI (sI (sI h (ad 0) 6 0) (ad 0) 6 (-2)) (ad 30) 11 (-2)) := (FX.sI fx)
    refine r_iload rfl rfl ?_
    refine r_iret rfl ?_
    show WR _ cd_181 20 [some (.ref (ad 30)), some (.int c), some (.int d), none, none, none] [.int (-2)] (sI (sI (sI h (ad 0) 6 0) (ad 0) 6 (-2)) (ad 30) 11 (-2)) _
    refine r_iret rfl ?_
    exact ⟨rfl, Rel.why r (((Chg.rf.sI (fx_j fx) (.inl (by decide))).sI (fx_j fx) (.inl (by decide))).sI (fx_j fx) (.inl (by decide))) ⟨rfl, by decide⟩ (Eq.trans (Eq.trans (I_ne (fx_ne fx (by decide))) I_eq) (Eq.symm I_eq)), (by (try simp only [hZ_sI, hZ_sL, hZ_sD, hZ_sR]); omega), (by (try simp only [hU_sI, hU_sL, hU_sD, hU_sR]); omega)⟩
  · obtain ⟨k2, hk2, ek2⟩ := ix_of (x := c) (n := 2147483648) (by have := i_nlt c1; have := i_rg c; have : (0 : Int32).toInt = 0 := rfl; omega) (by have := i_nlt c1; have := i_rg c; have : (0 : Int32).toInt = 0 := rfl; omega)
    refine r_iload rfl rfl ?_
    refine WR_tI (y := nI k2) ek2 ?_
    refine r_ic (x := 24) rfl rfl ?_
    refine r_icmp_ge (tg := 14) rfl rfl (fun c3 => ?_) (fun c3 => ?_)
    · refine r_ic (x := 0) rfl rfl ?_
      refine r_zret rfl (.inl rfl) ?_
      show WR _ cd_59 9 [some (.ref (ad 0)), some (.int c), some (.int d), none, none] [.int 0] (sI h (ad 0) 6 0) _
      refine r_if_eq (tg := 19) rfl rfl (fun _ => ?_) (fun q => absurd q (by decide))
      refine r_aload rfl rfl ?_
      refine r_ic (x := (-2)) rfl rfl ?_
      refine r_cv (y := 13) (ra := [.int (-2)]) (rest := []) rfl ⟨⟨rfl, rfl⟩, rfl, by decide⟩ (fx_t0 fx) rfl rfl (Nat.le_of_ble_eq_true rfl) ?_
      refine in_13 (Nat.le_of_ble_eq_true rfl) ?_
      show WR _ cd_13 0 [some (.ref (ad 0)), some (.int (-2))] [] (sI h (ad 0) 6 0) _
      refine r_aload rfl rfl ?_
      refine r_iload rfl rfl ?_
      refine r_putI rfl ⟨rfl, rfl, rfl⟩ (fx_t0 fx) ?_
      have fx : FX n ad sa z0 (sI (sI h (ad 0) 6 0) (ad 0) 6 (-2)) := (FX.sI fx)
      refine r_iload rfl rfl ?_
      refine r_iret rfl ?_
      show WR _ cd_59 25 [some (.ref (ad 0)), some (.int c), some (.int d), none, none] [.int (-2)] (sI (sI h (ad 0) 6 0) (ad 0) 6 (-2)) _
      refine r_iret rfl ?_
      show EV _ 181 [.ref (ad 30), .int c, .int d] (sI (sI h (ad 0) 6 0) (ad 0) 6 (-2)) _
      refine in_181 (Nat.le_of_ble_eq_true rfl) ?_
      show WR _ cd_181 0 [some (.ref (ad 30)), some (.int c), some (.int d), none, none, none] [] (sI (sI h (ad 0) 6 0) (ad 0) 6 (-2)) _
      refine r_iload rfl rfl ?_
      refine WR_tI (y := nI k2) ek2 ?_
      refine r_cs (y := 153) (ra := [.int (nI k2)]) (rest := []) rfl ⟨⟨rfl, rfl⟩, by decide⟩ rfl rfl (Nat.le_of_ble_eq_true rfl) ?_
      refine in_153 (Nat.le_of_ble_eq_true rfl) ?_
      show WR _ cd_153 0 [some (.int (nI k2))] [] (sI (sI h (ad 0) 6 0) (ad 0) 6 (-2)) _
      refine r_iload rfl rfl ?_
      refine r_if_lt (tg := 14) rfl rfl (fun q => False.elim (by have := i_nlt c1; have := i_rg c; have : (0 : Int32).toInt = 0 := rfl; have := i_eq ek2; have : (nI k2).toInt = ((k2 : Nat) : Int) := nI_toInt (by omega); have := i_le c3; have : (24 : Int32).toInt = 24 := rfl; have := i_lt q; omega)) (fun _ => ?_)
      refine r_iload rfl rfl ?_
      refine r_ic (x := 24) rfl rfl ?_
      refine r_icmp_ge (tg := 14) rfl rfl (fun _ => ?_) (fun q => False.elim (by have := i_nlt c1; have := i_rg c; have : (0 : Int32).toInt = 0 := rfl; have := i_eq ek2; have : (nI k2).toInt = ((k2 : Nat) : Int) := nI_toInt (by omega); have := i_le c3; have : (24 : Int32).toInt = 24 := rfl; have := i_nle q; omega))
      refine r_ic (x := 0) rfl rfl ?_
      refine r_zret rfl (.inl rfl) ?_
      show WR _ cd_181 4 [some (.ref (ad 30)), some (.int c), some (.int d), none, none, none] [.int 0] (sI (sI h (ad 0) 6 0) (ad 0) 6 (-2)) _
      refine r_if_eq (tg := 14) rfl rfl (fun _ => ?_) (fun q => absurd q (by decide))
      refine r_aload rfl rfl ?_
      refine r_ic (x := (-2)) rfl rfl ?_
      refine r_cv (y := 154) (ra := [.int (-2)]) (rest := []) rfl ⟨⟨rfl, rfl⟩, rfl, by decide⟩ (fx_t30 fx) rfl rfl (Nat.le_of_ble_eq_true rfl) ?_
      refine in_154 (Nat.le_of_ble_eq_true rfl) ?_
      show WR _ cd_154 0 [some (.ref (ad 30)), some (.int (-2))] [] (sI (sI h (ad 0) 6 0) (ad 0) 6 (-2)) _
      refine r_aload rfl rfl ?_
      refine r_iload rfl rfl ?_
      refine r_ic (x := (-1)) rfl rfl ?_
      refine r_icmp_ge (tg := 10) rfl rfl (fun q => absurd q (by decide)) (fun _ => ?_)
      refine r_iload rfl rfl ?_
      refine r_goto (tg := 11) rfl rfl ?_
      refine r_putI rfl ⟨rfl, rfl, rfl⟩ (fx_t30 fx) ?_
      have fx : FX n ad sa z0 (sI (sI (sI h (ad 0) 6 0) (ad 0) 6 (-2)) (ad 30) 11 (-2)) := (FX.sI fx)
      refine r_iload rfl rfl ?_
      refine r_iret rfl ?_
      show WR _ cd_181 20 [some (.ref (ad 30)), some (.int c), some (.int d), none, none, none] [.int (-2)] (sI (sI (sI h (ad 0) 6 0) (ad 0) 6 (-2)) (ad 30) 11 (-2)) _
      refine r_iret rfl ?_
      exact ⟨rfl, Rel.why r (((Chg.rf.sI (fx_j fx) (.inl (by decide))).sI (fx_j fx) (.inl (by decide))).sI (fx_j fx) (.inl (by decide))) ⟨rfl, by decide⟩ (Eq.trans (Eq.trans (I_ne (fx_ne fx (by decide))) I_eq) (Eq.symm I_eq)), (by (try simp only [hZ_sI, hZ_sL, hZ_sD, hZ_sR]); omega), (by (try simp only [hU_sI, hU_sL, hU_sD, hU_sR]); omega)⟩
    · refine r_ic (x := 1) rfl rfl ?_
      refine r_goto (tg := 15) rfl rfl ?_
      refine r_zret rfl (.inr rfl) ?_
      show WR _ cd_59 9 [some (.ref (ad 0)), some (.int c), some (.int d), none, none] [.int 1] (sI h (ad 0) 6 0) _
      refine r_if_eq (tg := 19) rfl rfl (fun q => absurd q (by decide)) (fun _ => ?_)
      refine r_iload rfl rfl ?_
      refine r_cs (y := 12) (ra := [.int d]) (rest := []) rfl ⟨⟨rfl, rfl⟩, by decide⟩ rfl rfl (Nat.le_of_ble_eq_true rfl) ?_
      refine in_12 (Nat.le_of_ble_eq_true rfl) ?_
      show WR _ cd_12 0 [some (.int d)] [] (sI h (ad 0) 6 0) _
      refine r_iload rfl rfl ?_
      refine r_if_lt (tg := 14) rfl rfl (fun c4 => ?_) (fun c4 => ?_)
      · refine r_ic (x := 0) rfl rfl ?_
        refine r_zret rfl (.inl rfl) ?_
        show WR _ cd_59 16 [some (.ref (ad 0)), some (.int c), some (.int d), none, none] [.int 0] (sI h (ad 0) 6 0) _
        refine r_if_ne (tg := 26) rfl rfl (fun q => absurd q (by decide)) (fun _ => ?_)
        refine r_aload rfl rfl ?_
        refine r_ic (x := (-2)) rfl rfl ?_
        refine r_cv (y := 13) (ra := [.int (-2)]) (rest := []) rfl ⟨⟨rfl, rfl⟩, rfl, by decide⟩ (fx_t0 fx) rfl rfl (Nat.le_of_ble_eq_true rfl) ?_
        refine in_13 (Nat.le_of_ble_eq_true rfl) ?_
        show WR _ cd_13 0 [some (.ref (ad 0)), some (.int (-2))] [] (sI h (ad 0) 6 0) _
        refine r_aload rfl rfl ?_
        refine r_iload rfl rfl ?_
        refine r_putI rfl ⟨rfl, rfl, rfl⟩ (fx_t0 fx) ?_
        have fx : FX n ad sa z0 (sI (sI h (ad 0) 6 0) (ad 0) 6 (-2)) := (FX.sI fx)
        refine r_iload rfl rfl ?_
        refine r_iret rfl ?_
        show WR _ cd_59 25 [some (.ref (ad 0)), some (.int c), some (.int d), none, none] [.int (-2)] (sI (sI h (ad 0) 6 0) (ad 0) 6 (-2)) _
        refine r_iret rfl ?_
        show EV _ 181 [.ref (ad 30), .int c, .int d] (sI (sI h (ad 0) 6 0) (ad 0) 6 (-2)) _
        refine in_181 (Nat.le_of_ble_eq_true rfl) ?_
        show WR _ cd_181 0 [some (.ref (ad 30)), some (.int c), some (.int d), none, none, none] [] (sI (sI h (ad 0) 6 0) (ad 0) 6 (-2)) _
        refine r_iload rfl rfl ?_
        refine WR_tI (y := nI k2) ek2 ?_
        refine r_cs (y := 153) (ra := [.int (nI k2)]) (rest := []) rfl ⟨⟨rfl, rfl⟩, by decide⟩ rfl rfl (Nat.le_of_ble_eq_true rfl) ?_
        refine in_153 (Nat.le_of_ble_eq_true rfl) ?_
        show WR _ cd_153 0 [some (.int (nI k2))] [] (sI (sI h (ad 0) 6 0) (ad 0) 6 (-2)) _
        refine r_iload rfl rfl ?_
        refine r_if_lt (tg := 14) rfl rfl (fun q => False.elim (by have := i_nlt c1; have := i_rg c; have : (0 : Int32).toInt = 0 := rfl; have := i_eq ek2; have : (nI k2).toInt = ((k2 : Nat) : Int) := nI_toInt (by omega); have := i_nle c3; have : (24 : Int32).toInt = 24 := rfl; have := i_lt q; omega)) (fun _ => ?_)
        refine r_iload rfl rfl ?_
        refine r_ic (x := 24) rfl rfl ?_
        refine r_icmp_ge (tg := 14) rfl rfl (fun q => False.elim (by have := i_nlt c1; have := i_rg c; have : (0 : Int32).toInt = 0 := rfl; have := i_eq ek2; have : (nI k2).toInt = ((k2 : Nat) : Int) := nI_toInt (by omega); have := i_nle c3; have : (24 : Int32).toInt = 24 := rfl; have := i_le q; omega)) (fun _ => ?_)
        refine r_ic (x := 1) rfl rfl ?_
        refine r_goto (tg := 15) rfl rfl ?_
        refine r_zret rfl (.inr rfl) ?_
        show WR _ cd_181 4 [some (.ref (ad 30)), some (.int c), some (.int d), none, none, none] [.int 1] (sI (sI h (ad 0) 6 0) (ad 0) 6 (-2)) _
        refine r_if_eq (tg := 14) rfl rfl (fun q => absurd q (by decide)) (fun _ => ?_)
        refine r_iload rfl rfl ?_
        refine r_cs (y := 153) (ra := [.int d]) (rest := []) rfl ⟨⟨rfl, rfl⟩, by decide⟩ rfl rfl (Nat.le_of_ble_eq_true rfl) ?_
        refine in_153 (Nat.le_of_ble_eq_true rfl) ?_
        show WR _ cd_153 0 [some (.int d)] [] (sI (sI h (ad 0) 6 0) (ad 0) 6 (-2)) _
        refine r_iload rfl rfl ?_
        refine r_if_lt (tg := 14) rfl rfl (fun _ => ?_) (fun q => False.elim (by have := i_lt c4; have := i_rg d; have : (0 : Int32).toInt = 0 := rfl; have := i_nlt q; omega))
        refine r_ic (x := 0) rfl rfl ?_
        refine r_zret rfl (.inl rfl) ?_
        show WR _ cd_181 11 [some (.ref (ad 30)), some (.int c), some (.int d), none, none, none] [.int 0] (sI (sI h (ad 0) 6 0) (ad 0) 6 (-2)) _
        refine r_if_ne (tg := 21) rfl rfl (fun q => absurd q (by decide)) (fun _ => ?_)
        refine r_aload rfl rfl ?_
        refine r_ic (x := (-2)) rfl rfl ?_
        refine r_cv (y := 154) (ra := [.int (-2)]) (rest := []) rfl ⟨⟨rfl, rfl⟩, rfl, by decide⟩ (fx_t30 fx) rfl rfl (Nat.le_of_ble_eq_true rfl) ?_
        refine in_154 (Nat.le_of_ble_eq_true rfl) ?_
        show WR _ cd_154 0 [some (.ref (ad 30)), some (.int (-2))] [] (sI (sI h (ad 0) 6 0) (ad 0) 6 (-2)) _
        refine r_aload rfl rfl ?_
        refine r_iload rfl rfl ?_
        refine r_ic (x := (-1)) rfl rfl ?_
        refine r_icmp_ge (tg := 10) rfl rfl (fun q => absurd q (by decide)) (fun _ => ?_)
        refine r_iload rfl rfl ?_
        refine r_goto (tg := 11) rfl rfl ?_
        refine r_putI rfl ⟨rfl, rfl, rfl⟩ (fx_t30 fx) ?_
        have fx : FX n ad sa z0 (sI (sI (sI h (ad 0) 6 0) (ad 0) 6 (-2)) (ad 30) 11 (-2)) := (FX.sI fx)
        refine r_iload rfl rfl ?_
        refine r_iret rfl ?_
        show WR _ cd_181 20 [some (.ref (ad 30)), some (.int c), some (.int d), none, none, none] [.int (-2)] (sI (sI (sI h (ad 0) 6 0) (ad 0) 6 (-2)) (ad 30) 11 (-2)) _
        refine r_iret rfl ?_
        exact ⟨rfl, Rel.why r (((Chg.rf.sI (fx_j fx) (.inl (by decide))).sI (fx_j fx) (.inl (by decide))).sI (fx_j fx) (.inl (by decide))) ⟨rfl, by decide⟩ (Eq.trans (Eq.trans (I_ne (fx_ne fx (by decide))) I_eq) (Eq.symm I_eq)), (by (try simp only [hZ_sI, hZ_sL, hZ_sD, hZ_sR]); omega), (by (try simp only [hU_sI, hU_sL, hU_sD, hU_sR]); omega)⟩
      · obtain ⟨k5, hk5, ek5⟩ := ix_of (x := d) (n := 2147483648) (by have := i_nlt c4; have := i_rg d; have : (0 : Int32).toInt = 0 := rfl; omega) (by have := i_nlt c4; have := i_rg d; have : (0 : Int32).toInt = 0 := rfl; omega)
        refine r_iload rfl rfl ?_
        refine WR_tI (y := nI k5) ek5 ?_
        refine r_ic (x := 24) rfl rfl ?_
        refine r_icmp_ge (tg := 14) rfl rfl (fun c6 => ?_) (fun c6 => ?_)
        · refine r_ic (x := 0) rfl rfl ?_
          refine r_zret rfl (.inl rfl) ?_
          show WR _ cd_59 16 [some (.ref (ad 0)), some (.int c), some (.int d), none, none] [.int 0] (sI h (ad 0) 6 0) _
          refine r_if_ne (tg := 26) rfl rfl (fun q => absurd q (by decide)) (fun _ => ?_)
          refine r_aload rfl rfl ?_
          refine r_ic (x := (-2)) rfl rfl ?_
          refine r_cv (y := 13) (ra := [.int (-2)]) (rest := []) rfl ⟨⟨rfl, rfl⟩, rfl, by decide⟩ (fx_t0 fx) rfl rfl (Nat.le_of_ble_eq_true rfl) ?_
          refine in_13 (Nat.le_of_ble_eq_true rfl) ?_
          show WR _ cd_13 0 [some (.ref (ad 0)), some (.int (-2))] [] (sI h (ad 0) 6 0) _
          refine r_aload rfl rfl ?_
          refine r_iload rfl rfl ?_
          refine r_putI rfl ⟨rfl, rfl, rfl⟩ (fx_t0 fx) ?_
          have fx : FX n ad sa z0 (sI (sI h (ad 0) 6 0) (ad 0) 6 (-2)) := (FX.sI fx)
          refine r_iload rfl rfl ?_
          refine r_iret rfl ?_
          show WR _ cd_59 25 [some (.ref (ad 0)), some (.int c), some (.int d), none, none] [.int (-2)] (sI (sI h (ad 0) 6 0) (ad 0) 6 (-2)) _
          refine r_iret rfl ?_
          show EV _ 181 [.ref (ad 30), .int c, .int d] (sI (sI h (ad 0) 6 0) (ad 0) 6 (-2)) _
          refine in_181 (Nat.le_of_ble_eq_true rfl) ?_
          show WR _ cd_181 0 [some (.ref (ad 30)), some (.int c), some (.int d), none, none, none] [] (sI (sI h (ad 0) 6 0) (ad 0) 6 (-2)) _
          refine r_iload rfl rfl ?_
          refine WR_tI (y := nI k2) ek2 ?_
          refine r_cs (y := 153) (ra := [.int (nI k2)]) (rest := []) rfl ⟨⟨rfl, rfl⟩, by decide⟩ rfl rfl (Nat.le_of_ble_eq_true rfl) ?_
          refine in_153 (Nat.le_of_ble_eq_true rfl) ?_
          show WR _ cd_153 0 [some (.int (nI k2))] [] (sI (sI h (ad 0) 6 0) (ad 0) 6 (-2)) _
          refine r_iload rfl rfl ?_
          refine r_if_lt (tg := 14) rfl rfl (fun q => False.elim (by have := i_nlt c1; have := i_rg c; have : (0 : Int32).toInt = 0 := rfl; have := i_eq ek2; have : (nI k2).toInt = ((k2 : Nat) : Int) := nI_toInt (by omega); have := i_nle c3; have : (24 : Int32).toInt = 24 := rfl; have := i_lt q; omega)) (fun _ => ?_)
          refine r_iload rfl rfl ?_
          refine r_ic (x := 24) rfl rfl ?_
          refine r_icmp_ge (tg := 14) rfl rfl (fun q => False.elim (by have := i_nlt c1; have := i_rg c; have : (0 : Int32).toInt = 0 := rfl; have := i_eq ek2; have : (nI k2).toInt = ((k2 : Nat) : Int) := nI_toInt (by omega); have := i_nle c3; have : (24 : Int32).toInt = 24 := rfl; have := i_le q; omega)) (fun _ => ?_)
          refine r_ic (x := 1) rfl rfl ?_
          refine r_goto (tg := 15) rfl rfl ?_
          refine r_zret rfl (.inr rfl) ?_
          show WR _ cd_181 4 [some (.ref (ad 30)), some (.int c), some (.int d), none, none, none] [.int 1] (sI (sI h (ad 0) 6 0) (ad 0) 6 (-2)) _
          refine r_if_eq (tg := 14) rfl rfl (fun q => absurd q (by decide)) (fun _ => ?_)
          refine r_iload rfl rfl ?_
          refine WR_tI (y := nI k5) ek5 ?_
          refine r_cs (y := 153) (ra := [.int (nI k5)]) (rest := []) rfl ⟨⟨rfl, rfl⟩, by decide⟩ rfl rfl (Nat.le_of_ble_eq_true rfl) ?_
          refine in_153 (Nat.le_of_ble_eq_true rfl) ?_
          show WR _ cd_153 0 [some (.int (nI k5))] [] (sI (sI h (ad 0) 6 0) (ad 0) 6 (-2)) _
          refine r_iload rfl rfl ?_
          refine r_if_lt (tg := 14) rfl rfl (fun q => False.elim (by have := i_nlt c4; have := i_rg d; have : (0 : Int32).toInt = 0 := rfl; have := i_eq ek5; have : (nI k5).toInt = ((k5 : Nat) : Int) := nI_toInt (by omega); have := i_le c6; have : (24 : Int32).toInt = 24 := rfl; have := i_lt q; omega)) (fun _ => ?_)
          refine r_iload rfl rfl ?_
          refine r_ic (x := 24) rfl rfl ?_
          refine r_icmp_ge (tg := 14) rfl rfl (fun _ => ?_) (fun q => False.elim (by have := i_nlt c4; have := i_rg d; have : (0 : Int32).toInt = 0 := rfl; have := i_eq ek5; have : (nI k5).toInt = ((k5 : Nat) : Int) := nI_toInt (by omega); have := i_le c6; have : (24 : Int32).toInt = 24 := rfl; have := i_nle q; omega))
          refine r_ic (x := 0) rfl rfl ?_
          refine r_zret rfl (.inl rfl) ?_
          show WR _ cd_181 11 [some (.ref (ad 30)), some (.int c), some (.int d), none, none, none] [.int 0] (sI (sI h (ad 0) 6 0) (ad 0) 6 (-2)) _
          refine r_if_ne (tg := 21) rfl rfl (fun q => absurd q (by decide)) (fun _ => ?_)
          refine r_aload rfl rfl ?_
          refine r_ic (x := (-2)) rfl rfl ?_
          refine r_cv (y := 154) (ra := [.int (-2)]) (rest := []) rfl ⟨⟨rfl, rfl⟩, rfl, by decide⟩ (fx_t30 fx) rfl rfl (Nat.le_of_ble_eq_true rfl) ?_
          refine in_154 (Nat.le_of_ble_eq_true rfl) ?_
          show WR _ cd_154 0 [some (.ref (ad 30)), some (.int (-2))] [] (sI (sI h (ad 0) 6 0) (ad 0) 6 (-2)) _
          refine r_aload rfl rfl ?_
          refine r_iload rfl rfl ?_
          refine r_ic (x := (-1)) rfl rfl ?_
          refine r_icmp_ge (tg := 10) rfl rfl (fun q => absurd q (by decide)) (fun _ => ?_)
          refine r_iload rfl rfl ?_
          refine r_goto (tg := 11) rfl rfl ?_
          refine r_putI rfl ⟨rfl, rfl, rfl⟩ (fx_t30 fx) ?_
          have fx : FX n ad sa z0 (sI (sI (sI h (ad 0) 6 0) (ad 0) 6 (-2)) (ad 30) 11 (-2)) := (FX.sI fx)
          refine r_iload rfl rfl ?_
          refine r_iret rfl ?_
          show WR _ cd_181 20 [some (.ref (ad 30)), some (.int c), some (.int d), none, none, none] [.int (-2)] (sI (sI (sI h (ad 0) 6 0) (ad 0) 6 (-2)) (ad 30) 11 (-2)) _
          refine r_iret rfl ?_
          exact ⟨rfl, Rel.why r (((Chg.rf.sI (fx_j fx) (.inl (by decide))).sI (fx_j fx) (.inl (by decide))).sI (fx_j fx) (.inl (by decide))) ⟨rfl, by decide⟩ (Eq.trans (Eq.trans (I_ne (fx_ne fx (by decide))) I_eq) (Eq.symm I_eq)), (by (try simp only [hZ_sI, hZ_sL, hZ_sD, hZ_sR]); omega), (by (try simp only [hU_sI, hU_sL, hU_sD, hU_sR]); omega)⟩
        · refine r_ic (x := 1) rfl rfl ?_
          refine r_goto (tg := 15) rfl rfl ?_
          refine r_zret rfl (.inr rfl) ?_
          show WR _ cd_59 16 [some (.ref (ad 0)), some (.int c), some (.int d), none, none] [.int 1] (sI h (ad 0) 6 0) _
          refine r_if_ne (tg := 26) rfl rfl (fun _ => ?_) (fun q => absurd q (by decide))
          refine r_aload rfl rfl ?_
          refine r_getA (b := ad 1) rfl ⟨rfl, rfl, rfl⟩ (fx_t0 fx) (fx_r0_0 fx) ?_
          refine r_iload rfl rfl ?_
          refine WR_tI (y := nI k2) ek2 ?_
          rcases rs.cs (n := n) (sa := sa) (c := k2) (by have := i_nlt c1; have := i_rg c; have : (0 : Int32).toInt = 0 := rfl; have := i_eq ek2; have : (nI k2).toInt = ((k2 : Nat) : Int) := nI_toInt (by omega); have := i_nle c3; have : (24 : Int32).toInt = 24 := rfl; omega) with ⟨v7, w7⟩ | ⟨q7, kd7, hq7, hn7, v7, w7, dz7, tg7, s1_7, k1_7, k2_7, hk_7, we7⟩ | ⟨t7, ln7, sz7, ht7, v7, w7, dz7, tg7, r_7, tg2_7, l1_7, l2_7, hl_7, kd_7, n_7, sz_7, hs_7, al7, rw7⟩ | ⟨t7, sz7, ht7, v7, w7, dz7, tg7, r_7, tg2_7, k1_7, l2_7, k2_7, n_7, sz_7, hs_7, al7, rw7⟩ | ⟨t7, kd7, sz7, ht7, v7, w7, dz7, tg7, r_7, tg2_7, k1_7, l2_7, k2_7, hk_7, n_7, sz_7, hs_7, al7, rw7⟩
          · refine r_aaload0 rfl (isQ_of (fx_t1 fx) (by decide)) (vp_ct (fx_n1 fx) (vp_in_nI (by have := i_nlt c1; have := i_rg c; have : (0 : Int32).toInt = 0 := rfl; have := i_eq ek2; have : (nI k2).toInt = ((k2 : Nat) : Int) := nI_toInt (by omega); have := i_nle c3; have : (24 : Int32).toInt = 24 := rfl; omega) (by omega))) (Eq.trans (congrArg (hR (sI h (ad 0) 6 0) (ad 1)) ((nI_clamp (by have := i_nlt c1; have := i_rg c; have : (0 : Int32).toInt = 0 := rfl; have := i_eq ek2; have : (nI k2).toInt = ((k2 : Nat) : Int) := nI_toInt (by omega); have := i_nle c3; have : (24 : Int32).toInt = 24 := rfl; omega)) : _ = k2)) (Eq.trans R_oI w7)) ?_
            refine r_astore0 (lv' := [some (.ref (ad 0)), some (.int c), some (.int d), some (.null), none]) rfl (Nat.le_of_ble_eq_true rfl) rfl ?_
            refine r_aload rfl rfl ?_
            refine r_getA (b := ad 1) rfl ⟨rfl, rfl, rfl⟩ (fx_t0 fx) (fx_r0_0 fx) ?_
            refine r_iload rfl rfl ?_
            refine WR_tI (y := nI k5) ek5 ?_
            rcases rs.cs (n := n) (sa := sa) (c := k5) (by have := i_nlt c4; have := i_rg d; have : (0 : Int32).toInt = 0 := rfl; have := i_eq ek5; have : (nI k5).toInt = ((k5 : Nat) : Int) := nI_toInt (by omega); have := i_nle c6; have : (24 : Int32).toInt = 24 := rfl; omega) with ⟨v8, w8⟩ | ⟨q8, kd8, hq8, hn8, v8, w8, dz8, tg8, s1_8, k1_8, k2_8, hk_8, we8⟩ | ⟨t8, ln8, sz8, ht8, v8, w8, dz8, tg8, r_8, tg2_8, l1_8, l2_8, hl_8, kd_8, n_8, sz_8, hs_8, al8, rw8⟩ | ⟨t8, sz8, ht8, v8, w8, dz8, tg8, r_8, tg2_8, k1_8, l2_8, k2_8, n_8, sz_8, hs_8, al8, rw8⟩ | ⟨t8, kd8, sz8, ht8, v8, w8, dz8, tg8, r_8, tg2_8, k1_8, l2_8, k2_8, hk_8, n_8, sz_8, hs_8, al8, rw8⟩
            · refine r_aaload0 rfl (isQ_of (fx_t1 fx) (by decide)) (vp_ct (fx_n1 fx) (vp_in_nI (by have := i_nlt c4; have := i_rg d; have : (0 : Int32).toInt = 0 := rfl; have := i_eq ek5; have : (nI k5).toInt = ((k5 : Nat) : Int) := nI_toInt (by omega); have := i_nle c6; have : (24 : Int32).toInt = 24 := rfl; omega) (by omega))) (Eq.trans (congrArg (hR (sI h (ad 0) 6 0) (ad 1)) ((nI_clamp (by have := i_nlt c4; have := i_rg d; have : (0 : Int32).toInt = 0 := rfl; have := i_eq ek5; have : (nI k5).toInt = ((k5 : Nat) : Int) := nI_toInt (by omega); have := i_nle c6; have : (24 : Int32).toInt = 24 := rfl; omega)) : _ = k5)) (Eq.trans R_oI w8)) ?_
              refine r_astore0 (lv' := [some (.ref (ad 0)), some (.int c), some (.int d), some (.null), some (.null)]) rfl (Nat.le_of_ble_eq_true rfl) rfl ?_
              refine r_aload0 rfl rfl ?_
              refine r_aload0 rfl rfl ?_
              refine r_acmpNN_ne (tg := 49) rfl rfl ?_
              refine r_ic (x := 1) rfl rfl ?_
              refine r_iret rfl ?_
              show EV _ 181 [.ref (ad 30), .int c, .int d] (sI h (ad 0) 6 0) _
              refine in_181 (Nat.le_of_ble_eq_true rfl) ?_
              show WR _ cd_181 0 [some (.ref (ad 30)), some (.int c), some (.int d), none, none, none] [] (sI h (ad 0) 6 0) _
              refine r_iload rfl rfl ?_
              refine WR_tI (y := nI k2) ek2 ?_
              refine r_cs (y := 153) (ra := [.int (nI k2)]) (rest := []) rfl ⟨⟨rfl, rfl⟩, by decide⟩ rfl rfl (Nat.le_of_ble_eq_true rfl) ?_
              refine in_153 (Nat.le_of_ble_eq_true rfl) ?_
              show WR _ cd_153 0 [some (.int (nI k2))] [] (sI h (ad 0) 6 0) _
              refine r_iload rfl rfl ?_
              refine r_if_lt (tg := 14) rfl rfl (fun q => False.elim (by have := i_nlt c1; have := i_rg c; have : (0 : Int32).toInt = 0 := rfl; have := i_eq ek2; have : (nI k2).toInt = ((k2 : Nat) : Int) := nI_toInt (by omega); have := i_nle c3; have : (24 : Int32).toInt = 24 := rfl; have := i_lt q; omega)) (fun _ => ?_)
              refine r_iload rfl rfl ?_
              refine r_ic (x := 24) rfl rfl ?_
              refine r_icmp_ge (tg := 14) rfl rfl (fun q => False.elim (by have := i_nlt c1; have := i_rg c; have : (0 : Int32).toInt = 0 := rfl; have := i_eq ek2; have : (nI k2).toInt = ((k2 : Nat) : Int) := nI_toInt (by omega); have := i_nle c3; have : (24 : Int32).toInt = 24 := rfl; have := i_le q; omega)) (fun _ => ?_)
              refine r_ic (x := 1) rfl rfl ?_
              refine r_goto (tg := 15) rfl rfl ?_
              refine r_zret rfl (.inr rfl) ?_
              show WR _ cd_181 4 [some (.ref (ad 30)), some (.int c), some (.int d), none, none, none] [.int 1] (sI h (ad 0) 6 0) _
              refine r_if_eq (tg := 14) rfl rfl (fun q => absurd q (by decide)) (fun _ => ?_)
              refine r_iload rfl rfl ?_
              refine WR_tI (y := nI k5) ek5 ?_
              refine r_cs (y := 153) (ra := [.int (nI k5)]) (rest := []) rfl ⟨⟨rfl, rfl⟩, by decide⟩ rfl rfl (Nat.le_of_ble_eq_true rfl) ?_
              refine in_153 (Nat.le_of_ble_eq_true rfl) ?_
              show WR _ cd_153 0 [some (.int (nI k5))] [] (sI h (ad 0) 6 0) _
              refine r_iload rfl rfl ?_
              refine r_if_lt (tg := 14) rfl rfl (fun q => False.elim (by have := i_nlt c4; have := i_rg d; have : (0 : Int32).toInt = 0 := rfl; have := i_eq ek5; have : (nI k5).toInt = ((k5 : Nat) : Int) := nI_toInt (by omega); have := i_nle c6; have : (24 : Int32).toInt = 24 := rfl; have := i_lt q; omega)) (fun _ => ?_)
              refine r_iload rfl rfl ?_
              refine r_ic (x := 24) rfl rfl ?_
              refine r_icmp_ge (tg := 14) rfl rfl (fun q => False.elim (by have := i_nlt c4; have := i_rg d; have : (0 : Int32).toInt = 0 := rfl; have := i_eq ek5; have : (nI k5).toInt = ((k5 : Nat) : Int) := nI_toInt (by omega); have := i_nle c6; have : (24 : Int32).toInt = 24 := rfl; have := i_le q; omega)) (fun _ => ?_)
              refine r_ic (x := 1) rfl rfl ?_
              refine r_goto (tg := 15) rfl rfl ?_
              refine r_zret rfl (.inr rfl) ?_
              show WR _ cd_181 11 [some (.ref (ad 30)), some (.int c), some (.int d), none, none, none] [.int 1] (sI h (ad 0) 6 0) _
              refine r_if_ne (tg := 21) rfl rfl (fun _ => ?_) (fun q => absurd q (by decide))
              refine r_aload rfl rfl ?_
              refine r_getA (b := ad 31) rfl ⟨rfl, rfl, rfl⟩ (fx_t30 fx) (fx_r30_0 fx) ?_
              refine r_iload rfl rfl ?_
              refine WR_tI (y := nI k2) ek2 ?_
              refine r_iaload rfl (.inl (fx_t31 fx)) (vp_ct (fx_n31 fx) (vp_in_nI (by have := i_nlt c1; have := i_rg c; have : (0 : Int32).toInt = 0 := rfl; have := i_eq ek2; have : (nI k2).toInt = ((k2 : Nat) : Int) := nI_toInt (by omega); have := i_nle c3; have : (24 : Int32).toInt = 24 := rfl; omega) (by omega))) ?_
              refine WR_tI (congrArg (hI (sI h (ad 0) 6 0) (ad 31)) ((nI_clamp (by have := i_nlt c1; have := i_rg c; have : (0 : Int32).toInt = 0 := rfl; have := i_eq ek2; have : (nI k2).toInt = ((k2 : Nat) : Int) := nI_toInt (by omega); have := i_nle c3; have : (24 : Int32).toInt = 24 := rfl; omega)) : _ = k2)) ?_
              refine WR_tI (y := (-1)) (Eq.trans (I_ne (fx_ne fx (by decide))) v7) ?_
              refine r_istore (lv' := [some (.ref (ad 30)), some (.int c), some (.int d), some (.int (-1)), none, none]) rfl (Nat.le_of_ble_eq_true rfl) rfl ?_
              refine r_aload rfl rfl ?_
              refine r_getA (b := ad 31) rfl ⟨rfl, rfl, rfl⟩ (fx_t30 fx) (fx_r30_0 fx) ?_
              refine r_iload rfl rfl ?_
              refine WR_tI (y := nI k5) ek5 ?_
              refine r_iaload rfl (.inl (fx_t31 fx)) (vp_ct (fx_n31 fx) (vp_in_nI (by have := i_nlt c4; have := i_rg d; have : (0 : Int32).toInt = 0 := rfl; have := i_eq ek5; have : (nI k5).toInt = ((k5 : Nat) : Int) := nI_toInt (by omega); have := i_nle c6; have : (24 : Int32).toInt = 24 := rfl; omega) (by omega))) ?_
              refine WR_tI (congrArg (hI (sI h (ad 0) 6 0) (ad 31)) ((nI_clamp (by have := i_nlt c4; have := i_rg d; have : (0 : Int32).toInt = 0 := rfl; have := i_eq ek5; have : (nI k5).toInt = ((k5 : Nat) : Int) := nI_toInt (by omega); have := i_nle c6; have : (24 : Int32).toInt = 24 := rfl; omega)) : _ = k5)) ?_
              refine WR_tI (y := (-1)) (Eq.trans (I_ne (fx_ne fx (by decide))) v8) ?_
              refine r_istore (lv' := [some (.ref (ad 30)), some (.int c), some (.int d), some (.int (-1)), some (.int (-1)), none]) rfl (Nat.le_of_ble_eq_true rfl) rfl ?_
              refine r_iload rfl rfl ?_
              refine r_iload rfl rfl ?_
              refine r_icmp_ne (tg := 48) rfl rfl (fun q => absurd q (by decide)) (fun _ => ?_)
              refine r_aload rfl rfl ?_
              refine r_ic (x := 1) rfl rfl ?_
              refine r_cv (y := 154) (ra := [.int 1]) (rest := []) rfl ⟨⟨rfl, rfl⟩, rfl, by decide⟩ (fx_t30 fx) rfl rfl (Nat.le_of_ble_eq_true rfl) ?_
              refine in_154 (Nat.le_of_ble_eq_true rfl) ?_
              show WR _ cd_154 0 [some (.ref (ad 30)), some (.int 1)] [] (sI h (ad 0) 6 0) _
              refine r_aload rfl rfl ?_
              refine r_iload rfl rfl ?_
              refine r_ic (x := (-1)) rfl rfl ?_
              refine r_icmp_ge (tg := 10) rfl rfl (fun _ => ?_) (fun q => absurd q (by decide))
              refine r_ic (x := 0) rfl rfl ?_
              refine r_putI rfl ⟨rfl, rfl, rfl⟩ (fx_t30 fx) ?_
              have fx : FX n ad sa z0 (sI (sI h (ad 0) 6 0) (ad 30) 11 0) := (FX.sI fx)
              refine r_iload rfl rfl ?_
              refine r_iret rfl ?_
              show WR _ cd_181 47 [some (.ref (ad 30)), some (.int c), some (.int d), some (.int (-1)), some (.int (-1)), none] [.int 1] (sI (sI h (ad 0) 6 0) (ad 30) 11 0) _
              refine r_iret rfl ?_
              exact ⟨rfl, Rel.why r ((Chg.rf.sI (fx_j fx) (.inl (by decide))).sI (fx_j fx) (.inl (by decide))) ⟨rfl, by decide⟩ (Eq.trans (Eq.trans (I_ne (fx_ne fx (by decide))) I_eq) (Eq.symm I_eq)), (by (try simp only [hZ_sI, hZ_sL, hZ_sD, hZ_sR]); omega), (by (try simp only [hU_sI, hU_sL, hU_sD, hU_sR]); omega)⟩
            · refine r_aaloadA (b := pa q8) rfl (isQ_of (fx_t1 fx) (by decide)) (vp_ct (fx_n1 fx) (vp_in_nI (by have := i_nlt c4; have := i_rg d; have : (0 : Int32).toInt = 0 := rfl; have := i_eq ek5; have : (nI k5).toInt = ((k5 : Nat) : Int) := nI_toInt (by omega); have := i_nle c6; have : (24 : Int32).toInt = 24 := rfl; omega) (by omega))) (Eq.trans (congrArg (hR (sI h (ad 0) 6 0) (ad 1)) ((nI_clamp (by have := i_nlt c4; have := i_rg d; have : (0 : Int32).toInt = 0 := rfl; have := i_eq ek5; have : (nI k5).toInt = ((k5 : Nat) : Int) := nI_toInt (by omega); have := i_nle c6; have : (24 : Int32).toInt = 24 := rfl; omega)) : _ = k5)) (Eq.trans R_oI w8)) ?_
              refine r_astore (lv' := [some (.ref (ad 0)), some (.int c), some (.int d), some (.null), some (.ref (pa q8))]) rfl (Nat.le_of_ble_eq_true rfl) rfl ?_
              refine r_aload0 rfl rfl ?_
              refine r_aload rfl rfl ?_
              refine r_acmpNA_ne (tg := 49) rfl rfl ?_
              refine r_aload0 rfl rfl ?_
              refine r_ifnullN (tg := 71) rfl rfl ?_
              refine r_ic (x := 0) rfl rfl ?_
              refine r_iret rfl ?_
              show EV _ 181 [.ref (ad 30), .int c, .int d] (sI h (ad 0) 6 0) _
              refine in_181 (Nat.le_of_ble_eq_true rfl) ?_
              show WR _ cd_181 0 [some (.ref (ad 30)), some (.int c), some (.int d), none, none, none] [] (sI h (ad 0) 6 0) _
              refine r_iload rfl rfl ?_
              refine WR_tI (y := nI k2) ek2 ?_
              refine r_cs (y := 153) (ra := [.int (nI k2)]) (rest := []) rfl ⟨⟨rfl, rfl⟩, by decide⟩ rfl rfl (Nat.le_of_ble_eq_true rfl) ?_
              refine in_153 (Nat.le_of_ble_eq_true rfl) ?_
              show WR _ cd_153 0 [some (.int (nI k2))] [] (sI h (ad 0) 6 0) _
              refine r_iload rfl rfl ?_
              refine r_if_lt (tg := 14) rfl rfl (fun q => False.elim (by have := i_nlt c1; have := i_rg c; have : (0 : Int32).toInt = 0 := rfl; have := i_eq ek2; have : (nI k2).toInt = ((k2 : Nat) : Int) := nI_toInt (by omega); have := i_nle c3; have : (24 : Int32).toInt = 24 := rfl; have := i_lt q; omega)) (fun _ => ?_)
              refine r_iload rfl rfl ?_
              refine r_ic (x := 24) rfl rfl ?_
              refine r_icmp_ge (tg := 14) rfl rfl (fun q => False.elim (by have := i_nlt c1; have := i_rg c; have : (0 : Int32).toInt = 0 := rfl; have := i_eq ek2; have : (nI k2).toInt = ((k2 : Nat) : Int) := nI_toInt (by omega); have := i_nle c3; have : (24 : Int32).toInt = 24 := rfl; have := i_le q; omega)) (fun _ => ?_)
              refine r_ic (x := 1) rfl rfl ?_
              refine r_goto (tg := 15) rfl rfl ?_
              refine r_zret rfl (.inr rfl) ?_
              show WR _ cd_181 4 [some (.ref (ad 30)), some (.int c), some (.int d), none, none, none] [.int 1] (sI h (ad 0) 6 0) _
              refine r_if_eq (tg := 14) rfl rfl (fun q => absurd q (by decide)) (fun _ => ?_)
              refine r_iload rfl rfl ?_
              refine WR_tI (y := nI k5) ek5 ?_
              refine r_cs (y := 153) (ra := [.int (nI k5)]) (rest := []) rfl ⟨⟨rfl, rfl⟩, by decide⟩ rfl rfl (Nat.le_of_ble_eq_true rfl) ?_
              refine in_153 (Nat.le_of_ble_eq_true rfl) ?_
              show WR _ cd_153 0 [some (.int (nI k5))] [] (sI h (ad 0) 6 0) _
              refine r_iload rfl rfl ?_
              refine r_if_lt (tg := 14) rfl rfl (fun q => False.elim (by have := i_nlt c4; have := i_rg d; have : (0 : Int32).toInt = 0 := rfl; have := i_eq ek5; have : (nI k5).toInt = ((k5 : Nat) : Int) := nI_toInt (by omega); have := i_nle c6; have : (24 : Int32).toInt = 24 := rfl; have := i_lt q; omega)) (fun _ => ?_)
              refine r_iload rfl rfl ?_
              refine r_ic (x := 24) rfl rfl ?_
              refine r_icmp_ge (tg := 14) rfl rfl (fun q => False.elim (by have := i_nlt c4; have := i_rg d; have : (0 : Int32).toInt = 0 := rfl; have := i_eq ek5; have : (nI k5).toInt = ((k5 : Nat) : Int) := nI_toInt (by omega); have := i_nle c6; have : (24 : Int32).toInt = 24 := rfl; have := i_le q; omega)) (fun _ => ?_)
              refine r_ic (x := 1) rfl rfl ?_
              refine r_goto (tg := 15) rfl rfl ?_
              refine r_zret rfl (.inr rfl) ?_
              show WR _ cd_181 11 [some (.ref (ad 30)), some (.int c), some (.int d), none, none, none] [.int 1] (sI h (ad 0) 6 0) _
              refine r_if_ne (tg := 21) rfl rfl (fun _ => ?_) (fun q => absurd q (by decide))
              refine r_aload rfl rfl ?_
              refine r_getA (b := ad 31) rfl ⟨rfl, rfl, rfl⟩ (fx_t30 fx) (fx_r30_0 fx) ?_
              refine r_iload rfl rfl ?_
              refine WR_tI (y := nI k2) ek2 ?_
              refine r_iaload rfl (.inl (fx_t31 fx)) (vp_ct (fx_n31 fx) (vp_in_nI (by have := i_nlt c1; have := i_rg c; have : (0 : Int32).toInt = 0 := rfl; have := i_eq ek2; have : (nI k2).toInt = ((k2 : Nat) : Int) := nI_toInt (by omega); have := i_nle c3; have : (24 : Int32).toInt = 24 := rfl; omega) (by omega))) ?_
              refine WR_tI (congrArg (hI (sI h (ad 0) 6 0) (ad 31)) ((nI_clamp (by have := i_nlt c1; have := i_rg c; have : (0 : Int32).toInt = 0 := rfl; have := i_eq ek2; have : (nI k2).toInt = ((k2 : Nat) : Int) := nI_toInt (by omega); have := i_nle c3; have : (24 : Int32).toInt = 24 := rfl; omega)) : _ = k2)) ?_
              refine WR_tI (y := (-1)) (Eq.trans (I_ne (fx_ne fx (by decide))) v7) ?_
              refine r_istore (lv' := [some (.ref (ad 30)), some (.int c), some (.int d), some (.int (-1)), none, none]) rfl (Nat.le_of_ble_eq_true rfl) rfl ?_
              refine r_aload rfl rfl ?_
              refine r_getA (b := ad 31) rfl ⟨rfl, rfl, rfl⟩ (fx_t30 fx) (fx_r30_0 fx) ?_
              refine r_iload rfl rfl ?_
              refine WR_tI (y := nI k5) ek5 ?_
              refine r_iaload rfl (.inl (fx_t31 fx)) (vp_ct (fx_n31 fx) (vp_in_nI (by have := i_nlt c4; have := i_rg d; have : (0 : Int32).toInt = 0 := rfl; have := i_eq ek5; have : (nI k5).toInt = ((k5 : Nat) : Int) := nI_toInt (by omega); have := i_nle c6; have : (24 : Int32).toInt = 24 := rfl; omega) (by omega))) ?_
              refine WR_tI (congrArg (hI (sI h (ad 0) 6 0) (ad 31)) ((nI_clamp (by have := i_nlt c4; have := i_rg d; have : (0 : Int32).toInt = 0 := rfl; have := i_eq ek5; have : (nI k5).toInt = ((k5 : Nat) : Int) := nI_toInt (by omega); have := i_nle c6; have : (24 : Int32).toInt = 24 := rfl; omega)) : _ = k5)) ?_
              refine WR_tI (y := nI (q8 + 1000)) (Eq.trans (I_ne (fx_ne fx (by decide))) v8) ?_
              refine r_istore (lv' := [some (.ref (ad 30)), some (.int c), some (.int d), some (.int (-1)), some (.int (nI (q8 + 1000))), none]) rfl (Nat.le_of_ble_eq_true rfl) rfl ?_
              refine r_iload rfl rfl ?_
              refine r_iload rfl rfl ?_
              refine r_icmp_ne (tg := 48) rfl rfl (fun _ => ?_) (fun q => False.elim (by have : (-1 : Int32).toInt = -1 := rfl; have : (nI (q8 + 1000)).toInt = ((q8 + 1000 : Nat) : Int) := nI_toInt (by omega); have := i_eq q; omega))
              refine r_iload rfl rfl ?_
              refine r_ic (x := (-1)) rfl rfl ?_
              refine r_icmp_eq (tg := 90) rfl rfl (fun _ => ?_) (fun q => absurd q (by decide))
              refine r_aload rfl rfl ?_
              refine r_ic (x := 0) rfl rfl ?_
              refine r_cv (y := 154) (ra := [.int 0]) (rest := []) rfl ⟨⟨rfl, rfl⟩, rfl, by decide⟩ (fx_t30 fx) rfl rfl (Nat.le_of_ble_eq_true rfl) ?_
              refine in_154 (Nat.le_of_ble_eq_true rfl) ?_
              show WR _ cd_154 0 [some (.ref (ad 30)), some (.int 0)] [] (sI h (ad 0) 6 0) _
              refine r_aload rfl rfl ?_
              refine r_iload rfl rfl ?_
              refine r_ic (x := (-1)) rfl rfl ?_
              refine r_icmp_ge (tg := 10) rfl rfl (fun _ => ?_) (fun q => absurd q (by decide))
              refine r_ic (x := 0) rfl rfl ?_
              refine r_putI rfl ⟨rfl, rfl, rfl⟩ (fx_t30 fx) ?_
              have fx : FX n ad sa z0 (sI (sI h (ad 0) 6 0) (ad 30) 11 0) := (FX.sI fx)
              refine r_iload rfl rfl ?_
              refine r_iret rfl ?_
              show WR _ cd_181 95 [some (.ref (ad 30)), some (.int c), some (.int d), some (.int (-1)), some (.int (nI (q8 + 1000))), none] [.int 0] (sI (sI h (ad 0) 6 0) (ad 30) 11 0) _
              refine r_iret rfl ?_
              exact ⟨rfl, Rel.why r ((Chg.rf.sI (fx_j fx) (.inl (by decide))).sI (fx_j fx) (.inl (by decide))) ⟨rfl, by decide⟩ (Eq.trans (Eq.trans (I_ne (fx_ne fx (by decide))) I_eq) (Eq.symm I_eq)), (by (try simp only [hZ_sI, hZ_sL, hZ_sD, hZ_sR]); omega), (by (try simp only [hU_sI, hU_sL, hU_sD, hU_sR]); omega)⟩
            · refine r_aaloadA (b := mid t8) rfl (isQ_of (fx_t1 fx) (by decide)) (vp_ct (fx_n1 fx) (vp_in_nI (by have := i_nlt c4; have := i_rg d; have : (0 : Int32).toInt = 0 := rfl; have := i_eq ek5; have : (nI k5).toInt = ((k5 : Nat) : Int) := nI_toInt (by omega); have := i_nle c6; have : (24 : Int32).toInt = 24 := rfl; omega) (by omega))) (Eq.trans (congrArg (hR (sI h (ad 0) 6 0) (ad 1)) ((nI_clamp (by have := i_nlt c4; have := i_rg d; have : (0 : Int32).toInt = 0 := rfl; have := i_eq ek5; have : (nI k5).toInt = ((k5 : Nat) : Int) := nI_toInt (by omega); have := i_nle c6; have : (24 : Int32).toInt = 24 := rfl; omega)) : _ = k5)) (Eq.trans R_oI w8)) ?_
              refine r_astore (lv' := [some (.ref (ad 0)), some (.int c), some (.int d), some (.null), some (.ref (mid t8))]) rfl (Nat.le_of_ble_eq_true rfl) rfl ?_
              refine r_aload0 rfl rfl ?_
              refine r_aload rfl rfl ?_
              refine r_acmpNA_ne (tg := 49) rfl rfl ?_
              refine r_aload0 rfl rfl ?_
              refine r_ifnullN (tg := 71) rfl rfl ?_
              refine r_ic (x := 0) rfl rfl ?_
              refine r_iret rfl ?_
              show EV _ 181 [.ref (ad 30), .int c, .int d] (sI h (ad 0) 6 0) _
              refine in_181 (Nat.le_of_ble_eq_true rfl) ?_
              show WR _ cd_181 0 [some (.ref (ad 30)), some (.int c), some (.int d), none, none, none] [] (sI h (ad 0) 6 0) _
              refine r_iload rfl rfl ?_
              refine WR_tI (y := nI k2) ek2 ?_
              refine r_cs (y := 153) (ra := [.int (nI k2)]) (rest := []) rfl ⟨⟨rfl, rfl⟩, by decide⟩ rfl rfl (Nat.le_of_ble_eq_true rfl) ?_
              refine in_153 (Nat.le_of_ble_eq_true rfl) ?_
              show WR _ cd_153 0 [some (.int (nI k2))] [] (sI h (ad 0) 6 0) _
              refine r_iload rfl rfl ?_
              refine r_if_lt (tg := 14) rfl rfl (fun q => False.elim (by have := i_nlt c1; have := i_rg c; have : (0 : Int32).toInt = 0 := rfl; have := i_eq ek2; have : (nI k2).toInt = ((k2 : Nat) : Int) := nI_toInt (by omega); have := i_nle c3; have : (24 : Int32).toInt = 24 := rfl; have := i_lt q; omega)) (fun _ => ?_)
              refine r_iload rfl rfl ?_
              refine r_ic (x := 24) rfl rfl ?_
              refine r_icmp_ge (tg := 14) rfl rfl (fun q => False.elim (by have := i_nlt c1; have := i_rg c; have : (0 : Int32).toInt = 0 := rfl; have := i_eq ek2; have : (nI k2).toInt = ((k2 : Nat) : Int) := nI_toInt (by omega); have := i_nle c3; have : (24 : Int32).toInt = 24 := rfl; have := i_le q; omega)) (fun _ => ?_)
              refine r_ic (x := 1) rfl rfl ?_
              refine r_goto (tg := 15) rfl rfl ?_
              refine r_zret rfl (.inr rfl) ?_
              show WR _ cd_181 4 [some (.ref (ad 30)), some (.int c), some (.int d), none, none, none] [.int 1] (sI h (ad 0) 6 0) _
              refine r_if_eq (tg := 14) rfl rfl (fun q => absurd q (by decide)) (fun _ => ?_)
              refine r_iload rfl rfl ?_
              refine WR_tI (y := nI k5) ek5 ?_
              refine r_cs (y := 153) (ra := [.int (nI k5)]) (rest := []) rfl ⟨⟨rfl, rfl⟩, by decide⟩ rfl rfl (Nat.le_of_ble_eq_true rfl) ?_
              refine in_153 (Nat.le_of_ble_eq_true rfl) ?_
              show WR _ cd_153 0 [some (.int (nI k5))] [] (sI h (ad 0) 6 0) _
              refine r_iload rfl rfl ?_
              refine r_if_lt (tg := 14) rfl rfl (fun q => False.elim (by have := i_nlt c4; have := i_rg d; have : (0 : Int32).toInt = 0 := rfl; have := i_eq ek5; have : (nI k5).toInt = ((k5 : Nat) : Int) := nI_toInt (by omega); have := i_nle c6; have : (24 : Int32).toInt = 24 := rfl; have := i_lt q; omega)) (fun _ => ?_)
              refine r_iload rfl rfl ?_
              refine r_ic (x := 24) rfl rfl ?_
              refine r_icmp_ge (tg := 14) rfl rfl (fun q => False.elim (by have := i_nlt c4; have := i_rg d; have : (0 : Int32).toInt = 0 := rfl; have := i_eq ek5; have : (nI k5).toInt = ((k5 : Nat) : Int) := nI_toInt (by omega); have := i_nle c6; have : (24 : Int32).toInt = 24 := rfl; have := i_le q; omega)) (fun _ => ?_)
              refine r_ic (x := 1) rfl rfl ?_
              refine r_goto (tg := 15) rfl rfl ?_
              refine r_zret rfl (.inr rfl) ?_
              show WR _ cd_181 11 [some (.ref (ad 30)), some (.int c), some (.int d), none, none, none] [.int 1] (sI h (ad 0) 6 0) _
              refine r_if_ne (tg := 21) rfl rfl (fun _ => ?_) (fun q => absurd q (by decide))
              refine r_aload rfl rfl ?_
              refine r_getA (b := ad 31) rfl ⟨rfl, rfl, rfl⟩ (fx_t30 fx) (fx_r30_0 fx) ?_
              refine r_iload rfl rfl ?_
              refine WR_tI (y := nI k2) ek2 ?_
              refine r_iaload rfl (.inl (fx_t31 fx)) (vp_ct (fx_n31 fx) (vp_in_nI (by have := i_nlt c1; have := i_rg c; have : (0 : Int32).toInt = 0 := rfl; have := i_eq ek2; have : (nI k2).toInt = ((k2 : Nat) : Int) := nI_toInt (by omega); have := i_nle c3; have : (24 : Int32).toInt = 24 := rfl; omega) (by omega))) ?_
              refine WR_tI (congrArg (hI (sI h (ad 0) 6 0) (ad 31)) ((nI_clamp (by have := i_nlt c1; have := i_rg c; have : (0 : Int32).toInt = 0 := rfl; have := i_eq ek2; have : (nI k2).toInt = ((k2 : Nat) : Int) := nI_toInt (by omega); have := i_nle c3; have : (24 : Int32).toInt = 24 := rfl; omega)) : _ = k2)) ?_
              refine WR_tI (y := (-1)) (Eq.trans (I_ne (fx_ne fx (by decide))) v7) ?_
              refine r_istore (lv' := [some (.ref (ad 30)), some (.int c), some (.int d), some (.int (-1)), none, none]) rfl (Nat.le_of_ble_eq_true rfl) rfl ?_
              refine r_aload rfl rfl ?_
              refine r_getA (b := ad 31) rfl ⟨rfl, rfl, rfl⟩ (fx_t30 fx) (fx_r30_0 fx) ?_
              refine r_iload rfl rfl ?_
              refine WR_tI (y := nI k5) ek5 ?_
              refine r_iaload rfl (.inl (fx_t31 fx)) (vp_ct (fx_n31 fx) (vp_in_nI (by have := i_nlt c4; have := i_rg d; have : (0 : Int32).toInt = 0 := rfl; have := i_eq ek5; have : (nI k5).toInt = ((k5 : Nat) : Int) := nI_toInt (by omega); have := i_nle c6; have : (24 : Int32).toInt = 24 := rfl; omega) (by omega))) ?_
              refine WR_tI (congrArg (hI (sI h (ad 0) 6 0) (ad 31)) ((nI_clamp (by have := i_nlt c4; have := i_rg d; have : (0 : Int32).toInt = 0 := rfl; have := i_eq ek5; have : (nI k5).toInt = ((k5 : Nat) : Int) := nI_toInt (by omega); have := i_nle c6; have : (24 : Int32).toInt = 24 := rfl; omega)) : _ = k5)) ?_
              refine WR_tI (y := nI t8) (Eq.trans (I_ne (fx_ne fx (by decide))) v8) ?_
              refine r_istore (lv' := [some (.ref (ad 30)), some (.int c), some (.int d), some (.int (-1)), some (.int (nI t8)), none]) rfl (Nat.le_of_ble_eq_true rfl) rfl ?_
              refine r_iload rfl rfl ?_
              refine r_iload rfl rfl ?_
              refine r_icmp_ne (tg := 48) rfl rfl (fun _ => ?_) (fun q => False.elim (by have : (-1 : Int32).toInt = -1 := rfl; have : (nI t8).toInt = ((t8 : Nat) : Int) := nI_toInt (by omega); have := i_eq q; omega))
              refine r_iload rfl rfl ?_
              refine r_ic (x := (-1)) rfl rfl ?_
              refine r_icmp_eq (tg := 90) rfl rfl (fun _ => ?_) (fun q => absurd q (by decide))
              refine r_aload rfl rfl ?_
              refine r_ic (x := 0) rfl rfl ?_
              refine r_cv (y := 154) (ra := [.int 0]) (rest := []) rfl ⟨⟨rfl, rfl⟩, rfl, by decide⟩ (fx_t30 fx) rfl rfl (Nat.le_of_ble_eq_true rfl) ?_
              refine in_154 (Nat.le_of_ble_eq_true rfl) ?_
              show WR _ cd_154 0 [some (.ref (ad 30)), some (.int 0)] [] (sI h (ad 0) 6 0) _
              refine r_aload rfl rfl ?_
              refine r_iload rfl rfl ?_
              refine r_ic (x := (-1)) rfl rfl ?_
              refine r_icmp_ge (tg := 10) rfl rfl (fun _ => ?_) (fun q => absurd q (by decide))
              refine r_ic (x := 0) rfl rfl ?_
              refine r_putI rfl ⟨rfl, rfl, rfl⟩ (fx_t30 fx) ?_
              have fx : FX n ad sa z0 (sI (sI h (ad 0) 6 0) (ad 30) 11 0) := (FX.sI fx)
              refine r_iload rfl rfl ?_
              refine r_iret rfl ?_
              show WR _ cd_181 95 [some (.ref (ad 30)), some (.int c), some (.int d), some (.int (-1)), some (.int (nI t8)), none] [.int 0] (sI (sI h (ad 0) 6 0) (ad 30) 11 0) _
              refine r_iret rfl ?_
              exact ⟨rfl, Rel.why r ((Chg.rf.sI (fx_j fx) (.inl (by decide))).sI (fx_j fx) (.inl (by decide))) ⟨rfl, by decide⟩ (Eq.trans (Eq.trans (I_ne (fx_ne fx (by decide))) I_eq) (Eq.symm I_eq)), (by (try simp only [hZ_sI, hZ_sL, hZ_sD, hZ_sR]); omega), (by (try simp only [hU_sI, hU_sL, hU_sD, hU_sR]); omega)⟩
            · refine r_aaloadA (b := mid t8) rfl (isQ_of (fx_t1 fx) (by decide)) (vp_ct (fx_n1 fx) (vp_in_nI (by have := i_nlt c4; have := i_rg d; have : (0 : Int32).toInt = 0 := rfl; have := i_eq ek5; have : (nI k5).toInt = ((k5 : Nat) : Int) := nI_toInt (by omega); have := i_nle c6; have : (24 : Int32).toInt = 24 := rfl; omega) (by omega))) (Eq.trans (congrArg (hR (sI h (ad 0) 6 0) (ad 1)) ((nI_clamp (by have := i_nlt c4; have := i_rg d; have : (0 : Int32).toInt = 0 := rfl; have := i_eq ek5; have : (nI k5).toInt = ((k5 : Nat) : Int) := nI_toInt (by omega); have := i_nle c6; have : (24 : Int32).toInt = 24 := rfl; omega)) : _ = k5)) (Eq.trans R_oI w8)) ?_
              refine r_astore (lv' := [some (.ref (ad 0)), some (.int c), some (.int d), some (.null), some (.ref (mid t8))]) rfl (Nat.le_of_ble_eq_true rfl) rfl ?_
              refine r_aload0 rfl rfl ?_
              refine r_aload rfl rfl ?_
              refine r_acmpNA_ne (tg := 49) rfl rfl ?_
              refine r_aload0 rfl rfl ?_
              refine r_ifnullN (tg := 71) rfl rfl ?_
              refine r_ic (x := 0) rfl rfl ?_
              refine r_iret rfl ?_
              show EV _ 181 [.ref (ad 30), .int c, .int d] (sI h (ad 0) 6 0) _
              refine in_181 (Nat.le_of_ble_eq_true rfl) ?_
              show WR _ cd_181 0 [some (.ref (ad 30)), some (.int c), some (.int d), none, none, none] [] (sI h (ad 0) 6 0) _
              refine r_iload rfl rfl ?_
              refine WR_tI (y := nI k2) ek2 ?_
              refine r_cs (y := 153) (ra := [.int (nI k2)]) (rest := []) rfl ⟨⟨rfl, rfl⟩, by decide⟩ rfl rfl (Nat.le_of_ble_eq_true rfl) ?_
              refine in_153 (Nat.le_of_ble_eq_true rfl) ?_
              show WR _ cd_153 0 [some (.int (nI k2))] [] (sI h (ad 0) 6 0) _
              refine r_iload rfl rfl ?_
              refine r_if_lt (tg := 14) rfl rfl (fun q => False.elim (by have := i_nlt c1; have := i_rg c; have : (0 : Int32).toInt = 0 := rfl; have := i_eq ek2; have : (nI k2).toInt = ((k2 : Nat) : Int) := nI_toInt (by omega); have := i_nle c3; have : (24 : Int32).toInt = 24 := rfl; have := i_lt q; omega)) (fun _ => ?_)
              refine r_iload rfl rfl ?_
              refine r_ic (x := 24) rfl rfl ?_
              refine r_icmp_ge (tg := 14) rfl rfl (fun q => False.elim (by have := i_nlt c1; have := i_rg c; have : (0 : Int32).toInt = 0 := rfl; have := i_eq ek2; have : (nI k2).toInt = ((k2 : Nat) : Int) := nI_toInt (by omega); have := i_nle c3; have : (24 : Int32).toInt = 24 := rfl; have := i_le q; omega)) (fun _ => ?_)
              refine r_ic (x := 1) rfl rfl ?_
              refine r_goto (tg := 15) rfl rfl ?_
              refine r_zret rfl (.inr rfl) ?_
              show WR _ cd_181 4 [some (.ref (ad 30)), some (.int c), some (.int d), none, none, none] [.int 1] (sI h (ad 0) 6 0) _
              refine r_if_eq (tg := 14) rfl rfl (fun q => absurd q (by decide)) (fun _ => ?_)
              refine r_iload rfl rfl ?_
              refine WR_tI (y := nI k5) ek5 ?_
              refine r_cs (y := 153) (ra := [.int (nI k5)]) (rest := []) rfl ⟨⟨rfl, rfl⟩, by decide⟩ rfl rfl (Nat.le_of_ble_eq_true rfl) ?_
              refine in_153 (Nat.le_of_ble_eq_true rfl) ?_
              show WR _ cd_153 0 [some (.int (nI k5))] [] (sI h (ad 0) 6 0) _
              refine r_iload rfl rfl ?_
              refine r_if_lt (tg := 14) rfl rfl (fun q => False.elim (by have := i_nlt c4; have := i_rg d; have : (0 : Int32).toInt = 0 := rfl; have := i_eq ek5; have : (nI k5).toInt = ((k5 : Nat) : Int) := nI_toInt (by omega); have := i_nle c6; have : (24 : Int32).toInt = 24 := rfl; have := i_lt q; omega)) (fun _ => ?_)
              refine r_iload rfl rfl ?_
              refine r_ic (x := 24) rfl rfl ?_
              refine r_icmp_ge (tg := 14) rfl rfl (fun q => False.elim (by have := i_nlt c4; have := i_rg d; have : (0 : Int32).toInt = 0 := rfl; have := i_eq ek5; have : (nI k5).toInt = ((k5 : Nat) : Int) := nI_toInt (by omega); have := i_nle c6; have : (24 : Int32).toInt = 24 := rfl; have := i_le q; omega)) (fun _ => ?_)
              refine r_ic (x := 1) rfl rfl ?_
              refine r_goto (tg := 15) rfl rfl ?_
              refine r_zret rfl (.inr rfl) ?_
              show WR _ cd_181 11 [some (.ref (ad 30)), some (.int c), some (.int d), none, none, none] [.int 1] (sI h (ad 0) 6 0) _
              refine r_if_ne (tg := 21) rfl rfl (fun _ => ?_) (fun q => absurd q (by decide))
              refine r_aload rfl rfl ?_
              refine r_getA (b := ad 31) rfl ⟨rfl, rfl, rfl⟩ (fx_t30 fx) (fx_r30_0 fx) ?_
              refine r_iload rfl rfl ?_
              refine WR_tI (y := nI k2) ek2 ?_
              refine r_iaload rfl (.inl (fx_t31 fx)) (vp_ct (fx_n31 fx) (vp_in_nI (by have := i_nlt c1; have := i_rg c; have : (0 : Int32).toInt = 0 := rfl; have := i_eq ek2; have : (nI k2).toInt = ((k2 : Nat) : Int) := nI_toInt (by omega); have := i_nle c3; have : (24 : Int32).toInt = 24 := rfl; omega) (by omega))) ?_
              refine WR_tI (congrArg (hI (sI h (ad 0) 6 0) (ad 31)) ((nI_clamp (by have := i_nlt c1; have := i_rg c; have : (0 : Int32).toInt = 0 := rfl; have := i_eq ek2; have : (nI k2).toInt = ((k2 : Nat) : Int) := nI_toInt (by omega); have := i_nle c3; have : (24 : Int32).toInt = 24 := rfl; omega)) : _ = k2)) ?_
              refine WR_tI (y := (-1)) (Eq.trans (I_ne (fx_ne fx (by decide))) v7) ?_
              refine r_istore (lv' := [some (.ref (ad 30)), some (.int c), some (.int d), some (.int (-1)), none, none]) rfl (Nat.le_of_ble_eq_true rfl) rfl ?_
              refine r_aload rfl rfl ?_
              refine r_getA (b := ad 31) rfl ⟨rfl, rfl, rfl⟩ (fx_t30 fx) (fx_r30_0 fx) ?_
              refine r_iload rfl rfl ?_
              refine WR_tI (y := nI k5) ek5 ?_
              refine r_iaload rfl (.inl (fx_t31 fx)) (vp_ct (fx_n31 fx) (vp_in_nI (by have := i_nlt c4; have := i_rg d; have : (0 : Int32).toInt = 0 := rfl; have := i_eq ek5; have : (nI k5).toInt = ((k5 : Nat) : Int) := nI_toInt (by omega); have := i_nle c6; have : (24 : Int32).toInt = 24 := rfl; omega) (by omega))) ?_
              refine WR_tI (congrArg (hI (sI h (ad 0) 6 0) (ad 31)) ((nI_clamp (by have := i_nlt c4; have := i_rg d; have : (0 : Int32).toInt = 0 := rfl; have := i_eq ek5; have : (nI k5).toInt = ((k5 : Nat) : Int) := nI_toInt (by omega); have := i_nle c6; have : (24 : Int32).toInt = 24 := rfl; omega)) : _ = k5)) ?_
              refine WR_tI (y := nI t8) (Eq.trans (I_ne (fx_ne fx (by decide))) v8) ?_
              refine r_istore (lv' := [some (.ref (ad 30)), some (.int c), some (.int d), some (.int (-1)), some (.int (nI t8)), none]) rfl (Nat.le_of_ble_eq_true rfl) rfl ?_
              refine r_iload rfl rfl ?_
              refine r_iload rfl rfl ?_
              refine r_icmp_ne (tg := 48) rfl rfl (fun _ => ?_) (fun q => False.elim (by have : (-1 : Int32).toInt = -1 := rfl; have : (nI t8).toInt = ((t8 : Nat) : Int) := nI_toInt (by omega); have := i_eq q; omega))
              refine r_iload rfl rfl ?_
              refine r_ic (x := (-1)) rfl rfl ?_
              refine r_icmp_eq (tg := 90) rfl rfl (fun _ => ?_) (fun q => absurd q (by decide))
              refine r_aload rfl rfl ?_
              refine r_ic (x := 0) rfl rfl ?_
              refine r_cv (y := 154) (ra := [.int 0]) (rest := []) rfl ⟨⟨rfl, rfl⟩, rfl, by decide⟩ (fx_t30 fx) rfl rfl (Nat.le_of_ble_eq_true rfl) ?_
              refine in_154 (Nat.le_of_ble_eq_true rfl) ?_
              show WR _ cd_154 0 [some (.ref (ad 30)), some (.int 0)] [] (sI h (ad 0) 6 0) _
              refine r_aload rfl rfl ?_
              refine r_iload rfl rfl ?_
              refine r_ic (x := (-1)) rfl rfl ?_
              refine r_icmp_ge (tg := 10) rfl rfl (fun _ => ?_) (fun q => absurd q (by decide))
              refine r_ic (x := 0) rfl rfl ?_
              refine r_putI rfl ⟨rfl, rfl, rfl⟩ (fx_t30 fx) ?_
              have fx : FX n ad sa z0 (sI (sI h (ad 0) 6 0) (ad 30) 11 0) := (FX.sI fx)
              refine r_iload rfl rfl ?_
              refine r_iret rfl ?_
              show WR _ cd_181 95 [some (.ref (ad 30)), some (.int c), some (.int d), some (.int (-1)), some (.int (nI t8)), none] [.int 0] (sI (sI h (ad 0) 6 0) (ad 30) 11 0) _
              refine r_iret rfl ?_
              exact ⟨rfl, Rel.why r ((Chg.rf.sI (fx_j fx) (.inl (by decide))).sI (fx_j fx) (.inl (by decide))) ⟨rfl, by decide⟩ (Eq.trans (Eq.trans (I_ne (fx_ne fx (by decide))) I_eq) (Eq.symm I_eq)), (by (try simp only [hZ_sI, hZ_sL, hZ_sD, hZ_sR]); omega), (by (try simp only [hU_sI, hU_sL, hU_sD, hU_sR]); omega)⟩
            · refine r_aaloadA (b := mid t8) rfl (isQ_of (fx_t1 fx) (by decide)) (vp_ct (fx_n1 fx) (vp_in_nI (by have := i_nlt c4; have := i_rg d; have : (0 : Int32).toInt = 0 := rfl; have := i_eq ek5; have : (nI k5).toInt = ((k5 : Nat) : Int) := nI_toInt (by omega); have := i_nle c6; have : (24 : Int32).toInt = 24 := rfl; omega) (by omega))) (Eq.trans (congrArg (hR (sI h (ad 0) 6 0) (ad 1)) ((nI_clamp (by have := i_nlt c4; have := i_rg d; have : (0 : Int32).toInt = 0 := rfl; have := i_eq ek5; have : (nI k5).toInt = ((k5 : Nat) : Int) := nI_toInt (by omega); have := i_nle c6; have : (24 : Int32).toInt = 24 := rfl; omega)) : _ = k5)) (Eq.trans R_oI w8)) ?_
              refine r_astore (lv' := [some (.ref (ad 0)), some (.int c), some (.int d), some (.null), some (.ref (mid t8))]) rfl (Nat.le_of_ble_eq_true rfl) rfl ?_
              refine r_aload0 rfl rfl ?_
              refine r_aload rfl rfl ?_
              refine r_acmpNA_ne (tg := 49) rfl rfl ?_
              refine r_aload0 rfl rfl ?_
              refine r_ifnullN (tg := 71) rfl rfl ?_
              refine r_ic (x := 0) rfl rfl ?_
              refine r_iret rfl ?_
              show EV _ 181 [.ref (ad 30), .int c, .int d] (sI h (ad 0) 6 0) _
              refine in_181 (Nat.le_of_ble_eq_true rfl) ?_
              show WR _ cd_181 0 [some (.ref (ad 30)), some (.int c), some (.int d), none, none, none] [] (sI h (ad 0) 6 0) _
              refine r_iload rfl rfl ?_
              refine WR_tI (y := nI k2) ek2 ?_
              refine r_cs (y := 153) (ra := [.int (nI k2)]) (rest := []) rfl ⟨⟨rfl, rfl⟩, by decide⟩ rfl rfl (Nat.le_of_ble_eq_true rfl) ?_
              refine in_153 (Nat.le_of_ble_eq_true rfl) ?_
              show WR _ cd_153 0 [some (.int (nI k2))] [] (sI h (ad 0) 6 0) _
              refine r_iload rfl rfl ?_
              refine r_if_lt (tg := 14) rfl rfl (fun q => False.elim (by have := i_nlt c1; have := i_rg c; have : (0 : Int32).toInt = 0 := rfl; have := i_eq ek2; have : (nI k2).toInt = ((k2 : Nat) : Int) := nI_toInt (by omega); have := i_nle c3; have : (24 : Int32).toInt = 24 := rfl; have := i_lt q; omega)) (fun _ => ?_)
              refine r_iload rfl rfl ?_
              refine r_ic (x := 24) rfl rfl ?_
              refine r_icmp_ge (tg := 14) rfl rfl (fun q => False.elim (by have := i_nlt c1; have := i_rg c; have : (0 : Int32).toInt = 0 := rfl; have := i_eq ek2; have : (nI k2).toInt = ((k2 : Nat) : Int) := nI_toInt (by omega); have := i_nle c3; have : (24 : Int32).toInt = 24 := rfl; have := i_le q; omega)) (fun _ => ?_)
              refine r_ic (x := 1) rfl rfl ?_
              refine r_goto (tg := 15) rfl rfl ?_
              refine r_zret rfl (.inr rfl) ?_
              show WR _ cd_181 4 [some (.ref (ad 30)), some (.int c), some (.int d), none, none, none] [.int 1] (sI h (ad 0) 6 0) _
              refine r_if_eq (tg := 14) rfl rfl (fun q => absurd q (by decide)) (fun _ => ?_)
              refine r_iload rfl rfl ?_
              refine WR_tI (y := nI k5) ek5 ?_
              refine r_cs (y := 153) (ra := [.int (nI k5)]) (rest := []) rfl ⟨⟨rfl, rfl⟩, by decide⟩ rfl rfl (Nat.le_of_ble_eq_true rfl) ?_
              refine in_153 (Nat.le_of_ble_eq_true rfl) ?_
              show WR _ cd_153 0 [some (.int (nI k5))] [] (sI h (ad 0) 6 0) _
              refine r_iload rfl rfl ?_
              refine r_if_lt (tg := 14) rfl rfl (fun q => False.elim (by have := i_nlt c4; have := i_rg d; have : (0 : Int32).toInt = 0 := rfl; have := i_eq ek5; have : (nI k5).toInt = ((k5 : Nat) : Int) := nI_toInt (by omega); have := i_nle c6; have : (24 : Int32).toInt = 24 := rfl; have := i_lt q; omega)) (fun _ => ?_)
              refine r_iload rfl rfl ?_
              refine r_ic (x := 24) rfl rfl ?_
              refine r_icmp_ge (tg := 14) rfl rfl (fun q => False.elim (by have := i_nlt c4; have := i_rg d; have : (0 : Int32).toInt = 0 := rfl; have := i_eq ek5; have : (nI k5).toInt = ((k5 : Nat) : Int) := nI_toInt (by omega); have := i_nle c6; have : (24 : Int32).toInt = 24 := rfl; have := i_le q; omega)) (fun _ => ?_)
              refine r_ic (x := 1) rfl rfl ?_
              refine r_goto (tg := 15) rfl rfl ?_
              refine r_zret rfl (.inr rfl) ?_
              show WR _ cd_181 11 [some (.ref (ad 30)), some (.int c), some (.int d), none, none, none] [.int 1] (sI h (ad 0) 6 0) _
              refine r_if_ne (tg := 21) rfl rfl (fun _ => ?_) (fun q => absurd q (by decide))
              refine r_aload rfl rfl ?_
              refine r_getA (b := ad 31) rfl ⟨rfl, rfl, rfl⟩ (fx_t30 fx) (fx_r30_0 fx) ?_
              refine r_iload rfl rfl ?_
              refine WR_tI (y := nI k2) ek2 ?_
              refine r_iaload rfl (.inl (fx_t31 fx)) (vp_ct (fx_n31 fx) (vp_in_nI (by have := i_nlt c1; have := i_rg c; have : (0 : Int32).toInt = 0 := rfl; have := i_eq ek2; have : (nI k2).toInt = ((k2 : Nat) : Int) := nI_toInt (by omega); have := i_nle c3; have : (24 : Int32).toInt = 24 := rfl; omega) (by omega))) ?_
              refine WR_tI (congrArg (hI (sI h (ad 0) 6 0) (ad 31)) ((nI_clamp (by have := i_nlt c1; have := i_rg c; have : (0 : Int32).toInt = 0 := rfl; have := i_eq ek2; have : (nI k2).toInt = ((k2 : Nat) : Int) := nI_toInt (by omega); have := i_nle c3; have : (24 : Int32).toInt = 24 := rfl; omega)) : _ = k2)) ?_
              refine WR_tI (y := (-1)) (Eq.trans (I_ne (fx_ne fx (by decide))) v7) ?_
              refine r_istore (lv' := [some (.ref (ad 30)), some (.int c), some (.int d), some (.int (-1)), none, none]) rfl (Nat.le_of_ble_eq_true rfl) rfl ?_
              refine r_aload rfl rfl ?_
              refine r_getA (b := ad 31) rfl ⟨rfl, rfl, rfl⟩ (fx_t30 fx) (fx_r30_0 fx) ?_
              refine r_iload rfl rfl ?_
              refine WR_tI (y := nI k5) ek5 ?_
              refine r_iaload rfl (.inl (fx_t31 fx)) (vp_ct (fx_n31 fx) (vp_in_nI (by have := i_nlt c4; have := i_rg d; have : (0 : Int32).toInt = 0 := rfl; have := i_eq ek5; have : (nI k5).toInt = ((k5 : Nat) : Int) := nI_toInt (by omega); have := i_nle c6; have : (24 : Int32).toInt = 24 := rfl; omega) (by omega))) ?_
              refine WR_tI (congrArg (hI (sI h (ad 0) 6 0) (ad 31)) ((nI_clamp (by have := i_nlt c4; have := i_rg d; have : (0 : Int32).toInt = 0 := rfl; have := i_eq ek5; have : (nI k5).toInt = ((k5 : Nat) : Int) := nI_toInt (by omega); have := i_nle c6; have : (24 : Int32).toInt = 24 := rfl; omega)) : _ = k5)) ?_
              refine WR_tI (y := nI t8) (Eq.trans (I_ne (fx_ne fx (by decide))) v8) ?_
              refine r_istore (lv' := [some (.ref (ad 30)), some (.int c), some (.int d), some (.int (-1)), some (.int (nI t8)), none]) rfl (Nat.le_of_ble_eq_true rfl) rfl ?_
              refine r_iload rfl rfl ?_
              refine r_iload rfl rfl ?_
              refine r_icmp_ne (tg := 48) rfl rfl (fun _ => ?_) (fun q => False.elim (by have : (-1 : Int32).toInt = -1 := rfl; have : (nI t8).toInt = ((t8 : Nat) : Int) := nI_toInt (by omega); have := i_eq q; omega))
              refine r_iload rfl rfl ?_
              refine r_ic (x := (-1)) rfl rfl ?_
              refine r_icmp_eq (tg := 90) rfl rfl (fun _ => ?_) (fun q => absurd q (by decide))
              refine r_aload rfl rfl ?_
              refine r_ic (x := 0) rfl rfl ?_
              refine r_cv (y := 154) (ra := [.int 0]) (rest := []) rfl ⟨⟨rfl, rfl⟩, rfl, by decide⟩ (fx_t30 fx) rfl rfl (Nat.le_of_ble_eq_true rfl) ?_
              refine in_154 (Nat.le_of_ble_eq_true rfl) ?_
              show WR _ cd_154 0 [some (.ref (ad 30)), some (.int 0)] [] (sI h (ad 0) 6 0) _
              refine r_aload rfl rfl ?_
              refine r_iload rfl rfl ?_
              refine r_ic (x := (-1)) rfl rfl ?_
              refine r_icmp_ge (tg := 10) rfl rfl (fun _ => ?_) (fun q => absurd q (by decide))
              refine r_ic (x := 0) rfl rfl ?_
              refine r_putI rfl ⟨rfl, rfl, rfl⟩ (fx_t30 fx) ?_
              have fx : FX n ad sa z0 (sI (sI h (ad 0) 6 0) (ad 30) 11 0) := (FX.sI fx)
              refine r_iload rfl rfl ?_
              refine r_iret rfl ?_
              show WR _ cd_181 95 [some (.ref (ad 30)), some (.int c), some (.int d), some (.int (-1)), some (.int (nI t8)), none] [.int 0] (sI (sI h (ad 0) 6 0) (ad 30) 11 0) _
              refine r_iret rfl ?_
              exact ⟨rfl, Rel.why r ((Chg.rf.sI (fx_j fx) (.inl (by decide))).sI (fx_j fx) (.inl (by decide))) ⟨rfl, by decide⟩ (Eq.trans (Eq.trans (I_ne (fx_ne fx (by decide))) I_eq) (Eq.symm I_eq)), (by (try simp only [hZ_sI, hZ_sL, hZ_sD, hZ_sR]); omega), (by (try simp only [hU_sI, hU_sL, hU_sD, hU_sR]); omega)⟩
          · refine r_aaloadA (b := pa q7) rfl (isQ_of (fx_t1 fx) (by decide)) (vp_ct (fx_n1 fx) (vp_in_nI (by have := i_nlt c1; have := i_rg c; have : (0 : Int32).toInt = 0 := rfl; have := i_eq ek2; have : (nI k2).toInt = ((k2 : Nat) : Int) := nI_toInt (by omega); have := i_nle c3; have : (24 : Int32).toInt = 24 := rfl; omega) (by omega))) (Eq.trans (congrArg (hR (sI h (ad 0) 6 0) (ad 1)) ((nI_clamp (by have := i_nlt c1; have := i_rg c; have : (0 : Int32).toInt = 0 := rfl; have := i_eq ek2; have : (nI k2).toInt = ((k2 : Nat) : Int) := nI_toInt (by omega); have := i_nle c3; have : (24 : Int32).toInt = 24 := rfl; omega)) : _ = k2)) (Eq.trans R_oI w7)) ?_
            refine r_astore (lv' := [some (.ref (ad 0)), some (.int c), some (.int d), some (.ref (pa q7)), none]) rfl (Nat.le_of_ble_eq_true rfl) rfl ?_
            refine r_aload rfl rfl ?_
            refine r_getA (b := ad 1) rfl ⟨rfl, rfl, rfl⟩ (fx_t0 fx) (fx_r0_0 fx) ?_
            refine r_iload rfl rfl ?_
            refine WR_tI (y := nI k5) ek5 ?_
            rcases rs.cs (n := n) (sa := sa) (c := k5) (by have := i_nlt c4; have := i_rg d; have : (0 : Int32).toInt = 0 := rfl; have := i_eq ek5; have : (nI k5).toInt = ((k5 : Nat) : Int) := nI_toInt (by omega); have := i_nle c6; have : (24 : Int32).toInt = 24 := rfl; omega) with ⟨v9, w9⟩ | ⟨q9, kd9, hq9, hn9, v9, w9, dz9, tg9, s1_9, k1_9, k2_9, hk_9, we9⟩ | ⟨t9, ln9, sz9, ht9, v9, w9, dz9, tg9, r_9, tg2_9, l1_9, l2_9, hl_9, kd_9, n_9, sz_9, hs_9, al9, rw9⟩ | ⟨t9, sz9, ht9, v9, w9, dz9, tg9, r_9, tg2_9, k1_9, l2_9, k2_9, n_9, sz_9, hs_9, al9, rw9⟩ | ⟨t9, kd9, sz9, ht9, v9, w9, dz9, tg9, r_9, tg2_9, k1_9, l2_9, k2_9, hk_9, n_9, sz_9, hs_9, al9, rw9⟩
            · refine r_aaload0 rfl (isQ_of (fx_t1 fx) (by decide)) (vp_ct (fx_n1 fx) (vp_in_nI (by have := i_nlt c4; have := i_rg d; have : (0 : Int32).toInt = 0 := rfl; have := i_eq ek5; have : (nI k5).toInt = ((k5 : Nat) : Int) := nI_toInt (by omega); have := i_nle c6; have : (24 : Int32).toInt = 24 := rfl; omega) (by omega))) (Eq.trans (congrArg (hR (sI h (ad 0) 6 0) (ad 1)) ((nI_clamp (by have := i_nlt c4; have := i_rg d; have : (0 : Int32).toInt = 0 := rfl; have := i_eq ek5; have : (nI k5).toInt = ((k5 : Nat) : Int) := nI_toInt (by omega); have := i_nle c6; have : (24 : Int32).toInt = 24 := rfl; omega)) : _ = k5)) (Eq.trans R_oI w9)) ?_
              refine r_astore0 (lv' := [some (.ref (ad 0)), some (.int c), some (.int d), some (.ref (pa q7)), some (.null)]) rfl (Nat.le_of_ble_eq_true rfl) rfl ?_
              refine r_aload rfl rfl ?_
              refine r_aload0 rfl rfl ?_
              refine r_acmpAN_ne (tg := 49) rfl rfl ?_
              refine r_aload rfl rfl ?_
              refine r_ifnullA (tg := 71) rfl rfl ?_
              refine r_aload0 rfl rfl ?_
              refine r_ifnullN (tg := 71) rfl rfl ?_
              refine r_ic (x := 0) rfl rfl ?_
              refine r_iret rfl ?_
              show EV _ 181 [.ref (ad 30), .int c, .int d] (sI h (ad 0) 6 0) _
              refine in_181 (Nat.le_of_ble_eq_true rfl) ?_
              show WR _ cd_181 0 [some (.ref (ad 30)), some (.int c), some (.int d), none, none, none] [] (sI h (ad 0) 6 0) _
              refine r_iload rfl rfl ?_
              refine WR_tI (y := nI k2) ek2 ?_
              refine r_cs (y := 153) (ra := [.int (nI k2)]) (rest := []) rfl ⟨⟨rfl, rfl⟩, by decide⟩ rfl rfl (Nat.le_of_ble_eq_true rfl) ?_
              refine in_153 (Nat.le_of_ble_eq_true rfl) ?_
              show WR _ cd_153 0 [some (.int (nI k2))] [] (sI h (ad 0) 6 0) _
              refine r_iload rfl rfl ?_
              refine r_if_lt (tg := 14) rfl rfl (fun q => False.elim (by have := i_nlt c1; have := i_rg c; have : (0 : Int32).toInt = 0 := rfl; have := i_eq ek2; have : (nI k2).toInt = ((k2 : Nat) : Int) := nI_toInt (by omega); have := i_nle c3; have : (24 : Int32).toInt = 24 := rfl; have := i_lt q; omega)) (fun _ => ?_)
              refine r_iload rfl rfl ?_
              refine r_ic (x := 24) rfl rfl ?_
              refine r_icmp_ge (tg := 14) rfl rfl (fun q => False.elim (by have := i_nlt c1; have := i_rg c; have : (0 : Int32).toInt = 0 := rfl; have := i_eq ek2; have : (nI k2).toInt = ((k2 : Nat) : Int) := nI_toInt (by omega); have := i_nle c3; have : (24 : Int32).toInt = 24 := rfl; have := i_le q; omega)) (fun _ => ?_)
              refine r_ic (x := 1) rfl rfl ?_
              refine r_goto (tg := 15) rfl rfl ?_
              refine r_zret rfl (.inr rfl) ?_
              show WR _ cd_181 4 [some (.ref (ad 30)), some (.int c), some (.int d), none, none, none] [.int 1] (sI h (ad 0) 6 0) _
              refine r_if_eq (tg := 14) rfl rfl (fun q => absurd q (by decide)) (fun _ => ?_)
              refine r_iload rfl rfl ?_
              refine WR_tI (y := nI k5) ek5 ?_
              refine r_cs (y := 153) (ra := [.int (nI k5)]) (rest := []) rfl ⟨⟨rfl, rfl⟩, by decide⟩ rfl rfl (Nat.le_of_ble_eq_true rfl) ?_
              refine in_153 (Nat.le_of_ble_eq_true rfl) ?_
              show WR _ cd_153 0 [some (.int (nI k5))] [] (sI h (ad 0) 6 0) _
              refine r_iload rfl rfl ?_
              refine r_if_lt (tg := 14) rfl rfl (fun q => False.elim (by have := i_nlt c4; have := i_rg d; have : (0 : Int32).toInt = 0 := rfl; have := i_eq ek5; have : (nI k5).toInt = ((k5 : Nat) : Int) := nI_toInt (by omega); have := i_nle c6; have : (24 : Int32).toInt = 24 := rfl; have := i_lt q; omega)) (fun _ => ?_)
              refine r_iload rfl rfl ?_
              refine r_ic (x := 24) rfl rfl ?_
              refine r_icmp_ge (tg := 14) rfl rfl (fun q => False.elim (by have := i_nlt c4; have := i_rg d; have : (0 : Int32).toInt = 0 := rfl; have := i_eq ek5; have : (nI k5).toInt = ((k5 : Nat) : Int) := nI_toInt (by omega); have := i_nle c6; have : (24 : Int32).toInt = 24 := rfl; have := i_le q; omega)) (fun _ => ?_)
              refine r_ic (x := 1) rfl rfl ?_
              refine r_goto (tg := 15) rfl rfl ?_
              refine r_zret rfl (.inr rfl) ?_
              show WR _ cd_181 11 [some (.ref (ad 30)), some (.int c), some (.int d), none, none, none] [.int 1] (sI h (ad 0) 6 0) _
              refine r_if_ne (tg := 21) rfl rfl (fun _ => ?_) (fun q => absurd q (by decide))
              refine r_aload rfl rfl ?_
              refine r_getA (b := ad 31) rfl ⟨rfl, rfl, rfl⟩ (fx_t30 fx) (fx_r30_0 fx) ?_
              refine r_iload rfl rfl ?_
              refine WR_tI (y := nI k2) ek2 ?_
              refine r_iaload rfl (.inl (fx_t31 fx)) (vp_ct (fx_n31 fx) (vp_in_nI (by have := i_nlt c1; have := i_rg c; have : (0 : Int32).toInt = 0 := rfl; have := i_eq ek2; have : (nI k2).toInt = ((k2 : Nat) : Int) := nI_toInt (by omega); have := i_nle c3; have : (24 : Int32).toInt = 24 := rfl; omega) (by omega))) ?_
              refine WR_tI (congrArg (hI (sI h (ad 0) 6 0) (ad 31)) ((nI_clamp (by have := i_nlt c1; have := i_rg c; have : (0 : Int32).toInt = 0 := rfl; have := i_eq ek2; have : (nI k2).toInt = ((k2 : Nat) : Int) := nI_toInt (by omega); have := i_nle c3; have : (24 : Int32).toInt = 24 := rfl; omega)) : _ = k2)) ?_
              refine WR_tI (y := nI (q7 + 1000)) (Eq.trans (I_ne (fx_ne fx (by decide))) v7) ?_
              refine r_istore (lv' := [some (.ref (ad 30)), some (.int c), some (.int d), some (.int (nI (q7 + 1000))), none, none]) rfl (Nat.le_of_ble_eq_true rfl) rfl ?_
              refine r_aload rfl rfl ?_
              refine r_getA (b := ad 31) rfl ⟨rfl, rfl, rfl⟩ (fx_t30 fx) (fx_r30_0 fx) ?_
              refine r_iload rfl rfl ?_
              refine WR_tI (y := nI k5) ek5 ?_
              refine r_iaload rfl (.inl (fx_t31 fx)) (vp_ct (fx_n31 fx) (vp_in_nI (by have := i_nlt c4; have := i_rg d; have : (0 : Int32).toInt = 0 := rfl; have := i_eq ek5; have : (nI k5).toInt = ((k5 : Nat) : Int) := nI_toInt (by omega); have := i_nle c6; have : (24 : Int32).toInt = 24 := rfl; omega) (by omega))) ?_
              refine WR_tI (congrArg (hI (sI h (ad 0) 6 0) (ad 31)) ((nI_clamp (by have := i_nlt c4; have := i_rg d; have : (0 : Int32).toInt = 0 := rfl; have := i_eq ek5; have : (nI k5).toInt = ((k5 : Nat) : Int) := nI_toInt (by omega); have := i_nle c6; have : (24 : Int32).toInt = 24 := rfl; omega)) : _ = k5)) ?_
              refine WR_tI (y := (-1)) (Eq.trans (I_ne (fx_ne fx (by decide))) v9) ?_
              refine r_istore (lv' := [some (.ref (ad 30)), some (.int c), some (.int d), some (.int (nI (q7 + 1000))), some (.int (-1)), none]) rfl (Nat.le_of_ble_eq_true rfl) rfl ?_
              refine r_iload rfl rfl ?_
              refine r_iload rfl rfl ?_
              refine r_icmp_ne (tg := 48) rfl rfl (fun _ => ?_) (fun q => False.elim (by have : (nI (q7 + 1000)).toInt = ((q7 + 1000 : Nat) : Int) := nI_toInt (by omega); have : (-1 : Int32).toInt = -1 := rfl; have := i_eq q; omega))
              refine r_iload rfl rfl ?_
              refine r_ic (x := (-1)) rfl rfl ?_
              refine r_icmp_eq (tg := 90) rfl rfl (fun q => False.elim (by have : (nI (q7 + 1000)).toInt = ((q7 + 1000 : Nat) : Int) := nI_toInt (by omega); have : (-1 : Int32).toInt = -1 := rfl; have := i_eq q; omega)) (fun _ => ?_)
              refine r_iload rfl rfl ?_
              refine r_ic (x := (-1)) rfl rfl ?_
              refine r_icmp_eq (tg := 90) rfl rfl (fun _ => ?_) (fun q => absurd q (by decide))
              refine r_aload rfl rfl ?_
              refine r_ic (x := 0) rfl rfl ?_
              refine r_cv (y := 154) (ra := [.int 0]) (rest := []) rfl ⟨⟨rfl, rfl⟩, rfl, by decide⟩ (fx_t30 fx) rfl rfl (Nat.le_of_ble_eq_true rfl) ?_
              refine in_154 (Nat.le_of_ble_eq_true rfl) ?_
              show WR _ cd_154 0 [some (.ref (ad 30)), some (.int 0)] [] (sI h (ad 0) 6 0) _
              refine r_aload rfl rfl ?_
              refine r_iload rfl rfl ?_
              refine r_ic (x := (-1)) rfl rfl ?_
              refine r_icmp_ge (tg := 10) rfl rfl (fun _ => ?_) (fun q => absurd q (by decide))
              refine r_ic (x := 0) rfl rfl ?_
              refine r_putI rfl ⟨rfl, rfl, rfl⟩ (fx_t30 fx) ?_
              have fx : FX n ad sa z0 (sI (sI h (ad 0) 6 0) (ad 30) 11 0) := (FX.sI fx)
              refine r_iload rfl rfl ?_
              refine r_iret rfl ?_
              show WR _ cd_181 95 [some (.ref (ad 30)), some (.int c), some (.int d), some (.int (nI (q7 + 1000))), some (.int (-1)), none] [.int 0] (sI (sI h (ad 0) 6 0) (ad 30) 11 0) _
              refine r_iret rfl ?_
              exact ⟨rfl, Rel.why r ((Chg.rf.sI (fx_j fx) (.inl (by decide))).sI (fx_j fx) (.inl (by decide))) ⟨rfl, by decide⟩ (Eq.trans (Eq.trans (I_ne (fx_ne fx (by decide))) I_eq) (Eq.symm I_eq)), (by (try simp only [hZ_sI, hZ_sL, hZ_sD, hZ_sR]); omega), (by (try simp only [hU_sI, hU_sL, hU_sD, hU_sR]); omega)⟩
            · refine r_aaloadA (b := pa q9) rfl (isQ_of (fx_t1 fx) (by decide)) (vp_ct (fx_n1 fx) (vp_in_nI (by have := i_nlt c4; have := i_rg d; have : (0 : Int32).toInt = 0 := rfl; have := i_eq ek5; have : (nI k5).toInt = ((k5 : Nat) : Int) := nI_toInt (by omega); have := i_nle c6; have : (24 : Int32).toInt = 24 := rfl; omega) (by omega))) (Eq.trans (congrArg (hR (sI h (ad 0) 6 0) (ad 1)) ((nI_clamp (by have := i_nlt c4; have := i_rg d; have : (0 : Int32).toInt = 0 := rfl; have := i_eq ek5; have : (nI k5).toInt = ((k5 : Nat) : Int) := nI_toInt (by omega); have := i_nle c6; have : (24 : Int32).toInt = 24 := rfl; omega)) : _ = k5)) (Eq.trans R_oI w9)) ?_
              refine r_astore (lv' := [some (.ref (ad 0)), some (.int c), some (.int d), some (.ref (pa q7)), some (.ref (pa q9))]) rfl (Nat.le_of_ble_eq_true rfl) rfl ?_
              refine r_aload rfl rfl ?_
              refine r_aload rfl rfl ?_
              refine r_acmpA_ne (tg := 49) rfl rfl (fun c10 => ?_) (fun c10 => ?_)
              · have c10e : ¬ q7 = q9 := fun e => c10 (by rw [e])
                refine r_aload rfl rfl ?_
                refine r_ifnullA (tg := 71) rfl rfl ?_
                refine r_aload rfl rfl ?_
                refine r_ifnullA (tg := 71) rfl rfl ?_
                refine r_aload rfl rfl ?_
                refine r_aload rfl rfl ?_
                refine r_cw (y := 60) (ra := [.ref (pa q9)]) (rest := []) rfl ⟨rfl, rfl⟩ (by rw [show hT (sI h (ad 0) 6 0) (pa q7) = 4 from tg7]; rfl) rfl rfl (Nat.le_of_ble_eq_true rfl) ?_
                refine in_60 (Nat.le_of_ble_eq_true rfl) ?_
                show WR _ cd_60 0 [some (.ref (pa q7)), some (.ref (pa q9))] [] (sI h (ad 0) 6 0) _
                refine r_ic (x := 0) rfl rfl ?_
                refine r_zret rfl (.inl rfl) ?_
                show WR _ cd_59 64 [some (.ref (ad 0)), some (.int c), some (.int d), some (.ref (pa q7)), some (.ref (pa q9))] [.int 0] (sI h (ad 0) 6 0) _
                refine r_if_eq (tg := 71) rfl rfl (fun _ => ?_) (fun q => absurd q (by decide))
                refine r_ic (x := 0) rfl rfl ?_
                refine r_iret rfl ?_
                show EV _ 181 [.ref (ad 30), .int c, .int d] (sI h (ad 0) 6 0) _
                refine in_181 (Nat.le_of_ble_eq_true rfl) ?_
                show WR _ cd_181 0 [some (.ref (ad 30)), some (.int c), some (.int d), none, none, none] [] (sI h (ad 0) 6 0) _
                refine r_iload rfl rfl ?_
                refine WR_tI (y := nI k2) ek2 ?_
                refine r_cs (y := 153) (ra := [.int (nI k2)]) (rest := []) rfl ⟨⟨rfl, rfl⟩, by decide⟩ rfl rfl (Nat.le_of_ble_eq_true rfl) ?_
                refine in_153 (Nat.le_of_ble_eq_true rfl) ?_
                show WR _ cd_153 0 [some (.int (nI k2))] [] (sI h (ad 0) 6 0) _
                refine r_iload rfl rfl ?_
                refine r_if_lt (tg := 14) rfl rfl (fun q => False.elim (by have := i_nlt c1; have := i_rg c; have : (0 : Int32).toInt = 0 := rfl; have := i_eq ek2; have : (nI k2).toInt = ((k2 : Nat) : Int) := nI_toInt (by omega); have := i_nle c3; have : (24 : Int32).toInt = 24 := rfl; have := i_lt q; omega)) (fun _ => ?_)
                refine r_iload rfl rfl ?_
                refine r_ic (x := 24) rfl rfl ?_
                refine r_icmp_ge (tg := 14) rfl rfl (fun q => False.elim (by have := i_nlt c1; have := i_rg c; have : (0 : Int32).toInt = 0 := rfl; have := i_eq ek2; have : (nI k2).toInt = ((k2 : Nat) : Int) := nI_toInt (by omega); have := i_nle c3; have : (24 : Int32).toInt = 24 := rfl; have := i_le q; omega)) (fun _ => ?_)
                refine r_ic (x := 1) rfl rfl ?_
                refine r_goto (tg := 15) rfl rfl ?_
                refine r_zret rfl (.inr rfl) ?_
                show WR _ cd_181 4 [some (.ref (ad 30)), some (.int c), some (.int d), none, none, none] [.int 1] (sI h (ad 0) 6 0) _
                refine r_if_eq (tg := 14) rfl rfl (fun q => absurd q (by decide)) (fun _ => ?_)
                refine r_iload rfl rfl ?_
                refine WR_tI (y := nI k5) ek5 ?_
                refine r_cs (y := 153) (ra := [.int (nI k5)]) (rest := []) rfl ⟨⟨rfl, rfl⟩, by decide⟩ rfl rfl (Nat.le_of_ble_eq_true rfl) ?_
                refine in_153 (Nat.le_of_ble_eq_true rfl) ?_
                show WR _ cd_153 0 [some (.int (nI k5))] [] (sI h (ad 0) 6 0) _
                refine r_iload rfl rfl ?_
                refine r_if_lt (tg := 14) rfl rfl (fun q => False.elim (by have := i_nlt c4; have := i_rg d; have : (0 : Int32).toInt = 0 := rfl; have := i_eq ek5; have : (nI k5).toInt = ((k5 : Nat) : Int) := nI_toInt (by omega); have := i_nle c6; have : (24 : Int32).toInt = 24 := rfl; have := i_lt q; omega)) (fun _ => ?_)
                refine r_iload rfl rfl ?_
                refine r_ic (x := 24) rfl rfl ?_
                refine r_icmp_ge (tg := 14) rfl rfl (fun q => False.elim (by have := i_nlt c4; have := i_rg d; have : (0 : Int32).toInt = 0 := rfl; have := i_eq ek5; have : (nI k5).toInt = ((k5 : Nat) : Int) := nI_toInt (by omega); have := i_nle c6; have : (24 : Int32).toInt = 24 := rfl; have := i_le q; omega)) (fun _ => ?_)
                refine r_ic (x := 1) rfl rfl ?_
                refine r_goto (tg := 15) rfl rfl ?_
                refine r_zret rfl (.inr rfl) ?_
                show WR _ cd_181 11 [some (.ref (ad 30)), some (.int c), some (.int d), none, none, none] [.int 1] (sI h (ad 0) 6 0) _
                refine r_if_ne (tg := 21) rfl rfl (fun _ => ?_) (fun q => absurd q (by decide))
                refine r_aload rfl rfl ?_
                refine r_getA (b := ad 31) rfl ⟨rfl, rfl, rfl⟩ (fx_t30 fx) (fx_r30_0 fx) ?_
                refine r_iload rfl rfl ?_
                refine WR_tI (y := nI k2) ek2 ?_
                refine r_iaload rfl (.inl (fx_t31 fx)) (vp_ct (fx_n31 fx) (vp_in_nI (by have := i_nlt c1; have := i_rg c; have : (0 : Int32).toInt = 0 := rfl; have := i_eq ek2; have : (nI k2).toInt = ((k2 : Nat) : Int) := nI_toInt (by omega); have := i_nle c3; have : (24 : Int32).toInt = 24 := rfl; omega) (by omega))) ?_
                refine WR_tI (congrArg (hI (sI h (ad 0) 6 0) (ad 31)) ((nI_clamp (by have := i_nlt c1; have := i_rg c; have : (0 : Int32).toInt = 0 := rfl; have := i_eq ek2; have : (nI k2).toInt = ((k2 : Nat) : Int) := nI_toInt (by omega); have := i_nle c3; have : (24 : Int32).toInt = 24 := rfl; omega)) : _ = k2)) ?_
                refine WR_tI (y := nI (q7 + 1000)) (Eq.trans (I_ne (fx_ne fx (by decide))) v7) ?_
                refine r_istore (lv' := [some (.ref (ad 30)), some (.int c), some (.int d), some (.int (nI (q7 + 1000))), none, none]) rfl (Nat.le_of_ble_eq_true rfl) rfl ?_
                refine r_aload rfl rfl ?_
                refine r_getA (b := ad 31) rfl ⟨rfl, rfl, rfl⟩ (fx_t30 fx) (fx_r30_0 fx) ?_
                refine r_iload rfl rfl ?_
                refine WR_tI (y := nI k5) ek5 ?_
                refine r_iaload rfl (.inl (fx_t31 fx)) (vp_ct (fx_n31 fx) (vp_in_nI (by have := i_nlt c4; have := i_rg d; have : (0 : Int32).toInt = 0 := rfl; have := i_eq ek5; have : (nI k5).toInt = ((k5 : Nat) : Int) := nI_toInt (by omega); have := i_nle c6; have : (24 : Int32).toInt = 24 := rfl; omega) (by omega))) ?_
                refine WR_tI (congrArg (hI (sI h (ad 0) 6 0) (ad 31)) ((nI_clamp (by have := i_nlt c4; have := i_rg d; have : (0 : Int32).toInt = 0 := rfl; have := i_eq ek5; have : (nI k5).toInt = ((k5 : Nat) : Int) := nI_toInt (by omega); have := i_nle c6; have : (24 : Int32).toInt = 24 := rfl; omega)) : _ = k5)) ?_
                refine WR_tI (y := nI (q9 + 1000)) (Eq.trans (I_ne (fx_ne fx (by decide))) v9) ?_
                refine r_istore (lv' := [some (.ref (ad 30)), some (.int c), some (.int d), some (.int (nI (q7 + 1000))), some (.int (nI (q9 + 1000))), none]) rfl (Nat.le_of_ble_eq_true rfl) rfl ?_
                refine r_iload rfl rfl ?_
                refine r_iload rfl rfl ?_
                refine r_icmp_ne (tg := 48) rfl rfl (fun _ => ?_) (fun q => False.elim (by have : (nI (q7 + 1000)).toInt = ((q7 + 1000 : Nat) : Int) := nI_toInt (by omega); have : (nI (q9 + 1000)).toInt = ((q9 + 1000 : Nat) : Int) := nI_toInt (by omega); have := i_eq q; omega))
                refine r_iload rfl rfl ?_
                refine r_ic (x := (-1)) rfl rfl ?_
                refine r_icmp_eq (tg := 90) rfl rfl (fun q => False.elim (by have : (nI (q7 + 1000)).toInt = ((q7 + 1000 : Nat) : Int) := nI_toInt (by omega); have : (-1 : Int32).toInt = -1 := rfl; have := i_eq q; omega)) (fun _ => ?_)
                refine r_iload rfl rfl ?_
                refine r_ic (x := (-1)) rfl rfl ?_
                refine r_icmp_eq (tg := 90) rfl rfl (fun q => False.elim (by have : (nI (q9 + 1000)).toInt = ((q9 + 1000 : Nat) : Int) := nI_toInt (by omega); have : (-1 : Int32).toInt = -1 := rfl; have := i_eq q; omega)) (fun _ => ?_)
                refine r_iload rfl rfl ?_
                refine r_ic (x := 1000) rfl rfl ?_
                refine r_icmp_ge (tg := 90) rfl rfl (fun _ => ?_) (fun q => False.elim (by have : (nI (q7 + 1000)).toInt = ((q7 + 1000 : Nat) : Int) := nI_toInt (by omega); have : (1000 : Int32).toInt = 1000 := rfl; have := i_nle q; omega))
                refine r_aload rfl rfl ?_
                refine r_ic (x := 0) rfl rfl ?_
                refine r_cv (y := 154) (ra := [.int 0]) (rest := []) rfl ⟨⟨rfl, rfl⟩, rfl, by decide⟩ (fx_t30 fx) rfl rfl (Nat.le_of_ble_eq_true rfl) ?_
                refine in_154 (Nat.le_of_ble_eq_true rfl) ?_
                show WR _ cd_154 0 [some (.ref (ad 30)), some (.int 0)] [] (sI h (ad 0) 6 0) _
                refine r_aload rfl rfl ?_
                refine r_iload rfl rfl ?_
                refine r_ic (x := (-1)) rfl rfl ?_
                refine r_icmp_ge (tg := 10) rfl rfl (fun _ => ?_) (fun q => absurd q (by decide))
                refine r_ic (x := 0) rfl rfl ?_
                refine r_putI rfl ⟨rfl, rfl, rfl⟩ (fx_t30 fx) ?_
                have fx : FX n ad sa z0 (sI (sI h (ad 0) 6 0) (ad 30) 11 0) := (FX.sI fx)
                refine r_iload rfl rfl ?_
                refine r_iret rfl ?_
                show WR _ cd_181 95 [some (.ref (ad 30)), some (.int c), some (.int d), some (.int (nI (q7 + 1000))), some (.int (nI (q9 + 1000))), none] [.int 0] (sI (sI h (ad 0) 6 0) (ad 30) 11 0) _
                refine r_iret rfl ?_
                exact ⟨rfl, Rel.why r ((Chg.rf.sI (fx_j fx) (.inl (by decide))).sI (fx_j fx) (.inl (by decide))) ⟨rfl, by decide⟩ (Eq.trans (Eq.trans (I_ne (fx_ne fx (by decide))) I_eq) (Eq.symm I_eq)), (by (try simp only [hZ_sI, hZ_sL, hZ_sD, hZ_sR]); omega), (by (try simp only [hU_sI, hU_sL, hU_sD, hU_sR]); omega)⟩
              · have c10e := rs.1.2.2.2.2 _ _ (by assumption) (by assumption) c10
                refine r_ic (x := 1) rfl rfl ?_
                refine r_iret rfl ?_
                show EV _ 181 [.ref (ad 30), .int c, .int d] (sI h (ad 0) 6 0) _
                refine in_181 (Nat.le_of_ble_eq_true rfl) ?_
                show WR _ cd_181 0 [some (.ref (ad 30)), some (.int c), some (.int d), none, none, none] [] (sI h (ad 0) 6 0) _
                refine r_iload rfl rfl ?_
                refine WR_tI (y := nI k2) ek2 ?_
                refine r_cs (y := 153) (ra := [.int (nI k2)]) (rest := []) rfl ⟨⟨rfl, rfl⟩, by decide⟩ rfl rfl (Nat.le_of_ble_eq_true rfl) ?_
                refine in_153 (Nat.le_of_ble_eq_true rfl) ?_
                show WR _ cd_153 0 [some (.int (nI k2))] [] (sI h (ad 0) 6 0) _
                refine r_iload rfl rfl ?_
                refine r_if_lt (tg := 14) rfl rfl (fun q => False.elim (by have := i_nlt c1; have := i_rg c; have : (0 : Int32).toInt = 0 := rfl; have := i_eq ek2; have : (nI k2).toInt = ((k2 : Nat) : Int) := nI_toInt (by omega); have := i_nle c3; have : (24 : Int32).toInt = 24 := rfl; have := i_lt q; omega)) (fun _ => ?_)
                refine r_iload rfl rfl ?_
                refine r_ic (x := 24) rfl rfl ?_
                refine r_icmp_ge (tg := 14) rfl rfl (fun q => False.elim (by have := i_nlt c1; have := i_rg c; have : (0 : Int32).toInt = 0 := rfl; have := i_eq ek2; have : (nI k2).toInt = ((k2 : Nat) : Int) := nI_toInt (by omega); have := i_nle c3; have : (24 : Int32).toInt = 24 := rfl; have := i_le q; omega)) (fun _ => ?_)
                refine r_ic (x := 1) rfl rfl ?_
                refine r_goto (tg := 15) rfl rfl ?_
                refine r_zret rfl (.inr rfl) ?_
                show WR _ cd_181 4 [some (.ref (ad 30)), some (.int c), some (.int d), none, none, none] [.int 1] (sI h (ad 0) 6 0) _
                refine r_if_eq (tg := 14) rfl rfl (fun q => absurd q (by decide)) (fun _ => ?_)
                refine r_iload rfl rfl ?_
                refine WR_tI (y := nI k5) ek5 ?_
                refine r_cs (y := 153) (ra := [.int (nI k5)]) (rest := []) rfl ⟨⟨rfl, rfl⟩, by decide⟩ rfl rfl (Nat.le_of_ble_eq_true rfl) ?_
                refine in_153 (Nat.le_of_ble_eq_true rfl) ?_
                show WR _ cd_153 0 [some (.int (nI k5))] [] (sI h (ad 0) 6 0) _
                refine r_iload rfl rfl ?_
                refine r_if_lt (tg := 14) rfl rfl (fun q => False.elim (by have := i_nlt c4; have := i_rg d; have : (0 : Int32).toInt = 0 := rfl; have := i_eq ek5; have : (nI k5).toInt = ((k5 : Nat) : Int) := nI_toInt (by omega); have := i_nle c6; have : (24 : Int32).toInt = 24 := rfl; have := i_lt q; omega)) (fun _ => ?_)
                refine r_iload rfl rfl ?_
                refine r_ic (x := 24) rfl rfl ?_
                refine r_icmp_ge (tg := 14) rfl rfl (fun q => False.elim (by have := i_nlt c4; have := i_rg d; have : (0 : Int32).toInt = 0 := rfl; have := i_eq ek5; have : (nI k5).toInt = ((k5 : Nat) : Int) := nI_toInt (by omega); have := i_nle c6; have : (24 : Int32).toInt = 24 := rfl; have := i_le q; omega)) (fun _ => ?_)
                refine r_ic (x := 1) rfl rfl ?_
                refine r_goto (tg := 15) rfl rfl ?_
                refine r_zret rfl (.inr rfl) ?_
                show WR _ cd_181 11 [some (.ref (ad 30)), some (.int c), some (.int d), none, none, none] [.int 1] (sI h (ad 0) 6 0) _
                refine r_if_ne (tg := 21) rfl rfl (fun _ => ?_) (fun q => absurd q (by decide))
                refine r_aload rfl rfl ?_
                refine r_getA (b := ad 31) rfl ⟨rfl, rfl, rfl⟩ (fx_t30 fx) (fx_r30_0 fx) ?_
                refine r_iload rfl rfl ?_
                refine WR_tI (y := nI k2) ek2 ?_
                refine r_iaload rfl (.inl (fx_t31 fx)) (vp_ct (fx_n31 fx) (vp_in_nI (by have := i_nlt c1; have := i_rg c; have : (0 : Int32).toInt = 0 := rfl; have := i_eq ek2; have : (nI k2).toInt = ((k2 : Nat) : Int) := nI_toInt (by omega); have := i_nle c3; have : (24 : Int32).toInt = 24 := rfl; omega) (by omega))) ?_
                refine WR_tI (congrArg (hI (sI h (ad 0) 6 0) (ad 31)) ((nI_clamp (by have := i_nlt c1; have := i_rg c; have : (0 : Int32).toInt = 0 := rfl; have := i_eq ek2; have : (nI k2).toInt = ((k2 : Nat) : Int) := nI_toInt (by omega); have := i_nle c3; have : (24 : Int32).toInt = 24 := rfl; omega)) : _ = k2)) ?_
                refine WR_tI (y := nI (q7 + 1000)) (Eq.trans (I_ne (fx_ne fx (by decide))) v7) ?_
                refine r_istore (lv' := [some (.ref (ad 30)), some (.int c), some (.int d), some (.int (nI (q7 + 1000))), none, none]) rfl (Nat.le_of_ble_eq_true rfl) rfl ?_
                refine r_aload rfl rfl ?_
                refine r_getA (b := ad 31) rfl ⟨rfl, rfl, rfl⟩ (fx_t30 fx) (fx_r30_0 fx) ?_
                refine r_iload rfl rfl ?_
                refine WR_tI (y := nI k5) ek5 ?_
                refine r_iaload rfl (.inl (fx_t31 fx)) (vp_ct (fx_n31 fx) (vp_in_nI (by have := i_nlt c4; have := i_rg d; have : (0 : Int32).toInt = 0 := rfl; have := i_eq ek5; have : (nI k5).toInt = ((k5 : Nat) : Int) := nI_toInt (by omega); have := i_nle c6; have : (24 : Int32).toInt = 24 := rfl; omega) (by omega))) ?_
                refine WR_tI (congrArg (hI (sI h (ad 0) 6 0) (ad 31)) ((nI_clamp (by have := i_nlt c4; have := i_rg d; have : (0 : Int32).toInt = 0 := rfl; have := i_eq ek5; have : (nI k5).toInt = ((k5 : Nat) : Int) := nI_toInt (by omega); have := i_nle c6; have : (24 : Int32).toInt = 24 := rfl; omega)) : _ = k5)) ?_
                refine WR_tI (y := nI (q9 + 1000)) (Eq.trans (I_ne (fx_ne fx (by decide))) v9) ?_
                refine r_istore (lv' := [some (.ref (ad 30)), some (.int c), some (.int d), some (.int (nI (q7 + 1000))), some (.int (nI (q9 + 1000))), none]) rfl (Nat.le_of_ble_eq_true rfl) rfl ?_
                refine r_iload rfl rfl ?_
                refine r_iload rfl rfl ?_
                refine r_icmp_ne (tg := 48) rfl rfl (fun q => False.elim (by have : (nI (q7 + 1000)).toInt = ((q7 + 1000 : Nat) : Int) := nI_toInt (by omega); have : (nI (q9 + 1000)).toInt = ((q9 + 1000 : Nat) : Int) := nI_toInt (by omega); have := i_neq q; omega)) (fun _ => ?_)
                refine r_aload rfl rfl ?_
                refine r_ic (x := 1) rfl rfl ?_
                refine r_cv (y := 154) (ra := [.int 1]) (rest := []) rfl ⟨⟨rfl, rfl⟩, rfl, by decide⟩ (fx_t30 fx) rfl rfl (Nat.le_of_ble_eq_true rfl) ?_
                refine in_154 (Nat.le_of_ble_eq_true rfl) ?_
                show WR _ cd_154 0 [some (.ref (ad 30)), some (.int 1)] [] (sI h (ad 0) 6 0) _
                refine r_aload rfl rfl ?_
                refine r_iload rfl rfl ?_
                refine r_ic (x := (-1)) rfl rfl ?_
                refine r_icmp_ge (tg := 10) rfl rfl (fun _ => ?_) (fun q => absurd q (by decide))
                refine r_ic (x := 0) rfl rfl ?_
                refine r_putI rfl ⟨rfl, rfl, rfl⟩ (fx_t30 fx) ?_
                have fx : FX n ad sa z0 (sI (sI h (ad 0) 6 0) (ad 30) 11 0) := (FX.sI fx)
                refine r_iload rfl rfl ?_
                refine r_iret rfl ?_
                show WR _ cd_181 47 [some (.ref (ad 30)), some (.int c), some (.int d), some (.int (nI (q7 + 1000))), some (.int (nI (q9 + 1000))), none] [.int 1] (sI (sI h (ad 0) 6 0) (ad 30) 11 0) _
                refine r_iret rfl ?_
                exact ⟨rfl, Rel.why r ((Chg.rf.sI (fx_j fx) (.inl (by decide))).sI (fx_j fx) (.inl (by decide))) ⟨rfl, by decide⟩ (Eq.trans (Eq.trans (I_ne (fx_ne fx (by decide))) I_eq) (Eq.symm I_eq)), (by (try simp only [hZ_sI, hZ_sL, hZ_sD, hZ_sR]); omega), (by (try simp only [hU_sI, hU_sL, hU_sD, hU_sR]); omega)⟩
            · refine r_aaloadA (b := mid t9) rfl (isQ_of (fx_t1 fx) (by decide)) (vp_ct (fx_n1 fx) (vp_in_nI (by have := i_nlt c4; have := i_rg d; have : (0 : Int32).toInt = 0 := rfl; have := i_eq ek5; have : (nI k5).toInt = ((k5 : Nat) : Int) := nI_toInt (by omega); have := i_nle c6; have : (24 : Int32).toInt = 24 := rfl; omega) (by omega))) (Eq.trans (congrArg (hR (sI h (ad 0) 6 0) (ad 1)) ((nI_clamp (by have := i_nlt c4; have := i_rg d; have : (0 : Int32).toInt = 0 := rfl; have := i_eq ek5; have : (nI k5).toInt = ((k5 : Nat) : Int) := nI_toInt (by omega); have := i_nle c6; have : (24 : Int32).toInt = 24 := rfl; omega)) : _ = k5)) (Eq.trans R_oI w9)) ?_
              refine r_astore (lv' := [some (.ref (ad 0)), some (.int c), some (.int d), some (.ref (pa q7)), some (.ref (mid t9))]) rfl (Nat.le_of_ble_eq_true rfl) rfl ?_
              refine r_aload rfl rfl ?_
              refine r_aload rfl rfl ?_
              refine r_acmpA_ne (tg := 49) rfl rfl (fun _ => ?_) (fun q => absurd q (fun e => by have q1 := tg7; have q2 := tg9; rw [e, q2] at q1; cases q1))
              refine r_aload rfl rfl ?_
              refine r_ifnullA (tg := 71) rfl rfl ?_
              refine r_aload rfl rfl ?_
              refine r_ifnullA (tg := 71) rfl rfl ?_
              refine r_aload rfl rfl ?_
              refine r_aload rfl rfl ?_
              refine r_cw (y := 60) (ra := [.ref (mid t9)]) (rest := []) rfl ⟨rfl, rfl⟩ (by rw [show hT (sI h (ad 0) 6 0) (pa q7) = 4 from tg7]; rfl) rfl rfl (Nat.le_of_ble_eq_true rfl) ?_
              refine in_60 (Nat.le_of_ble_eq_true rfl) ?_
              show WR _ cd_60 0 [some (.ref (pa q7)), some (.ref (mid t9))] [] (sI h (ad 0) 6 0) _
              refine r_ic (x := 0) rfl rfl ?_
              refine r_zret rfl (.inl rfl) ?_
              show WR _ cd_59 64 [some (.ref (ad 0)), some (.int c), some (.int d), some (.ref (pa q7)), some (.ref (mid t9))] [.int 0] (sI h (ad 0) 6 0) _
              refine r_if_eq (tg := 71) rfl rfl (fun _ => ?_) (fun q => absurd q (by decide))
              refine r_ic (x := 0) rfl rfl ?_
              refine r_iret rfl ?_
              show EV _ 181 [.ref (ad 30), .int c, .int d] (sI h (ad 0) 6 0) _
              refine in_181 (Nat.le_of_ble_eq_true rfl) ?_
              show WR _ cd_181 0 [some (.ref (ad 30)), some (.int c), some (.int d), none, none, none] [] (sI h (ad 0) 6 0) _
              refine r_iload rfl rfl ?_
              refine WR_tI (y := nI k2) ek2 ?_
              refine r_cs (y := 153) (ra := [.int (nI k2)]) (rest := []) rfl ⟨⟨rfl, rfl⟩, by decide⟩ rfl rfl (Nat.le_of_ble_eq_true rfl) ?_
              refine in_153 (Nat.le_of_ble_eq_true rfl) ?_
              show WR _ cd_153 0 [some (.int (nI k2))] [] (sI h (ad 0) 6 0) _
              refine r_iload rfl rfl ?_
              refine r_if_lt (tg := 14) rfl rfl (fun q => False.elim (by have := i_nlt c1; have := i_rg c; have : (0 : Int32).toInt = 0 := rfl; have := i_eq ek2; have : (nI k2).toInt = ((k2 : Nat) : Int) := nI_toInt (by omega); have := i_nle c3; have : (24 : Int32).toInt = 24 := rfl; have := i_lt q; omega)) (fun _ => ?_)
              refine r_iload rfl rfl ?_
              refine r_ic (x := 24) rfl rfl ?_
              refine r_icmp_ge (tg := 14) rfl rfl (fun q => False.elim (by have := i_nlt c1; have := i_rg c; have : (0 : Int32).toInt = 0 := rfl; have := i_eq ek2; have : (nI k2).toInt = ((k2 : Nat) : Int) := nI_toInt (by omega); have := i_nle c3; have : (24 : Int32).toInt = 24 := rfl; have := i_le q; omega)) (fun _ => ?_)
              refine r_ic (x := 1) rfl rfl ?_
              refine r_goto (tg := 15) rfl rfl ?_
              refine r_zret rfl (.inr rfl) ?_
              show WR _ cd_181 4 [some (.ref (ad 30)), some (.int c), some (.int d), none, none, none] [.int 1] (sI h (ad 0) 6 0) _
              refine r_if_eq (tg := 14) rfl rfl (fun q => absurd q (by decide)) (fun _ => ?_)
              refine r_iload rfl rfl ?_
              refine WR_tI (y := nI k5) ek5 ?_
              refine r_cs (y := 153) (ra := [.int (nI k5)]) (rest := []) rfl ⟨⟨rfl, rfl⟩, by decide⟩ rfl rfl (Nat.le_of_ble_eq_true rfl) ?_
              refine in_153 (Nat.le_of_ble_eq_true rfl) ?_
              show WR _ cd_153 0 [some (.int (nI k5))] [] (sI h (ad 0) 6 0) _
              refine r_iload rfl rfl ?_
              refine r_if_lt (tg := 14) rfl rfl (fun q => False.elim (by have := i_nlt c4; have := i_rg d; have : (0 : Int32).toInt = 0 := rfl; have := i_eq ek5; have : (nI k5).toInt = ((k5 : Nat) : Int) := nI_toInt (by omega); have := i_nle c6; have : (24 : Int32).toInt = 24 := rfl; have := i_lt q; omega)) (fun _ => ?_)
              refine r_iload rfl rfl ?_
              refine r_ic (x := 24) rfl rfl ?_
              refine r_icmp_ge (tg := 14) rfl rfl (fun q => False.elim (by have := i_nlt c4; have := i_rg d; have : (0 : Int32).toInt = 0 := rfl; have := i_eq ek5; have : (nI k5).toInt = ((k5 : Nat) : Int) := nI_toInt (by omega); have := i_nle c6; have : (24 : Int32).toInt = 24 := rfl; have := i_le q; omega)) (fun _ => ?_)
              refine r_ic (x := 1) rfl rfl ?_
              refine r_goto (tg := 15) rfl rfl ?_
              refine r_zret rfl (.inr rfl) ?_
              show WR _ cd_181 11 [some (.ref (ad 30)), some (.int c), some (.int d), none, none, none] [.int 1] (sI h (ad 0) 6 0) _
              refine r_if_ne (tg := 21) rfl rfl (fun _ => ?_) (fun q => absurd q (by decide))
              refine r_aload rfl rfl ?_
              refine r_getA (b := ad 31) rfl ⟨rfl, rfl, rfl⟩ (fx_t30 fx) (fx_r30_0 fx) ?_
              refine r_iload rfl rfl ?_
              refine WR_tI (y := nI k2) ek2 ?_
              refine r_iaload rfl (.inl (fx_t31 fx)) (vp_ct (fx_n31 fx) (vp_in_nI (by have := i_nlt c1; have := i_rg c; have : (0 : Int32).toInt = 0 := rfl; have := i_eq ek2; have : (nI k2).toInt = ((k2 : Nat) : Int) := nI_toInt (by omega); have := i_nle c3; have : (24 : Int32).toInt = 24 := rfl; omega) (by omega))) ?_
              refine WR_tI (congrArg (hI (sI h (ad 0) 6 0) (ad 31)) ((nI_clamp (by have := i_nlt c1; have := i_rg c; have : (0 : Int32).toInt = 0 := rfl; have := i_eq ek2; have : (nI k2).toInt = ((k2 : Nat) : Int) := nI_toInt (by omega); have := i_nle c3; have : (24 : Int32).toInt = 24 := rfl; omega)) : _ = k2)) ?_
              refine WR_tI (y := nI (q7 + 1000)) (Eq.trans (I_ne (fx_ne fx (by decide))) v7) ?_
              refine r_istore (lv' := [some (.ref (ad 30)), some (.int c), some (.int d), some (.int (nI (q7 + 1000))), none, none]) rfl (Nat.le_of_ble_eq_true rfl) rfl ?_
              refine r_aload rfl rfl ?_
              refine r_getA (b := ad 31) rfl ⟨rfl, rfl, rfl⟩ (fx_t30 fx) (fx_r30_0 fx) ?_
              refine r_iload rfl rfl ?_
              refine WR_tI (y := nI k5) ek5 ?_
              refine r_iaload rfl (.inl (fx_t31 fx)) (vp_ct (fx_n31 fx) (vp_in_nI (by have := i_nlt c4; have := i_rg d; have : (0 : Int32).toInt = 0 := rfl; have := i_eq ek5; have : (nI k5).toInt = ((k5 : Nat) : Int) := nI_toInt (by omega); have := i_nle c6; have : (24 : Int32).toInt = 24 := rfl; omega) (by omega))) ?_
              refine WR_tI (congrArg (hI (sI h (ad 0) 6 0) (ad 31)) ((nI_clamp (by have := i_nlt c4; have := i_rg d; have : (0 : Int32).toInt = 0 := rfl; have := i_eq ek5; have : (nI k5).toInt = ((k5 : Nat) : Int) := nI_toInt (by omega); have := i_nle c6; have : (24 : Int32).toInt = 24 := rfl; omega)) : _ = k5)) ?_
              refine WR_tI (y := nI t9) (Eq.trans (I_ne (fx_ne fx (by decide))) v9) ?_
              refine r_istore (lv' := [some (.ref (ad 30)), some (.int c), some (.int d), some (.int (nI (q7 + 1000))), some (.int (nI t9)), none]) rfl (Nat.le_of_ble_eq_true rfl) rfl ?_
              refine r_iload rfl rfl ?_
              refine r_iload rfl rfl ?_
              refine r_icmp_ne (tg := 48) rfl rfl (fun _ => ?_) (fun q => False.elim (by have : (nI (q7 + 1000)).toInt = ((q7 + 1000 : Nat) : Int) := nI_toInt (by omega); have : (nI t9).toInt = ((t9 : Nat) : Int) := nI_toInt (by omega); have := i_eq q; omega))
              refine r_iload rfl rfl ?_
              refine r_ic (x := (-1)) rfl rfl ?_
              refine r_icmp_eq (tg := 90) rfl rfl (fun q => False.elim (by have : (nI (q7 + 1000)).toInt = ((q7 + 1000 : Nat) : Int) := nI_toInt (by omega); have : (-1 : Int32).toInt = -1 := rfl; have := i_eq q; omega)) (fun _ => ?_)
              refine r_iload rfl rfl ?_
              refine r_ic (x := (-1)) rfl rfl ?_
              refine r_icmp_eq (tg := 90) rfl rfl (fun q => False.elim (by have : (nI t9).toInt = ((t9 : Nat) : Int) := nI_toInt (by omega); have : (-1 : Int32).toInt = -1 := rfl; have := i_eq q; omega)) (fun _ => ?_)
              refine r_iload rfl rfl ?_
              refine r_ic (x := 1000) rfl rfl ?_
              refine r_icmp_ge (tg := 90) rfl rfl (fun _ => ?_) (fun q => False.elim (by have : (nI (q7 + 1000)).toInt = ((q7 + 1000 : Nat) : Int) := nI_toInt (by omega); have : (1000 : Int32).toInt = 1000 := rfl; have := i_nle q; omega))
              refine r_aload rfl rfl ?_
              refine r_ic (x := 0) rfl rfl ?_
              refine r_cv (y := 154) (ra := [.int 0]) (rest := []) rfl ⟨⟨rfl, rfl⟩, rfl, by decide⟩ (fx_t30 fx) rfl rfl (Nat.le_of_ble_eq_true rfl) ?_
              refine in_154 (Nat.le_of_ble_eq_true rfl) ?_
              show WR _ cd_154 0 [some (.ref (ad 30)), some (.int 0)] [] (sI h (ad 0) 6 0) _
              refine r_aload rfl rfl ?_
              refine r_iload rfl rfl ?_
              refine r_ic (x := (-1)) rfl rfl ?_
              refine r_icmp_ge (tg := 10) rfl rfl (fun _ => ?_) (fun q => absurd q (by decide))
              refine r_ic (x := 0) rfl rfl ?_
              refine r_putI rfl ⟨rfl, rfl, rfl⟩ (fx_t30 fx) ?_
              have fx : FX n ad sa z0 (sI (sI h (ad 0) 6 0) (ad 30) 11 0) := (FX.sI fx)
              refine r_iload rfl rfl ?_
              refine r_iret rfl ?_
              show WR _ cd_181 95 [some (.ref (ad 30)), some (.int c), some (.int d), some (.int (nI (q7 + 1000))), some (.int (nI t9)), none] [.int 0] (sI (sI h (ad 0) 6 0) (ad 30) 11 0) _
              refine r_iret rfl ?_
              exact ⟨rfl, Rel.why r ((Chg.rf.sI (fx_j fx) (.inl (by decide))).sI (fx_j fx) (.inl (by decide))) ⟨rfl, by decide⟩ (Eq.trans (Eq.trans (I_ne (fx_ne fx (by decide))) I_eq) (Eq.symm I_eq)), (by (try simp only [hZ_sI, hZ_sL, hZ_sD, hZ_sR]); omega), (by (try simp only [hU_sI, hU_sL, hU_sD, hU_sR]); omega)⟩
            · refine r_aaloadA (b := mid t9) rfl (isQ_of (fx_t1 fx) (by decide)) (vp_ct (fx_n1 fx) (vp_in_nI (by have := i_nlt c4; have := i_rg d; have : (0 : Int32).toInt = 0 := rfl; have := i_eq ek5; have : (nI k5).toInt = ((k5 : Nat) : Int) := nI_toInt (by omega); have := i_nle c6; have : (24 : Int32).toInt = 24 := rfl; omega) (by omega))) (Eq.trans (congrArg (hR (sI h (ad 0) 6 0) (ad 1)) ((nI_clamp (by have := i_nlt c4; have := i_rg d; have : (0 : Int32).toInt = 0 := rfl; have := i_eq ek5; have : (nI k5).toInt = ((k5 : Nat) : Int) := nI_toInt (by omega); have := i_nle c6; have : (24 : Int32).toInt = 24 := rfl; omega)) : _ = k5)) (Eq.trans R_oI w9)) ?_
              refine r_astore (lv' := [some (.ref (ad 0)), some (.int c), some (.int d), some (.ref (pa q7)), some (.ref (mid t9))]) rfl (Nat.le_of_ble_eq_true rfl) rfl ?_
              refine r_aload rfl rfl ?_
              refine r_aload rfl rfl ?_
              refine r_acmpA_ne (tg := 49) rfl rfl (fun _ => ?_) (fun q => absurd q (fun e => by have q1 := tg7; have q2 := tg9; rw [e, q2] at q1; cases q1))
              refine r_aload rfl rfl ?_
              refine r_ifnullA (tg := 71) rfl rfl ?_
              refine r_aload rfl rfl ?_
              refine r_ifnullA (tg := 71) rfl rfl ?_
              refine r_aload rfl rfl ?_
              refine r_aload rfl rfl ?_
              refine r_cw (y := 60) (ra := [.ref (mid t9)]) (rest := []) rfl ⟨rfl, rfl⟩ (by rw [show hT (sI h (ad 0) 6 0) (pa q7) = 4 from tg7]; rfl) rfl rfl (Nat.le_of_ble_eq_true rfl) ?_
              refine in_60 (Nat.le_of_ble_eq_true rfl) ?_
              show WR _ cd_60 0 [some (.ref (pa q7)), some (.ref (mid t9))] [] (sI h (ad 0) 6 0) _
              refine r_ic (x := 0) rfl rfl ?_
              refine r_zret rfl (.inl rfl) ?_
              show WR _ cd_59 64 [some (.ref (ad 0)), some (.int c), some (.int d), some (.ref (pa q7)), some (.ref (mid t9))] [.int 0] (sI h (ad 0) 6 0) _
              refine r_if_eq (tg := 71) rfl rfl (fun _ => ?_) (fun q => absurd q (by decide))
              refine r_ic (x := 0) rfl rfl ?_
              refine r_iret rfl ?_
              show EV _ 181 [.ref (ad 30), .int c, .int d] (sI h (ad 0) 6 0) _
              refine in_181 (Nat.le_of_ble_eq_true rfl) ?_
              show WR _ cd_181 0 [some (.ref (ad 30)), some (.int c), some (.int d), none, none, none] [] (sI h (ad 0) 6 0) _
              refine r_iload rfl rfl ?_
              refine WR_tI (y := nI k2) ek2 ?_
              refine r_cs (y := 153) (ra := [.int (nI k2)]) (rest := []) rfl ⟨⟨rfl, rfl⟩, by decide⟩ rfl rfl (Nat.le_of_ble_eq_true rfl) ?_
              refine in_153 (Nat.le_of_ble_eq_true rfl) ?_
              show WR _ cd_153 0 [some (.int (nI k2))] [] (sI h (ad 0) 6 0) _
              refine r_iload rfl rfl ?_
              refine r_if_lt (tg := 14) rfl rfl (fun q => False.elim (by have := i_nlt c1; have := i_rg c; have : (0 : Int32).toInt = 0 := rfl; have := i_eq ek2; have : (nI k2).toInt = ((k2 : Nat) : Int) := nI_toInt (by omega); have := i_nle c3; have : (24 : Int32).toInt = 24 := rfl; have := i_lt q; omega)) (fun _ => ?_)
              refine r_iload rfl rfl ?_
              refine r_ic (x := 24) rfl rfl ?_
              refine r_icmp_ge (tg := 14) rfl rfl (fun q => False.elim (by have := i_nlt c1; have := i_rg c; have : (0 : Int32).toInt = 0 := rfl; have := i_eq ek2; have : (nI k2).toInt = ((k2 : Nat) : Int) := nI_toInt (by omega); have := i_nle c3; have : (24 : Int32).toInt = 24 := rfl; have := i_le q; omega)) (fun _ => ?_)
              refine r_ic (x := 1) rfl rfl ?_
              refine r_goto (tg := 15) rfl rfl ?_
              refine r_zret rfl (.inr rfl) ?_
              show WR _ cd_181 4 [some (.ref (ad 30)), some (.int c), some (.int d), none, none, none] [.int 1] (sI h (ad 0) 6 0) _
              refine r_if_eq (tg := 14) rfl rfl (fun q => absurd q (by decide)) (fun _ => ?_)
              refine r_iload rfl rfl ?_
              refine WR_tI (y := nI k5) ek5 ?_
              refine r_cs (y := 153) (ra := [.int (nI k5)]) (rest := []) rfl ⟨⟨rfl, rfl⟩, by decide⟩ rfl rfl (Nat.le_of_ble_eq_true rfl) ?_
              refine in_153 (Nat.le_of_ble_eq_true rfl) ?_
              show WR _ cd_153 0 [some (.int (nI k5))] [] (sI h (ad 0) 6 0) _
              refine r_iload rfl rfl ?_
              refine r_if_lt (tg := 14) rfl rfl (fun q => False.elim (by have := i_nlt c4; have := i_rg d; have : (0 : Int32).toInt = 0 := rfl; have := i_eq ek5; have : (nI k5).toInt = ((k5 : Nat) : Int) := nI_toInt (by omega); have := i_nle c6; have : (24 : Int32).toInt = 24 := rfl; have := i_lt q; omega)) (fun _ => ?_)
              refine r_iload rfl rfl ?_
              refine r_ic (x := 24) rfl rfl ?_
              refine r_icmp_ge (tg := 14) rfl rfl (fun q => False.elim (by have := i_nlt c4; have := i_rg d; have : (0 : Int32).toInt = 0 := rfl; have := i_eq ek5; have : (nI k5).toInt = ((k5 : Nat) : Int) := nI_toInt (by omega); have := i_nle c6; have : (24 : Int32).toInt = 24 := rfl; have := i_le q; omega)) (fun _ => ?_)
              refine r_ic (x := 1) rfl rfl ?_
              refine r_goto (tg := 15) rfl rfl ?_
              refine r_zret rfl (.inr rfl) ?_
              show WR _ cd_181 11 [some (.ref (ad 30)), some (.int c), some (.int d), none, none, none] [.int 1] (sI h (ad 0) 6 0) _
              refine r_if_ne (tg := 21) rfl rfl (fun _ => ?_) (fun q => absurd q (by decide))
              refine r_aload rfl rfl ?_
              refine r_getA (b := ad 31) rfl ⟨rfl, rfl, rfl⟩ (fx_t30 fx) (fx_r30_0 fx) ?_
              refine r_iload rfl rfl ?_
              refine WR_tI (y := nI k2) ek2 ?_
              refine r_iaload rfl (.inl (fx_t31 fx)) (vp_ct (fx_n31 fx) (vp_in_nI (by have := i_nlt c1; have := i_rg c; have : (0 : Int32).toInt = 0 := rfl; have := i_eq ek2; have : (nI k2).toInt = ((k2 : Nat) : Int) := nI_toInt (by omega); have := i_nle c3; have : (24 : Int32).toInt = 24 := rfl; omega) (by omega))) ?_
              refine WR_tI (congrArg (hI (sI h (ad 0) 6 0) (ad 31)) ((nI_clamp (by have := i_nlt c1; have := i_rg c; have : (0 : Int32).toInt = 0 := rfl; have := i_eq ek2; have : (nI k2).toInt = ((k2 : Nat) : Int) := nI_toInt (by omega); have := i_nle c3; have : (24 : Int32).toInt = 24 := rfl; omega)) : _ = k2)) ?_
              refine WR_tI (y := nI (q7 + 1000)) (Eq.trans (I_ne (fx_ne fx (by decide))) v7) ?_
              refine r_istore (lv' := [some (.ref (ad 30)), some (.int c), some (.int d), some (.int (nI (q7 + 1000))), none, none]) rfl (Nat.le_of_ble_eq_true rfl) rfl ?_
              refine r_aload rfl rfl ?_
              refine r_getA (b := ad 31) rfl ⟨rfl, rfl, rfl⟩ (fx_t30 fx) (fx_r30_0 fx) ?_
              refine r_iload rfl rfl ?_
              refine WR_tI (y := nI k5) ek5 ?_
              refine r_iaload rfl (.inl (fx_t31 fx)) (vp_ct (fx_n31 fx) (vp_in_nI (by have := i_nlt c4; have := i_rg d; have : (0 : Int32).toInt = 0 := rfl; have := i_eq ek5; have : (nI k5).toInt = ((k5 : Nat) : Int) := nI_toInt (by omega); have := i_nle c6; have : (24 : Int32).toInt = 24 := rfl; omega) (by omega))) ?_
              refine WR_tI (congrArg (hI (sI h (ad 0) 6 0) (ad 31)) ((nI_clamp (by have := i_nlt c4; have := i_rg d; have : (0 : Int32).toInt = 0 := rfl; have := i_eq ek5; have : (nI k5).toInt = ((k5 : Nat) : Int) := nI_toInt (by omega); have := i_nle c6; have : (24 : Int32).toInt = 24 := rfl; omega)) : _ = k5)) ?_
              refine WR_tI (y := nI t9) (Eq.trans (I_ne (fx_ne fx (by decide))) v9) ?_
              refine r_istore (lv' := [some (.ref (ad 30)), some (.int c), some (.int d), some (.int (nI (q7 + 1000))), some (.int (nI t9)), none]) rfl (Nat.le_of_ble_eq_true rfl) rfl ?_
              refine r_iload rfl rfl ?_
              refine r_iload rfl rfl ?_
              refine r_icmp_ne (tg := 48) rfl rfl (fun _ => ?_) (fun q => False.elim (by have : (nI (q7 + 1000)).toInt = ((q7 + 1000 : Nat) : Int) := nI_toInt (by omega); have : (nI t9).toInt = ((t9 : Nat) : Int) := nI_toInt (by omega); have := i_eq q; omega))
              refine r_iload rfl rfl ?_
              refine r_ic (x := (-1)) rfl rfl ?_
              refine r_icmp_eq (tg := 90) rfl rfl (fun q => False.elim (by have : (nI (q7 + 1000)).toInt = ((q7 + 1000 : Nat) : Int) := nI_toInt (by omega); have : (-1 : Int32).toInt = -1 := rfl; have := i_eq q; omega)) (fun _ => ?_)
              refine r_iload rfl rfl ?_
              refine r_ic (x := (-1)) rfl rfl ?_
              refine r_icmp_eq (tg := 90) rfl rfl (fun q => False.elim (by have : (nI t9).toInt = ((t9 : Nat) : Int) := nI_toInt (by omega); have : (-1 : Int32).toInt = -1 := rfl; have := i_eq q; omega)) (fun _ => ?_)
              refine r_iload rfl rfl ?_
              refine r_ic (x := 1000) rfl rfl ?_
              refine r_icmp_ge (tg := 90) rfl rfl (fun _ => ?_) (fun q => False.elim (by have : (nI (q7 + 1000)).toInt = ((q7 + 1000 : Nat) : Int) := nI_toInt (by omega); have : (1000 : Int32).toInt = 1000 := rfl; have := i_nle q; omega))
              refine r_aload rfl rfl ?_
              refine r_ic (x := 0) rfl rfl ?_
              refine r_cv (y := 154) (ra := [.int 0]) (rest := []) rfl ⟨⟨rfl, rfl⟩, rfl, by decide⟩ (fx_t30 fx) rfl rfl (Nat.le_of_ble_eq_true rfl) ?_
              refine in_154 (Nat.le_of_ble_eq_true rfl) ?_
              show WR _ cd_154 0 [some (.ref (ad 30)), some (.int 0)] [] (sI h (ad 0) 6 0) _
              refine r_aload rfl rfl ?_
              refine r_iload rfl rfl ?_
              refine r_ic (x := (-1)) rfl rfl ?_
              refine r_icmp_ge (tg := 10) rfl rfl (fun _ => ?_) (fun q => absurd q (by decide))
              refine r_ic (x := 0) rfl rfl ?_
              refine r_putI rfl ⟨rfl, rfl, rfl⟩ (fx_t30 fx) ?_
              have fx : FX n ad sa z0 (sI (sI h (ad 0) 6 0) (ad 30) 11 0) := (FX.sI fx)
              refine r_iload rfl rfl ?_
              refine r_iret rfl ?_
              show WR _ cd_181 95 [some (.ref (ad 30)), some (.int c), some (.int d), some (.int (nI (q7 + 1000))), some (.int (nI t9)), none] [.int 0] (sI (sI h (ad 0) 6 0) (ad 30) 11 0) _
              refine r_iret rfl ?_
              exact ⟨rfl, Rel.why r ((Chg.rf.sI (fx_j fx) (.inl (by decide))).sI (fx_j fx) (.inl (by decide))) ⟨rfl, by decide⟩ (Eq.trans (Eq.trans (I_ne (fx_ne fx (by decide))) I_eq) (Eq.symm I_eq)), (by (try simp only [hZ_sI, hZ_sL, hZ_sD, hZ_sR]); omega), (by (try simp only [hU_sI, hU_sL, hU_sD, hU_sR]); omega)⟩
            · refine r_aaloadA (b := mid t9) rfl (isQ_of (fx_t1 fx) (by decide)) (vp_ct (fx_n1 fx) (vp_in_nI (by have := i_nlt c4; have := i_rg d; have : (0 : Int32).toInt = 0 := rfl; have := i_eq ek5; have : (nI k5).toInt = ((k5 : Nat) : Int) := nI_toInt (by omega); have := i_nle c6; have : (24 : Int32).toInt = 24 := rfl; omega) (by omega))) (Eq.trans (congrArg (hR (sI h (ad 0) 6 0) (ad 1)) ((nI_clamp (by have := i_nlt c4; have := i_rg d; have : (0 : Int32).toInt = 0 := rfl; have := i_eq ek5; have : (nI k5).toInt = ((k5 : Nat) : Int) := nI_toInt (by omega); have := i_nle c6; have : (24 : Int32).toInt = 24 := rfl; omega)) : _ = k5)) (Eq.trans R_oI w9)) ?_
              refine r_astore (lv' := [some (.ref (ad 0)), some (.int c), some (.int d), some (.ref (pa q7)), some (.ref (mid t9))]) rfl (Nat.le_of_ble_eq_true rfl) rfl ?_
              refine r_aload rfl rfl ?_
              refine r_aload rfl rfl ?_
              refine r_acmpA_ne (tg := 49) rfl rfl (fun _ => ?_) (fun q => absurd q (fun e => by have q1 := tg7; have q2 := tg9; rw [e, q2] at q1; cases q1))
              refine r_aload rfl rfl ?_
              refine r_ifnullA (tg := 71) rfl rfl ?_
              refine r_aload rfl rfl ?_
              refine r_ifnullA (tg := 71) rfl rfl ?_
              refine r_aload rfl rfl ?_
              refine r_aload rfl rfl ?_
              refine r_cw (y := 60) (ra := [.ref (mid t9)]) (rest := []) rfl ⟨rfl, rfl⟩ (by rw [show hT (sI h (ad 0) 6 0) (pa q7) = 4 from tg7]; rfl) rfl rfl (Nat.le_of_ble_eq_true rfl) ?_
              refine in_60 (Nat.le_of_ble_eq_true rfl) ?_
              show WR _ cd_60 0 [some (.ref (pa q7)), some (.ref (mid t9))] [] (sI h (ad 0) 6 0) _
              refine r_ic (x := 0) rfl rfl ?_
              refine r_zret rfl (.inl rfl) ?_
              show WR _ cd_59 64 [some (.ref (ad 0)), some (.int c), some (.int d), some (.ref (pa q7)), some (.ref (mid t9))] [.int 0] (sI h (ad 0) 6 0) _
              refine r_if_eq (tg := 71) rfl rfl (fun _ => ?_) (fun q => absurd q (by decide))
              refine r_ic (x := 0) rfl rfl ?_
              refine r_iret rfl ?_
              show EV _ 181 [.ref (ad 30), .int c, .int d] (sI h (ad 0) 6 0) _
              refine in_181 (Nat.le_of_ble_eq_true rfl) ?_
              show WR _ cd_181 0 [some (.ref (ad 30)), some (.int c), some (.int d), none, none, none] [] (sI h (ad 0) 6 0) _
              refine r_iload rfl rfl ?_
              refine WR_tI (y := nI k2) ek2 ?_
              refine r_cs (y := 153) (ra := [.int (nI k2)]) (rest := []) rfl ⟨⟨rfl, rfl⟩, by decide⟩ rfl rfl (Nat.le_of_ble_eq_true rfl) ?_
              refine in_153 (Nat.le_of_ble_eq_true rfl) ?_
              show WR _ cd_153 0 [some (.int (nI k2))] [] (sI h (ad 0) 6 0) _
              refine r_iload rfl rfl ?_
              refine r_if_lt (tg := 14) rfl rfl (fun q => False.elim (by have := i_nlt c1; have := i_rg c; have : (0 : Int32).toInt = 0 := rfl; have := i_eq ek2; have : (nI k2).toInt = ((k2 : Nat) : Int) := nI_toInt (by omega); have := i_nle c3; have : (24 : Int32).toInt = 24 := rfl; have := i_lt q; omega)) (fun _ => ?_)
              refine r_iload rfl rfl ?_
              refine r_ic (x := 24) rfl rfl ?_
              refine r_icmp_ge (tg := 14) rfl rfl (fun q => False.elim (by have := i_nlt c1; have := i_rg c; have : (0 : Int32).toInt = 0 := rfl; have := i_eq ek2; have : (nI k2).toInt = ((k2 : Nat) : Int) := nI_toInt (by omega); have := i_nle c3; have : (24 : Int32).toInt = 24 := rfl; have := i_le q; omega)) (fun _ => ?_)
              refine r_ic (x := 1) rfl rfl ?_
              refine r_goto (tg := 15) rfl rfl ?_
              refine r_zret rfl (.inr rfl) ?_
              show WR _ cd_181 4 [some (.ref (ad 30)), some (.int c), some (.int d), none, none, none] [.int 1] (sI h (ad 0) 6 0) _
              refine r_if_eq (tg := 14) rfl rfl (fun q => absurd q (by decide)) (fun _ => ?_)
              refine r_iload rfl rfl ?_
              refine WR_tI (y := nI k5) ek5 ?_
              refine r_cs (y := 153) (ra := [.int (nI k5)]) (rest := []) rfl ⟨⟨rfl, rfl⟩, by decide⟩ rfl rfl (Nat.le_of_ble_eq_true rfl) ?_
              refine in_153 (Nat.le_of_ble_eq_true rfl) ?_
              show WR _ cd_153 0 [some (.int (nI k5))] [] (sI h (ad 0) 6 0) _
              refine r_iload rfl rfl ?_
              refine r_if_lt (tg := 14) rfl rfl (fun q => False.elim (by have := i_nlt c4; have := i_rg d; have : (0 : Int32).toInt = 0 := rfl; have := i_eq ek5; have : (nI k5).toInt = ((k5 : Nat) : Int) := nI_toInt (by omega); have := i_nle c6; have : (24 : Int32).toInt = 24 := rfl; have := i_lt q; omega)) (fun _ => ?_)
              refine r_iload rfl rfl ?_
              refine r_ic (x := 24) rfl rfl ?_
              refine r_icmp_ge (tg := 14) rfl rfl (fun q => False.elim (by have := i_nlt c4; have := i_rg d; have : (0 : Int32).toInt = 0 := rfl; have := i_eq ek5; have : (nI k5).toInt = ((k5 : Nat) : Int) := nI_toInt (by omega); have := i_nle c6; have : (24 : Int32).toInt = 24 := rfl; have := i_le q; omega)) (fun _ => ?_)
              refine r_ic (x := 1) rfl rfl ?_
              refine r_goto (tg := 15) rfl rfl ?_
              refine r_zret rfl (.inr rfl) ?_
              show WR _ cd_181 11 [some (.ref (ad 30)), some (.int c), some (.int d), none, none, none] [.int 1] (sI h (ad 0) 6 0) _
              refine r_if_ne (tg := 21) rfl rfl (fun _ => ?_) (fun q => absurd q (by decide))
              refine r_aload rfl rfl ?_
              refine r_getA (b := ad 31) rfl ⟨rfl, rfl, rfl⟩ (fx_t30 fx) (fx_r30_0 fx) ?_
              refine r_iload rfl rfl ?_
              refine WR_tI (y := nI k2) ek2 ?_
              refine r_iaload rfl (.inl (fx_t31 fx)) (vp_ct (fx_n31 fx) (vp_in_nI (by have := i_nlt c1; have := i_rg c; have : (0 : Int32).toInt = 0 := rfl; have := i_eq ek2; have : (nI k2).toInt = ((k2 : Nat) : Int) := nI_toInt (by omega); have := i_nle c3; have : (24 : Int32).toInt = 24 := rfl; omega) (by omega))) ?_
              refine WR_tI (congrArg (hI (sI h (ad 0) 6 0) (ad 31)) ((nI_clamp (by have := i_nlt c1; have := i_rg c; have : (0 : Int32).toInt = 0 := rfl; have := i_eq ek2; have : (nI k2).toInt = ((k2 : Nat) : Int) := nI_toInt (by omega); have := i_nle c3; have : (24 : Int32).toInt = 24 := rfl; omega)) : _ = k2)) ?_
              refine WR_tI (y := nI (q7 + 1000)) (Eq.trans (I_ne (fx_ne fx (by decide))) v7) ?_
              refine r_istore (lv' := [some (.ref (ad 30)), some (.int c), some (.int d), some (.int (nI (q7 + 1000))), none, none]) rfl (Nat.le_of_ble_eq_true rfl) rfl ?_
              refine r_aload rfl rfl ?_
              refine r_getA (b := ad 31) rfl ⟨rfl, rfl, rfl⟩ (fx_t30 fx) (fx_r30_0 fx) ?_
              refine r_iload rfl rfl ?_
              refine WR_tI (y := nI k5) ek5 ?_
              refine r_iaload rfl (.inl (fx_t31 fx)) (vp_ct (fx_n31 fx) (vp_in_nI (by have := i_nlt c4; have := i_rg d; have : (0 : Int32).toInt = 0 := rfl; have := i_eq ek5; have : (nI k5).toInt = ((k5 : Nat) : Int) := nI_toInt (by omega); have := i_nle c6; have : (24 : Int32).toInt = 24 := rfl; omega) (by omega))) ?_
              refine WR_tI (congrArg (hI (sI h (ad 0) 6 0) (ad 31)) ((nI_clamp (by have := i_nlt c4; have := i_rg d; have : (0 : Int32).toInt = 0 := rfl; have := i_eq ek5; have : (nI k5).toInt = ((k5 : Nat) : Int) := nI_toInt (by omega); have := i_nle c6; have : (24 : Int32).toInt = 24 := rfl; omega)) : _ = k5)) ?_
              refine WR_tI (y := nI t9) (Eq.trans (I_ne (fx_ne fx (by decide))) v9) ?_
              refine r_istore (lv' := [some (.ref (ad 30)), some (.int c), some (.int d), some (.int (nI (q7 + 1000))), some (.int (nI t9)), none]) rfl (Nat.le_of_ble_eq_true rfl) rfl ?_
              refine r_iload rfl rfl ?_
              refine r_iload rfl rfl ?_
              refine r_icmp_ne (tg := 48) rfl rfl (fun _ => ?_) (fun q => False.elim (by have : (nI (q7 + 1000)).toInt = ((q7 + 1000 : Nat) : Int) := nI_toInt (by omega); have : (nI t9).toInt = ((t9 : Nat) : Int) := nI_toInt (by omega); have := i_eq q; omega))
              refine r_iload rfl rfl ?_
              refine r_ic (x := (-1)) rfl rfl ?_
              refine r_icmp_eq (tg := 90) rfl rfl (fun q => False.elim (by have : (nI (q7 + 1000)).toInt = ((q7 + 1000 : Nat) : Int) := nI_toInt (by omega); have : (-1 : Int32).toInt = -1 := rfl; have := i_eq q; omega)) (fun _ => ?_)
              refine r_iload rfl rfl ?_
              refine r_ic (x := (-1)) rfl rfl ?_
              refine r_icmp_eq (tg := 90) rfl rfl (fun q => False.elim (by have : (nI t9).toInt = ((t9 : Nat) : Int) := nI_toInt (by omega); have : (-1 : Int32).toInt = -1 := rfl; have := i_eq q; omega)) (fun _ => ?_)
              refine r_iload rfl rfl ?_
              refine r_ic (x := 1000) rfl rfl ?_
              refine r_icmp_ge (tg := 90) rfl rfl (fun _ => ?_) (fun q => False.elim (by have : (nI (q7 + 1000)).toInt = ((q7 + 1000 : Nat) : Int) := nI_toInt (by omega); have : (1000 : Int32).toInt = 1000 := rfl; have := i_nle q; omega))
              refine r_aload rfl rfl ?_
              refine r_ic (x := 0) rfl rfl ?_
              refine r_cv (y := 154) (ra := [.int 0]) (rest := []) rfl ⟨⟨rfl, rfl⟩, rfl, by decide⟩ (fx_t30 fx) rfl rfl (Nat.le_of_ble_eq_true rfl) ?_
              refine in_154 (Nat.le_of_ble_eq_true rfl) ?_
              show WR _ cd_154 0 [some (.ref (ad 30)), some (.int 0)] [] (sI h (ad 0) 6 0) _
              refine r_aload rfl rfl ?_
              refine r_iload rfl rfl ?_
              refine r_ic (x := (-1)) rfl rfl ?_
              refine r_icmp_ge (tg := 10) rfl rfl (fun _ => ?_) (fun q => absurd q (by decide))
              refine r_ic (x := 0) rfl rfl ?_
              refine r_putI rfl ⟨rfl, rfl, rfl⟩ (fx_t30 fx) ?_
              have fx : FX n ad sa z0 (sI (sI h (ad 0) 6 0) (ad 30) 11 0) := (FX.sI fx)
              refine r_iload rfl rfl ?_
              refine r_iret rfl ?_
              show WR _ cd_181 95 [some (.ref (ad 30)), some (.int c), some (.int d), some (.int (nI (q7 + 1000))), some (.int (nI t9)), none] [.int 0] (sI (sI h (ad 0) 6 0) (ad 30) 11 0) _
              refine r_iret rfl ?_
              exact ⟨rfl, Rel.why r ((Chg.rf.sI (fx_j fx) (.inl (by decide))).sI (fx_j fx) (.inl (by decide))) ⟨rfl, by decide⟩ (Eq.trans (Eq.trans (I_ne (fx_ne fx (by decide))) I_eq) (Eq.symm I_eq)), (by (try simp only [hZ_sI, hZ_sL, hZ_sD, hZ_sR]); omega), (by (try simp only [hU_sI, hU_sL, hU_sD, hU_sR]); omega)⟩
          · refine r_aaloadA (b := mid t7) rfl (isQ_of (fx_t1 fx) (by decide)) (vp_ct (fx_n1 fx) (vp_in_nI (by have := i_nlt c1; have := i_rg c; have : (0 : Int32).toInt = 0 := rfl; have := i_eq ek2; have : (nI k2).toInt = ((k2 : Nat) : Int) := nI_toInt (by omega); have := i_nle c3; have : (24 : Int32).toInt = 24 := rfl; omega) (by omega))) (Eq.trans (congrArg (hR (sI h (ad 0) 6 0) (ad 1)) ((nI_clamp (by have := i_nlt c1; have := i_rg c; have : (0 : Int32).toInt = 0 := rfl; have := i_eq ek2; have : (nI k2).toInt = ((k2 : Nat) : Int) := nI_toInt (by omega); have := i_nle c3; have : (24 : Int32).toInt = 24 := rfl; omega)) : _ = k2)) (Eq.trans R_oI w7)) ?_
            refine r_astore (lv' := [some (.ref (ad 0)), some (.int c), some (.int d), some (.ref (mid t7)), none]) rfl (Nat.le_of_ble_eq_true rfl) rfl ?_
            refine r_aload rfl rfl ?_
            refine r_getA (b := ad 1) rfl ⟨rfl, rfl, rfl⟩ (fx_t0 fx) (fx_r0_0 fx) ?_
            refine r_iload rfl rfl ?_
            refine WR_tI (y := nI k5) ek5 ?_
            rcases rs.cs (n := n) (sa := sa) (c := k5) (by have := i_nlt c4; have := i_rg d; have : (0 : Int32).toInt = 0 := rfl; have := i_eq ek5; have : (nI k5).toInt = ((k5 : Nat) : Int) := nI_toInt (by omega); have := i_nle c6; have : (24 : Int32).toInt = 24 := rfl; omega) with ⟨v11, w11⟩ | ⟨q11, kd11, hq11, hn11, v11, w11, dz11, tg11, s1_11, k1_11, k2_11, hk_11, we11⟩ | ⟨t11, ln11, sz11, ht11, v11, w11, dz11, tg11, r_11, tg2_11, l1_11, l2_11, hl_11, kd_11, n_11, sz_11, hs_11, al11, rw11⟩ | ⟨t11, sz11, ht11, v11, w11, dz11, tg11, r_11, tg2_11, k1_11, l2_11, k2_11, n_11, sz_11, hs_11, al11, rw11⟩ | ⟨t11, kd11, sz11, ht11, v11, w11, dz11, tg11, r_11, tg2_11, k1_11, l2_11, k2_11, hk_11, n_11, sz_11, hs_11, al11, rw11⟩
            · refine r_aaload0 rfl (isQ_of (fx_t1 fx) (by decide)) (vp_ct (fx_n1 fx) (vp_in_nI (by have := i_nlt c4; have := i_rg d; have : (0 : Int32).toInt = 0 := rfl; have := i_eq ek5; have : (nI k5).toInt = ((k5 : Nat) : Int) := nI_toInt (by omega); have := i_nle c6; have : (24 : Int32).toInt = 24 := rfl; omega) (by omega))) (Eq.trans (congrArg (hR (sI h (ad 0) 6 0) (ad 1)) ((nI_clamp (by have := i_nlt c4; have := i_rg d; have : (0 : Int32).toInt = 0 := rfl; have := i_eq ek5; have : (nI k5).toInt = ((k5 : Nat) : Int) := nI_toInt (by omega); have := i_nle c6; have : (24 : Int32).toInt = 24 := rfl; omega)) : _ = k5)) (Eq.trans R_oI w11)) ?_
              refine r_astore0 (lv' := [some (.ref (ad 0)), some (.int c), some (.int d), some (.ref (mid t7)), some (.null)]) rfl (Nat.le_of_ble_eq_true rfl) rfl ?_
              refine r_aload rfl rfl ?_
              refine r_aload0 rfl rfl ?_
              refine r_acmpAN_ne (tg := 49) rfl rfl ?_
              refine r_aload rfl rfl ?_
              refine r_ifnullA (tg := 71) rfl rfl ?_
              refine r_aload0 rfl rfl ?_
              refine r_ifnullN (tg := 71) rfl rfl ?_
              refine r_ic (x := 0) rfl rfl ?_
              refine r_iret rfl ?_
              show EV _ 181 [.ref (ad 30), .int c, .int d] (sI h (ad 0) 6 0) _
              refine in_181 (Nat.le_of_ble_eq_true rfl) ?_
              show WR _ cd_181 0 [some (.ref (ad 30)), some (.int c), some (.int d), none, none, none] [] (sI h (ad 0) 6 0) _
              refine r_iload rfl rfl ?_
              refine WR_tI (y := nI k2) ek2 ?_
              refine r_cs (y := 153) (ra := [.int (nI k2)]) (rest := []) rfl ⟨⟨rfl, rfl⟩, by decide⟩ rfl rfl (Nat.le_of_ble_eq_true rfl) ?_
              refine in_153 (Nat.le_of_ble_eq_true rfl) ?_
              show WR _ cd_153 0 [some (.int (nI k2))] [] (sI h (ad 0) 6 0) _
              refine r_iload rfl rfl ?_
              refine r_if_lt (tg := 14) rfl rfl (fun q => False.elim (by have := i_nlt c1; have := i_rg c; have : (0 : Int32).toInt = 0 := rfl; have := i_eq ek2; have : (nI k2).toInt = ((k2 : Nat) : Int) := nI_toInt (by omega); have := i_nle c3; have : (24 : Int32).toInt = 24 := rfl; have := i_lt q; omega)) (fun _ => ?_)
              refine r_iload rfl rfl ?_
              refine r_ic (x := 24) rfl rfl ?_
              refine r_icmp_ge (tg := 14) rfl rfl (fun q => False.elim (by have := i_nlt c1; have := i_rg c; have : (0 : Int32).toInt = 0 := rfl; have := i_eq ek2; have : (nI k2).toInt = ((k2 : Nat) : Int) := nI_toInt (by omega); have := i_nle c3; have : (24 : Int32).toInt = 24 := rfl; have := i_le q; omega)) (fun _ => ?_)
              refine r_ic (x := 1) rfl rfl ?_
              refine r_goto (tg := 15) rfl rfl ?_
              refine r_zret rfl (.inr rfl) ?_
              show WR _ cd_181 4 [some (.ref (ad 30)), some (.int c), some (.int d), none, none, none] [.int 1] (sI h (ad 0) 6 0) _
              refine r_if_eq (tg := 14) rfl rfl (fun q => absurd q (by decide)) (fun _ => ?_)
              refine r_iload rfl rfl ?_
              refine WR_tI (y := nI k5) ek5 ?_
              refine r_cs (y := 153) (ra := [.int (nI k5)]) (rest := []) rfl ⟨⟨rfl, rfl⟩, by decide⟩ rfl rfl (Nat.le_of_ble_eq_true rfl) ?_
              refine in_153 (Nat.le_of_ble_eq_true rfl) ?_
              show WR _ cd_153 0 [some (.int (nI k5))] [] (sI h (ad 0) 6 0) _
              refine r_iload rfl rfl ?_
              refine r_if_lt (tg := 14) rfl rfl (fun q => False.elim (by have := i_nlt c4; have := i_rg d; have : (0 : Int32).toInt = 0 := rfl; have := i_eq ek5; have : (nI k5).toInt = ((k5 : Nat) : Int) := nI_toInt (by omega); have := i_nle c6; have : (24 : Int32).toInt = 24 := rfl; have := i_lt q; omega)) (fun _ => ?_)
              refine r_iload rfl rfl ?_
              refine r_ic (x := 24) rfl rfl ?_
              refine r_icmp_ge (tg := 14) rfl rfl (fun q => False.elim (by have := i_nlt c4; have := i_rg d; have : (0 : Int32).toInt = 0 := rfl; have := i_eq ek5; have : (nI k5).toInt = ((k5 : Nat) : Int) := nI_toInt (by omega); have := i_nle c6; have : (24 : Int32).toInt = 24 := rfl; have := i_le q; omega)) (fun _ => ?_)
              refine r_ic (x := 1) rfl rfl ?_
              refine r_goto (tg := 15) rfl rfl ?_
              refine r_zret rfl (.inr rfl) ?_
              show WR _ cd_181 11 [some (.ref (ad 30)), some (.int c), some (.int d), none, none, none] [.int 1] (sI h (ad 0) 6 0) _
              refine r_if_ne (tg := 21) rfl rfl (fun _ => ?_) (fun q => absurd q (by decide))
              refine r_aload rfl rfl ?_
              refine r_getA (b := ad 31) rfl ⟨rfl, rfl, rfl⟩ (fx_t30 fx) (fx_r30_0 fx) ?_
              refine r_iload rfl rfl ?_
              refine WR_tI (y := nI k2) ek2 ?_
              refine r_iaload rfl (.inl (fx_t31 fx)) (vp_ct (fx_n31 fx) (vp_in_nI (by have := i_nlt c1; have := i_rg c; have : (0 : Int32).toInt = 0 := rfl; have := i_eq ek2; have : (nI k2).toInt = ((k2 : Nat) : Int) := nI_toInt (by omega); have := i_nle c3; have : (24 : Int32).toInt = 24 := rfl; omega) (by omega))) ?_
              refine WR_tI (congrArg (hI (sI h (ad 0) 6 0) (ad 31)) ((nI_clamp (by have := i_nlt c1; have := i_rg c; have : (0 : Int32).toInt = 0 := rfl; have := i_eq ek2; have : (nI k2).toInt = ((k2 : Nat) : Int) := nI_toInt (by omega); have := i_nle c3; have : (24 : Int32).toInt = 24 := rfl; omega)) : _ = k2)) ?_
              refine WR_tI (y := nI t7) (Eq.trans (I_ne (fx_ne fx (by decide))) v7) ?_
              refine r_istore (lv' := [some (.ref (ad 30)), some (.int c), some (.int d), some (.int (nI t7)), none, none]) rfl (Nat.le_of_ble_eq_true rfl) rfl ?_
              refine r_aload rfl rfl ?_
              refine r_getA (b := ad 31) rfl ⟨rfl, rfl, rfl⟩ (fx_t30 fx) (fx_r30_0 fx) ?_
              refine r_iload rfl rfl ?_
              refine WR_tI (y := nI k5) ek5 ?_
              refine r_iaload rfl (.inl (fx_t31 fx)) (vp_ct (fx_n31 fx) (vp_in_nI (by have := i_nlt c4; have := i_rg d; have : (0 : Int32).toInt = 0 := rfl; have := i_eq ek5; have : (nI k5).toInt = ((k5 : Nat) : Int) := nI_toInt (by omega); have := i_nle c6; have : (24 : Int32).toInt = 24 := rfl; omega) (by omega))) ?_
              refine WR_tI (congrArg (hI (sI h (ad 0) 6 0) (ad 31)) ((nI_clamp (by have := i_nlt c4; have := i_rg d; have : (0 : Int32).toInt = 0 := rfl; have := i_eq ek5; have : (nI k5).toInt = ((k5 : Nat) : Int) := nI_toInt (by omega); have := i_nle c6; have : (24 : Int32).toInt = 24 := rfl; omega)) : _ = k5)) ?_
              refine WR_tI (y := (-1)) (Eq.trans (I_ne (fx_ne fx (by decide))) v11) ?_
              refine r_istore (lv' := [some (.ref (ad 30)), some (.int c), some (.int d), some (.int (nI t7)), some (.int (-1)), none]) rfl (Nat.le_of_ble_eq_true rfl) rfl ?_
              refine r_iload rfl rfl ?_
              refine r_iload rfl rfl ?_
              refine r_icmp_ne (tg := 48) rfl rfl (fun _ => ?_) (fun q => False.elim (by have : (nI t7).toInt = ((t7 : Nat) : Int) := nI_toInt (by omega); have : (-1 : Int32).toInt = -1 := rfl; have := i_eq q; omega))
              refine r_iload rfl rfl ?_
              refine r_ic (x := (-1)) rfl rfl ?_
              refine r_icmp_eq (tg := 90) rfl rfl (fun q => False.elim (by have : (nI t7).toInt = ((t7 : Nat) : Int) := nI_toInt (by omega); have : (-1 : Int32).toInt = -1 := rfl; have := i_eq q; omega)) (fun _ => ?_)
              refine r_iload rfl rfl ?_
              refine r_ic (x := (-1)) rfl rfl ?_
              refine r_icmp_eq (tg := 90) rfl rfl (fun _ => ?_) (fun q => absurd q (by decide))
              refine r_aload rfl rfl ?_
              refine r_ic (x := 0) rfl rfl ?_
              refine r_cv (y := 154) (ra := [.int 0]) (rest := []) rfl ⟨⟨rfl, rfl⟩, rfl, by decide⟩ (fx_t30 fx) rfl rfl (Nat.le_of_ble_eq_true rfl) ?_
              refine in_154 (Nat.le_of_ble_eq_true rfl) ?_
              show WR _ cd_154 0 [some (.ref (ad 30)), some (.int 0)] [] (sI h (ad 0) 6 0) _
              refine r_aload rfl rfl ?_
              refine r_iload rfl rfl ?_
              refine r_ic (x := (-1)) rfl rfl ?_
              refine r_icmp_ge (tg := 10) rfl rfl (fun _ => ?_) (fun q => absurd q (by decide))
              refine r_ic (x := 0) rfl rfl ?_
              refine r_putI rfl ⟨rfl, rfl, rfl⟩ (fx_t30 fx) ?_
              have fx : FX n ad sa z0 (sI (sI h (ad 0) 6 0) (ad 30) 11 0) := (FX.sI fx)
              refine r_iload rfl rfl ?_
              refine r_iret rfl ?_
              show WR _ cd_181 95 [some (.ref (ad 30)), some (.int c), some (.int d), some (.int (nI t7)), some (.int (-1)), none] [.int 0] (sI (sI h (ad 0) 6 0) (ad 30) 11 0) _
              refine r_iret rfl ?_
              exact ⟨rfl, Rel.why r ((Chg.rf.sI (fx_j fx) (.inl (by decide))).sI (fx_j fx) (.inl (by decide))) ⟨rfl, by decide⟩ (Eq.trans (Eq.trans (I_ne (fx_ne fx (by decide))) I_eq) (Eq.symm I_eq)), (by (try simp only [hZ_sI, hZ_sL, hZ_sD, hZ_sR]); omega), (by (try simp only [hU_sI, hU_sL, hU_sD, hU_sR]); omega)⟩
            · refine r_aaloadA (b := pa q11) rfl (isQ_of (fx_t1 fx) (by decide)) (vp_ct (fx_n1 fx) (vp_in_nI (by have := i_nlt c4; have := i_rg d; have : (0 : Int32).toInt = 0 := rfl; have := i_eq ek5; have : (nI k5).toInt = ((k5 : Nat) : Int) := nI_toInt (by omega); have := i_nle c6; have : (24 : Int32).toInt = 24 := rfl; omega) (by omega))) (Eq.trans (congrArg (hR (sI h (ad 0) 6 0) (ad 1)) ((nI_clamp (by have := i_nlt c4; have := i_rg d; have : (0 : Int32).toInt = 0 := rfl; have := i_eq ek5; have : (nI k5).toInt = ((k5 : Nat) : Int) := nI_toInt (by omega); have := i_nle c6; have : (24 : Int32).toInt = 24 := rfl; omega)) : _ = k5)) (Eq.trans R_oI w11)) ?_
              refine r_astore (lv' := [some (.ref (ad 0)), some (.int c), some (.int d), some (.ref (mid t7)), some (.ref (pa q11))]) rfl (Nat.le_of_ble_eq_true rfl) rfl ?_
              refine r_aload rfl rfl ?_
              refine r_aload rfl rfl ?_
              refine r_acmpA_ne (tg := 49) rfl rfl (fun _ => ?_) (fun q => absurd q (fun e => by have q1 := tg7; have q2 := tg11; rw [e, q2] at q1; cases q1))
              refine r_aload rfl rfl ?_
              refine r_ifnullA (tg := 71) rfl rfl ?_
              refine r_aload rfl rfl ?_
              refine r_ifnullA (tg := 71) rfl rfl ?_
              refine r_aload rfl rfl ?_
              refine r_aload rfl rfl ?_
              refine r_cw (y := 61) (ra := [.ref (pa q11)]) (rest := []) rfl ⟨rfl, rfl⟩ (by rw [show hT (sI h (ad 0) 6 0) (mid t7) = 5 from tg7]; rfl) rfl rfl (Nat.le_of_ble_eq_true rfl) ?_
              refine in_61 (Nat.le_of_ble_eq_true rfl) ?_
              show WR _ cd_61 0 [some (.ref (mid t7)), some (.ref (pa q11)), none, none] [] (sI h (ad 0) 6 0) _
              refine r_aload rfl rfl ?_
              refine r_instW rfl (by decide) tg11 (by decide) ?_
              refine r_if_eq (tg := 36) rfl rfl (fun _ => ?_) (fun q => absurd q (by decide))
              refine r_ic (x := 0) rfl rfl ?_
              refine r_zret rfl (.inl rfl) ?_
              show WR _ cd_59 64 [some (.ref (ad 0)), some (.int c), some (.int d), some (.ref (mid t7)), some (.ref (pa q11))] [.int 0] (sI h (ad 0) 6 0) _
              refine r_if_eq (tg := 71) rfl rfl (fun _ => ?_) (fun q => absurd q (by decide))
              refine r_ic (x := 0) rfl rfl ?_
              refine r_iret rfl ?_
              show EV _ 181 [.ref (ad 30), .int c, .int d] (sI h (ad 0) 6 0) _
              refine in_181 (Nat.le_of_ble_eq_true rfl) ?_
              show WR _ cd_181 0 [some (.ref (ad 30)), some (.int c), some (.int d), none, none, none] [] (sI h (ad 0) 6 0) _
              refine r_iload rfl rfl ?_
              refine WR_tI (y := nI k2) ek2 ?_
              refine r_cs (y := 153) (ra := [.int (nI k2)]) (rest := []) rfl ⟨⟨rfl, rfl⟩, by decide⟩ rfl rfl (Nat.le_of_ble_eq_true rfl) ?_
              refine in_153 (Nat.le_of_ble_eq_true rfl) ?_
              show WR _ cd_153 0 [some (.int (nI k2))] [] (sI h (ad 0) 6 0) _
              refine r_iload rfl rfl ?_
              refine r_if_lt (tg := 14) rfl rfl (fun q => False.elim (by have := i_nlt c1; have := i_rg c; have : (0 : Int32).toInt = 0 := rfl; have := i_eq ek2; have : (nI k2).toInt = ((k2 : Nat) : Int) := nI_toInt (by omega); have := i_nle c3; have : (24 : Int32).toInt = 24 := rfl; have := i_lt q; omega)) (fun _ => ?_)
              refine r_iload rfl rfl ?_
              refine r_ic (x := 24) rfl rfl ?_
              refine r_icmp_ge (tg := 14) rfl rfl (fun q => False.elim (by have := i_nlt c1; have := i_rg c; have : (0 : Int32).toInt = 0 := rfl; have := i_eq ek2; have : (nI k2).toInt = ((k2 : Nat) : Int) := nI_toInt (by omega); have := i_nle c3; have : (24 : Int32).toInt = 24 := rfl; have := i_le q; omega)) (fun _ => ?_)
              refine r_ic (x := 1) rfl rfl ?_
              refine r_goto (tg := 15) rfl rfl ?_
              refine r_zret rfl (.inr rfl) ?_
              show WR _ cd_181 4 [some (.ref (ad 30)), some (.int c), some (.int d), none, none, none] [.int 1] (sI h (ad 0) 6 0) _
              refine r_if_eq (tg := 14) rfl rfl (fun q => absurd q (by decide)) (fun _ => ?_)
              refine r_iload rfl rfl ?_
              refine WR_tI (y := nI k5) ek5 ?_
              refine r_cs (y := 153) (ra := [.int (nI k5)]) (rest := []) rfl ⟨⟨rfl, rfl⟩, by decide⟩ rfl rfl (Nat.le_of_ble_eq_true rfl) ?_
              refine in_153 (Nat.le_of_ble_eq_true rfl) ?_
              show WR _ cd_153 0 [some (.int (nI k5))] [] (sI h (ad 0) 6 0) _
              refine r_iload rfl rfl ?_
              refine r_if_lt (tg := 14) rfl rfl (fun q => False.elim (by have := i_nlt c4; have := i_rg d; have : (0 : Int32).toInt = 0 := rfl; have := i_eq ek5; have : (nI k5).toInt = ((k5 : Nat) : Int) := nI_toInt (by omega); have := i_nle c6; have : (24 : Int32).toInt = 24 := rfl; have := i_lt q; omega)) (fun _ => ?_)
              refine r_iload rfl rfl ?_
              refine r_ic (x := 24) rfl rfl ?_
              refine r_icmp_ge (tg := 14) rfl rfl (fun q => False.elim (by have := i_nlt c4; have := i_rg d; have : (0 : Int32).toInt = 0 := rfl; have := i_eq ek5; have : (nI k5).toInt = ((k5 : Nat) : Int) := nI_toInt (by omega); have := i_nle c6; have : (24 : Int32).toInt = 24 := rfl; have := i_le q; omega)) (fun _ => ?_)
              refine r_ic (x := 1) rfl rfl ?_
              refine r_goto (tg := 15) rfl rfl ?_
              refine r_zret rfl (.inr rfl) ?_
              show WR _ cd_181 11 [some (.ref (ad 30)), some (.int c), some (.int d), none, none, none] [.int 1] (sI h (ad 0) 6 0) _
              refine r_if_ne (tg := 21) rfl rfl (fun _ => ?_) (fun q => absurd q (by decide))
              refine r_aload rfl rfl ?_
              refine r_getA (b := ad 31) rfl ⟨rfl, rfl, rfl⟩ (fx_t30 fx) (fx_r30_0 fx) ?_
              refine r_iload rfl rfl ?_
              refine WR_tI (y := nI k2) ek2 ?_
              refine r_iaload rfl (.inl (fx_t31 fx)) (vp_ct (fx_n31 fx) (vp_in_nI (by have := i_nlt c1; have := i_rg c; have : (0 : Int32).toInt = 0 := rfl; have := i_eq ek2; have : (nI k2).toInt = ((k2 : Nat) : Int) := nI_toInt (by omega); have := i_nle c3; have : (24 : Int32).toInt = 24 := rfl; omega) (by omega))) ?_
              refine WR_tI (congrArg (hI (sI h (ad 0) 6 0) (ad 31)) ((nI_clamp (by have := i_nlt c1; have := i_rg c; have : (0 : Int32).toInt = 0 := rfl; have := i_eq ek2; have : (nI k2).toInt = ((k2 : Nat) : Int) := nI_toInt (by omega); have := i_nle c3; have : (24 : Int32).toInt = 24 := rfl; omega)) : _ = k2)) ?_
              refine WR_tI (y := nI t7) (Eq.trans (I_ne (fx_ne fx (by decide))) v7) ?_
              refine r_istore (lv' := [some (.ref (ad 30)), some (.int c), some (.int d), some (.int (nI t7)), none, none]) rfl (Nat.le_of_ble_eq_true rfl) rfl ?_
              refine r_aload rfl rfl ?_
              refine r_getA (b := ad 31) rfl ⟨rfl, rfl, rfl⟩ (fx_t30 fx) (fx_r30_0 fx) ?_
              refine r_iload rfl rfl ?_
              refine WR_tI (y := nI k5) ek5 ?_
              refine r_iaload rfl (.inl (fx_t31 fx)) (vp_ct (fx_n31 fx) (vp_in_nI (by have := i_nlt c4; have := i_rg d; have : (0 : Int32).toInt = 0 := rfl; have := i_eq ek5; have : (nI k5).toInt = ((k5 : Nat) : Int) := nI_toInt (by omega); have := i_nle c6; have : (24 : Int32).toInt = 24 := rfl; omega) (by omega))) ?_
              refine WR_tI (congrArg (hI (sI h (ad 0) 6 0) (ad 31)) ((nI_clamp (by have := i_nlt c4; have := i_rg d; have : (0 : Int32).toInt = 0 := rfl; have := i_eq ek5; have : (nI k5).toInt = ((k5 : Nat) : Int) := nI_toInt (by omega); have := i_nle c6; have : (24 : Int32).toInt = 24 := rfl; omega)) : _ = k5)) ?_
              refine WR_tI (y := nI (q11 + 1000)) (Eq.trans (I_ne (fx_ne fx (by decide))) v11) ?_
              refine r_istore (lv' := [some (.ref (ad 30)), some (.int c), some (.int d), some (.int (nI t7)), some (.int (nI (q11 + 1000))), none]) rfl (Nat.le_of_ble_eq_true rfl) rfl ?_
              refine r_iload rfl rfl ?_
              refine r_iload rfl rfl ?_
              refine r_icmp_ne (tg := 48) rfl rfl (fun _ => ?_) (fun q => False.elim (by have : (nI t7).toInt = ((t7 : Nat) : Int) := nI_toInt (by omega); have : (nI (q11 + 1000)).toInt = ((q11 + 1000 : Nat) : Int) := nI_toInt (by omega); have := i_eq q; omega))
              refine r_iload rfl rfl ?_
              refine r_ic (x := (-1)) rfl rfl ?_
              refine r_icmp_eq (tg := 90) rfl rfl (fun q => False.elim (by have : (nI t7).toInt = ((t7 : Nat) : Int) := nI_toInt (by omega); have : (-1 : Int32).toInt = -1 := rfl; have := i_eq q; omega)) (fun _ => ?_)
              refine r_iload rfl rfl ?_
              refine r_ic (x := (-1)) rfl rfl ?_
              refine r_icmp_eq (tg := 90) rfl rfl (fun q => False.elim (by have : (nI (q11 + 1000)).toInt = ((q11 + 1000 : Nat) : Int) := nI_toInt (by omega); have : (-1 : Int32).toInt = -1 := rfl; have := i_eq q; omega)) (fun _ => ?_)
              refine r_iload rfl rfl ?_
              refine r_ic (x := 1000) rfl rfl ?_
              refine r_icmp_ge (tg := 90) rfl rfl (fun q => False.elim (by have : (nI t7).toInt = ((t7 : Nat) : Int) := nI_toInt (by omega); have : (1000 : Int32).toInt = 1000 := rfl; have := i_le q; omega)) (fun _ => ?_)
              refine r_iload rfl rfl ?_
              refine r_ic (x := 1000) rfl rfl ?_
              refine r_icmp_ge (tg := 90) rfl rfl (fun _ => ?_) (fun q => False.elim (by have : (nI (q11 + 1000)).toInt = ((q11 + 1000 : Nat) : Int) := nI_toInt (by omega); have : (1000 : Int32).toInt = 1000 := rfl; have := i_nle q; omega))
              refine r_aload rfl rfl ?_
              refine r_ic (x := 0) rfl rfl ?_
              refine r_cv (y := 154) (ra := [.int 0]) (rest := []) rfl ⟨⟨rfl, rfl⟩, rfl, by decide⟩ (fx_t30 fx) rfl rfl (Nat.le_of_ble_eq_true rfl) ?_
              refine in_154 (Nat.le_of_ble_eq_true rfl) ?_
              show WR _ cd_154 0 [some (.ref (ad 30)), some (.int 0)] [] (sI h (ad 0) 6 0) _
              refine r_aload rfl rfl ?_
              refine r_iload rfl rfl ?_
              refine r_ic (x := (-1)) rfl rfl ?_
              refine r_icmp_ge (tg := 10) rfl rfl (fun _ => ?_) (fun q => absurd q (by decide))
              refine r_ic (x := 0) rfl rfl ?_
              refine r_putI rfl ⟨rfl, rfl, rfl⟩ (fx_t30 fx) ?_
              have fx : FX n ad sa z0 (sI (sI h (ad 0) 6 0) (ad 30) 11 0) := (FX.sI fx)
              refine r_iload rfl rfl ?_
              refine r_iret rfl ?_
              show WR _ cd_181 95 [some (.ref (ad 30)), some (.int c), some (.int d), some (.int (nI t7)), some (.int (nI (q11 + 1000))), none] [.int 0] (sI (sI h (ad 0) 6 0) (ad 30) 11 0) _
              refine r_iret rfl ?_
              exact ⟨rfl, Rel.why r ((Chg.rf.sI (fx_j fx) (.inl (by decide))).sI (fx_j fx) (.inl (by decide))) ⟨rfl, by decide⟩ (Eq.trans (Eq.trans (I_ne (fx_ne fx (by decide))) I_eq) (Eq.symm I_eq)), (by (try simp only [hZ_sI, hZ_sL, hZ_sD, hZ_sR]); omega), (by (try simp only [hU_sI, hU_sL, hU_sD, hU_sR]); omega)⟩
            · refine r_aaloadA (b := mid t11) rfl (isQ_of (fx_t1 fx) (by decide)) (vp_ct (fx_n1 fx) (vp_in_nI (by have := i_nlt c4; have := i_rg d; have : (0 : Int32).toInt = 0 := rfl; have := i_eq ek5; have : (nI k5).toInt = ((k5 : Nat) : Int) := nI_toInt (by omega); have := i_nle c6; have : (24 : Int32).toInt = 24 := rfl; omega) (by omega))) (Eq.trans (congrArg (hR (sI h (ad 0) 6 0) (ad 1)) ((nI_clamp (by have := i_nlt c4; have := i_rg d; have : (0 : Int32).toInt = 0 := rfl; have := i_eq ek5; have : (nI k5).toInt = ((k5 : Nat) : Int) := nI_toInt (by omega); have := i_nle c6; have : (24 : Int32).toInt = 24 := rfl; omega)) : _ = k5)) (Eq.trans R_oI w11)) ?_
              refine r_astore (lv' := [some (.ref (ad 0)), some (.int c), some (.int d), some (.ref (mid t7)), some (.ref (mid t11))]) rfl (Nat.le_of_ble_eq_true rfl) rfl ?_
              refine r_aload rfl rfl ?_
              refine r_aload rfl rfl ?_
              refine r_acmpA_ne (tg := 49) rfl rfl (fun c12 => ?_) (fun c12 => ?_)
              · have c12e : ¬ t7 = t11 := fun e => c12 (by rw [e])
                refine r_aload rfl rfl ?_
                refine r_ifnullA (tg := 71) rfl rfl ?_
                refine r_aload rfl rfl ?_
                refine r_ifnullA (tg := 71) rfl rfl ?_
                refine r_aload rfl rfl ?_
                refine r_aload rfl rfl ?_
                refine r_cw (y := 61) (ra := [.ref (mid t11)]) (rest := []) rfl ⟨rfl, rfl⟩ (by rw [show hT (sI h (ad 0) 6 0) (mid t7) = 5 from tg7]; rfl) rfl rfl (Nat.le_of_ble_eq_true rfl) ?_
                have rsy : Rs ad z0 mid pa np (sI h (ad 0) 6 0) := Rs.y fx0 rs
                have smy : smS ad z0 h (sI h (ad 0) 6 0) := smY fx0
                obtain ⟨P, pl, p1, p2⟩ := al_r (H := sI h (ad 0) 6 0) fx ht7 ht11 (rw7.s smy) (rw11.s smy)
                refine p1 _ _ (fun hP => ?_) (fun hP => ?_)
                · show WR _ cd_59 64 [some (.ref (ad 0)), some (.int c), some (.int d), some (.ref (mid t7)), some (.ref (mid t11))] [.int 1] (sI h (ad 0) 6 0) _
                  refine r_if_eq (tg := 71) rfl rfl (fun q => absurd q (by decide)) (fun _ => ?_)
                  refine r_ic (x := 2) rfl rfl ?_
                  refine r_goto (tg := 72) rfl rfl ?_
                  refine r_iret rfl ?_
                  show EV _ 181 [.ref (ad 30), .int c, .int d] (sI h (ad 0) 6 0) _
                  refine in_181 (Nat.le_of_ble_eq_true rfl) ?_
                  show WR _ cd_181 0 [some (.ref (ad 30)), some (.int c), some (.int d), none, none, none] [] (sI h (ad 0) 6 0) _
                  refine r_iload rfl rfl ?_
                  refine WR_tI (y := nI k2) ek2 ?_
                  refine r_cs (y := 153) (ra := [.int (nI k2)]) (rest := []) rfl ⟨⟨rfl, rfl⟩, by decide⟩ rfl rfl (Nat.le_of_ble_eq_true rfl) ?_
                  refine in_153 (Nat.le_of_ble_eq_true rfl) ?_
                  show WR _ cd_153 0 [some (.int (nI k2))] [] (sI h (ad 0) 6 0) _
                  refine r_iload rfl rfl ?_
                  refine r_if_lt (tg := 14) rfl rfl (fun q => False.elim (by have := i_nlt c1; have := i_rg c; have : (0 : Int32).toInt = 0 := rfl; have := i_eq ek2; have : (nI k2).toInt = ((k2 : Nat) : Int) := nI_toInt (by omega); have := i_nle c3; have : (24 : Int32).toInt = 24 := rfl; have := i_lt q; omega)) (fun _ => ?_)
                  refine r_iload rfl rfl ?_
                  refine r_ic (x := 24) rfl rfl ?_
                  refine r_icmp_ge (tg := 14) rfl rfl (fun q => False.elim (by have := i_nlt c1; have := i_rg c; have : (0 : Int32).toInt = 0 := rfl; have := i_eq ek2; have : (nI k2).toInt = ((k2 : Nat) : Int) := nI_toInt (by omega); have := i_nle c3; have : (24 : Int32).toInt = 24 := rfl; have := i_le q; omega)) (fun _ => ?_)
                  refine r_ic (x := 1) rfl rfl ?_
                  refine r_goto (tg := 15) rfl rfl ?_
                  refine r_zret rfl (.inr rfl) ?_
                  show WR _ cd_181 4 [some (.ref (ad 30)), some (.int c), some (.int d), none, none, none] [.int 1] (sI h (ad 0) 6 0) _
                  refine r_if_eq (tg := 14) rfl rfl (fun q => absurd q (by decide)) (fun _ => ?_)
                  refine r_iload rfl rfl ?_
                  refine WR_tI (y := nI k5) ek5 ?_
                  refine r_cs (y := 153) (ra := [.int (nI k5)]) (rest := []) rfl ⟨⟨rfl, rfl⟩, by decide⟩ rfl rfl (Nat.le_of_ble_eq_true rfl) ?_
                  refine in_153 (Nat.le_of_ble_eq_true rfl) ?_
                  show WR _ cd_153 0 [some (.int (nI k5))] [] (sI h (ad 0) 6 0) _
                  refine r_iload rfl rfl ?_
                  refine r_if_lt (tg := 14) rfl rfl (fun q => False.elim (by have := i_nlt c4; have := i_rg d; have : (0 : Int32).toInt = 0 := rfl; have := i_eq ek5; have : (nI k5).toInt = ((k5 : Nat) : Int) := nI_toInt (by omega); have := i_nle c6; have : (24 : Int32).toInt = 24 := rfl; have := i_lt q; omega)) (fun _ => ?_)
                  refine r_iload rfl rfl ?_
                  refine r_ic (x := 24) rfl rfl ?_
                  refine r_icmp_ge (tg := 14) rfl rfl (fun q => False.elim (by have := i_nlt c4; have := i_rg d; have : (0 : Int32).toInt = 0 := rfl; have := i_eq ek5; have : (nI k5).toInt = ((k5 : Nat) : Int) := nI_toInt (by omega); have := i_nle c6; have : (24 : Int32).toInt = 24 := rfl; have := i_le q; omega)) (fun _ => ?_)
                  refine r_ic (x := 1) rfl rfl ?_
                  refine r_goto (tg := 15) rfl rfl ?_
                  refine r_zret rfl (.inr rfl) ?_
                  show WR _ cd_181 11 [some (.ref (ad 30)), some (.int c), some (.int d), none, none, none] [.int 1] (sI h (ad 0) 6 0) _
                  refine r_if_ne (tg := 21) rfl rfl (fun _ => ?_) (fun q => absurd q (by decide))
                  refine r_aload rfl rfl ?_
                  refine r_getA (b := ad 31) rfl ⟨rfl, rfl, rfl⟩ (fx_t30 fx) (fx_r30_0 fx) ?_
                  refine r_iload rfl rfl ?_
                  refine WR_tI (y := nI k2) ek2 ?_
                  refine r_iaload rfl (.inl (fx_t31 fx)) (vp_ct (fx_n31 fx) (vp_in_nI (by have := i_nlt c1; have := i_rg c; have : (0 : Int32).toInt = 0 := rfl; have := i_eq ek2; have : (nI k2).toInt = ((k2 : Nat) : Int) := nI_toInt (by omega); have := i_nle c3; have : (24 : Int32).toInt = 24 := rfl; omega) (by omega))) ?_
                  refine WR_tI (congrArg (hI (sI h (ad 0) 6 0) (ad 31)) ((nI_clamp (by have := i_nlt c1; have := i_rg c; have : (0 : Int32).toInt = 0 := rfl; have := i_eq ek2; have : (nI k2).toInt = ((k2 : Nat) : Int) := nI_toInt (by omega); have := i_nle c3; have : (24 : Int32).toInt = 24 := rfl; omega)) : _ = k2)) ?_
                  refine WR_tI (y := nI t7) (Eq.trans (I_ne (fx_ne fx (by decide))) v7) ?_
                  refine r_istore (lv' := [some (.ref (ad 30)), some (.int c), some (.int d), some (.int (nI t7)), none, none]) rfl (Nat.le_of_ble_eq_true rfl) rfl ?_
                  refine r_aload rfl rfl ?_
                  refine r_getA (b := ad 31) rfl ⟨rfl, rfl, rfl⟩ (fx_t30 fx) (fx_r30_0 fx) ?_
                  refine r_iload rfl rfl ?_
                  refine WR_tI (y := nI k5) ek5 ?_
                  refine r_iaload rfl (.inl (fx_t31 fx)) (vp_ct (fx_n31 fx) (vp_in_nI (by have := i_nlt c4; have := i_rg d; have : (0 : Int32).toInt = 0 := rfl; have := i_eq ek5; have : (nI k5).toInt = ((k5 : Nat) : Int) := nI_toInt (by omega); have := i_nle c6; have : (24 : Int32).toInt = 24 := rfl; omega) (by omega))) ?_
                  refine WR_tI (congrArg (hI (sI h (ad 0) 6 0) (ad 31)) ((nI_clamp (by have := i_nlt c4; have := i_rg d; have : (0 : Int32).toInt = 0 := rfl; have := i_eq ek5; have : (nI k5).toInt = ((k5 : Nat) : Int) := nI_toInt (by omega); have := i_nle c6; have : (24 : Int32).toInt = 24 := rfl; omega)) : _ = k5)) ?_
                  refine WR_tI (y := nI t11) (Eq.trans (I_ne (fx_ne fx (by decide))) v11) ?_
                  refine r_istore (lv' := [some (.ref (ad 30)), some (.int c), some (.int d), some (.int (nI t7)), some (.int (nI t11)), none]) rfl (Nat.le_of_ble_eq_true rfl) rfl ?_
                  refine r_iload rfl rfl ?_
                  refine r_iload rfl rfl ?_
                  refine r_icmp_ne (tg := 48) rfl rfl (fun _ => ?_) (fun q => False.elim (by have : (nI t7).toInt = ((t7 : Nat) : Int) := nI_toInt (by omega); have : (nI t11).toInt = ((t11 : Nat) : Int) := nI_toInt (by omega); have := i_eq q; omega))
                  refine r_iload rfl rfl ?_
                  refine r_ic (x := (-1)) rfl rfl ?_
                  refine r_icmp_eq (tg := 90) rfl rfl (fun q => False.elim (by have : (nI t7).toInt = ((t7 : Nat) : Int) := nI_toInt (by omega); have : (-1 : Int32).toInt = -1 := rfl; have := i_eq q; omega)) (fun _ => ?_)
                  refine r_iload rfl rfl ?_
                  refine r_ic (x := (-1)) rfl rfl ?_
                  refine r_icmp_eq (tg := 90) rfl rfl (fun q => False.elim (by have : (nI t11).toInt = ((t11 : Nat) : Int) := nI_toInt (by omega); have : (-1 : Int32).toInt = -1 := rfl; have := i_eq q; omega)) (fun _ => ?_)
                  refine r_iload rfl rfl ?_
                  refine r_ic (x := 1000) rfl rfl ?_
                  refine r_icmp_ge (tg := 90) rfl rfl (fun q => False.elim (by have : (nI t7).toInt = ((t7 : Nat) : Int) := nI_toInt (by omega); have : (1000 : Int32).toInt = 1000 := rfl; have := i_le q; omega)) (fun _ => ?_)
                  refine r_iload rfl rfl ?_
                  refine r_ic (x := 1000) rfl rfl ?_
                  refine r_icmp_ge (tg := 90) rfl rfl (fun q => False.elim (by have : (nI t11).toInt = ((t11 : Nat) : Int) := nI_toInt (by omega); have : (1000 : Int32).toInt = 1000 := rfl; have := i_le q; omega)) (fun _ => ?_)
                  refine r_aload rfl rfl ?_
                  refine r_getA (b := ad 33) rfl ⟨rfl, rfl, rfl⟩ (fx_t30 fx) (fx_r30_2 fx) ?_
                  refine r_iload rfl rfl ?_
                  refine r_iaload rfl (.inl (fx_t33 fx)) (vp_ct (fx_n33 fx) (vp_in_nI (by omega) (by omega))) ?_
                  refine WR_tI (congrArg (hI (sI h (ad 0) 6 0) (ad 33)) ((nI_clamp (by omega)) : _ = t7)) ?_
                  refine WR_tI (y := nI ln7) (Eq.trans (I_ne (fx_ne fx (by decide))) l2_7) ?_
                  refine r_aload rfl rfl ?_
                  refine r_getA (b := ad 33) rfl ⟨rfl, rfl, rfl⟩ (fx_t30 fx) (fx_r30_2 fx) ?_
                  refine r_iload rfl rfl ?_
                  refine r_iaload rfl (.inl (fx_t33 fx)) (vp_ct (fx_n33 fx) (vp_in_nI (by omega) (by omega))) ?_
                  refine WR_tI (congrArg (hI (sI h (ad 0) 6 0) (ad 33)) ((nI_clamp (by omega)) : _ = t11)) ?_
                  refine WR_tI (y := nI ln11) (Eq.trans (I_ne (fx_ne fx (by decide))) l2_11) ?_
                  refine r_icmp_eq (tg := 96) rfl rfl (fun _ => ?_) (fun q => False.elim (by have := pl hP; have : (nI ln7).toInt = ((ln7 : Nat) : Int) := nI_toInt (by omega); have : (nI ln11).toInt = ((ln11 : Nat) : Int) := nI_toInt (by omega); have := i_neq q; omega))
                  refine r_aload rfl rfl ?_
                  refine r_getA (b := ad 33) rfl ⟨rfl, rfl, rfl⟩ (fx_t30 fx) (fx_r30_2 fx) ?_
                  refine r_iload rfl rfl ?_
                  refine r_iaload rfl (.inl (fx_t33 fx)) (vp_ct (fx_n33 fx) (vp_in_nI (by omega) (by omega))) ?_
                  refine WR_tI (congrArg (hI (sI h (ad 0) 6 0) (ad 33)) ((nI_clamp (by omega)) : _ = t7)) ?_
                  refine WR_tI (y := nI ln7) (Eq.trans (I_ne (fx_ne fx (by decide))) l2_7) ?_
                  refine r_ic (x := 8) rfl rfl ?_
                  refine r_icmp_ne (tg := 117) rfl rfl (fun _ => ?_) (fun q => False.elim (by have := pl hP; have : (nI ln7).toInt = ((ln7 : Nat) : Int) := nI_toInt (by omega); have : (8 : Int32).toInt = 8 := rfl; have := i_eq q; omega))
                  refine r_aload rfl rfl ?_
                  refine r_iload rfl rfl ?_
                  refine r_iload rfl rfl ?_
                  refine r_cv (y := 183) (ra := [.int (nI t11), .int (nI t7)]) (rest := []) rfl ⟨⟨rfl, rfl⟩, rfl, by decide⟩ (fx_t30 fx) rfl rfl (Nat.le_of_ble_eq_true rfl) ?_
                  refine p2 _ (fun z => by omega) _ (fun _ => ?_) (fun z => absurd hP z)
                  show WR _ cd_181 124 [some (.ref (ad 30)), some (.int c), some (.int d), some (.int (nI t7)), some (.int (nI t11)), none] [.int 1] (sI h (ad 0) 6 0) _
                  refine r_istore (lv' := [some (.ref (ad 30)), some (.int c), some (.int d), some (.int (nI t7)), some (.int (nI t11)), some (.int 1)]) rfl (Nat.le_of_ble_eq_true rfl) rfl ?_
                  refine r_aload rfl rfl ?_
                  refine r_iload rfl rfl ?_
                  refine r_if_eq (tg := 136) rfl rfl (fun q => absurd q (by decide)) (fun _ => ?_)
                  refine r_ic (x := 2) rfl rfl ?_
                  refine r_goto (tg := 137) rfl rfl ?_
                  refine r_cv (y := 154) (ra := [.int 2]) (rest := []) rfl ⟨⟨rfl, rfl⟩, rfl, by decide⟩ (fx_t30 fx) rfl rfl (Nat.le_of_ble_eq_true rfl) ?_
                  refine in_154 (Nat.le_of_ble_eq_true rfl) ?_
                  show WR _ cd_154 0 [some (.ref (ad 30)), some (.int 2)] [] (sI h (ad 0) 6 0) _
                  refine r_aload rfl rfl ?_
                  refine r_iload rfl rfl ?_
                  refine r_ic (x := (-1)) rfl rfl ?_
                  refine r_icmp_ge (tg := 10) rfl rfl (fun _ => ?_) (fun q => absurd q (by decide))
                  refine r_ic (x := 0) rfl rfl ?_
                  refine r_putI rfl ⟨rfl, rfl, rfl⟩ (fx_t30 fx) ?_
                  have fx : FX n ad sa z0 (sI (sI h (ad 0) 6 0) (ad 30) 11 0) := (FX.sI fx)
                  refine r_iload rfl rfl ?_
                  refine r_iret rfl ?_
                  show WR _ cd_181 140 [some (.ref (ad 30)), some (.int c), some (.int d), some (.int (nI t7)), some (.int (nI t11)), some (.int 1)] [.int 2] (sI (sI h (ad 0) 6 0) (ad 30) 11 0) _
                  refine r_iret rfl ?_
                  exact ⟨rfl, Rel.why r ((Chg.rf.sI (fx_j fx) (.inl (by decide))).sI (fx_j fx) (.inl (by decide))) ⟨rfl, by decide⟩ (Eq.trans (Eq.trans (I_ne (fx_ne fx (by decide))) I_eq) (Eq.symm I_eq)), (by (try simp only [hZ_sI, hZ_sL, hZ_sD, hZ_sR]); omega), (by (try simp only [hU_sI, hU_sL, hU_sD, hU_sR]); omega)⟩
                · show WR _ cd_59 64 [some (.ref (ad 0)), some (.int c), some (.int d), some (.ref (mid t7)), some (.ref (mid t11))] [.int 0] (sI h (ad 0) 6 0) _
                  refine r_if_eq (tg := 71) rfl rfl (fun _ => ?_) (fun q => absurd q (by decide))
                  refine r_ic (x := 0) rfl rfl ?_
                  refine r_iret rfl ?_
                  show EV _ 181 [.ref (ad 30), .int c, .int d] (sI h (ad 0) 6 0) _
                  refine in_181 (Nat.le_of_ble_eq_true rfl) ?_
                  show WR _ cd_181 0 [some (.ref (ad 30)), some (.int c), some (.int d), none, none, none] [] (sI h (ad 0) 6 0) _
                  refine r_iload rfl rfl ?_
                  refine WR_tI (y := nI k2) ek2 ?_
                  refine r_cs (y := 153) (ra := [.int (nI k2)]) (rest := []) rfl ⟨⟨rfl, rfl⟩, by decide⟩ rfl rfl (Nat.le_of_ble_eq_true rfl) ?_
                  refine in_153 (Nat.le_of_ble_eq_true rfl) ?_
                  show WR _ cd_153 0 [some (.int (nI k2))] [] (sI h (ad 0) 6 0) _
                  refine r_iload rfl rfl ?_
                  refine r_if_lt (tg := 14) rfl rfl (fun q => False.elim (by have := i_nlt c1; have := i_rg c; have : (0 : Int32).toInt = 0 := rfl; have := i_eq ek2; have : (nI k2).toInt = ((k2 : Nat) : Int) := nI_toInt (by omega); have := i_nle c3; have : (24 : Int32).toInt = 24 := rfl; have := i_lt q; omega)) (fun _ => ?_)
                  refine r_iload rfl rfl ?_
                  refine r_ic (x := 24) rfl rfl ?_
                  refine r_icmp_ge (tg := 14) rfl rfl (fun q => False.elim (by have := i_nlt c1; have := i_rg c; have : (0 : Int32).toInt = 0 := rfl; have := i_eq ek2; have : (nI k2).toInt = ((k2 : Nat) : Int) := nI_toInt (by omega); have := i_nle c3; have : (24 : Int32).toInt = 24 := rfl; have := i_le q; omega)) (fun _ => ?_)
                  refine r_ic (x := 1) rfl rfl ?_
                  refine r_goto (tg := 15) rfl rfl ?_
                  refine r_zret rfl (.inr rfl) ?_
                  show WR _ cd_181 4 [some (.ref (ad 30)), some (.int c), some (.int d), none, none, none] [.int 1] (sI h (ad 0) 6 0) _
                  refine r_if_eq (tg := 14) rfl rfl (fun q => absurd q (by decide)) (fun _ => ?_)
                  refine r_iload rfl rfl ?_
                  refine WR_tI (y := nI k5) ek5 ?_
                  refine r_cs (y := 153) (ra := [.int (nI k5)]) (rest := []) rfl ⟨⟨rfl, rfl⟩, by decide⟩ rfl rfl (Nat.le_of_ble_eq_true rfl) ?_
                  refine in_153 (Nat.le_of_ble_eq_true rfl) ?_
                  show WR _ cd_153 0 [some (.int (nI k5))] [] (sI h (ad 0) 6 0) _
                  refine r_iload rfl rfl ?_
                  refine r_if_lt (tg := 14) rfl rfl (fun q => False.elim (by have := i_nlt c4; have := i_rg d; have : (0 : Int32).toInt = 0 := rfl; have := i_eq ek5; have : (nI k5).toInt = ((k5 : Nat) : Int) := nI_toInt (by omega); have := i_nle c6; have : (24 : Int32).toInt = 24 := rfl; have := i_lt q; omega)) (fun _ => ?_)
                  refine r_iload rfl rfl ?_
                  refine r_ic (x := 24) rfl rfl ?_
                  refine r_icmp_ge (tg := 14) rfl rfl (fun q => False.elim (by have := i_nlt c4; have := i_rg d; have : (0 : Int32).toInt = 0 := rfl; have := i_eq ek5; have : (nI k5).toInt = ((k5 : Nat) : Int) := nI_toInt (by omega); have := i_nle c6; have : (24 : Int32).toInt = 24 := rfl; have := i_le q; omega)) (fun _ => ?_)
                  refine r_ic (x := 1) rfl rfl ?_
                  refine r_goto (tg := 15) rfl rfl ?_
                  refine r_zret rfl (.inr rfl) ?_
                  show WR _ cd_181 11 [some (.ref (ad 30)), some (.int c), some (.int d), none, none, none] [.int 1] (sI h (ad 0) 6 0) _
                  refine r_if_ne (tg := 21) rfl rfl (fun _ => ?_) (fun q => absurd q (by decide))
                  refine r_aload rfl rfl ?_
                  refine r_getA (b := ad 31) rfl ⟨rfl, rfl, rfl⟩ (fx_t30 fx) (fx_r30_0 fx) ?_
                  refine r_iload rfl rfl ?_
                  refine WR_tI (y := nI k2) ek2 ?_
                  refine r_iaload rfl (.inl (fx_t31 fx)) (vp_ct (fx_n31 fx) (vp_in_nI (by have := i_nlt c1; have := i_rg c; have : (0 : Int32).toInt = 0 := rfl; have := i_eq ek2; have : (nI k2).toInt = ((k2 : Nat) : Int) := nI_toInt (by omega); have := i_nle c3; have : (24 : Int32).toInt = 24 := rfl; omega) (by omega))) ?_
                  refine WR_tI (congrArg (hI (sI h (ad 0) 6 0) (ad 31)) ((nI_clamp (by have := i_nlt c1; have := i_rg c; have : (0 : Int32).toInt = 0 := rfl; have := i_eq ek2; have : (nI k2).toInt = ((k2 : Nat) : Int) := nI_toInt (by omega); have := i_nle c3; have : (24 : Int32).toInt = 24 := rfl; omega)) : _ = k2)) ?_
                  refine WR_tI (y := nI t7) (Eq.trans (I_ne (fx_ne fx (by decide))) v7) ?_
                  refine r_istore (lv' := [some (.ref (ad 30)), some (.int c), some (.int d), some (.int (nI t7)), none, none]) rfl (Nat.le_of_ble_eq_true rfl) rfl ?_
                  refine r_aload rfl rfl ?_
                  refine r_getA (b := ad 31) rfl ⟨rfl, rfl, rfl⟩ (fx_t30 fx) (fx_r30_0 fx) ?_
                  refine r_iload rfl rfl ?_
                  refine WR_tI (y := nI k5) ek5 ?_
                  refine r_iaload rfl (.inl (fx_t31 fx)) (vp_ct (fx_n31 fx) (vp_in_nI (by have := i_nlt c4; have := i_rg d; have : (0 : Int32).toInt = 0 := rfl; have := i_eq ek5; have : (nI k5).toInt = ((k5 : Nat) : Int) := nI_toInt (by omega); have := i_nle c6; have : (24 : Int32).toInt = 24 := rfl; omega) (by omega))) ?_
                  refine WR_tI (congrArg (hI (sI h (ad 0) 6 0) (ad 31)) ((nI_clamp (by have := i_nlt c4; have := i_rg d; have : (0 : Int32).toInt = 0 := rfl; have := i_eq ek5; have : (nI k5).toInt = ((k5 : Nat) : Int) := nI_toInt (by omega); have := i_nle c6; have : (24 : Int32).toInt = 24 := rfl; omega)) : _ = k5)) ?_
                  refine WR_tI (y := nI t11) (Eq.trans (I_ne (fx_ne fx (by decide))) v11) ?_
                  refine r_istore (lv' := [some (.ref (ad 30)), some (.int c), some (.int d), some (.int (nI t7)), some (.int (nI t11)), none]) rfl (Nat.le_of_ble_eq_true rfl) rfl ?_
                  refine r_iload rfl rfl ?_
                  refine r_iload rfl rfl ?_
                  refine r_icmp_ne (tg := 48) rfl rfl (fun _ => ?_) (fun q => False.elim (by have : (nI t7).toInt = ((t7 : Nat) : Int) := nI_toInt (by omega); have : (nI t11).toInt = ((t11 : Nat) : Int) := nI_toInt (by omega); have := i_eq q; omega))
                  refine r_iload rfl rfl ?_
                  refine r_ic (x := (-1)) rfl rfl ?_
                  refine r_icmp_eq (tg := 90) rfl rfl (fun q => False.elim (by have : (nI t7).toInt = ((t7 : Nat) : Int) := nI_toInt (by omega); have : (-1 : Int32).toInt = -1 := rfl; have := i_eq q; omega)) (fun _ => ?_)
                  refine r_iload rfl rfl ?_
                  refine r_ic (x := (-1)) rfl rfl ?_
                  refine r_icmp_eq (tg := 90) rfl rfl (fun q => False.elim (by have : (nI t11).toInt = ((t11 : Nat) : Int) := nI_toInt (by omega); have : (-1 : Int32).toInt = -1 := rfl; have := i_eq q; omega)) (fun _ => ?_)
                  refine r_iload rfl rfl ?_
                  refine r_ic (x := 1000) rfl rfl ?_
                  refine r_icmp_ge (tg := 90) rfl rfl (fun q => False.elim (by have : (nI t7).toInt = ((t7 : Nat) : Int) := nI_toInt (by omega); have : (1000 : Int32).toInt = 1000 := rfl; have := i_le q; omega)) (fun _ => ?_)
                  refine r_iload rfl rfl ?_
                  refine r_ic (x := 1000) rfl rfl ?_
                  refine r_icmp_ge (tg := 90) rfl rfl (fun q => False.elim (by have : (nI t11).toInt = ((t11 : Nat) : Int) := nI_toInt (by omega); have : (1000 : Int32).toInt = 1000 := rfl; have := i_le q; omega)) (fun _ => ?_)
                  refine r_aload rfl rfl ?_
                  refine r_getA (b := ad 33) rfl ⟨rfl, rfl, rfl⟩ (fx_t30 fx) (fx_r30_2 fx) ?_
                  refine r_iload rfl rfl ?_
                  refine r_iaload rfl (.inl (fx_t33 fx)) (vp_ct (fx_n33 fx) (vp_in_nI (by omega) (by omega))) ?_
                  refine WR_tI (congrArg (hI (sI h (ad 0) 6 0) (ad 33)) ((nI_clamp (by omega)) : _ = t7)) ?_
                  refine WR_tI (y := nI ln7) (Eq.trans (I_ne (fx_ne fx (by decide))) l2_7) ?_
                  refine r_aload rfl rfl ?_
                  refine r_getA (b := ad 33) rfl ⟨rfl, rfl, rfl⟩ (fx_t30 fx) (fx_r30_2 fx) ?_
                  refine r_iload rfl rfl ?_
                  refine r_iaload rfl (.inl (fx_t33 fx)) (vp_ct (fx_n33 fx) (vp_in_nI (by omega) (by omega))) ?_
                  refine WR_tI (congrArg (hI (sI h (ad 0) 6 0) (ad 33)) ((nI_clamp (by omega)) : _ = t11)) ?_
                  refine WR_tI (y := nI ln11) (Eq.trans (I_ne (fx_ne fx (by decide))) l2_11) ?_
                  refine r_icmp_eq (tg := 96) rfl rfl (fun c13 => ?_) (fun c13 => ?_)
                  · refine r_aload rfl rfl ?_
                    refine r_getA (b := ad 33) rfl ⟨rfl, rfl, rfl⟩ (fx_t30 fx) (fx_r30_2 fx) ?_
                    refine r_iload rfl rfl ?_
                    refine r_iaload rfl (.inl (fx_t33 fx)) (vp_ct (fx_n33 fx) (vp_in_nI (by omega) (by omega))) ?_
                    refine WR_tI (congrArg (hI (sI h (ad 0) 6 0) (ad 33)) ((nI_clamp (by omega)) : _ = t7)) ?_
                    refine WR_tI (y := nI ln7) (Eq.trans (I_ne (fx_ne fx (by decide))) l2_7) ?_
                    refine r_ic (x := 8) rfl rfl ?_
                    refine r_icmp_ne (tg := 117) rfl rfl (fun _ => ?_) (fun q => False.elim (by have := i_eq c13; have : (nI ln7).toInt = ((ln7 : Nat) : Int) := nI_toInt (by omega); have : (nI ln11).toInt = ((ln11 : Nat) : Int) := nI_toInt (by omega); have : (8 : Int32).toInt = 8 := rfl; have := i_eq q; omega))
                    refine r_aload rfl rfl ?_
                    refine r_iload rfl rfl ?_
                    refine r_iload rfl rfl ?_
                    refine r_cv (y := 183) (ra := [.int (nI t11), .int (nI t7)]) (rest := []) rfl ⟨⟨rfl, rfl⟩, rfl, by decide⟩ (fx_t30 fx) rfl rfl (Nat.le_of_ble_eq_true rfl) ?_
                    refine p2 _ (fun z => by omega) _ (fun z => absurd z hP) (fun _ => ?_)
                    show WR _ cd_181 124 [some (.ref (ad 30)), some (.int c), some (.int d), some (.int (nI t7)), some (.int (nI t11)), none] [.int 0] (sI h (ad 0) 6 0) _
                    refine r_istore (lv' := [some (.ref (ad 30)), some (.int c), some (.int d), some (.int (nI t7)), some (.int (nI t11)), some (.int 0)]) rfl (Nat.le_of_ble_eq_true rfl) rfl ?_
                    refine r_aload rfl rfl ?_
                    refine r_iload rfl rfl ?_
                    refine r_if_eq (tg := 136) rfl rfl (fun _ => ?_) (fun q => absurd q (by decide))
                    refine r_ic (x := 0) rfl rfl ?_
                    refine r_cv (y := 154) (ra := [.int 0]) (rest := []) rfl ⟨⟨rfl, rfl⟩, rfl, by decide⟩ (fx_t30 fx) rfl rfl (Nat.le_of_ble_eq_true rfl) ?_
                    refine in_154 (Nat.le_of_ble_eq_true rfl) ?_
                    show WR _ cd_154 0 [some (.ref (ad 30)), some (.int 0)] [] (sI h (ad 0) 6 0) _
                    refine r_aload rfl rfl ?_
                    refine r_iload rfl rfl ?_
                    refine r_ic (x := (-1)) rfl rfl ?_
                    refine r_icmp_ge (tg := 10) rfl rfl (fun _ => ?_) (fun q => absurd q (by decide))
                    refine r_ic (x := 0) rfl rfl ?_
                    refine r_putI rfl ⟨rfl, rfl, rfl⟩ (fx_t30 fx) ?_
                    have fx : FX n ad sa z0 (sI (sI h (ad 0) 6 0) (ad 30) 11 0) := (FX.sI fx)
                    refine r_iload rfl rfl ?_
                    refine r_iret rfl ?_
                    show WR _ cd_181 140 [some (.ref (ad 30)), some (.int c), some (.int d), some (.int (nI t7)), some (.int (nI t11)), some (.int 0)] [.int 0] (sI (sI h (ad 0) 6 0) (ad 30) 11 0) _
                    refine r_iret rfl ?_
                    exact ⟨rfl, Rel.why r ((Chg.rf.sI (fx_j fx) (.inl (by decide))).sI (fx_j fx) (.inl (by decide))) ⟨rfl, by decide⟩ (Eq.trans (Eq.trans (I_ne (fx_ne fx (by decide))) I_eq) (Eq.symm I_eq)), (by (try simp only [hZ_sI, hZ_sL, hZ_sD, hZ_sR]); omega), (by (try simp only [hU_sI, hU_sL, hU_sD, hU_sR]); omega)⟩
                  · refine r_aload rfl rfl ?_
                    refine r_ic (x := 0) rfl rfl ?_
                    refine r_cv (y := 154) (ra := [.int 0]) (rest := []) rfl ⟨⟨rfl, rfl⟩, rfl, by decide⟩ (fx_t30 fx) rfl rfl (Nat.le_of_ble_eq_true rfl) ?_
                    refine in_154 (Nat.le_of_ble_eq_true rfl) ?_
                    show WR _ cd_154 0 [some (.ref (ad 30)), some (.int 0)] [] (sI h (ad 0) 6 0) _
                    refine r_aload rfl rfl ?_
                    refine r_iload rfl rfl ?_
                    refine r_ic (x := (-1)) rfl rfl ?_
                    refine r_icmp_ge (tg := 10) rfl rfl (fun _ => ?_) (fun q => absurd q (by decide))
                    refine r_ic (x := 0) rfl rfl ?_
                    refine r_putI rfl ⟨rfl, rfl, rfl⟩ (fx_t30 fx) ?_
                    have fx : FX n ad sa z0 (sI (sI h (ad 0) 6 0) (ad 30) 11 0) := (FX.sI fx)
                    refine r_iload rfl rfl ?_
                    refine r_iret rfl ?_
                    show WR _ cd_181 95 [some (.ref (ad 30)), some (.int c), some (.int d), some (.int (nI t7)), some (.int (nI t11)), none] [.int 0] (sI (sI h (ad 0) 6 0) (ad 30) 11 0) _
                    refine r_iret rfl ?_
                    exact ⟨rfl, Rel.why r ((Chg.rf.sI (fx_j fx) (.inl (by decide))).sI (fx_j fx) (.inl (by decide))) ⟨rfl, by decide⟩ (Eq.trans (Eq.trans (I_ne (fx_ne fx (by decide))) I_eq) (Eq.symm I_eq)), (by (try simp only [hZ_sI, hZ_sL, hZ_sD, hZ_sR]); omega), (by (try simp only [hU_sI, hU_sL, hU_sD, hU_sR]); omega)⟩
              · have c12e := rs.2.2.1 _ _ (by assumption) (by assumption) (.inl ⟨k2, (by have := i_nlt c1; have := i_rg c; have : (0 : Int32).toInt = 0 := rfl; have := i_eq ek2; have : (nI k2).toInt = ((k2 : Nat) : Int) := nI_toInt (by omega); have := i_nle c3; have : (24 : Int32).toInt = 24 := rfl; omega), v7⟩) (.inl ⟨k5, (by have := i_nlt c4; have := i_rg d; have : (0 : Int32).toInt = 0 := rfl; have := i_eq ek5; have : (nI k5).toInt = ((k5 : Nat) : Int) := nI_toInt (by omega); have := i_nle c6; have : (24 : Int32).toInt = 24 := rfl; omega), v11⟩) c12
                refine r_ic (x := 1) rfl rfl ?_
                refine r_iret rfl ?_
                show EV _ 181 [.ref (ad 30), .int c, .int d] (sI h (ad 0) 6 0) _
                refine in_181 (Nat.le_of_ble_eq_true rfl) ?_
                show WR _ cd_181 0 [some (.ref (ad 30)), some (.int c), some (.int d), none, none, none] [] (sI h (ad 0) 6 0) _
                refine r_iload rfl rfl ?_
                refine WR_tI (y := nI k2) ek2 ?_
                refine r_cs (y := 153) (ra := [.int (nI k2)]) (rest := []) rfl ⟨⟨rfl, rfl⟩, by decide⟩ rfl rfl (Nat.le_of_ble_eq_true rfl) ?_
                refine in_153 (Nat.le_of_ble_eq_true rfl) ?_
                show WR _ cd_153 0 [some (.int (nI k2))] [] (sI h (ad 0) 6 0) _
                refine r_iload rfl rfl ?_
                refine r_if_lt (tg := 14) rfl rfl (fun q => False.elim (by have := i_nlt c1; have := i_rg c; have : (0 : Int32).toInt = 0 := rfl; have := i_eq ek2; have : (nI k2).toInt = ((k2 : Nat) : Int) := nI_toInt (by omega); have := i_nle c3; have : (24 : Int32).toInt = 24 := rfl; have := i_lt q; omega)) (fun _ => ?_)
                refine r_iload rfl rfl ?_
                refine r_ic (x := 24) rfl rfl ?_
                refine r_icmp_ge (tg := 14) rfl rfl (fun q => False.elim (by have := i_nlt c1; have := i_rg c; have : (0 : Int32).toInt = 0 := rfl; have := i_eq ek2; have : (nI k2).toInt = ((k2 : Nat) : Int) := nI_toInt (by omega); have := i_nle c3; have : (24 : Int32).toInt = 24 := rfl; have := i_le q; omega)) (fun _ => ?_)
                refine r_ic (x := 1) rfl rfl ?_
                refine r_goto (tg := 15) rfl rfl ?_
                refine r_zret rfl (.inr rfl) ?_
                show WR _ cd_181 4 [some (.ref (ad 30)), some (.int c), some (.int d), none, none, none] [.int 1] (sI h (ad 0) 6 0) _
                refine r_if_eq (tg := 14) rfl rfl (fun q => absurd q (by decide)) (fun _ => ?_)
                refine r_iload rfl rfl ?_
                refine WR_tI (y := nI k5) ek5 ?_
                refine r_cs (y := 153) (ra := [.int (nI k5)]) (rest := []) rfl ⟨⟨rfl, rfl⟩, by decide⟩ rfl rfl (Nat.le_of_ble_eq_true rfl) ?_
                refine in_153 (Nat.le_of_ble_eq_true rfl) ?_
                show WR _ cd_153 0 [some (.int (nI k5))] [] (sI h (ad 0) 6 0) _
                refine r_iload rfl rfl ?_
                refine r_if_lt (tg := 14) rfl rfl (fun q => False.elim (by have := i_nlt c4; have := i_rg d; have : (0 : Int32).toInt = 0 := rfl; have := i_eq ek5; have : (nI k5).toInt = ((k5 : Nat) : Int) := nI_toInt (by omega); have := i_nle c6; have : (24 : Int32).toInt = 24 := rfl; have := i_lt q; omega)) (fun _ => ?_)
                refine r_iload rfl rfl ?_
                refine r_ic (x := 24) rfl rfl ?_
                refine r_icmp_ge (tg := 14) rfl rfl (fun q => False.elim (by have := i_nlt c4; have := i_rg d; have : (0 : Int32).toInt = 0 := rfl; have := i_eq ek5; have : (nI k5).toInt = ((k5 : Nat) : Int) := nI_toInt (by omega); have := i_nle c6; have : (24 : Int32).toInt = 24 := rfl; have := i_le q; omega)) (fun _ => ?_)
                refine r_ic (x := 1) rfl rfl ?_
                refine r_goto (tg := 15) rfl rfl ?_
                refine r_zret rfl (.inr rfl) ?_
                show WR _ cd_181 11 [some (.ref (ad 30)), some (.int c), some (.int d), none, none, none] [.int 1] (sI h (ad 0) 6 0) _
                refine r_if_ne (tg := 21) rfl rfl (fun _ => ?_) (fun q => absurd q (by decide))
                refine r_aload rfl rfl ?_
                refine r_getA (b := ad 31) rfl ⟨rfl, rfl, rfl⟩ (fx_t30 fx) (fx_r30_0 fx) ?_
                refine r_iload rfl rfl ?_
                refine WR_tI (y := nI k2) ek2 ?_
                refine r_iaload rfl (.inl (fx_t31 fx)) (vp_ct (fx_n31 fx) (vp_in_nI (by have := i_nlt c1; have := i_rg c; have : (0 : Int32).toInt = 0 := rfl; have := i_eq ek2; have : (nI k2).toInt = ((k2 : Nat) : Int) := nI_toInt (by omega); have := i_nle c3; have : (24 : Int32).toInt = 24 := rfl; omega) (by omega))) ?_
                refine WR_tI (congrArg (hI (sI h (ad 0) 6 0) (ad 31)) ((nI_clamp (by have := i_nlt c1; have := i_rg c; have : (0 : Int32).toInt = 0 := rfl; have := i_eq ek2; have : (nI k2).toInt = ((k2 : Nat) : Int) := nI_toInt (by omega); have := i_nle c3; have : (24 : Int32).toInt = 24 := rfl; omega)) : _ = k2)) ?_
                refine WR_tI (y := nI t7) (Eq.trans (I_ne (fx_ne fx (by decide))) v7) ?_
                refine r_istore (lv' := [some (.ref (ad 30)), some (.int c), some (.int d), some (.int (nI t7)), none, none]) rfl (Nat.le_of_ble_eq_true rfl) rfl ?_
                refine r_aload rfl rfl ?_
                refine r_getA (b := ad 31) rfl ⟨rfl, rfl, rfl⟩ (fx_t30 fx) (fx_r30_0 fx) ?_
                refine r_iload rfl rfl ?_
                refine WR_tI (y := nI k5) ek5 ?_
                refine r_iaload rfl (.inl (fx_t31 fx)) (vp_ct (fx_n31 fx) (vp_in_nI (by have := i_nlt c4; have := i_rg d; have : (0 : Int32).toInt = 0 := rfl; have := i_eq ek5; have : (nI k5).toInt = ((k5 : Nat) : Int) := nI_toInt (by omega); have := i_nle c6; have : (24 : Int32).toInt = 24 := rfl; omega) (by omega))) ?_
                refine WR_tI (congrArg (hI (sI h (ad 0) 6 0) (ad 31)) ((nI_clamp (by have := i_nlt c4; have := i_rg d; have : (0 : Int32).toInt = 0 := rfl; have := i_eq ek5; have : (nI k5).toInt = ((k5 : Nat) : Int) := nI_toInt (by omega); have := i_nle c6; have : (24 : Int32).toInt = 24 := rfl; omega)) : _ = k5)) ?_
                refine WR_tI (y := nI t11) (Eq.trans (I_ne (fx_ne fx (by decide))) v11) ?_
                refine r_istore (lv' := [some (.ref (ad 30)), some (.int c), some (.int d), some (.int (nI t7)), some (.int (nI t11)), none]) rfl (Nat.le_of_ble_eq_true rfl) rfl ?_
                refine r_iload rfl rfl ?_
                refine r_iload rfl rfl ?_
                refine r_icmp_ne (tg := 48) rfl rfl (fun q => False.elim (by have : (nI t7).toInt = ((t7 : Nat) : Int) := nI_toInt (by omega); have : (nI t11).toInt = ((t11 : Nat) : Int) := nI_toInt (by omega); have := i_neq q; omega)) (fun _ => ?_)
                refine r_aload rfl rfl ?_
                refine r_ic (x := 1) rfl rfl ?_
                refine r_cv (y := 154) (ra := [.int 1]) (rest := []) rfl ⟨⟨rfl, rfl⟩, rfl, by decide⟩ (fx_t30 fx) rfl rfl (Nat.le_of_ble_eq_true rfl) ?_
                refine in_154 (Nat.le_of_ble_eq_true rfl) ?_
                show WR _ cd_154 0 [some (.ref (ad 30)), some (.int 1)] [] (sI h (ad 0) 6 0) _
                refine r_aload rfl rfl ?_
                refine r_iload rfl rfl ?_
                refine r_ic (x := (-1)) rfl rfl ?_
                refine r_icmp_ge (tg := 10) rfl rfl (fun _ => ?_) (fun q => absurd q (by decide))
                refine r_ic (x := 0) rfl rfl ?_
                refine r_putI rfl ⟨rfl, rfl, rfl⟩ (fx_t30 fx) ?_
                have fx : FX n ad sa z0 (sI (sI h (ad 0) 6 0) (ad 30) 11 0) := (FX.sI fx)
                refine r_iload rfl rfl ?_
                refine r_iret rfl ?_
                show WR _ cd_181 47 [some (.ref (ad 30)), some (.int c), some (.int d), some (.int (nI t7)), some (.int (nI t11)), none] [.int 1] (sI (sI h (ad 0) 6 0) (ad 30) 11 0) _
                refine r_iret rfl ?_
                exact ⟨rfl, Rel.why r ((Chg.rf.sI (fx_j fx) (.inl (by decide))).sI (fx_j fx) (.inl (by decide))) ⟨rfl, by decide⟩ (Eq.trans (Eq.trans (I_ne (fx_ne fx (by decide))) I_eq) (Eq.symm I_eq)), (by (try simp only [hZ_sI, hZ_sL, hZ_sD, hZ_sR]); omega), (by (try simp only [hU_sI, hU_sL, hU_sD, hU_sR]); omega)⟩
            · refine r_aaloadA (b := mid t11) rfl (isQ_of (fx_t1 fx) (by decide)) (vp_ct (fx_n1 fx) (vp_in_nI (by have := i_nlt c4; have := i_rg d; have : (0 : Int32).toInt = 0 := rfl; have := i_eq ek5; have : (nI k5).toInt = ((k5 : Nat) : Int) := nI_toInt (by omega); have := i_nle c6; have : (24 : Int32).toInt = 24 := rfl; omega) (by omega))) (Eq.trans (congrArg (hR (sI h (ad 0) 6 0) (ad 1)) ((nI_clamp (by have := i_nlt c4; have := i_rg d; have : (0 : Int32).toInt = 0 := rfl; have := i_eq ek5; have : (nI k5).toInt = ((k5 : Nat) : Int) := nI_toInt (by omega); have := i_nle c6; have : (24 : Int32).toInt = 24 := rfl; omega)) : _ = k5)) (Eq.trans R_oI w11)) ?_
              refine r_astore (lv' := [some (.ref (ad 0)), some (.int c), some (.int d), some (.ref (mid t7)), some (.ref (mid t11))]) rfl (Nat.le_of_ble_eq_true rfl) rfl ?_
              refine r_aload rfl rfl ?_
              refine r_aload rfl rfl ?_
              have c14e : ¬ t7 = t11 := fun e => by have q1 := tg7; have q2 := tg11; rw [e, q2] at q1; cases q1
              refine r_acmpA_ne (tg := 49) rfl rfl (fun _ => ?_) (fun q => absurd q (fun e => by have q1 := tg7; have q2 := tg11; rw [e, q2] at q1; cases q1))
              refine r_aload rfl rfl ?_
              refine r_ifnullA (tg := 71) rfl rfl ?_
              refine r_aload rfl rfl ?_
              refine r_ifnullA (tg := 71) rfl rfl ?_
              refine r_aload rfl rfl ?_
              refine r_aload rfl rfl ?_
              refine r_cw (y := 61) (ra := [.ref (mid t11)]) (rest := []) rfl ⟨rfl, rfl⟩ (by rw [show hT (sI h (ad 0) 6 0) (mid t7) = 5 from tg7]; rfl) rfl rfl (Nat.le_of_ble_eq_true rfl) ?_
              refine in_61 (Nat.le_of_ble_eq_true rfl) ?_
              show WR _ cd_61 0 [some (.ref (mid t7)), some (.ref (mid t11)), none, none] [] (sI h (ad 0) 6 0) _
              refine r_aload rfl rfl ?_
              refine r_instW rfl (by decide) tg11 (by decide) ?_
              refine r_if_eq (tg := 36) rfl rfl (fun _ => ?_) (fun q => absurd q (by decide))
              refine r_ic (x := 0) rfl rfl ?_
              refine r_zret rfl (.inl rfl) ?_
              show WR _ cd_59 64 [some (.ref (ad 0)), some (.int c), some (.int d), some (.ref (mid t7)), some (.ref (mid t11))] [.int 0] (sI h (ad 0) 6 0) _
              refine r_if_eq (tg := 71) rfl rfl (fun _ => ?_) (fun q => absurd q (by decide))
              refine r_ic (x := 0) rfl rfl ?_
              refine r_iret rfl ?_
              show EV _ 181 [.ref (ad 30), .int c, .int d] (sI h (ad 0) 6 0) _
              refine in_181 (Nat.le_of_ble_eq_true rfl) ?_
              show WR _ cd_181 0 [some (.ref (ad 30)), some (.int c), some (.int d), none, none, none] [] (sI h (ad 0) 6 0) _
              refine r_iload rfl rfl ?_
              refine WR_tI (y := nI k2) ek2 ?_
              refine r_cs (y := 153) (ra := [.int (nI k2)]) (rest := []) rfl ⟨⟨rfl, rfl⟩, by decide⟩ rfl rfl (Nat.le_of_ble_eq_true rfl) ?_
              refine in_153 (Nat.le_of_ble_eq_true rfl) ?_
              show WR _ cd_153 0 [some (.int (nI k2))] [] (sI h (ad 0) 6 0) _
              refine r_iload rfl rfl ?_
              refine r_if_lt (tg := 14) rfl rfl (fun q => False.elim (by have := i_nlt c1; have := i_rg c; have : (0 : Int32).toInt = 0 := rfl; have := i_eq ek2; have : (nI k2).toInt = ((k2 : Nat) : Int) := nI_toInt (by omega); have := i_nle c3; have : (24 : Int32).toInt = 24 := rfl; have := i_lt q; omega)) (fun _ => ?_)
              refine r_iload rfl rfl ?_
              refine r_ic (x := 24) rfl rfl ?_
              refine r_icmp_ge (tg := 14) rfl rfl (fun q => False.elim (by have := i_nlt c1; have := i_rg c; have : (0 : Int32).toInt = 0 := rfl; have := i_eq ek2; have : (nI k2).toInt = ((k2 : Nat) : Int) := nI_toInt (by omega); have := i_nle c3; have : (24 : Int32).toInt = 24 := rfl; have := i_le q; omega)) (fun _ => ?_)
              refine r_ic (x := 1) rfl rfl ?_
              refine r_goto (tg := 15) rfl rfl ?_
              refine r_zret rfl (.inr rfl) ?_
              show WR _ cd_181 4 [some (.ref (ad 30)), some (.int c), some (.int d), none, none, none] [.int 1] (sI h (ad 0) 6 0) _
              refine r_if_eq (tg := 14) rfl rfl (fun q => absurd q (by decide)) (fun _ => ?_)
              refine r_iload rfl rfl ?_
              refine WR_tI (y := nI k5) ek5 ?_
              refine r_cs (y := 153) (ra := [.int (nI k5)]) (rest := []) rfl ⟨⟨rfl, rfl⟩, by decide⟩ rfl rfl (Nat.le_of_ble_eq_true rfl) ?_
              refine in_153 (Nat.le_of_ble_eq_true rfl) ?_
              show WR _ cd_153 0 [some (.int (nI k5))] [] (sI h (ad 0) 6 0) _
              refine r_iload rfl rfl ?_
              refine r_if_lt (tg := 14) rfl rfl (fun q => False.elim (by have := i_nlt c4; have := i_rg d; have : (0 : Int32).toInt = 0 := rfl; have := i_eq ek5; have : (nI k5).toInt = ((k5 : Nat) : Int) := nI_toInt (by omega); have := i_nle c6; have : (24 : Int32).toInt = 24 := rfl; have := i_lt q; omega)) (fun _ => ?_)
              refine r_iload rfl rfl ?_
              refine r_ic (x := 24) rfl rfl ?_
              refine r_icmp_ge (tg := 14) rfl rfl (fun q => False.elim (by have := i_nlt c4; have := i_rg d; have : (0 : Int32).toInt = 0 := rfl; have := i_eq ek5; have : (nI k5).toInt = ((k5 : Nat) : Int) := nI_toInt (by omega); have := i_nle c6; have : (24 : Int32).toInt = 24 := rfl; have := i_le q; omega)) (fun _ => ?_)
              refine r_ic (x := 1) rfl rfl ?_
              refine r_goto (tg := 15) rfl rfl ?_
              refine r_zret rfl (.inr rfl) ?_
              show WR _ cd_181 11 [some (.ref (ad 30)), some (.int c), some (.int d), none, none, none] [.int 1] (sI h (ad 0) 6 0) _
              refine r_if_ne (tg := 21) rfl rfl (fun _ => ?_) (fun q => absurd q (by decide))
              refine r_aload rfl rfl ?_
              refine r_getA (b := ad 31) rfl ⟨rfl, rfl, rfl⟩ (fx_t30 fx) (fx_r30_0 fx) ?_
              refine r_iload rfl rfl ?_
              refine WR_tI (y := nI k2) ek2 ?_
              refine r_iaload rfl (.inl (fx_t31 fx)) (vp_ct (fx_n31 fx) (vp_in_nI (by have := i_nlt c1; have := i_rg c; have : (0 : Int32).toInt = 0 := rfl; have := i_eq ek2; have : (nI k2).toInt = ((k2 : Nat) : Int) := nI_toInt (by omega); have := i_nle c3; have : (24 : Int32).toInt = 24 := rfl; omega) (by omega))) ?_
              refine WR_tI (congrArg (hI (sI h (ad 0) 6 0) (ad 31)) ((nI_clamp (by have := i_nlt c1; have := i_rg c; have : (0 : Int32).toInt = 0 := rfl; have := i_eq ek2; have : (nI k2).toInt = ((k2 : Nat) : Int) := nI_toInt (by omega); have := i_nle c3; have : (24 : Int32).toInt = 24 := rfl; omega)) : _ = k2)) ?_
              refine WR_tI (y := nI t7) (Eq.trans (I_ne (fx_ne fx (by decide))) v7) ?_
              refine r_istore (lv' := [some (.ref (ad 30)), some (.int c), some (.int d), some (.int (nI t7)), none, none]) rfl (Nat.le_of_ble_eq_true rfl) rfl ?_
              refine r_aload rfl rfl ?_
              refine r_getA (b := ad 31) rfl ⟨rfl, rfl, rfl⟩ (fx_t30 fx) (fx_r30_0 fx) ?_
              refine r_iload rfl rfl ?_
              refine WR_tI (y := nI k5) ek5 ?_
              refine r_iaload rfl (.inl (fx_t31 fx)) (vp_ct (fx_n31 fx) (vp_in_nI (by have := i_nlt c4; have := i_rg d; have : (0 : Int32).toInt = 0 := rfl; have := i_eq ek5; have : (nI k5).toInt = ((k5 : Nat) : Int) := nI_toInt (by omega); have := i_nle c6; have : (24 : Int32).toInt = 24 := rfl; omega) (by omega))) ?_
              refine WR_tI (congrArg (hI (sI h (ad 0) 6 0) (ad 31)) ((nI_clamp (by have := i_nlt c4; have := i_rg d; have : (0 : Int32).toInt = 0 := rfl; have := i_eq ek5; have : (nI k5).toInt = ((k5 : Nat) : Int) := nI_toInt (by omega); have := i_nle c6; have : (24 : Int32).toInt = 24 := rfl; omega)) : _ = k5)) ?_
              refine WR_tI (y := nI t11) (Eq.trans (I_ne (fx_ne fx (by decide))) v11) ?_
              refine r_istore (lv' := [some (.ref (ad 30)), some (.int c), some (.int d), some (.int (nI t7)), some (.int (nI t11)), none]) rfl (Nat.le_of_ble_eq_true rfl) rfl ?_
              refine r_iload rfl rfl ?_
              refine r_iload rfl rfl ?_
              refine r_icmp_ne (tg := 48) rfl rfl (fun _ => ?_) (fun q => False.elim (by have : (nI t7).toInt = ((t7 : Nat) : Int) := nI_toInt (by omega); have : (nI t11).toInt = ((t11 : Nat) : Int) := nI_toInt (by omega); have := i_eq q; omega))
              refine r_iload rfl rfl ?_
              refine r_ic (x := (-1)) rfl rfl ?_
              refine r_icmp_eq (tg := 90) rfl rfl (fun q => False.elim (by have : (nI t7).toInt = ((t7 : Nat) : Int) := nI_toInt (by omega); have : (-1 : Int32).toInt = -1 := rfl; have := i_eq q; omega)) (fun _ => ?_)
              refine r_iload rfl rfl ?_
              refine r_ic (x := (-1)) rfl rfl ?_
              refine r_icmp_eq (tg := 90) rfl rfl (fun q => False.elim (by have : (nI t11).toInt = ((t11 : Nat) : Int) := nI_toInt (by omega); have : (-1 : Int32).toInt = -1 := rfl; have := i_eq q; omega)) (fun _ => ?_)
              refine r_iload rfl rfl ?_
              refine r_ic (x := 1000) rfl rfl ?_
              refine r_icmp_ge (tg := 90) rfl rfl (fun q => False.elim (by have : (nI t7).toInt = ((t7 : Nat) : Int) := nI_toInt (by omega); have : (1000 : Int32).toInt = 1000 := rfl; have := i_le q; omega)) (fun _ => ?_)
              refine r_iload rfl rfl ?_
              refine r_ic (x := 1000) rfl rfl ?_
              refine r_icmp_ge (tg := 90) rfl rfl (fun q => False.elim (by have : (nI t11).toInt = ((t11 : Nat) : Int) := nI_toInt (by omega); have : (1000 : Int32).toInt = 1000 := rfl; have := i_le q; omega)) (fun _ => ?_)
              refine r_aload rfl rfl ?_
              refine r_getA (b := ad 33) rfl ⟨rfl, rfl, rfl⟩ (fx_t30 fx) (fx_r30_2 fx) ?_
              refine r_iload rfl rfl ?_
              refine r_iaload rfl (.inl (fx_t33 fx)) (vp_ct (fx_n33 fx) (vp_in_nI (by omega) (by omega))) ?_
              refine WR_tI (congrArg (hI (sI h (ad 0) 6 0) (ad 33)) ((nI_clamp (by omega)) : _ = t7)) ?_
              refine WR_tI (y := nI ln7) (Eq.trans (I_ne (fx_ne fx (by decide))) l2_7) ?_
              refine r_aload rfl rfl ?_
              refine r_getA (b := ad 33) rfl ⟨rfl, rfl, rfl⟩ (fx_t30 fx) (fx_r30_2 fx) ?_
              refine r_iload rfl rfl ?_
              refine r_iaload rfl (.inl (fx_t33 fx)) (vp_ct (fx_n33 fx) (vp_in_nI (by omega) (by omega))) ?_
              refine WR_tI (congrArg (hI (sI h (ad 0) 6 0) (ad 33)) ((nI_clamp (by omega)) : _ = t11)) ?_
              refine WR_tI (y := 8) (Eq.trans (I_ne (fx_ne fx (by decide))) l2_11) ?_
              refine r_icmp_eq (tg := 96) rfl rfl (fun q => False.elim (by have : (nI ln7).toInt = ((ln7 : Nat) : Int) := nI_toInt (by omega); have : (8 : Int32).toInt = 8 := rfl; have := i_eq q; omega)) (fun _ => ?_)
              refine r_aload rfl rfl ?_
              refine r_ic (x := 0) rfl rfl ?_
              refine r_cv (y := 154) (ra := [.int 0]) (rest := []) rfl ⟨⟨rfl, rfl⟩, rfl, by decide⟩ (fx_t30 fx) rfl rfl (Nat.le_of_ble_eq_true rfl) ?_
              refine in_154 (Nat.le_of_ble_eq_true rfl) ?_
              show WR _ cd_154 0 [some (.ref (ad 30)), some (.int 0)] [] (sI h (ad 0) 6 0) _
              refine r_aload rfl rfl ?_
              refine r_iload rfl rfl ?_
              refine r_ic (x := (-1)) rfl rfl ?_
              refine r_icmp_ge (tg := 10) rfl rfl (fun _ => ?_) (fun q => absurd q (by decide))
              refine r_ic (x := 0) rfl rfl ?_
              refine r_putI rfl ⟨rfl, rfl, rfl⟩ (fx_t30 fx) ?_
              have fx : FX n ad sa z0 (sI (sI h (ad 0) 6 0) (ad 30) 11 0) := (FX.sI fx)
              refine r_iload rfl rfl ?_
              refine r_iret rfl ?_
              show WR _ cd_181 95 [some (.ref (ad 30)), some (.int c), some (.int d), some (.int (nI t7)), some (.int (nI t11)), none] [.int 0] (sI (sI h (ad 0) 6 0) (ad 30) 11 0) _
              refine r_iret rfl ?_
              exact ⟨rfl, Rel.why r ((Chg.rf.sI (fx_j fx) (.inl (by decide))).sI (fx_j fx) (.inl (by decide))) ⟨rfl, by decide⟩ (Eq.trans (Eq.trans (I_ne (fx_ne fx (by decide))) I_eq) (Eq.symm I_eq)), (by (try simp only [hZ_sI, hZ_sL, hZ_sD, hZ_sR]); omega), (by (try simp only [hU_sI, hU_sL, hU_sD, hU_sR]); omega)⟩
            · refine r_aaloadA (b := mid t11) rfl (isQ_of (fx_t1 fx) (by decide)) (vp_ct (fx_n1 fx) (vp_in_nI (by have := i_nlt c4; have := i_rg d; have : (0 : Int32).toInt = 0 := rfl; have := i_eq ek5; have : (nI k5).toInt = ((k5 : Nat) : Int) := nI_toInt (by omega); have := i_nle c6; have : (24 : Int32).toInt = 24 := rfl; omega) (by omega))) (Eq.trans (congrArg (hR (sI h (ad 0) 6 0) (ad 1)) ((nI_clamp (by have := i_nlt c4; have := i_rg d; have : (0 : Int32).toInt = 0 := rfl; have := i_eq ek5; have : (nI k5).toInt = ((k5 : Nat) : Int) := nI_toInt (by omega); have := i_nle c6; have : (24 : Int32).toInt = 24 := rfl; omega)) : _ = k5)) (Eq.trans R_oI w11)) ?_
              refine r_astore (lv' := [some (.ref (ad 0)), some (.int c), some (.int d), some (.ref (mid t7)), some (.ref (mid t11))]) rfl (Nat.le_of_ble_eq_true rfl) rfl ?_
              refine r_aload rfl rfl ?_
              refine r_aload rfl rfl ?_
              have c15e : ¬ t7 = t11 := fun e => by have q1 := tg7; have q2 := tg11; rw [e, q2] at q1; cases q1
              refine r_acmpA_ne (tg := 49) rfl rfl (fun _ => ?_) (fun q => absurd q (fun e => by have q1 := tg7; have q2 := tg11; rw [e, q2] at q1; cases q1))
              refine r_aload rfl rfl ?_
              refine r_ifnullA (tg := 71) rfl rfl ?_
              refine r_aload rfl rfl ?_
              refine r_ifnullA (tg := 71) rfl rfl ?_
              refine r_aload rfl rfl ?_
              refine r_aload rfl rfl ?_
              refine r_cw (y := 61) (ra := [.ref (mid t11)]) (rest := []) rfl ⟨rfl, rfl⟩ (by rw [show hT (sI h (ad 0) 6 0) (mid t7) = 5 from tg7]; rfl) rfl rfl (Nat.le_of_ble_eq_true rfl) ?_
              refine in_61 (Nat.le_of_ble_eq_true rfl) ?_
              show WR _ cd_61 0 [some (.ref (mid t7)), some (.ref (mid t11)), none, none] [] (sI h (ad 0) 6 0) _
              refine r_aload rfl rfl ?_
              refine r_instW rfl (by decide) tg11 (by decide) ?_
              refine r_if_eq (tg := 36) rfl rfl (fun _ => ?_) (fun q => absurd q (by decide))
              refine r_ic (x := 0) rfl rfl ?_
              refine r_zret rfl (.inl rfl) ?_
              show WR _ cd_59 64 [some (.ref (ad 0)), some (.int c), some (.int d), some (.ref (mid t7)), some (.ref (mid t11))] [.int 0] (sI h (ad 0) 6 0) _
              refine r_if_eq (tg := 71) rfl rfl (fun _ => ?_) (fun q => absurd q (by decide))
              refine r_ic (x := 0) rfl rfl ?_
              refine r_iret rfl ?_
              show EV _ 181 [.ref (ad 30), .int c, .int d] (sI h (ad 0) 6 0) _
              refine in_181 (Nat.le_of_ble_eq_true rfl) ?_
              show WR _ cd_181 0 [some (.ref (ad 30)), some (.int c), some (.int d), none, none, none] [] (sI h (ad 0) 6 0) _
              refine r_iload rfl rfl ?_
              refine WR_tI (y := nI k2) ek2 ?_
              refine r_cs (y := 153) (ra := [.int (nI k2)]) (rest := []) rfl ⟨⟨rfl, rfl⟩, by decide⟩ rfl rfl (Nat.le_of_ble_eq_true rfl) ?_
              refine in_153 (Nat.le_of_ble_eq_true rfl) ?_
              show WR _ cd_153 0 [some (.int (nI k2))] [] (sI h (ad 0) 6 0) _
              refine r_iload rfl rfl ?_
              refine r_if_lt (tg := 14) rfl rfl (fun q => False.elim (by have := i_nlt c1; have := i_rg c; have : (0 : Int32).toInt = 0 := rfl; have := i_eq ek2; have : (nI k2).toInt = ((k2 : Nat) : Int) := nI_toInt (by omega); have := i_nle c3; have : (24 : Int32).toInt = 24 := rfl; have := i_lt q; omega)) (fun _ => ?_)
              refine r_iload rfl rfl ?_
              refine r_ic (x := 24) rfl rfl ?_
              refine r_icmp_ge (tg := 14) rfl rfl (fun q => False.elim (by have := i_nlt c1; have := i_rg c; have : (0 : Int32).toInt = 0 := rfl; have := i_eq ek2; have : (nI k2).toInt = ((k2 : Nat) : Int) := nI_toInt (by omega); have := i_nle c3; have : (24 : Int32).toInt = 24 := rfl; have := i_le q; omega)) (fun _ => ?_)
              refine r_ic (x := 1) rfl rfl ?_
              refine r_goto (tg := 15) rfl rfl ?_
              refine r_zret rfl (.inr rfl) ?_
              show WR _ cd_181 4 [some (.ref (ad 30)), some (.int c), some (.int d), none, none, none] [.int 1] (sI h (ad 0) 6 0) _
              refine r_if_eq (tg := 14) rfl rfl (fun q => absurd q (by decide)) (fun _ => ?_)
              refine r_iload rfl rfl ?_
              refine WR_tI (y := nI k5) ek5 ?_
              refine r_cs (y := 153) (ra := [.int (nI k5)]) (rest := []) rfl ⟨⟨rfl, rfl⟩, by decide⟩ rfl rfl (Nat.le_of_ble_eq_true rfl) ?_
              refine in_153 (Nat.le_of_ble_eq_true rfl) ?_
              show WR _ cd_153 0 [some (.int (nI k5))] [] (sI h (ad 0) 6 0) _
              refine r_iload rfl rfl ?_
              refine r_if_lt (tg := 14) rfl rfl (fun q => False.elim (by have := i_nlt c4; have := i_rg d; have : (0 : Int32).toInt = 0 := rfl; have := i_eq ek5; have : (nI k5).toInt = ((k5 : Nat) : Int) := nI_toInt (by omega); have := i_nle c6; have : (24 : Int32).toInt = 24 := rfl; have := i_lt q; omega)) (fun _ => ?_)
              refine r_iload rfl rfl ?_
              refine r_ic (x := 24) rfl rfl ?_
              refine r_icmp_ge (tg := 14) rfl rfl (fun q => False.elim (by have := i_nlt c4; have := i_rg d; have : (0 : Int32).toInt = 0 := rfl; have := i_eq ek5; have : (nI k5).toInt = ((k5 : Nat) : Int) := nI_toInt (by omega); have := i_nle c6; have : (24 : Int32).toInt = 24 := rfl; have := i_le q; omega)) (fun _ => ?_)
              refine r_ic (x := 1) rfl rfl ?_
              refine r_goto (tg := 15) rfl rfl ?_
              refine r_zret rfl (.inr rfl) ?_
              show WR _ cd_181 11 [some (.ref (ad 30)), some (.int c), some (.int d), none, none, none] [.int 1] (sI h (ad 0) 6 0) _
              refine r_if_ne (tg := 21) rfl rfl (fun _ => ?_) (fun q => absurd q (by decide))
              refine r_aload rfl rfl ?_
              refine r_getA (b := ad 31) rfl ⟨rfl, rfl, rfl⟩ (fx_t30 fx) (fx_r30_0 fx) ?_
              refine r_iload rfl rfl ?_
              refine WR_tI (y := nI k2) ek2 ?_
              refine r_iaload rfl (.inl (fx_t31 fx)) (vp_ct (fx_n31 fx) (vp_in_nI (by have := i_nlt c1; have := i_rg c; have : (0 : Int32).toInt = 0 := rfl; have := i_eq ek2; have : (nI k2).toInt = ((k2 : Nat) : Int) := nI_toInt (by omega); have := i_nle c3; have : (24 : Int32).toInt = 24 := rfl; omega) (by omega))) ?_
              refine WR_tI (congrArg (hI (sI h (ad 0) 6 0) (ad 31)) ((nI_clamp (by have := i_nlt c1; have := i_rg c; have : (0 : Int32).toInt = 0 := rfl; have := i_eq ek2; have : (nI k2).toInt = ((k2 : Nat) : Int) := nI_toInt (by omega); have := i_nle c3; have : (24 : Int32).toInt = 24 := rfl; omega)) : _ = k2)) ?_
              refine WR_tI (y := nI t7) (Eq.trans (I_ne (fx_ne fx (by decide))) v7) ?_
              refine r_istore (lv' := [some (.ref (ad 30)), some (.int c), some (.int d), some (.int (nI t7)), none, none]) rfl (Nat.le_of_ble_eq_true rfl) rfl ?_
              refine r_aload rfl rfl ?_
              refine r_getA (b := ad 31) rfl ⟨rfl, rfl, rfl⟩ (fx_t30 fx) (fx_r30_0 fx) ?_
              refine r_iload rfl rfl ?_
              refine WR_tI (y := nI k5) ek5 ?_
              refine r_iaload rfl (.inl (fx_t31 fx)) (vp_ct (fx_n31 fx) (vp_in_nI (by have := i_nlt c4; have := i_rg d; have : (0 : Int32).toInt = 0 := rfl; have := i_eq ek5; have : (nI k5).toInt = ((k5 : Nat) : Int) := nI_toInt (by omega); have := i_nle c6; have : (24 : Int32).toInt = 24 := rfl; omega) (by omega))) ?_
              refine WR_tI (congrArg (hI (sI h (ad 0) 6 0) (ad 31)) ((nI_clamp (by have := i_nlt c4; have := i_rg d; have : (0 : Int32).toInt = 0 := rfl; have := i_eq ek5; have : (nI k5).toInt = ((k5 : Nat) : Int) := nI_toInt (by omega); have := i_nle c6; have : (24 : Int32).toInt = 24 := rfl; omega)) : _ = k5)) ?_
              refine WR_tI (y := nI t11) (Eq.trans (I_ne (fx_ne fx (by decide))) v11) ?_
              refine r_istore (lv' := [some (.ref (ad 30)), some (.int c), some (.int d), some (.int (nI t7)), some (.int (nI t11)), none]) rfl (Nat.le_of_ble_eq_true rfl) rfl ?_
              refine r_iload rfl rfl ?_
              refine r_iload rfl rfl ?_
              refine r_icmp_ne (tg := 48) rfl rfl (fun _ => ?_) (fun q => False.elim (by have : (nI t7).toInt = ((t7 : Nat) : Int) := nI_toInt (by omega); have : (nI t11).toInt = ((t11 : Nat) : Int) := nI_toInt (by omega); have := i_eq q; omega))
              refine r_iload rfl rfl ?_
              refine r_ic (x := (-1)) rfl rfl ?_
              refine r_icmp_eq (tg := 90) rfl rfl (fun q => False.elim (by have : (nI t7).toInt = ((t7 : Nat) : Int) := nI_toInt (by omega); have : (-1 : Int32).toInt = -1 := rfl; have := i_eq q; omega)) (fun _ => ?_)
              refine r_iload rfl rfl ?_
              refine r_ic (x := (-1)) rfl rfl ?_
              refine r_icmp_eq (tg := 90) rfl rfl (fun q => False.elim (by have : (nI t11).toInt = ((t11 : Nat) : Int) := nI_toInt (by omega); have : (-1 : Int32).toInt = -1 := rfl; have := i_eq q; omega)) (fun _ => ?_)
              refine r_iload rfl rfl ?_
              refine r_ic (x := 1000) rfl rfl ?_
              refine r_icmp_ge (tg := 90) rfl rfl (fun q => False.elim (by have : (nI t7).toInt = ((t7 : Nat) : Int) := nI_toInt (by omega); have : (1000 : Int32).toInt = 1000 := rfl; have := i_le q; omega)) (fun _ => ?_)
              refine r_iload rfl rfl ?_
              refine r_ic (x := 1000) rfl rfl ?_
              refine r_icmp_ge (tg := 90) rfl rfl (fun q => False.elim (by have : (nI t11).toInt = ((t11 : Nat) : Int) := nI_toInt (by omega); have : (1000 : Int32).toInt = 1000 := rfl; have := i_le q; omega)) (fun _ => ?_)
              refine r_aload rfl rfl ?_
              refine r_getA (b := ad 33) rfl ⟨rfl, rfl, rfl⟩ (fx_t30 fx) (fx_r30_2 fx) ?_
              refine r_iload rfl rfl ?_
              refine r_iaload rfl (.inl (fx_t33 fx)) (vp_ct (fx_n33 fx) (vp_in_nI (by omega) (by omega))) ?_
              refine WR_tI (congrArg (hI (sI h (ad 0) 6 0) (ad 33)) ((nI_clamp (by omega)) : _ = t7)) ?_
              refine WR_tI (y := nI ln7) (Eq.trans (I_ne (fx_ne fx (by decide))) l2_7) ?_
              refine r_aload rfl rfl ?_
              refine r_getA (b := ad 33) rfl ⟨rfl, rfl, rfl⟩ (fx_t30 fx) (fx_r30_2 fx) ?_
              refine r_iload rfl rfl ?_
              refine r_iaload rfl (.inl (fx_t33 fx)) (vp_ct (fx_n33 fx) (vp_in_nI (by omega) (by omega))) ?_
              refine WR_tI (congrArg (hI (sI h (ad 0) 6 0) (ad 33)) ((nI_clamp (by omega)) : _ = t11)) ?_
              refine WR_tI (y := 9) (Eq.trans (I_ne (fx_ne fx (by decide))) l2_11) ?_
              refine r_icmp_eq (tg := 96) rfl rfl (fun q => False.elim (by have : (nI ln7).toInt = ((ln7 : Nat) : Int) := nI_toInt (by omega); have : (9 : Int32).toInt = 9 := rfl; have := i_eq q; omega)) (fun _ => ?_)
              refine r_aload rfl rfl ?_
              refine r_ic (x := 0) rfl rfl ?_
              refine r_cv (y := 154) (ra := [.int 0]) (rest := []) rfl ⟨⟨rfl, rfl⟩, rfl, by decide⟩ (fx_t30 fx) rfl rfl (Nat.le_of_ble_eq_true rfl) ?_
              refine in_154 (Nat.le_of_ble_eq_true rfl) ?_
              show WR _ cd_154 0 [some (.ref (ad 30)), some (.int 0)] [] (sI h (ad 0) 6 0) _
              refine r_aload rfl rfl ?_
              refine r_iload rfl rfl ?_
              refine r_ic (x := (-1)) rfl rfl ?_
              refine r_icmp_ge (tg := 10) rfl rfl (fun _ => ?_) (fun q => absurd q (by decide))
              refine r_ic (x := 0) rfl rfl ?_
              refine r_putI rfl ⟨rfl, rfl, rfl⟩ (fx_t30 fx) ?_
              have fx : FX n ad sa z0 (sI (sI h (ad 0) 6 0) (ad 30) 11 0) := (FX.sI fx)
              refine r_iload rfl rfl ?_
              refine r_iret rfl ?_
              show WR _ cd_181 95 [some (.ref (ad 30)), some (.int c), some (.int d), some (.int (nI t7)), some (.int (nI t11)), none] [.int 0] (sI (sI h (ad 0) 6 0) (ad 30) 11 0) _
              refine r_iret rfl ?_
              exact ⟨rfl, Rel.why r ((Chg.rf.sI (fx_j fx) (.inl (by decide))).sI (fx_j fx) (.inl (by decide))) ⟨rfl, by decide⟩ (Eq.trans (Eq.trans (I_ne (fx_ne fx (by decide))) I_eq) (Eq.symm I_eq)), (by (try simp only [hZ_sI, hZ_sL, hZ_sD, hZ_sR]); omega), (by (try simp only [hU_sI, hU_sL, hU_sD, hU_sR]); omega)⟩
          · refine r_aaloadA (b := mid t7) rfl (isQ_of (fx_t1 fx) (by decide)) (vp_ct (fx_n1 fx) (vp_in_nI (by have := i_nlt c1; have := i_rg c; have : (0 : Int32).toInt = 0 := rfl; have := i_eq ek2; have : (nI k2).toInt = ((k2 : Nat) : Int) := nI_toInt (by omega); have := i_nle c3; have : (24 : Int32).toInt = 24 := rfl; omega) (by omega))) (Eq.trans (congrArg (hR (sI h (ad 0) 6 0) (ad 1)) ((nI_clamp (by have := i_nlt c1; have := i_rg c; have : (0 : Int32).toInt = 0 := rfl; have := i_eq ek2; have : (nI k2).toInt = ((k2 : Nat) : Int) := nI_toInt (by omega); have := i_nle c3; have : (24 : Int32).toInt = 24 := rfl; omega)) : _ = k2)) (Eq.trans R_oI w7)) ?_
            refine r_astore (lv' := [some (.ref (ad 0)), some (.int c), some (.int d), some (.ref (mid t7)), none]) rfl (Nat.le_of_ble_eq_true rfl) rfl ?_
            refine r_aload rfl rfl ?_
            refine r_getA (b := ad 1) rfl ⟨rfl, rfl, rfl⟩ (fx_t0 fx) (fx_r0_0 fx) ?_
            refine r_iload rfl rfl ?_
            refine WR_tI (y := nI k5) ek5 ?_
            rcases rs.cs (n := n) (sa := sa) (c := k5) (by have := i_nlt c4; have := i_rg d; have : (0 : Int32).toInt = 0 := rfl; have := i_eq ek5; have : (nI k5).toInt = ((k5 : Nat) : Int) := nI_toInt (by omega); have := i_nle c6; have : (24 : Int32).toInt = 24 := rfl; omega) with ⟨v16, w16⟩ | ⟨q16, kd16, hq16, hn16, v16, w16, dz16, tg16, s1_16, k1_16, k2_16, hk_16, we16⟩ | ⟨t16, ln16, sz16, ht16, v16, w16, dz16, tg16, r_16, tg2_16, l1_16, l2_16, hl_16, kd_16, n_16, sz_16, hs_16, al16, rw16⟩ | ⟨t16, sz16, ht16, v16, w16, dz16, tg16, r_16, tg2_16, k1_16, l2_16, k2_16, n_16, sz_16, hs_16, al16, rw16⟩ | ⟨t16, kd16, sz16, ht16, v16, w16, dz16, tg16, r_16, tg2_16, k1_16, l2_16, k2_16, hk_16, n_16, sz_16, hs_16, al16, rw16⟩
            · refine r_aaload0 rfl (isQ_of (fx_t1 fx) (by decide)) (vp_ct (fx_n1 fx) (vp_in_nI (by have := i_nlt c4; have := i_rg d; have : (0 : Int32).toInt = 0 := rfl; have := i_eq ek5; have : (nI k5).toInt = ((k5 : Nat) : Int) := nI_toInt (by omega); have := i_nle c6; have : (24 : Int32).toInt = 24 := rfl; omega) (by omega))) (Eq.trans (congrArg (hR (sI h (ad 0) 6 0) (ad 1)) ((nI_clamp (by have := i_nlt c4; have := i_rg d; have : (0 : Int32).toInt = 0 := rfl; have := i_eq ek5; have : (nI k5).toInt = ((k5 : Nat) : Int) := nI_toInt (by omega); have := i_nle c6; have : (24 : Int32).toInt = 24 := rfl; omega)) : _ = k5)) (Eq.trans R_oI w16)) ?_
              refine r_astore0 (lv' := [some (.ref (ad 0)), some (.int c), some (.int d), some (.ref (mid t7)), some (.null)]) rfl (Nat.le_of_ble_eq_true rfl) rfl ?_
              refine r_aload rfl rfl ?_
              refine r_aload0 rfl rfl ?_
              refine r_acmpAN_ne (tg := 49) rfl rfl ?_
              refine r_aload rfl rfl ?_
              refine r_ifnullA (tg := 71) rfl rfl ?_
              refine r_aload0 rfl rfl ?_
              refine r_ifnullN (tg := 71) rfl rfl ?_
              refine r_ic (x := 0) rfl rfl ?_
              refine r_iret rfl ?_
              show EV _ 181 [.ref (ad 30), .int c, .int d] (sI h (ad 0) 6 0) _
              refine in_181 (Nat.le_of_ble_eq_true rfl) ?_
              show WR _ cd_181 0 [some (.ref (ad 30)), some (.int c), some (.int d), none, none, none] [] (sI h (ad 0) 6 0) _
              refine r_iload rfl rfl ?_
              refine WR_tI (y := nI k2) ek2 ?_
              refine r_cs (y := 153) (ra := [.int (nI k2)]) (rest := []) rfl ⟨⟨rfl, rfl⟩, by decide⟩ rfl rfl (Nat.le_of_ble_eq_true rfl) ?_
              refine in_153 (Nat.le_of_ble_eq_true rfl) ?_
              show WR _ cd_153 0 [some (.int (nI k2))] [] (sI h (ad 0) 6 0) _
              refine r_iload rfl rfl ?_
              refine r_if_lt (tg := 14) rfl rfl (fun q => False.elim (by have := i_nlt c1; have := i_rg c; have : (0 : Int32).toInt = 0 := rfl; have := i_eq ek2; have : (nI k2).toInt = ((k2 : Nat) : Int) := nI_toInt (by omega); have := i_nle c3; have : (24 : Int32).toInt = 24 := rfl; have := i_lt q; omega)) (fun _ => ?_)
              refine r_iload rfl rfl ?_
              refine r_ic (x := 24) rfl rfl ?_
              refine r_icmp_ge (tg := 14) rfl rfl (fun q => False.elim (by have := i_nlt c1; have := i_rg c; have : (0 : Int32).toInt = 0 := rfl; have := i_eq ek2; have : (nI k2).toInt = ((k2 : Nat) : Int) := nI_toInt (by omega); have := i_nle c3; have : (24 : Int32).toInt = 24 := rfl; have := i_le q; omega)) (fun _ => ?_)
              refine r_ic (x := 1) rfl rfl ?_
              refine r_goto (tg := 15) rfl rfl ?_
              refine r_zret rfl (.inr rfl) ?_
              show WR _ cd_181 4 [some (.ref (ad 30)), some (.int c), some (.int d), none, none, none] [.int 1] (sI h (ad 0) 6 0) _
              refine r_if_eq (tg := 14) rfl rfl (fun q => absurd q (by decide)) (fun _ => ?_)
              refine r_iload rfl rfl ?_
              refine WR_tI (y := nI k5) ek5 ?_
              refine r_cs (y := 153) (ra := [.int (nI k5)]) (rest := []) rfl ⟨⟨rfl, rfl⟩, by decide⟩ rfl rfl (Nat.le_of_ble_eq_true rfl) ?_
              refine in_153 (Nat.le_of_ble_eq_true rfl) ?_
              show WR _ cd_153 0 [some (.int (nI k5))] [] (sI h (ad 0) 6 0) _
              refine r_iload rfl rfl ?_
              refine r_if_lt (tg := 14) rfl rfl (fun q => False.elim (by have := i_nlt c4; have := i_rg d; have : (0 : Int32).toInt = 0 := rfl; have := i_eq ek5; have : (nI k5).toInt = ((k5 : Nat) : Int) := nI_toInt (by omega); have := i_nle c6; have : (24 : Int32).toInt = 24 := rfl; have := i_lt q; omega)) (fun _ => ?_)
              refine r_iload rfl rfl ?_
              refine r_ic (x := 24) rfl rfl ?_
              refine r_icmp_ge (tg := 14) rfl rfl (fun q => False.elim (by have := i_nlt c4; have := i_rg d; have : (0 : Int32).toInt = 0 := rfl; have := i_eq ek5; have : (nI k5).toInt = ((k5 : Nat) : Int) := nI_toInt (by omega); have := i_nle c6; have : (24 : Int32).toInt = 24 := rfl; have := i_le q; omega)) (fun _ => ?_)
              refine r_ic (x := 1) rfl rfl ?_
              refine r_goto (tg := 15) rfl rfl ?_
              refine r_zret rfl (.inr rfl) ?_
              show WR _ cd_181 11 [some (.ref (ad 30)), some (.int c), some (.int d), none, none, none] [.int 1] (sI h (ad 0) 6 0) _
              refine r_if_ne (tg := 21) rfl rfl (fun _ => ?_) (fun q => absurd q (by decide))
              refine r_aload rfl rfl ?_
              refine r_getA (b := ad 31) rfl ⟨rfl, rfl, rfl⟩ (fx_t30 fx) (fx_r30_0 fx) ?_
              refine r_iload rfl rfl ?_
              refine WR_tI (y := nI k2) ek2 ?_
              refine r_iaload rfl (.inl (fx_t31 fx)) (vp_ct (fx_n31 fx) (vp_in_nI (by have := i_nlt c1; have := i_rg c; have : (0 : Int32).toInt = 0 := rfl; have := i_eq ek2; have : (nI k2).toInt = ((k2 : Nat) : Int) := nI_toInt (by omega); have := i_nle c3; have : (24 : Int32).toInt = 24 := rfl; omega) (by omega))) ?_
              refine WR_tI (congrArg (hI (sI h (ad 0) 6 0) (ad 31)) ((nI_clamp (by have := i_nlt c1; have := i_rg c; have : (0 : Int32).toInt = 0 := rfl; have := i_eq ek2; have : (nI k2).toInt = ((k2 : Nat) : Int) := nI_toInt (by omega); have := i_nle c3; have : (24 : Int32).toInt = 24 := rfl; omega)) : _ = k2)) ?_
              refine WR_tI (y := nI t7) (Eq.trans (I_ne (fx_ne fx (by decide))) v7) ?_
              refine r_istore (lv' := [some (.ref (ad 30)), some (.int c), some (.int d), some (.int (nI t7)), none, none]) rfl (Nat.le_of_ble_eq_true rfl) rfl ?_
              refine r_aload rfl rfl ?_
              refine r_getA (b := ad 31) rfl ⟨rfl, rfl, rfl⟩ (fx_t30 fx) (fx_r30_0 fx) ?_
              refine r_iload rfl rfl ?_
              refine WR_tI (y := nI k5) ek5 ?_
              refine r_iaload rfl (.inl (fx_t31 fx)) (vp_ct (fx_n31 fx) (vp_in_nI (by have := i_nlt c4; have := i_rg d; have : (0 : Int32).toInt = 0 := rfl; have := i_eq ek5; have : (nI k5).toInt = ((k5 : Nat) : Int) := nI_toInt (by omega); have := i_nle c6; have : (24 : Int32).toInt = 24 := rfl; omega) (by omega))) ?_
              refine WR_tI (congrArg (hI (sI h (ad 0) 6 0) (ad 31)) ((nI_clamp (by have := i_nlt c4; have := i_rg d; have : (0 : Int32).toInt = 0 := rfl; have := i_eq ek5; have : (nI k5).toInt = ((k5 : Nat) : Int) := nI_toInt (by omega); have := i_nle c6; have : (24 : Int32).toInt = 24 := rfl; omega)) : _ = k5)) ?_
              refine WR_tI (y := (-1)) (Eq.trans (I_ne (fx_ne fx (by decide))) v16) ?_
              refine r_istore (lv' := [some (.ref (ad 30)), some (.int c), some (.int d), some (.int (nI t7)), some (.int (-1)), none]) rfl (Nat.le_of_ble_eq_true rfl) rfl ?_
              refine r_iload rfl rfl ?_
              refine r_iload rfl rfl ?_
              refine r_icmp_ne (tg := 48) rfl rfl (fun _ => ?_) (fun q => False.elim (by have : (nI t7).toInt = ((t7 : Nat) : Int) := nI_toInt (by omega); have : (-1 : Int32).toInt = -1 := rfl; have := i_eq q; omega))
              refine r_iload rfl rfl ?_
              refine r_ic (x := (-1)) rfl rfl ?_
              refine r_icmp_eq (tg := 90) rfl rfl (fun q => False.elim (by have : (nI t7).toInt = ((t7 : Nat) : Int) := nI_toInt (by omega); have : (-1 : Int32).toInt = -1 := rfl; have := i_eq q; omega)) (fun _ => ?_)
              refine r_iload rfl rfl ?_
              refine r_ic (x := (-1)) rfl rfl ?_
              refine r_icmp_eq (tg := 90) rfl rfl (fun _ => ?_) (fun q => absurd q (by decide))
              refine r_aload rfl rfl ?_
              refine r_ic (x := 0) rfl rfl ?_
              refine r_cv (y := 154) (ra := [.int 0]) (rest := []) rfl ⟨⟨rfl, rfl⟩, rfl, by decide⟩ (fx_t30 fx) rfl rfl (Nat.le_of_ble_eq_true rfl) ?_
              refine in_154 (Nat.le_of_ble_eq_true rfl) ?_
              show WR _ cd_154 0 [some (.ref (ad 30)), some (.int 0)] [] (sI h (ad 0) 6 0) _
              refine r_aload rfl rfl ?_
              refine r_iload rfl rfl ?_
              refine r_ic (x := (-1)) rfl rfl ?_
              refine r_icmp_ge (tg := 10) rfl rfl (fun _ => ?_) (fun q => absurd q (by decide))
              refine r_ic (x := 0) rfl rfl ?_
              refine r_putI rfl ⟨rfl, rfl, rfl⟩ (fx_t30 fx) ?_
              have fx : FX n ad sa z0 (sI (sI h (ad 0) 6 0) (ad 30) 11 0) := (FX.sI fx)
              refine r_iload rfl rfl ?_
              refine r_iret rfl ?_
              show WR _ cd_181 95 [some (.ref (ad 30)), some (.int c), some (.int d), some (.int (nI t7)), some (.int (-1)), none] [.int 0] (sI (sI h (ad 0) 6 0) (ad 30) 11 0) _
              refine r_iret rfl ?_
              exact ⟨rfl, Rel.why r ((Chg.rf.sI (fx_j fx) (.inl (by decide))).sI (fx_j fx) (.inl (by decide))) ⟨rfl, by decide⟩ (Eq.trans (Eq.trans (I_ne (fx_ne fx (by decide))) I_eq) (Eq.symm I_eq)), (by (try simp only [hZ_sI, hZ_sL, hZ_sD, hZ_sR]); omega), (by (try simp only [hU_sI, hU_sL, hU_sD, hU_sR]); omega)⟩
            · refine r_aaloadA (b := pa q16) rfl (isQ_of (fx_t1 fx) (by decide)) (vp_ct (fx_n1 fx) (vp_in_nI (by have := i_nlt c4; have := i_rg d; have : (0 : Int32).toInt = 0 := rfl; have := i_eq ek5; have : (nI k5).toInt = ((k5 : Nat) : Int) := nI_toInt (by omega); have := i_nle c6; have : (24 : Int32).toInt = 24 := rfl; omega) (by omega))) (Eq.trans (congrArg (hR (sI h (ad 0) 6 0) (ad 1)) ((nI_clamp (by have := i_nlt c4; have := i_rg d; have : (0 : Int32).toInt = 0 := rfl; have := i_eq ek5; have : (nI k5).toInt = ((k5 : Nat) : Int) := nI_toInt (by omega); have := i_nle c6; have : (24 : Int32).toInt = 24 := rfl; omega)) : _ = k5)) (Eq.trans R_oI w16)) ?_
              refine r_astore (lv' := [some (.ref (ad 0)), some (.int c), some (.int d), some (.ref (mid t7)), some (.ref (pa q16))]) rfl (Nat.le_of_ble_eq_true rfl) rfl ?_
              refine r_aload rfl rfl ?_
              refine r_aload rfl rfl ?_
              refine r_acmpA_ne (tg := 49) rfl rfl (fun _ => ?_) (fun q => absurd q (fun e => by have q1 := tg7; have q2 := tg16; rw [e, q2] at q1; cases q1))
              refine r_aload rfl rfl ?_
              refine r_ifnullA (tg := 71) rfl rfl ?_
              refine r_aload rfl rfl ?_
              refine r_ifnullA (tg := 71) rfl rfl ?_
              refine r_aload rfl rfl ?_
              refine r_aload rfl rfl ?_
              refine r_cw (y := 62) (ra := [.ref (pa q16)]) (rest := []) rfl ⟨rfl, rfl⟩ (by rw [show hT (sI h (ad 0) 6 0) (mid t7) = 6 from tg7]; rfl) rfl rfl (Nat.le_of_ble_eq_true rfl) ?_
              refine in_62 (Nat.le_of_ble_eq_true rfl) ?_
              show WR _ cd_62 0 [some (.ref (mid t7)), some (.ref (pa q16)), none, none] [] (sI h (ad 0) 6 0) _
              refine r_aload rfl rfl ?_
              refine r_instW rfl (by decide) tg16 (by decide) ?_
              refine r_if_eq (tg := 36) rfl rfl (fun _ => ?_) (fun q => absurd q (by decide))
              refine r_ic (x := 0) rfl rfl ?_
              refine r_zret rfl (.inl rfl) ?_
              show WR _ cd_59 64 [some (.ref (ad 0)), some (.int c), some (.int d), some (.ref (mid t7)), some (.ref (pa q16))] [.int 0] (sI h (ad 0) 6 0) _
              refine r_if_eq (tg := 71) rfl rfl (fun _ => ?_) (fun q => absurd q (by decide))
              refine r_ic (x := 0) rfl rfl ?_
              refine r_iret rfl ?_
              show EV _ 181 [.ref (ad 30), .int c, .int d] (sI h (ad 0) 6 0) _
              refine in_181 (Nat.le_of_ble_eq_true rfl) ?_
              show WR _ cd_181 0 [some (.ref (ad 30)), some (.int c), some (.int d), none, none, none] [] (sI h (ad 0) 6 0) _
              refine r_iload rfl rfl ?_
              refine WR_tI (y := nI k2) ek2 ?_
              refine r_cs (y := 153) (ra := [.int (nI k2)]) (rest := []) rfl ⟨⟨rfl, rfl⟩, by decide⟩ rfl rfl (Nat.le_of_ble_eq_true rfl) ?_
              refine in_153 (Nat.le_of_ble_eq_true rfl) ?_
              show WR _ cd_153 0 [some (.int (nI k2))] [] (sI h (ad 0) 6 0) _
              refine r_iload rfl rfl ?_
              refine r_if_lt (tg := 14) rfl rfl (fun q => False.elim (by have := i_nlt c1; have := i_rg c; have : (0 : Int32).toInt = 0 := rfl; have := i_eq ek2; have : (nI k2).toInt = ((k2 : Nat) : Int) := nI_toInt (by omega); have := i_nle c3; have : (24 : Int32).toInt = 24 := rfl; have := i_lt q; omega)) (fun _ => ?_)
              refine r_iload rfl rfl ?_
              refine r_ic (x := 24) rfl rfl ?_
              refine r_icmp_ge (tg := 14) rfl rfl (fun q => False.elim (by have := i_nlt c1; have := i_rg c; have : (0 : Int32).toInt = 0 := rfl; have := i_eq ek2; have : (nI k2).toInt = ((k2 : Nat) : Int) := nI_toInt (by omega); have := i_nle c3; have : (24 : Int32).toInt = 24 := rfl; have := i_le q; omega)) (fun _ => ?_)
              refine r_ic (x := 1) rfl rfl ?_
              refine r_goto (tg := 15) rfl rfl ?_
              refine r_zret rfl (.inr rfl) ?_
              show WR _ cd_181 4 [some (.ref (ad 30)), some (.int c), some (.int d), none, none, none] [.int 1] (sI h (ad 0) 6 0) _
              refine r_if_eq (tg := 14) rfl rfl (fun q => absurd q (by decide)) (fun _ => ?_)
              refine r_iload rfl rfl ?_
              refine WR_tI (y := nI k5) ek5 ?_
              refine r_cs (y := 153) (ra := [.int (nI k5)]) (rest := []) rfl ⟨⟨rfl, rfl⟩, by decide⟩ rfl rfl (Nat.le_of_ble_eq_true rfl) ?_
              refine in_153 (Nat.le_of_ble_eq_true rfl) ?_
              show WR _ cd_153 0 [some (.int (nI k5))] [] (sI h (ad 0) 6 0) _
              refine r_iload rfl rfl ?_
              refine r_if_lt (tg := 14) rfl rfl (fun q => False.elim (by have := i_nlt c4; have := i_rg d; have : (0 : Int32).toInt = 0 := rfl; have := i_eq ek5; have : (nI k5).toInt = ((k5 : Nat) : Int) := nI_toInt (by omega); have := i_nle c6; have : (24 : Int32).toInt = 24 := rfl; have := i_lt q; omega)) (fun _ => ?_)
              refine r_iload rfl rfl ?_
              refine r_ic (x := 24) rfl rfl ?_
              refine r_icmp_ge (tg := 14) rfl rfl (fun q => False.elim (by have := i_nlt c4; have := i_rg d; have : (0 : Int32).toInt = 0 := rfl; have := i_eq ek5; have : (nI k5).toInt = ((k5 : Nat) : Int) := nI_toInt (by omega); have := i_nle c6; have : (24 : Int32).toInt = 24 := rfl; have := i_le q; omega)) (fun _ => ?_)
              refine r_ic (x := 1) rfl rfl ?_
              refine r_goto (tg := 15) rfl rfl ?_
              refine r_zret rfl (.inr rfl) ?_
              show WR _ cd_181 11 [some (.ref (ad 30)), some (.int c), some (.int d), none, none, none] [.int 1] (sI h (ad 0) 6 0) _
              refine r_if_ne (tg := 21) rfl rfl (fun _ => ?_) (fun q => absurd q (by decide))
              refine r_aload rfl rfl ?_
              refine r_getA (b := ad 31) rfl ⟨rfl, rfl, rfl⟩ (fx_t30 fx) (fx_r30_0 fx) ?_
              refine r_iload rfl rfl ?_
              refine WR_tI (y := nI k2) ek2 ?_
              refine r_iaload rfl (.inl (fx_t31 fx)) (vp_ct (fx_n31 fx) (vp_in_nI (by have := i_nlt c1; have := i_rg c; have : (0 : Int32).toInt = 0 := rfl; have := i_eq ek2; have : (nI k2).toInt = ((k2 : Nat) : Int) := nI_toInt (by omega); have := i_nle c3; have : (24 : Int32).toInt = 24 := rfl; omega) (by omega))) ?_
              refine WR_tI (congrArg (hI (sI h (ad 0) 6 0) (ad 31)) ((nI_clamp (by have := i_nlt c1; have := i_rg c; have : (0 : Int32).toInt = 0 := rfl; have := i_eq ek2; have : (nI k2).toInt = ((k2 : Nat) : Int) := nI_toInt (by omega); have := i_nle c3; have : (24 : Int32).toInt = 24 := rfl; omega)) : _ = k2)) ?_
              refine WR_tI (y := nI t7) (Eq.trans (I_ne (fx_ne fx (by decide))) v7) ?_
              refine r_istore (lv' := [some (.ref (ad 30)), some (.int c), some (.int d), some (.int (nI t7)), none, none]) rfl (Nat.le_of_ble_eq_true rfl) rfl ?_
              refine r_aload rfl rfl ?_
              refine r_getA (b := ad 31) rfl ⟨rfl, rfl, rfl⟩ (fx_t30 fx) (fx_r30_0 fx) ?_
              refine r_iload rfl rfl ?_
              refine WR_tI (y := nI k5) ek5 ?_
              refine r_iaload rfl (.inl (fx_t31 fx)) (vp_ct (fx_n31 fx) (vp_in_nI (by have := i_nlt c4; have := i_rg d; have : (0 : Int32).toInt = 0 := rfl; have := i_eq ek5; have : (nI k5).toInt = ((k5 : Nat) : Int) := nI_toInt (by omega); have := i_nle c6; have : (24 : Int32).toInt = 24 := rfl; omega) (by omega))) ?_
              refine WR_tI (congrArg (hI (sI h (ad 0) 6 0) (ad 31)) ((nI_clamp (by have := i_nlt c4; have := i_rg d; have : (0 : Int32).toInt = 0 := rfl; have := i_eq ek5; have : (nI k5).toInt = ((k5 : Nat) : Int) := nI_toInt (by omega); have := i_nle c6; have : (24 : Int32).toInt = 24 := rfl; omega)) : _ = k5)) ?_
              refine WR_tI (y := nI (q16 + 1000)) (Eq.trans (I_ne (fx_ne fx (by decide))) v16) ?_
              refine r_istore (lv' := [some (.ref (ad 30)), some (.int c), some (.int d), some (.int (nI t7)), some (.int (nI (q16 + 1000))), none]) rfl (Nat.le_of_ble_eq_true rfl) rfl ?_
              refine r_iload rfl rfl ?_
              refine r_iload rfl rfl ?_
              refine r_icmp_ne (tg := 48) rfl rfl (fun _ => ?_) (fun q => False.elim (by have : (nI t7).toInt = ((t7 : Nat) : Int) := nI_toInt (by omega); have : (nI (q16 + 1000)).toInt = ((q16 + 1000 : Nat) : Int) := nI_toInt (by omega); have := i_eq q; omega))
              refine r_iload rfl rfl ?_
              refine r_ic (x := (-1)) rfl rfl ?_
              refine r_icmp_eq (tg := 90) rfl rfl (fun q => False.elim (by have : (nI t7).toInt = ((t7 : Nat) : Int) := nI_toInt (by omega); have : (-1 : Int32).toInt = -1 := rfl; have := i_eq q; omega)) (fun _ => ?_)
              refine r_iload rfl rfl ?_
              refine r_ic (x := (-1)) rfl rfl ?_
              refine r_icmp_eq (tg := 90) rfl rfl (fun q => False.elim (by have : (nI (q16 + 1000)).toInt = ((q16 + 1000 : Nat) : Int) := nI_toInt (by omega); have : (-1 : Int32).toInt = -1 := rfl; have := i_eq q; omega)) (fun _ => ?_)
              refine r_iload rfl rfl ?_
              refine r_ic (x := 1000) rfl rfl ?_
              refine r_icmp_ge (tg := 90) rfl rfl (fun q => False.elim (by have : (nI t7).toInt = ((t7 : Nat) : Int) := nI_toInt (by omega); have : (1000 : Int32).toInt = 1000 := rfl; have := i_le q; omega)) (fun _ => ?_)
              refine r_iload rfl rfl ?_
              refine r_ic (x := 1000) rfl rfl ?_
              refine r_icmp_ge (tg := 90) rfl rfl (fun _ => ?_) (fun q => False.elim (by have : (nI (q16 + 1000)).toInt = ((q16 + 1000 : Nat) : Int) := nI_toInt (by omega); have : (1000 : Int32).toInt = 1000 := rfl; have := i_nle q; omega))
              refine r_aload rfl rfl ?_
              refine r_ic (x := 0) rfl rfl ?_
              refine r_cv (y := 154) (ra := [.int 0]) (rest := []) rfl ⟨⟨rfl, rfl⟩, rfl, by decide⟩ (fx_t30 fx) rfl rfl (Nat.le_of_ble_eq_true rfl) ?_
              refine in_154 (Nat.le_of_ble_eq_true rfl) ?_
              show WR _ cd_154 0 [some (.ref (ad 30)), some (.int 0)] [] (sI h (ad 0) 6 0) _
              refine r_aload rfl rfl ?_
              refine r_iload rfl rfl ?_
              refine r_ic (x := (-1)) rfl rfl ?_
              refine r_icmp_ge (tg := 10) rfl rfl (fun _ => ?_) (fun q => absurd q (by decide))
              refine r_ic (x := 0) rfl rfl ?_
              refine r_putI rfl ⟨rfl, rfl, rfl⟩ (fx_t30 fx) ?_
              have fx : FX n ad sa z0 (sI (sI h (ad 0) 6 0) (ad 30) 11 0) := (FX.sI fx)
              refine r_iload rfl rfl ?_
              refine r_iret rfl ?_
              show WR _ cd_181 95 [some (.ref (ad 30)), some (.int c), some (.int d), some (.int (nI t7)), some (.int (nI (q16 + 1000))), none] [.int 0] (sI (sI h (ad 0) 6 0) (ad 30) 11 0) _
              refine r_iret rfl ?_
              exact ⟨rfl, Rel.why r ((Chg.rf.sI (fx_j fx) (.inl (by decide))).sI (fx_j fx) (.inl (by decide))) ⟨rfl, by decide⟩ (Eq.trans (Eq.trans (I_ne (fx_ne fx (by decide))) I_eq) (Eq.symm I_eq)), (by (try simp only [hZ_sI, hZ_sL, hZ_sD, hZ_sR]); omega), (by (try simp only [hU_sI, hU_sL, hU_sD, hU_sR]); omega)⟩
            · refine r_aaloadA (b := mid t16) rfl (isQ_of (fx_t1 fx) (by decide)) (vp_ct (fx_n1 fx) (vp_in_nI (by have := i_nlt c4; have := i_rg d; have : (0 : Int32).toInt = 0 := rfl; have := i_eq ek5; have : (nI k5).toInt = ((k5 : Nat) : Int) := nI_toInt (by omega); have := i_nle c6; have : (24 : Int32).toInt = 24 := rfl; omega) (by omega))) (Eq.trans (congrArg (hR (sI h (ad 0) 6 0) (ad 1)) ((nI_clamp (by have := i_nlt c4; have := i_rg d; have : (0 : Int32).toInt = 0 := rfl; have := i_eq ek5; have : (nI k5).toInt = ((k5 : Nat) : Int) := nI_toInt (by omega); have := i_nle c6; have : (24 : Int32).toInt = 24 := rfl; omega)) : _ = k5)) (Eq.trans R_oI w16)) ?_
              refine r_astore (lv' := [some (.ref (ad 0)), some (.int c), some (.int d), some (.ref (mid t7)), some (.ref (mid t16))]) rfl (Nat.le_of_ble_eq_true rfl) rfl ?_
              refine r_aload rfl rfl ?_
              refine r_aload rfl rfl ?_
              have c17e : ¬ t7 = t16 := fun e => by have q1 := tg7; have q2 := tg16; rw [e, q2] at q1; cases q1
              refine r_acmpA_ne (tg := 49) rfl rfl (fun _ => ?_) (fun q => absurd q (fun e => by have q1 := tg7; have q2 := tg16; rw [e, q2] at q1; cases q1))
              refine r_aload rfl rfl ?_
              refine r_ifnullA (tg := 71) rfl rfl ?_
              refine r_aload rfl rfl ?_
              refine r_ifnullA (tg := 71) rfl rfl ?_
              refine r_aload rfl rfl ?_
              refine r_aload rfl rfl ?_
              refine r_cw (y := 62) (ra := [.ref (mid t16)]) (rest := []) rfl ⟨rfl, rfl⟩ (by rw [show hT (sI h (ad 0) 6 0) (mid t7) = 6 from tg7]; rfl) rfl rfl (Nat.le_of_ble_eq_true rfl) ?_
              refine in_62 (Nat.le_of_ble_eq_true rfl) ?_
              show WR _ cd_62 0 [some (.ref (mid t7)), some (.ref (mid t16)), none, none] [] (sI h (ad 0) 6 0) _
              refine r_aload rfl rfl ?_
              refine r_instW rfl (by decide) tg16 (by decide) ?_
              refine r_if_eq (tg := 36) rfl rfl (fun _ => ?_) (fun q => absurd q (by decide))
              refine r_ic (x := 0) rfl rfl ?_
              refine r_zret rfl (.inl rfl) ?_
              show WR _ cd_59 64 [some (.ref (ad 0)), some (.int c), some (.int d), some (.ref (mid t7)), some (.ref (mid t16))] [.int 0] (sI h (ad 0) 6 0) _
              refine r_if_eq (tg := 71) rfl rfl (fun _ => ?_) (fun q => absurd q (by decide))
              refine r_ic (x := 0) rfl rfl ?_
              refine r_iret rfl ?_
              show EV _ 181 [.ref (ad 30), .int c, .int d] (sI h (ad 0) 6 0) _
              refine in_181 (Nat.le_of_ble_eq_true rfl) ?_
              show WR _ cd_181 0 [some (.ref (ad 30)), some (.int c), some (.int d), none, none, none] [] (sI h (ad 0) 6 0) _
              refine r_iload rfl rfl ?_
              refine WR_tI (y := nI k2) ek2 ?_
              refine r_cs (y := 153) (ra := [.int (nI k2)]) (rest := []) rfl ⟨⟨rfl, rfl⟩, by decide⟩ rfl rfl (Nat.le_of_ble_eq_true rfl) ?_
              refine in_153 (Nat.le_of_ble_eq_true rfl) ?_
              show WR _ cd_153 0 [some (.int (nI k2))] [] (sI h (ad 0) 6 0) _
              refine r_iload rfl rfl ?_
              refine r_if_lt (tg := 14) rfl rfl (fun q => False.elim (by have := i_nlt c1; have := i_rg c; have : (0 : Int32).toInt = 0 := rfl; have := i_eq ek2; have : (nI k2).toInt = ((k2 : Nat) : Int) := nI_toInt (by omega); have := i_nle c3; have : (24 : Int32).toInt = 24 := rfl; have := i_lt q; omega)) (fun _ => ?_)
              refine r_iload rfl rfl ?_
              refine r_ic (x := 24) rfl rfl ?_
              refine r_icmp_ge (tg := 14) rfl rfl (fun q => False.elim (by have := i_nlt c1; have := i_rg c; have : (0 : Int32).toInt = 0 := rfl; have := i_eq ek2; have : (nI k2).toInt = ((k2 : Nat) : Int) := nI_toInt (by omega); have := i_nle c3; have : (24 : Int32).toInt = 24 := rfl; have := i_le q; omega)) (fun _ => ?_)
              refine r_ic (x := 1) rfl rfl ?_
              refine r_goto (tg := 15) rfl rfl ?_
              refine r_zret rfl (.inr rfl) ?_
              show WR _ cd_181 4 [some (.ref (ad 30)), some (.int c), some (.int d), none, none, none] [.int 1] (sI h (ad 0) 6 0) _
              refine r_if_eq (tg := 14) rfl rfl (fun q => absurd q (by decide)) (fun _ => ?_)
              refine r_iload rfl rfl ?_
              refine WR_tI (y := nI k5) ek5 ?_
              refine r_cs (y := 153) (ra := [.int (nI k5)]) (rest := []) rfl ⟨⟨rfl, rfl⟩, by decide⟩ rfl rfl (Nat.le_of_ble_eq_true rfl) ?_
              refine in_153 (Nat.le_of_ble_eq_true rfl) ?_
              show WR _ cd_153 0 [some (.int (nI k5))] [] (sI h (ad 0) 6 0) _
              refine r_iload rfl rfl ?_
              refine r_if_lt (tg := 14) rfl rfl (fun q => False.elim (by have := i_nlt c4; have := i_rg d; have : (0 : Int32).toInt = 0 := rfl; have := i_eq ek5; have : (nI k5).toInt = ((k5 : Nat) : Int) := nI_toInt (by omega); have := i_nle c6; have : (24 : Int32).toInt = 24 := rfl; have := i_lt q; omega)) (fun _ => ?_)
              refine r_iload rfl rfl ?_
              refine r_ic (x := 24) rfl rfl ?_
              refine r_icmp_ge (tg := 14) rfl rfl (fun q => False.elim (by have := i_nlt c4; have := i_rg d; have : (0 : Int32).toInt = 0 := rfl; have := i_eq ek5; have : (nI k5).toInt = ((k5 : Nat) : Int) := nI_toInt (by omega); have := i_nle c6; have : (24 : Int32).toInt = 24 := rfl; have := i_le q; omega)) (fun _ => ?_)
              refine r_ic (x := 1) rfl rfl ?_
              refine r_goto (tg := 15) rfl rfl ?_
              refine r_zret rfl (.inr rfl) ?_
              show WR _ cd_181 11 [some (.ref (ad 30)), some (.int c), some (.int d), none, none, none] [.int 1] (sI h (ad 0) 6 0) _
              refine r_if_ne (tg := 21) rfl rfl (fun _ => ?_) (fun q => absurd q (by decide))
              refine r_aload rfl rfl ?_
              refine r_getA (b := ad 31) rfl ⟨rfl, rfl, rfl⟩ (fx_t30 fx) (fx_r30_0 fx) ?_
              refine r_iload rfl rfl ?_
              refine WR_tI (y := nI k2) ek2 ?_
              refine r_iaload rfl (.inl (fx_t31 fx)) (vp_ct (fx_n31 fx) (vp_in_nI (by have := i_nlt c1; have := i_rg c; have : (0 : Int32).toInt = 0 := rfl; have := i_eq ek2; have : (nI k2).toInt = ((k2 : Nat) : Int) := nI_toInt (by omega); have := i_nle c3; have : (24 : Int32).toInt = 24 := rfl; omega) (by omega))) ?_
              refine WR_tI (congrArg (hI (sI h (ad 0) 6 0) (ad 31)) ((nI_clamp (by have := i_nlt c1; have := i_rg c; have : (0 : Int32).toInt = 0 := rfl; have := i_eq ek2; have : (nI k2).toInt = ((k2 : Nat) : Int) := nI_toInt (by omega); have := i_nle c3; have : (24 : Int32).toInt = 24 := rfl; omega)) : _ = k2)) ?_
              refine WR_tI (y := nI t7) (Eq.trans (I_ne (fx_ne fx (by decide))) v7) ?_
              refine r_istore (lv' := [some (.ref (ad 30)), some (.int c), some (.int d), some (.int (nI t7)), none, none]) rfl (Nat.le_of_ble_eq_true rfl) rfl ?_
              refine r_aload rfl rfl ?_
              refine r_getA (b := ad 31) rfl ⟨rfl, rfl, rfl⟩ (fx_t30 fx) (fx_r30_0 fx) ?_
              refine r_iload rfl rfl ?_
              refine WR_tI (y := nI k5) ek5 ?_
              refine r_iaload rfl (.inl (fx_t31 fx)) (vp_ct (fx_n31 fx) (vp_in_nI (by have := i_nlt c4; have := i_rg d; have : (0 : Int32).toInt = 0 := rfl; have := i_eq ek5; have : (nI k5).toInt = ((k5 : Nat) : Int) := nI_toInt (by omega); have := i_nle c6; have : (24 : Int32).toInt = 24 := rfl; omega) (by omega))) ?_
              refine WR_tI (congrArg (hI (sI h (ad 0) 6 0) (ad 31)) ((nI_clamp (by have := i_nlt c4; have := i_rg d; have : (0 : Int32).toInt = 0 := rfl; have := i_eq ek5; have : (nI k5).toInt = ((k5 : Nat) : Int) := nI_toInt (by omega); have := i_nle c6; have : (24 : Int32).toInt = 24 := rfl; omega)) : _ = k5)) ?_
              refine WR_tI (y := nI t16) (Eq.trans (I_ne (fx_ne fx (by decide))) v16) ?_
              refine r_istore (lv' := [some (.ref (ad 30)), some (.int c), some (.int d), some (.int (nI t7)), some (.int (nI t16)), none]) rfl (Nat.le_of_ble_eq_true rfl) rfl ?_
              refine r_iload rfl rfl ?_
              refine r_iload rfl rfl ?_
              refine r_icmp_ne (tg := 48) rfl rfl (fun _ => ?_) (fun q => False.elim (by have : (nI t7).toInt = ((t7 : Nat) : Int) := nI_toInt (by omega); have : (nI t16).toInt = ((t16 : Nat) : Int) := nI_toInt (by omega); have := i_eq q; omega))
              refine r_iload rfl rfl ?_
              refine r_ic (x := (-1)) rfl rfl ?_
              refine r_icmp_eq (tg := 90) rfl rfl (fun q => False.elim (by have : (nI t7).toInt = ((t7 : Nat) : Int) := nI_toInt (by omega); have : (-1 : Int32).toInt = -1 := rfl; have := i_eq q; omega)) (fun _ => ?_)
              refine r_iload rfl rfl ?_
              refine r_ic (x := (-1)) rfl rfl ?_
              refine r_icmp_eq (tg := 90) rfl rfl (fun q => False.elim (by have : (nI t16).toInt = ((t16 : Nat) : Int) := nI_toInt (by omega); have : (-1 : Int32).toInt = -1 := rfl; have := i_eq q; omega)) (fun _ => ?_)
              refine r_iload rfl rfl ?_
              refine r_ic (x := 1000) rfl rfl ?_
              refine r_icmp_ge (tg := 90) rfl rfl (fun q => False.elim (by have : (nI t7).toInt = ((t7 : Nat) : Int) := nI_toInt (by omega); have : (1000 : Int32).toInt = 1000 := rfl; have := i_le q; omega)) (fun _ => ?_)
              refine r_iload rfl rfl ?_
              refine r_ic (x := 1000) rfl rfl ?_
              refine r_icmp_ge (tg := 90) rfl rfl (fun q => False.elim (by have : (nI t16).toInt = ((t16 : Nat) : Int) := nI_toInt (by omega); have : (1000 : Int32).toInt = 1000 := rfl; have := i_le q; omega)) (fun _ => ?_)
              refine r_aload rfl rfl ?_
              refine r_getA (b := ad 33) rfl ⟨rfl, rfl, rfl⟩ (fx_t30 fx) (fx_r30_2 fx) ?_
              refine r_iload rfl rfl ?_
              refine r_iaload rfl (.inl (fx_t33 fx)) (vp_ct (fx_n33 fx) (vp_in_nI (by omega) (by omega))) ?_
              refine WR_tI (congrArg (hI (sI h (ad 0) 6 0) (ad 33)) ((nI_clamp (by omega)) : _ = t7)) ?_
              refine WR_tI (y := 8) (Eq.trans (I_ne (fx_ne fx (by decide))) l2_7) ?_
              refine r_aload rfl rfl ?_
              refine r_getA (b := ad 33) rfl ⟨rfl, rfl, rfl⟩ (fx_t30 fx) (fx_r30_2 fx) ?_
              refine r_iload rfl rfl ?_
              refine r_iaload rfl (.inl (fx_t33 fx)) (vp_ct (fx_n33 fx) (vp_in_nI (by omega) (by omega))) ?_
              refine WR_tI (congrArg (hI (sI h (ad 0) 6 0) (ad 33)) ((nI_clamp (by omega)) : _ = t16)) ?_
              refine WR_tI (y := nI ln16) (Eq.trans (I_ne (fx_ne fx (by decide))) l2_16) ?_
              refine r_icmp_eq (tg := 96) rfl rfl (fun q => False.elim (by have : (8 : Int32).toInt = 8 := rfl; have : (nI ln16).toInt = ((ln16 : Nat) : Int) := nI_toInt (by omega); have := i_eq q; omega)) (fun _ => ?_)
              refine r_aload rfl rfl ?_
              refine r_ic (x := 0) rfl rfl ?_
              refine r_cv (y := 154) (ra := [.int 0]) (rest := []) rfl ⟨⟨rfl, rfl⟩, rfl, by decide⟩ (fx_t30 fx) rfl rfl (Nat.le_of_ble_eq_true rfl) ?_
              refine in_154 (Nat.le_of_ble_eq_true rfl) ?_
              show WR _ cd_154 0 [some (.ref (ad 30)), some (.int 0)] [] (sI h (ad 0) 6 0) _
              refine r_aload rfl rfl ?_
              refine r_iload rfl rfl ?_
              refine r_ic (x := (-1)) rfl rfl ?_
              refine r_icmp_ge (tg := 10) rfl rfl (fun _ => ?_) (fun q => absurd q (by decide))
              refine r_ic (x := 0) rfl rfl ?_
              refine r_putI rfl ⟨rfl, rfl, rfl⟩ (fx_t30 fx) ?_
              have fx : FX n ad sa z0 (sI (sI h (ad 0) 6 0) (ad 30) 11 0) := (FX.sI fx)
              refine r_iload rfl rfl ?_
              refine r_iret rfl ?_
              show WR _ cd_181 95 [some (.ref (ad 30)), some (.int c), some (.int d), some (.int (nI t7)), some (.int (nI t16)), none] [.int 0] (sI (sI h (ad 0) 6 0) (ad 30) 11 0) _
              refine r_iret rfl ?_
              exact ⟨rfl, Rel.why r ((Chg.rf.sI (fx_j fx) (.inl (by decide))).sI (fx_j fx) (.inl (by decide))) ⟨rfl, by decide⟩ (Eq.trans (Eq.trans (I_ne (fx_ne fx (by decide))) I_eq) (Eq.symm I_eq)), (by (try simp only [hZ_sI, hZ_sL, hZ_sD, hZ_sR]); omega), (by (try simp only [hU_sI, hU_sL, hU_sD, hU_sR]); omega)⟩
            · refine r_aaloadA (b := mid t16) rfl (isQ_of (fx_t1 fx) (by decide)) (vp_ct (fx_n1 fx) (vp_in_nI (by have := i_nlt c4; have := i_rg d; have : (0 : Int32).toInt = 0 := rfl; have := i_eq ek5; have : (nI k5).toInt = ((k5 : Nat) : Int) := nI_toInt (by omega); have := i_nle c6; have : (24 : Int32).toInt = 24 := rfl; omega) (by omega))) (Eq.trans (congrArg (hR (sI h (ad 0) 6 0) (ad 1)) ((nI_clamp (by have := i_nlt c4; have := i_rg d; have : (0 : Int32).toInt = 0 := rfl; have := i_eq ek5; have : (nI k5).toInt = ((k5 : Nat) : Int) := nI_toInt (by omega); have := i_nle c6; have : (24 : Int32).toInt = 24 := rfl; omega)) : _ = k5)) (Eq.trans R_oI w16)) ?_
              refine r_astore (lv' := [some (.ref (ad 0)), some (.int c), some (.int d), some (.ref (mid t7)), some (.ref (mid t16))]) rfl (Nat.le_of_ble_eq_true rfl) rfl ?_
              refine r_aload rfl rfl ?_
              refine r_aload rfl rfl ?_
              refine r_acmpA_ne (tg := 49) rfl rfl (fun c18 => ?_) (fun c18 => ?_)
              · have c18e : ¬ t7 = t16 := fun e => c18 (by rw [e])
                refine r_aload rfl rfl ?_
                refine r_ifnullA (tg := 71) rfl rfl ?_
                refine r_aload rfl rfl ?_
                refine r_ifnullA (tg := 71) rfl rfl ?_
                refine r_aload rfl rfl ?_
                refine r_aload rfl rfl ?_
                refine r_cw (y := 62) (ra := [.ref (mid t16)]) (rest := []) rfl ⟨rfl, rfl⟩ (by rw [show hT (sI h (ad 0) 6 0) (mid t7) = 6 from tg7]; rfl) rfl rfl (Nat.le_of_ble_eq_true rfl) ?_
                have rsy : Rs ad z0 mid pa np (sI h (ad 0) 6 0) := Rs.y fx0 rs
                have smy : smS ad z0 h (sI h (ad 0) 6 0) := smY fx0
                obtain ⟨P, p1, p2⟩ := al_g (H := sI h (ad 0) 6 0) fx rsy ht7 ht16 (c := k2) (c' := k5) (by have := i_nlt c1; have := i_rg c; have : (0 : Int32).toInt = 0 := rfl; have := i_eq ek2; have : (nI k2).toInt = ((k2 : Nat) : Int) := nI_toInt (by omega); have := i_nle c3; have : (24 : Int32).toInt = 24 := rfl; omega) (by have := i_nlt c4; have := i_rg d; have : (0 : Int32).toInt = 0 := rfl; have := i_eq ek5; have : (nI k5).toInt = ((k5 : Nat) : Int) := nI_toInt (by omega); have := i_nle c6; have : (24 : Int32).toInt = 24 := rfl; omega) (Eq.trans (I_ne (fx_ne fx (by decide))) v7) (Eq.trans (I_ne (fx_ne fx (by decide))) v16) (rw7.s smy) (rw16.s smy)
                refine p1 _ _ (fun hP => ?_) (fun hP => ?_)
                · show WR _ cd_59 64 [some (.ref (ad 0)), some (.int c), some (.int d), some (.ref (mid t7)), some (.ref (mid t16))] [.int 1] (sI h (ad 0) 6 0) _
                  refine r_if_eq (tg := 71) rfl rfl (fun q => absurd q (by decide)) (fun _ => ?_)
                  refine r_ic (x := 2) rfl rfl ?_
                  refine r_goto (tg := 72) rfl rfl ?_
                  refine r_iret rfl ?_
                  show EV _ 181 [.ref (ad 30), .int c, .int d] (sI h (ad 0) 6 0) _
                  refine in_181 (Nat.le_of_ble_eq_true rfl) ?_
                  show WR _ cd_181 0 [some (.ref (ad 30)), some (.int c), some (.int d), none, none, none] [] (sI h (ad 0) 6 0) _
                  refine r_iload rfl rfl ?_
                  refine WR_tI (y := nI k2) ek2 ?_
                  refine r_cs (y := 153) (ra := [.int (nI k2)]) (rest := []) rfl ⟨⟨rfl, rfl⟩, by decide⟩ rfl rfl (Nat.le_of_ble_eq_true rfl) ?_
                  refine in_153 (Nat.le_of_ble_eq_true rfl) ?_
                  show WR _ cd_153 0 [some (.int (nI k2))] [] (sI h (ad 0) 6 0) _
                  refine r_iload rfl rfl ?_
                  refine r_if_lt (tg := 14) rfl rfl (fun q => False.elim (by have := i_nlt c1; have := i_rg c; have : (0 : Int32).toInt = 0 := rfl; have := i_eq ek2; have : (nI k2).toInt = ((k2 : Nat) : Int) := nI_toInt (by omega); have := i_nle c3; have : (24 : Int32).toInt = 24 := rfl; have := i_lt q; omega)) (fun _ => ?_)
                  refine r_iload rfl rfl ?_
                  refine r_ic (x := 24) rfl rfl ?_
                  refine r_icmp_ge (tg := 14) rfl rfl (fun q => False.elim (by have := i_nlt c1; have := i_rg c; have : (0 : Int32).toInt = 0 := rfl; have := i_eq ek2; have : (nI k2).toInt = ((k2 : Nat) : Int) := nI_toInt (by omega); have := i_nle c3; have : (24 : Int32).toInt = 24 := rfl; have := i_le q; omega)) (fun _ => ?_)
                  refine r_ic (x := 1) rfl rfl ?_
                  refine r_goto (tg := 15) rfl rfl ?_
                  refine r_zret rfl (.inr rfl) ?_
                  show WR _ cd_181 4 [some (.ref (ad 30)), some (.int c), some (.int d), none, none, none] [.int 1] (sI h (ad 0) 6 0) _
                  refine r_if_eq (tg := 14) rfl rfl (fun q => absurd q (by decide)) (fun _ => ?_)
                  refine r_iload rfl rfl ?_
                  refine WR_tI (y := nI k5) ek5 ?_
                  refine r_cs (y := 153) (ra := [.int (nI k5)]) (rest := []) rfl ⟨⟨rfl, rfl⟩, by decide⟩ rfl rfl (Nat.le_of_ble_eq_true rfl) ?_
                  refine in_153 (Nat.le_of_ble_eq_true rfl) ?_
                  show WR _ cd_153 0 [some (.int (nI k5))] [] (sI h (ad 0) 6 0) _
                  refine r_iload rfl rfl ?_
                  refine r_if_lt (tg := 14) rfl rfl (fun q => False.elim (by have := i_nlt c4; have := i_rg d; have : (0 : Int32).toInt = 0 := rfl; have := i_eq ek5; have : (nI k5).toInt = ((k5 : Nat) : Int) := nI_toInt (by omega); have := i_nle c6; have : (24 : Int32).toInt = 24 := rfl; have := i_lt q; omega)) (fun _ => ?_)
                  refine r_iload rfl rfl ?_
                  refine r_ic (x := 24) rfl rfl ?_
                  refine r_icmp_ge (tg := 14) rfl rfl (fun q => False.elim (by have := i_nlt c4; have := i_rg d; have : (0 : Int32).toInt = 0 := rfl; have := i_eq ek5; have : (nI k5).toInt = ((k5 : Nat) : Int) := nI_toInt (by omega); have := i_nle c6; have : (24 : Int32).toInt = 24 := rfl; have := i_le q; omega)) (fun _ => ?_)
                  refine r_ic (x := 1) rfl rfl ?_
                  refine r_goto (tg := 15) rfl rfl ?_
                  refine r_zret rfl (.inr rfl) ?_
                  show WR _ cd_181 11 [some (.ref (ad 30)), some (.int c), some (.int d), none, none, none] [.int 1] (sI h (ad 0) 6 0) _
                  refine r_if_ne (tg := 21) rfl rfl (fun _ => ?_) (fun q => absurd q (by decide))
                  refine r_aload rfl rfl ?_
                  refine r_getA (b := ad 31) rfl ⟨rfl, rfl, rfl⟩ (fx_t30 fx) (fx_r30_0 fx) ?_
                  refine r_iload rfl rfl ?_
                  refine WR_tI (y := nI k2) ek2 ?_
                  refine r_iaload rfl (.inl (fx_t31 fx)) (vp_ct (fx_n31 fx) (vp_in_nI (by have := i_nlt c1; have := i_rg c; have : (0 : Int32).toInt = 0 := rfl; have := i_eq ek2; have : (nI k2).toInt = ((k2 : Nat) : Int) := nI_toInt (by omega); have := i_nle c3; have : (24 : Int32).toInt = 24 := rfl; omega) (by omega))) ?_
                  refine WR_tI (congrArg (hI (sI h (ad 0) 6 0) (ad 31)) ((nI_clamp (by have := i_nlt c1; have := i_rg c; have : (0 : Int32).toInt = 0 := rfl; have := i_eq ek2; have : (nI k2).toInt = ((k2 : Nat) : Int) := nI_toInt (by omega); have := i_nle c3; have : (24 : Int32).toInt = 24 := rfl; omega)) : _ = k2)) ?_
                  refine WR_tI (y := nI t7) (Eq.trans (I_ne (fx_ne fx (by decide))) v7) ?_
                  refine r_istore (lv' := [some (.ref (ad 30)), some (.int c), some (.int d), some (.int (nI t7)), none, none]) rfl (Nat.le_of_ble_eq_true rfl) rfl ?_
                  refine r_aload rfl rfl ?_
                  refine r_getA (b := ad 31) rfl ⟨rfl, rfl, rfl⟩ (fx_t30 fx) (fx_r30_0 fx) ?_
                  refine r_iload rfl rfl ?_
                  refine WR_tI (y := nI k5) ek5 ?_
                  refine r_iaload rfl (.inl (fx_t31 fx)) (vp_ct (fx_n31 fx) (vp_in_nI (by have := i_nlt c4; have := i_rg d; have : (0 : Int32).toInt = 0 := rfl; have := i_eq ek5; have : (nI k5).toInt = ((k5 : Nat) : Int) := nI_toInt (by omega); have := i_nle c6; have : (24 : Int32).toInt = 24 := rfl; omega) (by omega))) ?_
                  refine WR_tI (congrArg (hI (sI h (ad 0) 6 0) (ad 31)) ((nI_clamp (by have := i_nlt c4; have := i_rg d; have : (0 : Int32).toInt = 0 := rfl; have := i_eq ek5; have : (nI k5).toInt = ((k5 : Nat) : Int) := nI_toInt (by omega); have := i_nle c6; have : (24 : Int32).toInt = 24 := rfl; omega)) : _ = k5)) ?_
                  refine WR_tI (y := nI t16) (Eq.trans (I_ne (fx_ne fx (by decide))) v16) ?_
                  refine r_istore (lv' := [some (.ref (ad 30)), some (.int c), some (.int d), some (.int (nI t7)), some (.int (nI t16)), none]) rfl (Nat.le_of_ble_eq_true rfl) rfl ?_
                  refine r_iload rfl rfl ?_
                  refine r_iload rfl rfl ?_
                  refine r_icmp_ne (tg := 48) rfl rfl (fun _ => ?_) (fun q => False.elim (by have : (nI t7).toInt = ((t7 : Nat) : Int) := nI_toInt (by omega); have : (nI t16).toInt = ((t16 : Nat) : Int) := nI_toInt (by omega); have := i_eq q; omega))
                  refine r_iload rfl rfl ?_
                  refine r_ic (x := (-1)) rfl rfl ?_
                  refine r_icmp_eq (tg := 90) rfl rfl (fun q => False.elim (by have : (nI t7).toInt = ((t7 : Nat) : Int) := nI_toInt (by omega); have : (-1 : Int32).toInt = -1 := rfl; have := i_eq q; omega)) (fun _ => ?_)
                  refine r_iload rfl rfl ?_
                  refine r_ic (x := (-1)) rfl rfl ?_
                  refine r_icmp_eq (tg := 90) rfl rfl (fun q => False.elim (by have : (nI t16).toInt = ((t16 : Nat) : Int) := nI_toInt (by omega); have : (-1 : Int32).toInt = -1 := rfl; have := i_eq q; omega)) (fun _ => ?_)
                  refine r_iload rfl rfl ?_
                  refine r_ic (x := 1000) rfl rfl ?_
                  refine r_icmp_ge (tg := 90) rfl rfl (fun q => False.elim (by have : (nI t7).toInt = ((t7 : Nat) : Int) := nI_toInt (by omega); have : (1000 : Int32).toInt = 1000 := rfl; have := i_le q; omega)) (fun _ => ?_)
                  refine r_iload rfl rfl ?_
                  refine r_ic (x := 1000) rfl rfl ?_
                  refine r_icmp_ge (tg := 90) rfl rfl (fun q => False.elim (by have : (nI t16).toInt = ((t16 : Nat) : Int) := nI_toInt (by omega); have : (1000 : Int32).toInt = 1000 := rfl; have := i_le q; omega)) (fun _ => ?_)
                  refine r_aload rfl rfl ?_
                  refine r_getA (b := ad 33) rfl ⟨rfl, rfl, rfl⟩ (fx_t30 fx) (fx_r30_2 fx) ?_
                  refine r_iload rfl rfl ?_
                  refine r_iaload rfl (.inl (fx_t33 fx)) (vp_ct (fx_n33 fx) (vp_in_nI (by omega) (by omega))) ?_
                  refine WR_tI (congrArg (hI (sI h (ad 0) 6 0) (ad 33)) ((nI_clamp (by omega)) : _ = t7)) ?_
                  refine WR_tI (y := 8) (Eq.trans (I_ne (fx_ne fx (by decide))) l2_7) ?_
                  refine r_aload rfl rfl ?_
                  refine r_getA (b := ad 33) rfl ⟨rfl, rfl, rfl⟩ (fx_t30 fx) (fx_r30_2 fx) ?_
                  refine r_iload rfl rfl ?_
                  refine r_iaload rfl (.inl (fx_t33 fx)) (vp_ct (fx_n33 fx) (vp_in_nI (by omega) (by omega))) ?_
                  refine WR_tI (congrArg (hI (sI h (ad 0) 6 0) (ad 33)) ((nI_clamp (by omega)) : _ = t16)) ?_
                  refine WR_tI (y := 8) (Eq.trans (I_ne (fx_ne fx (by decide))) l2_16) ?_
                  refine r_icmp_eq (tg := 96) rfl rfl (fun _ => ?_) (fun q => absurd q (by decide))
                  refine r_aload rfl rfl ?_
                  refine r_getA (b := ad 33) rfl ⟨rfl, rfl, rfl⟩ (fx_t30 fx) (fx_r30_2 fx) ?_
                  refine r_iload rfl rfl ?_
                  refine r_iaload rfl (.inl (fx_t33 fx)) (vp_ct (fx_n33 fx) (vp_in_nI (by omega) (by omega))) ?_
                  refine WR_tI (congrArg (hI (sI h (ad 0) 6 0) (ad 33)) ((nI_clamp (by omega)) : _ = t7)) ?_
                  refine WR_tI (y := 8) (Eq.trans (I_ne (fx_ne fx (by decide))) l2_7) ?_
                  refine r_ic (x := 8) rfl rfl ?_
                  refine r_icmp_ne (tg := 117) rfl rfl (fun q => absurd q (by decide)) (fun _ => ?_)
                  refine r_aload rfl rfl ?_
                  refine r_iload rfl rfl ?_
                  refine r_iload rfl rfl ?_
                  refine r_cv (y := 182) (ra := [.int (nI t16), .int (nI t7)]) (rest := []) rfl ⟨⟨rfl, rfl⟩, rfl, by decide⟩ (fx_t30 fx) rfl rfl (Nat.le_of_ble_eq_true rfl) ?_
                  refine p2 _ _ (fun _ => ?_) (fun z => absurd hP z)
                  show WR _ cd_181 114 [some (.ref (ad 30)), some (.int c), some (.int d), some (.int (nI t7)), some (.int (nI t16)), none] [.int 1] (sI h (ad 0) 6 0) _
                  refine r_goto (tg := 124) rfl rfl ?_
                  refine r_istore (lv' := [some (.ref (ad 30)), some (.int c), some (.int d), some (.int (nI t7)), some (.int (nI t16)), some (.int 1)]) rfl (Nat.le_of_ble_eq_true rfl) rfl ?_
                  refine r_aload rfl rfl ?_
                  refine r_iload rfl rfl ?_
                  refine r_if_eq (tg := 136) rfl rfl (fun q => absurd q (by decide)) (fun _ => ?_)
                  refine r_ic (x := 2) rfl rfl ?_
                  refine r_goto (tg := 137) rfl rfl ?_
                  refine r_cv (y := 154) (ra := [.int 2]) (rest := []) rfl ⟨⟨rfl, rfl⟩, rfl, by decide⟩ (fx_t30 fx) rfl rfl (Nat.le_of_ble_eq_true rfl) ?_
                  refine in_154 (Nat.le_of_ble_eq_true rfl) ?_
                  show WR _ cd_154 0 [some (.ref (ad 30)), some (.int 2)] [] (sI h (ad 0) 6 0) _
                  refine r_aload rfl rfl ?_
                  refine r_iload rfl rfl ?_
                  refine r_ic (x := (-1)) rfl rfl ?_
                  refine r_icmp_ge (tg := 10) rfl rfl (fun _ => ?_) (fun q => absurd q (by decide))
                  refine r_ic (x := 0) rfl rfl ?_
                  refine r_putI rfl ⟨rfl, rfl, rfl⟩ (fx_t30 fx) ?_
                  have fx : FX n ad sa z0 (sI (sI h (ad 0) 6 0) (ad 30) 11 0) := (FX.sI fx)
                  refine r_iload rfl rfl ?_
                  refine r_iret rfl ?_
                  show WR _ cd_181 140 [some (.ref (ad 30)), some (.int c), some (.int d), some (.int (nI t7)), some (.int (nI t16)), some (.int 1)] [.int 2] (sI (sI h (ad 0) 6 0) (ad 30) 11 0) _
                  refine r_iret rfl ?_
                  exact ⟨rfl, Rel.why r ((Chg.rf.sI (fx_j fx) (.inl (by decide))).sI (fx_j fx) (.inl (by decide))) ⟨rfl, by decide⟩ (Eq.trans (Eq.trans (I_ne (fx_ne fx (by decide))) I_eq) (Eq.symm I_eq)), (by (try simp only [hZ_sI, hZ_sL, hZ_sD, hZ_sR]); omega), (by (try simp only [hU_sI, hU_sL, hU_sD, hU_sR]); omega)⟩
                · show WR _ cd_59 64 [some (.ref (ad 0)), some (.int c), some (.int d), some (.ref (mid t7)), some (.ref (mid t16))] [.int 0] (sI h (ad 0) 6 0) _
                  refine r_if_eq (tg := 71) rfl rfl (fun _ => ?_) (fun q => absurd q (by decide))
                  refine r_ic (x := 0) rfl rfl ?_
                  refine r_iret rfl ?_
                  show EV _ 181 [.ref (ad 30), .int c, .int d] (sI h (ad 0) 6 0) _
                  refine in_181 (Nat.le_of_ble_eq_true rfl) ?_
                  show WR _ cd_181 0 [some (.ref (ad 30)), some (.int c), some (.int d), none, none, none] [] (sI h (ad 0) 6 0) _
                  refine r_iload rfl rfl ?_
                  refine WR_tI (y := nI k2) ek2 ?_
                  refine r_cs (y := 153) (ra := [.int (nI k2)]) (rest := []) rfl ⟨⟨rfl, rfl⟩, by decide⟩ rfl rfl (Nat.le_of_ble_eq_true rfl) ?_
                  refine in_153 (Nat.le_of_ble_eq_true rfl) ?_
                  show WR _ cd_153 0 [some (.int (nI k2))] [] (sI h (ad 0) 6 0) _
                  refine r_iload rfl rfl ?_
                  refine r_if_lt (tg := 14) rfl rfl (fun q => False.elim (by have := i_nlt c1; have := i_rg c; have : (0 : Int32).toInt = 0 := rfl; have := i_eq ek2; have : (nI k2).toInt = ((k2 : Nat) : Int) := nI_toInt (by omega); have := i_nle c3; have : (24 : Int32).toInt = 24 := rfl; have := i_lt q; omega)) (fun _ => ?_)
                  refine r_iload rfl rfl ?_
                  refine r_ic (x := 24) rfl rfl ?_
                  refine r_icmp_ge (tg := 14) rfl rfl (fun q => False.elim (by have := i_nlt c1; have := i_rg c; have : (0 : Int32).toInt = 0 := rfl; have := i_eq ek2; have : (nI k2).toInt = ((k2 : Nat) : Int) := nI_toInt (by omega); have := i_nle c3; have : (24 : Int32).toInt = 24 := rfl; have := i_le q; omega)) (fun _ => ?_)
                  refine r_ic (x := 1) rfl rfl ?_
                  refine r_goto (tg := 15) rfl rfl ?_
                  refine r_zret rfl (.inr rfl) ?_
                  show WR _ cd_181 4 [some (.ref (ad 30)), some (.int c), some (.int d), none, none, none] [.int 1] (sI h (ad 0) 6 0) _
                  refine r_if_eq (tg := 14) rfl rfl (fun q => absurd q (by decide)) (fun _ => ?_)
                  refine r_iload rfl rfl ?_
                  refine WR_tI (y := nI k5) ek5 ?_
                  refine r_cs (y := 153) (ra := [.int (nI k5)]) (rest := []) rfl ⟨⟨rfl, rfl⟩, by decide⟩ rfl rfl (Nat.le_of_ble_eq_true rfl) ?_
                  refine in_153 (Nat.le_of_ble_eq_true rfl) ?_
                  show WR _ cd_153 0 [some (.int (nI k5))] [] (sI h (ad 0) 6 0) _
                  refine r_iload rfl rfl ?_
                  refine r_if_lt (tg := 14) rfl rfl (fun q => False.elim (by have := i_nlt c4; have := i_rg d; have : (0 : Int32).toInt = 0 := rfl; have := i_eq ek5; have : (nI k5).toInt = ((k5 : Nat) : Int) := nI_toInt (by omega); have := i_nle c6; have : (24 : Int32).toInt = 24 := rfl; have := i_lt q; omega)) (fun _ => ?_)
                  refine r_iload rfl rfl ?_
                  refine r_ic (x := 24) rfl rfl ?_
                  refine r_icmp_ge (tg := 14) rfl rfl (fun q => False.elim (by have := i_nlt c4; have := i_rg d; have : (0 : Int32).toInt = 0 := rfl; have := i_eq ek5; have : (nI k5).toInt = ((k5 : Nat) : Int) := nI_toInt (by omega); have := i_nle c6; have : (24 : Int32).toInt = 24 := rfl; have := i_le q; omega)) (fun _ => ?_)
                  refine r_ic (x := 1) rfl rfl ?_
                  refine r_goto (tg := 15) rfl rfl ?_
                  refine r_zret rfl (.inr rfl) ?_
                  show WR _ cd_181 11 [some (.ref (ad 30)), some (.int c), some (.int d), none, none, none] [.int 1] (sI h (ad 0) 6 0) _
                  refine r_if_ne (tg := 21) rfl rfl (fun _ => ?_) (fun q => absurd q (by decide))
                  refine r_aload rfl rfl ?_
                  refine r_getA (b := ad 31) rfl ⟨rfl, rfl, rfl⟩ (fx_t30 fx) (fx_r30_0 fx) ?_
                  refine r_iload rfl rfl ?_
                  refine WR_tI (y := nI k2) ek2 ?_
                  refine r_iaload rfl (.inl (fx_t31 fx)) (vp_ct (fx_n31 fx) (vp_in_nI (by have := i_nlt c1; have := i_rg c; have : (0 : Int32).toInt = 0 := rfl; have := i_eq ek2; have : (nI k2).toInt = ((k2 : Nat) : Int) := nI_toInt (by omega); have := i_nle c3; have : (24 : Int32).toInt = 24 := rfl; omega) (by omega))) ?_
                  refine WR_tI (congrArg (hI (sI h (ad 0) 6 0) (ad 31)) ((nI_clamp (by have := i_nlt c1; have := i_rg c; have : (0 : Int32).toInt = 0 := rfl; have := i_eq ek2; have : (nI k2).toInt = ((k2 : Nat) : Int) := nI_toInt (by omega); have := i_nle c3; have : (24 : Int32).toInt = 24 := rfl; omega)) : _ = k2)) ?_
                  refine WR_tI (y := nI t7) (Eq.trans (I_ne (fx_ne fx (by decide))) v7) ?_
                  refine r_istore (lv' := [some (.ref (ad 30)), some (.int c), some (.int d), some (.int (nI t7)), none, none]) rfl (Nat.le_of_ble_eq_true rfl) rfl ?_
                  refine r_aload rfl rfl ?_
                  refine r_getA (b := ad 31) rfl ⟨rfl, rfl, rfl⟩ (fx_t30 fx) (fx_r30_0 fx) ?_
                  refine r_iload rfl rfl ?_
                  refine WR_tI (y := nI k5) ek5 ?_
                  refine r_iaload rfl (.inl (fx_t31 fx)) (vp_ct (fx_n31 fx) (vp_in_nI (by have := i_nlt c4; have := i_rg d; have : (0 : Int32).toInt = 0 := rfl; have := i_eq ek5; have : (nI k5).toInt = ((k5 : Nat) : Int) := nI_toInt (by omega); have := i_nle c6; have : (24 : Int32).toInt = 24 := rfl; omega) (by omega))) ?_
                  refine WR_tI (congrArg (hI (sI h (ad 0) 6 0) (ad 31)) ((nI_clamp (by have := i_nlt c4; have := i_rg d; have : (0 : Int32).toInt = 0 := rfl; have := i_eq ek5; have : (nI k5).toInt = ((k5 : Nat) : Int) := nI_toInt (by omega); have := i_nle c6; have : (24 : Int32).toInt = 24 := rfl; omega)) : _ = k5)) ?_
                  refine WR_tI (y := nI t16) (Eq.trans (I_ne (fx_ne fx (by decide))) v16) ?_
                  refine r_istore (lv' := [some (.ref (ad 30)), some (.int c), some (.int d), some (.int (nI t7)), some (.int (nI t16)), none]) rfl (Nat.le_of_ble_eq_true rfl) rfl ?_
                  refine r_iload rfl rfl ?_
                  refine r_iload rfl rfl ?_
                  refine r_icmp_ne (tg := 48) rfl rfl (fun _ => ?_) (fun q => False.elim (by have : (nI t7).toInt = ((t7 : Nat) : Int) := nI_toInt (by omega); have : (nI t16).toInt = ((t16 : Nat) : Int) := nI_toInt (by omega); have := i_eq q; omega))
                  refine r_iload rfl rfl ?_
                  refine r_ic (x := (-1)) rfl rfl ?_
                  refine r_icmp_eq (tg := 90) rfl rfl (fun q => False.elim (by have : (nI t7).toInt = ((t7 : Nat) : Int) := nI_toInt (by omega); have : (-1 : Int32).toInt = -1 := rfl; have := i_eq q; omega)) (fun _ => ?_)
                  refine r_iload rfl rfl ?_
                  refine r_ic (x := (-1)) rfl rfl ?_
                  refine r_icmp_eq (tg := 90) rfl rfl (fun q => False.elim (by have : (nI t16).toInt = ((t16 : Nat) : Int) := nI_toInt (by omega); have : (-1 : Int32).toInt = -1 := rfl; have := i_eq q; omega)) (fun _ => ?_)
                  refine r_iload rfl rfl ?_
                  refine r_ic (x := 1000) rfl rfl ?_
                  refine r_icmp_ge (tg := 90) rfl rfl (fun q => False.elim (by have : (nI t7).toInt = ((t7 : Nat) : Int) := nI_toInt (by omega); have : (1000 : Int32).toInt = 1000 := rfl; have := i_le q; omega)) (fun _ => ?_)
                  refine r_iload rfl rfl ?_
                  refine r_ic (x := 1000) rfl rfl ?_
                  refine r_icmp_ge (tg := 90) rfl rfl (fun q => False.elim (by have : (nI t16).toInt = ((t16 : Nat) : Int) := nI_toInt (by omega); have : (1000 : Int32).toInt = 1000 := rfl; have := i_le q; omega)) (fun _ => ?_)
                  refine r_aload rfl rfl ?_
                  refine r_getA (b := ad 33) rfl ⟨rfl, rfl, rfl⟩ (fx_t30 fx) (fx_r30_2 fx) ?_
                  refine r_iload rfl rfl ?_
                  refine r_iaload rfl (.inl (fx_t33 fx)) (vp_ct (fx_n33 fx) (vp_in_nI (by omega) (by omega))) ?_
                  refine WR_tI (congrArg (hI (sI h (ad 0) 6 0) (ad 33)) ((nI_clamp (by omega)) : _ = t7)) ?_
                  refine WR_tI (y := 8) (Eq.trans (I_ne (fx_ne fx (by decide))) l2_7) ?_
                  refine r_aload rfl rfl ?_
                  refine r_getA (b := ad 33) rfl ⟨rfl, rfl, rfl⟩ (fx_t30 fx) (fx_r30_2 fx) ?_
                  refine r_iload rfl rfl ?_
                  refine r_iaload rfl (.inl (fx_t33 fx)) (vp_ct (fx_n33 fx) (vp_in_nI (by omega) (by omega))) ?_
                  refine WR_tI (congrArg (hI (sI h (ad 0) 6 0) (ad 33)) ((nI_clamp (by omega)) : _ = t16)) ?_
                  refine WR_tI (y := 8) (Eq.trans (I_ne (fx_ne fx (by decide))) l2_16) ?_
                  refine r_icmp_eq (tg := 96) rfl rfl (fun _ => ?_) (fun q => absurd q (by decide))
                  refine r_aload rfl rfl ?_
                  refine r_getA (b := ad 33) rfl ⟨rfl, rfl, rfl⟩ (fx_t30 fx) (fx_r30_2 fx) ?_
                  refine r_iload rfl rfl ?_
                  refine r_iaload rfl (.inl (fx_t33 fx)) (vp_ct (fx_n33 fx) (vp_in_nI (by omega) (by omega))) ?_
                  refine WR_tI (congrArg (hI (sI h (ad 0) 6 0) (ad 33)) ((nI_clamp (by omega)) : _ = t7)) ?_
                  refine WR_tI (y := 8) (Eq.trans (I_ne (fx_ne fx (by decide))) l2_7) ?_
                  refine r_ic (x := 8) rfl rfl ?_
                  refine r_icmp_ne (tg := 117) rfl rfl (fun q => absurd q (by decide)) (fun _ => ?_)
                  refine r_aload rfl rfl ?_
                  refine r_iload rfl rfl ?_
                  refine r_iload rfl rfl ?_
                  refine r_cv (y := 182) (ra := [.int (nI t16), .int (nI t7)]) (rest := []) rfl ⟨⟨rfl, rfl⟩, rfl, by decide⟩ (fx_t30 fx) rfl rfl (Nat.le_of_ble_eq_true rfl) ?_
                  refine p2 _ _ (fun z => absurd z hP) (fun _ => ?_)
                  show WR _ cd_181 114 [some (.ref (ad 30)), some (.int c), some (.int d), some (.int (nI t7)), some (.int (nI t16)), none] [.int 0] (sI h (ad 0) 6 0) _
                  refine r_goto (tg := 124) rfl rfl ?_
                  refine r_istore (lv' := [some (.ref (ad 30)), some (.int c), some (.int d), some (.int (nI t7)), some (.int (nI t16)), some (.int 0)]) rfl (Nat.le_of_ble_eq_true rfl) rfl ?_
                  refine r_aload rfl rfl ?_
                  refine r_iload rfl rfl ?_
                  refine r_if_eq (tg := 136) rfl rfl (fun _ => ?_) (fun q => absurd q (by decide))
                  refine r_ic (x := 0) rfl rfl ?_
                  refine r_cv (y := 154) (ra := [.int 0]) (rest := []) rfl ⟨⟨rfl, rfl⟩, rfl, by decide⟩ (fx_t30 fx) rfl rfl (Nat.le_of_ble_eq_true rfl) ?_
                  refine in_154 (Nat.le_of_ble_eq_true rfl) ?_
                  show WR _ cd_154 0 [some (.ref (ad 30)), some (.int 0)] [] (sI h (ad 0) 6 0) _
                  refine r_aload rfl rfl ?_
                  refine r_iload rfl rfl ?_
                  refine r_ic (x := (-1)) rfl rfl ?_
                  refine r_icmp_ge (tg := 10) rfl rfl (fun _ => ?_) (fun q => absurd q (by decide))
                  refine r_ic (x := 0) rfl rfl ?_
                  refine r_putI rfl ⟨rfl, rfl, rfl⟩ (fx_t30 fx) ?_
                  have fx : FX n ad sa z0 (sI (sI h (ad 0) 6 0) (ad 30) 11 0) := (FX.sI fx)
                  refine r_iload rfl rfl ?_
                  refine r_iret rfl ?_
                  show WR _ cd_181 140 [some (.ref (ad 30)), some (.int c), some (.int d), some (.int (nI t7)), some (.int (nI t16)), some (.int 0)] [.int 0] (sI (sI h (ad 0) 6 0) (ad 30) 11 0) _
                  refine r_iret rfl ?_
                  exact ⟨rfl, Rel.why r ((Chg.rf.sI (fx_j fx) (.inl (by decide))).sI (fx_j fx) (.inl (by decide))) ⟨rfl, by decide⟩ (Eq.trans (Eq.trans (I_ne (fx_ne fx (by decide))) I_eq) (Eq.symm I_eq)), (by (try simp only [hZ_sI, hZ_sL, hZ_sD, hZ_sR]); omega), (by (try simp only [hU_sI, hU_sL, hU_sD, hU_sR]); omega)⟩
              · have c18e := rs.2.2.1 _ _ (by assumption) (by assumption) (.inl ⟨k2, (by have := i_nlt c1; have := i_rg c; have : (0 : Int32).toInt = 0 := rfl; have := i_eq ek2; have : (nI k2).toInt = ((k2 : Nat) : Int) := nI_toInt (by omega); have := i_nle c3; have : (24 : Int32).toInt = 24 := rfl; omega), v7⟩) (.inl ⟨k5, (by have := i_nlt c4; have := i_rg d; have : (0 : Int32).toInt = 0 := rfl; have := i_eq ek5; have : (nI k5).toInt = ((k5 : Nat) : Int) := nI_toInt (by omega); have := i_nle c6; have : (24 : Int32).toInt = 24 := rfl; omega), v16⟩) c18
                refine r_ic (x := 1) rfl rfl ?_
                refine r_iret rfl ?_
                show EV _ 181 [.ref (ad 30), .int c, .int d] (sI h (ad 0) 6 0) _
                refine in_181 (Nat.le_of_ble_eq_true rfl) ?_
                show WR _ cd_181 0 [some (.ref (ad 30)), some (.int c), some (.int d), none, none, none] [] (sI h (ad 0) 6 0) _
                refine r_iload rfl rfl ?_
                refine WR_tI (y := nI k2) ek2 ?_
                refine r_cs (y := 153) (ra := [.int (nI k2)]) (rest := []) rfl ⟨⟨rfl, rfl⟩, by decide⟩ rfl rfl (Nat.le_of_ble_eq_true rfl) ?_
                refine in_153 (Nat.le_of_ble_eq_true rfl) ?_
                show WR _ cd_153 0 [some (.int (nI k2))] [] (sI h (ad 0) 6 0) _
                refine r_iload rfl rfl ?_
                refine r_if_lt (tg := 14) rfl rfl (fun q => False.elim (by have := i_nlt c1; have := i_rg c; have : (0 : Int32).toInt = 0 := rfl; have := i_eq ek2; have : (nI k2).toInt = ((k2 : Nat) : Int) := nI_toInt (by omega); have := i_nle c3; have : (24 : Int32).toInt = 24 := rfl; have := i_lt q; omega)) (fun _ => ?_)
                refine r_iload rfl rfl ?_
                refine r_ic (x := 24) rfl rfl ?_
                refine r_icmp_ge (tg := 14) rfl rfl (fun q => False.elim (by have := i_nlt c1; have := i_rg c; have : (0 : Int32).toInt = 0 := rfl; have := i_eq ek2; have : (nI k2).toInt = ((k2 : Nat) : Int) := nI_toInt (by omega); have := i_nle c3; have : (24 : Int32).toInt = 24 := rfl; have := i_le q; omega)) (fun _ => ?_)
                refine r_ic (x := 1) rfl rfl ?_
                refine r_goto (tg := 15) rfl rfl ?_
                refine r_zret rfl (.inr rfl) ?_
                show WR _ cd_181 4 [some (.ref (ad 30)), some (.int c), some (.int d), none, none, none] [.int 1] (sI h (ad 0) 6 0) _
                refine r_if_eq (tg := 14) rfl rfl (fun q => absurd q (by decide)) (fun _ => ?_)
                refine r_iload rfl rfl ?_
                refine WR_tI (y := nI k5) ek5 ?_
                refine r_cs (y := 153) (ra := [.int (nI k5)]) (rest := []) rfl ⟨⟨rfl, rfl⟩, by decide⟩ rfl rfl (Nat.le_of_ble_eq_true rfl) ?_
                refine in_153 (Nat.le_of_ble_eq_true rfl) ?_
                show WR _ cd_153 0 [some (.int (nI k5))] [] (sI h (ad 0) 6 0) _
                refine r_iload rfl rfl ?_
                refine r_if_lt (tg := 14) rfl rfl (fun q => False.elim (by have := i_nlt c4; have := i_rg d; have : (0 : Int32).toInt = 0 := rfl; have := i_eq ek5; have : (nI k5).toInt = ((k5 : Nat) : Int) := nI_toInt (by omega); have := i_nle c6; have : (24 : Int32).toInt = 24 := rfl; have := i_lt q; omega)) (fun _ => ?_)
                refine r_iload rfl rfl ?_
                refine r_ic (x := 24) rfl rfl ?_
                refine r_icmp_ge (tg := 14) rfl rfl (fun q => False.elim (by have := i_nlt c4; have := i_rg d; have : (0 : Int32).toInt = 0 := rfl; have := i_eq ek5; have : (nI k5).toInt = ((k5 : Nat) : Int) := nI_toInt (by omega); have := i_nle c6; have : (24 : Int32).toInt = 24 := rfl; have := i_le q; omega)) (fun _ => ?_)
                refine r_ic (x := 1) rfl rfl ?_
                refine r_goto (tg := 15) rfl rfl ?_
                refine r_zret rfl (.inr rfl) ?_
                show WR _ cd_181 11 [some (.ref (ad 30)), some (.int c), some (.int d), none, none, none] [.int 1] (sI h (ad 0) 6 0) _
                refine r_if_ne (tg := 21) rfl rfl (fun _ => ?_) (fun q => absurd q (by decide))
                refine r_aload rfl rfl ?_
                refine r_getA (b := ad 31) rfl ⟨rfl, rfl, rfl⟩ (fx_t30 fx) (fx_r30_0 fx) ?_
                refine r_iload rfl rfl ?_
                refine WR_tI (y := nI k2) ek2 ?_
                refine r_iaload rfl (.inl (fx_t31 fx)) (vp_ct (fx_n31 fx) (vp_in_nI (by have := i_nlt c1; have := i_rg c; have : (0 : Int32).toInt = 0 := rfl; have := i_eq ek2; have : (nI k2).toInt = ((k2 : Nat) : Int) := nI_toInt (by omega); have := i_nle c3; have : (24 : Int32).toInt = 24 := rfl; omega) (by omega))) ?_
                refine WR_tI (congrArg (hI (sI h (ad 0) 6 0) (ad 31)) ((nI_clamp (by have := i_nlt c1; have := i_rg c; have : (0 : Int32).toInt = 0 := rfl; have := i_eq ek2; have : (nI k2).toInt = ((k2 : Nat) : Int) := nI_toInt (by omega); have := i_nle c3; have : (24 : Int32).toInt = 24 := rfl; omega)) : _ = k2)) ?_
                refine WR_tI (y := nI t7) (Eq.trans (I_ne (fx_ne fx (by decide))) v7) ?_
                refine r_istore (lv' := [some (.ref (ad 30)), some (.int c), some (.int d), some (.int (nI t7)), none, none]) rfl (Nat.le_of_ble_eq_true rfl) rfl ?_
                refine r_aload rfl rfl ?_
                refine r_getA (b := ad 31) rfl ⟨rfl, rfl, rfl⟩ (fx_t30 fx) (fx_r30_0 fx) ?_
                refine r_iload rfl rfl ?_
                refine WR_tI (y := nI k5) ek5 ?_
                refine r_iaload rfl (.inl (fx_t31 fx)) (vp_ct (fx_n31 fx) (vp_in_nI (by have := i_nlt c4; have := i_rg d; have : (0 : Int32).toInt = 0 := rfl; have := i_eq ek5; have : (nI k5).toInt = ((k5 : Nat) : Int) := nI_toInt (by omega); have := i_nle c6; have : (24 : Int32).toInt = 24 := rfl; omega) (by omega))) ?_
                refine WR_tI (congrArg (hI (sI h (ad 0) 6 0) (ad 31)) ((nI_clamp (by have := i_nlt c4; have := i_rg d; have : (0 : Int32).toInt = 0 := rfl; have := i_eq ek5; have : (nI k5).toInt = ((k5 : Nat) : Int) := nI_toInt (by omega); have := i_nle c6; have : (24 : Int32).toInt = 24 := rfl; omega)) : _ = k5)) ?_
                refine WR_tI (y := nI t16) (Eq.trans (I_ne (fx_ne fx (by decide))) v16) ?_
                refine r_istore (lv' := [some (.ref (ad 30)), some (.int c), some (.int d), some (.int (nI t7)), some (.int (nI t16)), none]) rfl (Nat.le_of_ble_eq_true rfl) rfl ?_
                refine r_iload rfl rfl ?_
                refine r_iload rfl rfl ?_
                refine r_icmp_ne (tg := 48) rfl rfl (fun q => False.elim (by have : (nI t7).toInt = ((t7 : Nat) : Int) := nI_toInt (by omega); have : (nI t16).toInt = ((t16 : Nat) : Int) := nI_toInt (by omega); have := i_neq q; omega)) (fun _ => ?_)
                refine r_aload rfl rfl ?_
                refine r_ic (x := 1) rfl rfl ?_
                refine r_cv (y := 154) (ra := [.int 1]) (rest := []) rfl ⟨⟨rfl, rfl⟩, rfl, by decide⟩ (fx_t30 fx) rfl rfl (Nat.le_of_ble_eq_true rfl) ?_
                refine in_154 (Nat.le_of_ble_eq_true rfl) ?_
                show WR _ cd_154 0 [some (.ref (ad 30)), some (.int 1)] [] (sI h (ad 0) 6 0) _
                refine r_aload rfl rfl ?_
                refine r_iload rfl rfl ?_
                refine r_ic (x := (-1)) rfl rfl ?_
                refine r_icmp_ge (tg := 10) rfl rfl (fun _ => ?_) (fun q => absurd q (by decide))
                refine r_ic (x := 0) rfl rfl ?_
                refine r_putI rfl ⟨rfl, rfl, rfl⟩ (fx_t30 fx) ?_
                have fx : FX n ad sa z0 (sI (sI h (ad 0) 6 0) (ad 30) 11 0) := (FX.sI fx)
                refine r_iload rfl rfl ?_
                refine r_iret rfl ?_
                show WR _ cd_181 47 [some (.ref (ad 30)), some (.int c), some (.int d), some (.int (nI t7)), some (.int (nI t16)), none] [.int 1] (sI (sI h (ad 0) 6 0) (ad 30) 11 0) _
                refine r_iret rfl ?_
                exact ⟨rfl, Rel.why r ((Chg.rf.sI (fx_j fx) (.inl (by decide))).sI (fx_j fx) (.inl (by decide))) ⟨rfl, by decide⟩ (Eq.trans (Eq.trans (I_ne (fx_ne fx (by decide))) I_eq) (Eq.symm I_eq)), (by (try simp only [hZ_sI, hZ_sL, hZ_sD, hZ_sR]); omega), (by (try simp only [hU_sI, hU_sL, hU_sD, hU_sR]); omega)⟩
            · refine r_aaloadA (b := mid t16) rfl (isQ_of (fx_t1 fx) (by decide)) (vp_ct (fx_n1 fx) (vp_in_nI (by have := i_nlt c4; have := i_rg d; have : (0 : Int32).toInt = 0 := rfl; have := i_eq ek5; have : (nI k5).toInt = ((k5 : Nat) : Int) := nI_toInt (by omega); have := i_nle c6; have : (24 : Int32).toInt = 24 := rfl; omega) (by omega))) (Eq.trans (congrArg (hR (sI h (ad 0) 6 0) (ad 1)) ((nI_clamp (by have := i_nlt c4; have := i_rg d; have : (0 : Int32).toInt = 0 := rfl; have := i_eq ek5; have : (nI k5).toInt = ((k5 : Nat) : Int) := nI_toInt (by omega); have := i_nle c6; have : (24 : Int32).toInt = 24 := rfl; omega)) : _ = k5)) (Eq.trans R_oI w16)) ?_
              refine r_astore (lv' := [some (.ref (ad 0)), some (.int c), some (.int d), some (.ref (mid t7)), some (.ref (mid t16))]) rfl (Nat.le_of_ble_eq_true rfl) rfl ?_
              refine r_aload rfl rfl ?_
              refine r_aload rfl rfl ?_
              refine r_acmpA_ne (tg := 49) rfl rfl (fun c19 => ?_) (fun c19 => ?_)
              · have c19e : ¬ t7 = t16 := fun e => c19 (by rw [e])
                refine r_aload rfl rfl ?_
                refine r_ifnullA (tg := 71) rfl rfl ?_
                refine r_aload rfl rfl ?_
                refine r_ifnullA (tg := 71) rfl rfl ?_
                refine r_aload rfl rfl ?_
                refine r_aload rfl rfl ?_
                refine r_cw (y := 62) (ra := [.ref (mid t16)]) (rest := []) rfl ⟨rfl, rfl⟩ (by rw [show hT (sI h (ad 0) 6 0) (mid t7) = 6 from tg7]; rfl) rfl rfl (Nat.le_of_ble_eq_true rfl) ?_
                refine in_62 (Nat.le_of_ble_eq_true rfl) ?_
                show WR _ cd_62 0 [some (.ref (mid t7)), some (.ref (mid t16)), none, none] [] (sI h (ad 0) 6 0) _
                refine r_aload rfl rfl ?_
                refine r_instY rfl (by decide) tg16 ?_
                refine r_if_eq (tg := 36) rfl rfl (fun q => absurd q (by decide)) (fun _ => ?_)
                refine r_aload rfl rfl ?_
                refine r_cast rfl tg16 ?_
                refine r_astore (lv' := [some (.ref (mid t7)), some (.ref (mid t16)), some (.ref (mid t16)), none]) rfl (Nat.le_of_ble_eq_true rfl) rfl ?_
                refine r_aload rfl rfl ?_
                refine r_getI rfl ⟨rfl, rfl, rfl⟩ tg16 ?_
                refine WR_tI (y := nI kd16) (Eq.trans (I_ne (dy_ad fx (.inl (by decide)) dz16)) k1_16) ?_
                refine r_aload rfl rfl ?_
                refine r_getI rfl ⟨rfl, rfl, rfl⟩ tg7 ?_
                refine WR_tI (y := (-1)) (Eq.trans (I_ne (dy_ad fx (.inl (by decide)) dz7)) k1_7) ?_
                refine r_icmp_ne (tg := 36) rfl rfl (fun _ => ?_) (fun q => False.elim (by have : (nI kd16).toInt = ((kd16 : Nat) : Int) := nI_toInt (by omega); have : (-1 : Int32).toInt = -1 := rfl; have := i_eq q; omega))
                refine r_ic (x := 0) rfl rfl ?_
                refine r_zret rfl (.inl rfl) ?_
                show WR _ cd_59 64 [some (.ref (ad 0)), some (.int c), some (.int d), some (.ref (mid t7)), some (.ref (mid t16))] [.int 0] (sI h (ad 0) 6 0) _
                refine r_if_eq (tg := 71) rfl rfl (fun _ => ?_) (fun q => absurd q (by decide))
                refine r_ic (x := 0) rfl rfl ?_
                refine r_iret rfl ?_
                show EV _ 181 [.ref (ad 30), .int c, .int d] (sI h (ad 0) 6 0) _
                refine in_181 (Nat.le_of_ble_eq_true rfl) ?_
                show WR _ cd_181 0 [some (.ref (ad 30)), some (.int c), some (.int d), none, none, none] [] (sI h (ad 0) 6 0) _
                refine r_iload rfl rfl ?_
                refine WR_tI (y := nI k2) ek2 ?_
                refine r_cs (y := 153) (ra := [.int (nI k2)]) (rest := []) rfl ⟨⟨rfl, rfl⟩, by decide⟩ rfl rfl (Nat.le_of_ble_eq_true rfl) ?_
                refine in_153 (Nat.le_of_ble_eq_true rfl) ?_
                show WR _ cd_153 0 [some (.int (nI k2))] [] (sI h (ad 0) 6 0) _
                refine r_iload rfl rfl ?_
                refine r_if_lt (tg := 14) rfl rfl (fun q => False.elim (by have := i_nlt c1; have := i_rg c; have : (0 : Int32).toInt = 0 := rfl; have := i_eq ek2; have : (nI k2).toInt = ((k2 : Nat) : Int) := nI_toInt (by omega); have := i_nle c3; have : (24 : Int32).toInt = 24 := rfl; have := i_lt q; omega)) (fun _ => ?_)
                refine r_iload rfl rfl ?_
                refine r_ic (x := 24) rfl rfl ?_
                refine r_icmp_ge (tg := 14) rfl rfl (fun q => False.elim (by have := i_nlt c1; have := i_rg c; have : (0 : Int32).toInt = 0 := rfl; have := i_eq ek2; have : (nI k2).toInt = ((k2 : Nat) : Int) := nI_toInt (by omega); have := i_nle c3; have : (24 : Int32).toInt = 24 := rfl; have := i_le q; omega)) (fun _ => ?_)
                refine r_ic (x := 1) rfl rfl ?_
                refine r_goto (tg := 15) rfl rfl ?_
                refine r_zret rfl (.inr rfl) ?_
                show WR _ cd_181 4 [some (.ref (ad 30)), some (.int c), some (.int d), none, none, none] [.int 1] (sI h (ad 0) 6 0) _
                refine r_if_eq (tg := 14) rfl rfl (fun q => absurd q (by decide)) (fun _ => ?_)
                refine r_iload rfl rfl ?_
                refine WR_tI (y := nI k5) ek5 ?_
                refine r_cs (y := 153) (ra := [.int (nI k5)]) (rest := []) rfl ⟨⟨rfl, rfl⟩, by decide⟩ rfl rfl (Nat.le_of_ble_eq_true rfl) ?_
                refine in_153 (Nat.le_of_ble_eq_true rfl) ?_
                show WR _ cd_153 0 [some (.int (nI k5))] [] (sI h (ad 0) 6 0) _
                refine r_iload rfl rfl ?_
                refine r_if_lt (tg := 14) rfl rfl (fun q => False.elim (by have := i_nlt c4; have := i_rg d; have : (0 : Int32).toInt = 0 := rfl; have := i_eq ek5; have : (nI k5).toInt = ((k5 : Nat) : Int) := nI_toInt (by omega); have := i_nle c6; have : (24 : Int32).toInt = 24 := rfl; have := i_lt q; omega)) (fun _ => ?_)
                refine r_iload rfl rfl ?_
                refine r_ic (x := 24) rfl rfl ?_
                refine r_icmp_ge (tg := 14) rfl rfl (fun q => False.elim (by have := i_nlt c4; have := i_rg d; have : (0 : Int32).toInt = 0 := rfl; have := i_eq ek5; have : (nI k5).toInt = ((k5 : Nat) : Int) := nI_toInt (by omega); have := i_nle c6; have : (24 : Int32).toInt = 24 := rfl; have := i_le q; omega)) (fun _ => ?_)
                refine r_ic (x := 1) rfl rfl ?_
                refine r_goto (tg := 15) rfl rfl ?_
                refine r_zret rfl (.inr rfl) ?_
                show WR _ cd_181 11 [some (.ref (ad 30)), some (.int c), some (.int d), none, none, none] [.int 1] (sI h (ad 0) 6 0) _
                refine r_if_ne (tg := 21) rfl rfl (fun _ => ?_) (fun q => absurd q (by decide))
                refine r_aload rfl rfl ?_
                refine r_getA (b := ad 31) rfl ⟨rfl, rfl, rfl⟩ (fx_t30 fx) (fx_r30_0 fx) ?_
                refine r_iload rfl rfl ?_
                refine WR_tI (y := nI k2) ek2 ?_
                refine r_iaload rfl (.inl (fx_t31 fx)) (vp_ct (fx_n31 fx) (vp_in_nI (by have := i_nlt c1; have := i_rg c; have : (0 : Int32).toInt = 0 := rfl; have := i_eq ek2; have : (nI k2).toInt = ((k2 : Nat) : Int) := nI_toInt (by omega); have := i_nle c3; have : (24 : Int32).toInt = 24 := rfl; omega) (by omega))) ?_
                refine WR_tI (congrArg (hI (sI h (ad 0) 6 0) (ad 31)) ((nI_clamp (by have := i_nlt c1; have := i_rg c; have : (0 : Int32).toInt = 0 := rfl; have := i_eq ek2; have : (nI k2).toInt = ((k2 : Nat) : Int) := nI_toInt (by omega); have := i_nle c3; have : (24 : Int32).toInt = 24 := rfl; omega)) : _ = k2)) ?_
                refine WR_tI (y := nI t7) (Eq.trans (I_ne (fx_ne fx (by decide))) v7) ?_
                refine r_istore (lv' := [some (.ref (ad 30)), some (.int c), some (.int d), some (.int (nI t7)), none, none]) rfl (Nat.le_of_ble_eq_true rfl) rfl ?_
                refine r_aload rfl rfl ?_
                refine r_getA (b := ad 31) rfl ⟨rfl, rfl, rfl⟩ (fx_t30 fx) (fx_r30_0 fx) ?_
                refine r_iload rfl rfl ?_
                refine WR_tI (y := nI k5) ek5 ?_
                refine r_iaload rfl (.inl (fx_t31 fx)) (vp_ct (fx_n31 fx) (vp_in_nI (by have := i_nlt c4; have := i_rg d; have : (0 : Int32).toInt = 0 := rfl; have := i_eq ek5; have : (nI k5).toInt = ((k5 : Nat) : Int) := nI_toInt (by omega); have := i_nle c6; have : (24 : Int32).toInt = 24 := rfl; omega) (by omega))) ?_
                refine WR_tI (congrArg (hI (sI h (ad 0) 6 0) (ad 31)) ((nI_clamp (by have := i_nlt c4; have := i_rg d; have : (0 : Int32).toInt = 0 := rfl; have := i_eq ek5; have : (nI k5).toInt = ((k5 : Nat) : Int) := nI_toInt (by omega); have := i_nle c6; have : (24 : Int32).toInt = 24 := rfl; omega)) : _ = k5)) ?_
                refine WR_tI (y := nI t16) (Eq.trans (I_ne (fx_ne fx (by decide))) v16) ?_
                refine r_istore (lv' := [some (.ref (ad 30)), some (.int c), some (.int d), some (.int (nI t7)), some (.int (nI t16)), none]) rfl (Nat.le_of_ble_eq_true rfl) rfl ?_
                refine r_iload rfl rfl ?_
                refine r_iload rfl rfl ?_
                refine r_icmp_ne (tg := 48) rfl rfl (fun _ => ?_) (fun q => False.elim (by have : (nI t7).toInt = ((t7 : Nat) : Int) := nI_toInt (by omega); have : (nI t16).toInt = ((t16 : Nat) : Int) := nI_toInt (by omega); have := i_eq q; omega))
                refine r_iload rfl rfl ?_
                refine r_ic (x := (-1)) rfl rfl ?_
                refine r_icmp_eq (tg := 90) rfl rfl (fun q => False.elim (by have : (nI t7).toInt = ((t7 : Nat) : Int) := nI_toInt (by omega); have : (-1 : Int32).toInt = -1 := rfl; have := i_eq q; omega)) (fun _ => ?_)
                refine r_iload rfl rfl ?_
                refine r_ic (x := (-1)) rfl rfl ?_
                refine r_icmp_eq (tg := 90) rfl rfl (fun q => False.elim (by have : (nI t16).toInt = ((t16 : Nat) : Int) := nI_toInt (by omega); have : (-1 : Int32).toInt = -1 := rfl; have := i_eq q; omega)) (fun _ => ?_)
                refine r_iload rfl rfl ?_
                refine r_ic (x := 1000) rfl rfl ?_
                refine r_icmp_ge (tg := 90) rfl rfl (fun q => False.elim (by have : (nI t7).toInt = ((t7 : Nat) : Int) := nI_toInt (by omega); have : (1000 : Int32).toInt = 1000 := rfl; have := i_le q; omega)) (fun _ => ?_)
                refine r_iload rfl rfl ?_
                refine r_ic (x := 1000) rfl rfl ?_
                refine r_icmp_ge (tg := 90) rfl rfl (fun q => False.elim (by have : (nI t16).toInt = ((t16 : Nat) : Int) := nI_toInt (by omega); have : (1000 : Int32).toInt = 1000 := rfl; have := i_le q; omega)) (fun _ => ?_)
                refine r_aload rfl rfl ?_
                refine r_getA (b := ad 33) rfl ⟨rfl, rfl, rfl⟩ (fx_t30 fx) (fx_r30_2 fx) ?_
                refine r_iload rfl rfl ?_
                refine r_iaload rfl (.inl (fx_t33 fx)) (vp_ct (fx_n33 fx) (vp_in_nI (by omega) (by omega))) ?_
                refine WR_tI (congrArg (hI (sI h (ad 0) 6 0) (ad 33)) ((nI_clamp (by omega)) : _ = t7)) ?_
                refine WR_tI (y := 8) (Eq.trans (I_ne (fx_ne fx (by decide))) l2_7) ?_
                refine r_aload rfl rfl ?_
                refine r_getA (b := ad 33) rfl ⟨rfl, rfl, rfl⟩ (fx_t30 fx) (fx_r30_2 fx) ?_
                refine r_iload rfl rfl ?_
                refine r_iaload rfl (.inl (fx_t33 fx)) (vp_ct (fx_n33 fx) (vp_in_nI (by omega) (by omega))) ?_
                refine WR_tI (congrArg (hI (sI h (ad 0) 6 0) (ad 33)) ((nI_clamp (by omega)) : _ = t16)) ?_
                refine WR_tI (y := 9) (Eq.trans (I_ne (fx_ne fx (by decide))) l2_16) ?_
                refine r_icmp_eq (tg := 96) rfl rfl (fun q => absurd q (by decide)) (fun _ => ?_)
                refine r_aload rfl rfl ?_
                refine r_ic (x := 0) rfl rfl ?_
                refine r_cv (y := 154) (ra := [.int 0]) (rest := []) rfl ⟨⟨rfl, rfl⟩, rfl, by decide⟩ (fx_t30 fx) rfl rfl (Nat.le_of_ble_eq_true rfl) ?_
                refine in_154 (Nat.le_of_ble_eq_true rfl) ?_
                show WR _ cd_154 0 [some (.ref (ad 30)), some (.int 0)] [] (sI h (ad 0) 6 0) _
                refine r_aload rfl rfl ?_
                refine r_iload rfl rfl ?_
                refine r_ic (x := (-1)) rfl rfl ?_
                refine r_icmp_ge (tg := 10) rfl rfl (fun _ => ?_) (fun q => absurd q (by decide))
                refine r_ic (x := 0) rfl rfl ?_
                refine r_putI rfl ⟨rfl, rfl, rfl⟩ (fx_t30 fx) ?_
                have fx : FX n ad sa z0 (sI (sI h (ad 0) 6 0) (ad 30) 11 0) := (FX.sI fx)
                refine r_iload rfl rfl ?_
                refine r_iret rfl ?_
                show WR _ cd_181 95 [some (.ref (ad 30)), some (.int c), some (.int d), some (.int (nI t7)), some (.int (nI t16)), none] [.int 0] (sI (sI h (ad 0) 6 0) (ad 30) 11 0) _
                refine r_iret rfl ?_
                exact ⟨rfl, Rel.why r ((Chg.rf.sI (fx_j fx) (.inl (by decide))).sI (fx_j fx) (.inl (by decide))) ⟨rfl, by decide⟩ (Eq.trans (Eq.trans (I_ne (fx_ne fx (by decide))) I_eq) (Eq.symm I_eq)), (by (try simp only [hZ_sI, hZ_sL, hZ_sD, hZ_sR]); omega), (by (try simp only [hU_sI, hU_sL, hU_sD, hU_sR]); omega)⟩
              · have c19e := rs.2.2.1 _ _ (by assumption) (by assumption) (.inl ⟨k2, (by have := i_nlt c1; have := i_rg c; have : (0 : Int32).toInt = 0 := rfl; have := i_eq ek2; have : (nI k2).toInt = ((k2 : Nat) : Int) := nI_toInt (by omega); have := i_nle c3; have : (24 : Int32).toInt = 24 := rfl; omega), v7⟩) (.inl ⟨k5, (by have := i_nlt c4; have := i_rg d; have : (0 : Int32).toInt = 0 := rfl; have := i_eq ek5; have : (nI k5).toInt = ((k5 : Nat) : Int) := nI_toInt (by omega); have := i_nle c6; have : (24 : Int32).toInt = 24 := rfl; omega), v16⟩) c19
                refine r_ic (x := 1) rfl rfl ?_
                refine r_iret rfl ?_
                show EV _ 181 [.ref (ad 30), .int c, .int d] (sI h (ad 0) 6 0) _
                refine in_181 (Nat.le_of_ble_eq_true rfl) ?_
                show WR _ cd_181 0 [some (.ref (ad 30)), some (.int c), some (.int d), none, none, none] [] (sI h (ad 0) 6 0) _
                refine r_iload rfl rfl ?_
                refine WR_tI (y := nI k2) ek2 ?_
                refine r_cs (y := 153) (ra := [.int (nI k2)]) (rest := []) rfl ⟨⟨rfl, rfl⟩, by decide⟩ rfl rfl (Nat.le_of_ble_eq_true rfl) ?_
                refine in_153 (Nat.le_of_ble_eq_true rfl) ?_
                show WR _ cd_153 0 [some (.int (nI k2))] [] (sI h (ad 0) 6 0) _
                refine r_iload rfl rfl ?_
                refine r_if_lt (tg := 14) rfl rfl (fun q => False.elim (by have := i_nlt c1; have := i_rg c; have : (0 : Int32).toInt = 0 := rfl; have := i_eq ek2; have : (nI k2).toInt = ((k2 : Nat) : Int) := nI_toInt (by omega); have := i_nle c3; have : (24 : Int32).toInt = 24 := rfl; have := i_lt q; omega)) (fun _ => ?_)
                refine r_iload rfl rfl ?_
                refine r_ic (x := 24) rfl rfl ?_
                refine r_icmp_ge (tg := 14) rfl rfl (fun q => False.elim (by have := i_nlt c1; have := i_rg c; have : (0 : Int32).toInt = 0 := rfl; have := i_eq ek2; have : (nI k2).toInt = ((k2 : Nat) : Int) := nI_toInt (by omega); have := i_nle c3; have : (24 : Int32).toInt = 24 := rfl; have := i_le q; omega)) (fun _ => ?_)
                refine r_ic (x := 1) rfl rfl ?_
                refine r_goto (tg := 15) rfl rfl ?_
                refine r_zret rfl (.inr rfl) ?_
                show WR _ cd_181 4 [some (.ref (ad 30)), some (.int c), some (.int d), none, none, none] [.int 1] (sI h (ad 0) 6 0) _
                refine r_if_eq (tg := 14) rfl rfl (fun q => absurd q (by decide)) (fun _ => ?_)
                refine r_iload rfl rfl ?_
                refine WR_tI (y := nI k5) ek5 ?_
                refine r_cs (y := 153) (ra := [.int (nI k5)]) (rest := []) rfl ⟨⟨rfl, rfl⟩, by decide⟩ rfl rfl (Nat.le_of_ble_eq_true rfl) ?_
                refine in_153 (Nat.le_of_ble_eq_true rfl) ?_
                show WR _ cd_153 0 [some (.int (nI k5))] [] (sI h (ad 0) 6 0) _
                refine r_iload rfl rfl ?_
                refine r_if_lt (tg := 14) rfl rfl (fun q => False.elim (by have := i_nlt c4; have := i_rg d; have : (0 : Int32).toInt = 0 := rfl; have := i_eq ek5; have : (nI k5).toInt = ((k5 : Nat) : Int) := nI_toInt (by omega); have := i_nle c6; have : (24 : Int32).toInt = 24 := rfl; have := i_lt q; omega)) (fun _ => ?_)
                refine r_iload rfl rfl ?_
                refine r_ic (x := 24) rfl rfl ?_
                refine r_icmp_ge (tg := 14) rfl rfl (fun q => False.elim (by have := i_nlt c4; have := i_rg d; have : (0 : Int32).toInt = 0 := rfl; have := i_eq ek5; have : (nI k5).toInt = ((k5 : Nat) : Int) := nI_toInt (by omega); have := i_nle c6; have : (24 : Int32).toInt = 24 := rfl; have := i_le q; omega)) (fun _ => ?_)
                refine r_ic (x := 1) rfl rfl ?_
                refine r_goto (tg := 15) rfl rfl ?_
                refine r_zret rfl (.inr rfl) ?_
                show WR _ cd_181 11 [some (.ref (ad 30)), some (.int c), some (.int d), none, none, none] [.int 1] (sI h (ad 0) 6 0) _
                refine r_if_ne (tg := 21) rfl rfl (fun _ => ?_) (fun q => absurd q (by decide))
                refine r_aload rfl rfl ?_
                refine r_getA (b := ad 31) rfl ⟨rfl, rfl, rfl⟩ (fx_t30 fx) (fx_r30_0 fx) ?_
                refine r_iload rfl rfl ?_
                refine WR_tI (y := nI k2) ek2 ?_
                refine r_iaload rfl (.inl (fx_t31 fx)) (vp_ct (fx_n31 fx) (vp_in_nI (by have := i_nlt c1; have := i_rg c; have : (0 : Int32).toInt = 0 := rfl; have := i_eq ek2; have : (nI k2).toInt = ((k2 : Nat) : Int) := nI_toInt (by omega); have := i_nle c3; have : (24 : Int32).toInt = 24 := rfl; omega) (by omega))) ?_
                refine WR_tI (congrArg (hI (sI h (ad 0) 6 0) (ad 31)) ((nI_clamp (by have := i_nlt c1; have := i_rg c; have : (0 : Int32).toInt = 0 := rfl; have := i_eq ek2; have : (nI k2).toInt = ((k2 : Nat) : Int) := nI_toInt (by omega); have := i_nle c3; have : (24 : Int32).toInt = 24 := rfl; omega)) : _ = k2)) ?_
                refine WR_tI (y := nI t7) (Eq.trans (I_ne (fx_ne fx (by decide))) v7) ?_
                refine r_istore (lv' := [some (.ref (ad 30)), some (.int c), some (.int d), some (.int (nI t7)), none, none]) rfl (Nat.le_of_ble_eq_true rfl) rfl ?_
                refine r_aload rfl rfl ?_
                refine r_getA (b := ad 31) rfl ⟨rfl, rfl, rfl⟩ (fx_t30 fx) (fx_r30_0 fx) ?_
                refine r_iload rfl rfl ?_
                refine WR_tI (y := nI k5) ek5 ?_
                refine r_iaload rfl (.inl (fx_t31 fx)) (vp_ct (fx_n31 fx) (vp_in_nI (by have := i_nlt c4; have := i_rg d; have : (0 : Int32).toInt = 0 := rfl; have := i_eq ek5; have : (nI k5).toInt = ((k5 : Nat) : Int) := nI_toInt (by omega); have := i_nle c6; have : (24 : Int32).toInt = 24 := rfl; omega) (by omega))) ?_
                refine WR_tI (congrArg (hI (sI h (ad 0) 6 0) (ad 31)) ((nI_clamp (by have := i_nlt c4; have := i_rg d; have : (0 : Int32).toInt = 0 := rfl; have := i_eq ek5; have : (nI k5).toInt = ((k5 : Nat) : Int) := nI_toInt (by omega); have := i_nle c6; have : (24 : Int32).toInt = 24 := rfl; omega)) : _ = k5)) ?_
                refine WR_tI (y := nI t16) (Eq.trans (I_ne (fx_ne fx (by decide))) v16) ?_
                refine r_istore (lv' := [some (.ref (ad 30)), some (.int c), some (.int d), some (.int (nI t7)), some (.int (nI t16)), none]) rfl (Nat.le_of_ble_eq_true rfl) rfl ?_
                refine r_iload rfl rfl ?_
                refine r_iload rfl rfl ?_
                refine r_icmp_ne (tg := 48) rfl rfl (fun q => False.elim (by have : (nI t7).toInt = ((t7 : Nat) : Int) := nI_toInt (by omega); have : (nI t16).toInt = ((t16 : Nat) : Int) := nI_toInt (by omega); have := i_neq q; omega)) (fun _ => ?_)
                refine r_aload rfl rfl ?_
                refine r_ic (x := 1) rfl rfl ?_
                refine r_cv (y := 154) (ra := [.int 1]) (rest := []) rfl ⟨⟨rfl, rfl⟩, rfl, by decide⟩ (fx_t30 fx) rfl rfl (Nat.le_of_ble_eq_true rfl) ?_
                refine in_154 (Nat.le_of_ble_eq_true rfl) ?_
                show WR _ cd_154 0 [some (.ref (ad 30)), some (.int 1)] [] (sI h (ad 0) 6 0) _
                refine r_aload rfl rfl ?_
                refine r_iload rfl rfl ?_
                refine r_ic (x := (-1)) rfl rfl ?_
                refine r_icmp_ge (tg := 10) rfl rfl (fun _ => ?_) (fun q => absurd q (by decide))
                refine r_ic (x := 0) rfl rfl ?_
                refine r_putI rfl ⟨rfl, rfl, rfl⟩ (fx_t30 fx) ?_
                have fx : FX n ad sa z0 (sI (sI h (ad 0) 6 0) (ad 30) 11 0) := (FX.sI fx)
                refine r_iload rfl rfl ?_
                refine r_iret rfl ?_
                show WR _ cd_181 47 [some (.ref (ad 30)), some (.int c), some (.int d), some (.int (nI t7)), some (.int (nI t16)), none] [.int 1] (sI (sI h (ad 0) 6 0) (ad 30) 11 0) _
                refine r_iret rfl ?_
                exact ⟨rfl, Rel.why r ((Chg.rf.sI (fx_j fx) (.inl (by decide))).sI (fx_j fx) (.inl (by decide))) ⟨rfl, by decide⟩ (Eq.trans (Eq.trans (I_ne (fx_ne fx (by decide))) I_eq) (Eq.symm I_eq)), (by (try simp only [hZ_sI, hZ_sL, hZ_sD, hZ_sR]); omega), (by (try simp only [hU_sI, hU_sL, hU_sD, hU_sR]); omega)⟩
          · refine r_aaloadA (b := mid t7) rfl (isQ_of (fx_t1 fx) (by decide)) (vp_ct (fx_n1 fx) (vp_in_nI (by have := i_nlt c1; have := i_rg c; have : (0 : Int32).toInt = 0 := rfl; have := i_eq ek2; have : (nI k2).toInt = ((k2 : Nat) : Int) := nI_toInt (by omega); have := i_nle c3; have : (24 : Int32).toInt = 24 := rfl; omega) (by omega))) (Eq.trans (congrArg (hR (sI h (ad 0) 6 0) (ad 1)) ((nI_clamp (by have := i_nlt c1; have := i_rg c; have : (0 : Int32).toInt = 0 := rfl; have := i_eq ek2; have : (nI k2).toInt = ((k2 : Nat) : Int) := nI_toInt (by omega); have := i_nle c3; have : (24 : Int32).toInt = 24 := rfl; omega)) : _ = k2)) (Eq.trans R_oI w7)) ?_
            refine r_astore (lv' := [some (.ref (ad 0)), some (.int c), some (.int d), some (.ref (mid t7)), none]) rfl (Nat.le_of_ble_eq_true rfl) rfl ?_
            refine r_aload rfl rfl ?_
            refine r_getA (b := ad 1) rfl ⟨rfl, rfl, rfl⟩ (fx_t0 fx) (fx_r0_0 fx) ?_
            refine r_iload rfl rfl ?_
            refine WR_tI (y := nI k5) ek5 ?_
            rcases rs.cs (n := n) (sa := sa) (c := k5) (by have := i_nlt c4; have := i_rg d; have : (0 : Int32).toInt = 0 := rfl; have := i_eq ek5; have : (nI k5).toInt = ((k5 : Nat) : Int) := nI_toInt (by omega); have := i_nle c6; have : (24 : Int32).toInt = 24 := rfl; omega) with ⟨v20, w20⟩ | ⟨q20, kd20, hq20, hn20, v20, w20, dz20, tg20, s1_20, k1_20, k2_20, hk_20, we20⟩ | ⟨t20, ln20, sz20, ht20, v20, w20, dz20, tg20, r_20, tg2_20, l1_20, l2_20, hl_20, kd_20, n_20, sz_20, hs_20, al20, rw20⟩ | ⟨t20, sz20, ht20, v20, w20, dz20, tg20, r_20, tg2_20, k1_20, l2_20, k2_20, n_20, sz_20, hs_20, al20, rw20⟩ | ⟨t20, kd20, sz20, ht20, v20, w20, dz20, tg20, r_20, tg2_20, k1_20, l2_20, k2_20, hk_20, n_20, sz_20, hs_20, al20, rw20⟩
            · refine r_aaload0 rfl (isQ_of (fx_t1 fx) (by decide)) (vp_ct (fx_n1 fx) (vp_in_nI (by have := i_nlt c4; have := i_rg d; have : (0 : Int32).toInt = 0 := rfl; have := i_eq ek5; have : (nI k5).toInt = ((k5 : Nat) : Int) := nI_toInt (by omega); have := i_nle c6; have : (24 : Int32).toInt = 24 := rfl; omega) (by omega))) (Eq.trans (congrArg (hR (sI h (ad 0) 6 0) (ad 1)) ((nI_clamp (by have := i_nlt c4; have := i_rg d; have : (0 : Int32).toInt = 0 := rfl; have := i_eq ek5; have : (nI k5).toInt = ((k5 : Nat) : Int) := nI_toInt (by omega); have := i_nle c6; have : (24 : Int32).toInt = 24 := rfl; omega)) : _ = k5)) (Eq.trans R_oI w20)) ?_
              refine r_astore0 (lv' := [some (.ref (ad 0)), some (.int c), some (.int d), some (.ref (mid t7)), some (.null)]) rfl (Nat.le_of_ble_eq_true rfl) rfl ?_
              refine r_aload rfl rfl ?_
              refine r_aload0 rfl rfl ?_
              refine r_acmpAN_ne (tg := 49) rfl rfl ?_
              refine r_aload rfl rfl ?_
              refine r_ifnullA (tg := 71) rfl rfl ?_
              refine r_aload0 rfl rfl ?_
              refine r_ifnullN (tg := 71) rfl rfl ?_
              refine r_ic (x := 0) rfl rfl ?_
              refine r_iret rfl ?_
              show EV _ 181 [.ref (ad 30), .int c, .int d] (sI h (ad 0) 6 0) _
              refine in_181 (Nat.le_of_ble_eq_true rfl) ?_
              show WR _ cd_181 0 [some (.ref (ad 30)), some (.int c), some (.int d), none, none, none] [] (sI h (ad 0) 6 0) _
              refine r_iload rfl rfl ?_
              refine WR_tI (y := nI k2) ek2 ?_
              refine r_cs (y := 153) (ra := [.int (nI k2)]) (rest := []) rfl ⟨⟨rfl, rfl⟩, by decide⟩ rfl rfl (Nat.le_of_ble_eq_true rfl) ?_
              refine in_153 (Nat.le_of_ble_eq_true rfl) ?_
              show WR _ cd_153 0 [some (.int (nI k2))] [] (sI h (ad 0) 6 0) _
              refine r_iload rfl rfl ?_
              refine r_if_lt (tg := 14) rfl rfl (fun q => False.elim (by have := i_nlt c1; have := i_rg c; have : (0 : Int32).toInt = 0 := rfl; have := i_eq ek2; have : (nI k2).toInt = ((k2 : Nat) : Int) := nI_toInt (by omega); have := i_nle c3; have : (24 : Int32).toInt = 24 := rfl; have := i_lt q; omega)) (fun _ => ?_)
              refine r_iload rfl rfl ?_
              refine r_ic (x := 24) rfl rfl ?_
              refine r_icmp_ge (tg := 14) rfl rfl (fun q => False.elim (by have := i_nlt c1; have := i_rg c; have : (0 : Int32).toInt = 0 := rfl; have := i_eq ek2; have : (nI k2).toInt = ((k2 : Nat) : Int) := nI_toInt (by omega); have := i_nle c3; have : (24 : Int32).toInt = 24 := rfl; have := i_le q; omega)) (fun _ => ?_)
              refine r_ic (x := 1) rfl rfl ?_
              refine r_goto (tg := 15) rfl rfl ?_
              refine r_zret rfl (.inr rfl) ?_
              show WR _ cd_181 4 [some (.ref (ad 30)), some (.int c), some (.int d), none, none, none] [.int 1] (sI h (ad 0) 6 0) _
              refine r_if_eq (tg := 14) rfl rfl (fun q => absurd q (by decide)) (fun _ => ?_)
              refine r_iload rfl rfl ?_
              refine WR_tI (y := nI k5) ek5 ?_
              refine r_cs (y := 153) (ra := [.int (nI k5)]) (rest := []) rfl ⟨⟨rfl, rfl⟩, by decide⟩ rfl rfl (Nat.le_of_ble_eq_true rfl) ?_
              refine in_153 (Nat.le_of_ble_eq_true rfl) ?_
              show WR _ cd_153 0 [some (.int (nI k5))] [] (sI h (ad 0) 6 0) _
              refine r_iload rfl rfl ?_
              refine r_if_lt (tg := 14) rfl rfl (fun q => False.elim (by have := i_nlt c4; have := i_rg d; have : (0 : Int32).toInt = 0 := rfl; have := i_eq ek5; have : (nI k5).toInt = ((k5 : Nat) : Int) := nI_toInt (by omega); have := i_nle c6; have : (24 : Int32).toInt = 24 := rfl; have := i_lt q; omega)) (fun _ => ?_)
              refine r_iload rfl rfl ?_
              refine r_ic (x := 24) rfl rfl ?_
              refine r_icmp_ge (tg := 14) rfl rfl (fun q => False.elim (by have := i_nlt c4; have := i_rg d; have : (0 : Int32).toInt = 0 := rfl; have := i_eq ek5; have : (nI k5).toInt = ((k5 : Nat) : Int) := nI_toInt (by omega); have := i_nle c6; have : (24 : Int32).toInt = 24 := rfl; have := i_le q; omega)) (fun _ => ?_)
              refine r_ic (x := 1) rfl rfl ?_
              refine r_goto (tg := 15) rfl rfl ?_
              refine r_zret rfl (.inr rfl) ?_
              show WR _ cd_181 11 [some (.ref (ad 30)), some (.int c), some (.int d), none, none, none] [.int 1] (sI h (ad 0) 6 0) _
              refine r_if_ne (tg := 21) rfl rfl (fun _ => ?_) (fun q => absurd q (by decide))
              refine r_aload rfl rfl ?_
              refine r_getA (b := ad 31) rfl ⟨rfl, rfl, rfl⟩ (fx_t30 fx) (fx_r30_0 fx) ?_
              refine r_iload rfl rfl ?_
              refine WR_tI (y := nI k2) ek2 ?_
              refine r_iaload rfl (.inl (fx_t31 fx)) (vp_ct (fx_n31 fx) (vp_in_nI (by have := i_nlt c1; have := i_rg c; have : (0 : Int32).toInt = 0 := rfl; have := i_eq ek2; have : (nI k2).toInt = ((k2 : Nat) : Int) := nI_toInt (by omega); have := i_nle c3; have : (24 : Int32).toInt = 24 := rfl; omega) (by omega))) ?_
              refine WR_tI (congrArg (hI (sI h (ad 0) 6 0) (ad 31)) ((nI_clamp (by have := i_nlt c1; have := i_rg c; have : (0 : Int32).toInt = 0 := rfl; have := i_eq ek2; have : (nI k2).toInt = ((k2 : Nat) : Int) := nI_toInt (by omega); have := i_nle c3; have : (24 : Int32).toInt = 24 := rfl; omega)) : _ = k2)) ?_
              refine WR_tI (y := nI t7) (Eq.trans (I_ne (fx_ne fx (by decide))) v7) ?_
              refine r_istore (lv' := [some (.ref (ad 30)), some (.int c), some (.int d), some (.int (nI t7)), none, none]) rfl (Nat.le_of_ble_eq_true rfl) rfl ?_
              refine r_aload rfl rfl ?_
              refine r_getA (b := ad 31) rfl ⟨rfl, rfl, rfl⟩ (fx_t30 fx) (fx_r30_0 fx) ?_
              refine r_iload rfl rfl ?_
              refine WR_tI (y := nI k5) ek5 ?_
              refine r_iaload rfl (.inl (fx_t31 fx)) (vp_ct (fx_n31 fx) (vp_in_nI (by have := i_nlt c4; have := i_rg d; have : (0 : Int32).toInt = 0 := rfl; have := i_eq ek5; have : (nI k5).toInt = ((k5 : Nat) : Int) := nI_toInt (by omega); have := i_nle c6; have : (24 : Int32).toInt = 24 := rfl; omega) (by omega))) ?_
              refine WR_tI (congrArg (hI (sI h (ad 0) 6 0) (ad 31)) ((nI_clamp (by have := i_nlt c4; have := i_rg d; have : (0 : Int32).toInt = 0 := rfl; have := i_eq ek5; have : (nI k5).toInt = ((k5 : Nat) : Int) := nI_toInt (by omega); have := i_nle c6; have : (24 : Int32).toInt = 24 := rfl; omega)) : _ = k5)) ?_
              refine WR_tI (y := (-1)) (Eq.trans (I_ne (fx_ne fx (by decide))) v20) ?_
              refine r_istore (lv' := [some (.ref (ad 30)), some (.int c), some (.int d), some (.int (nI t7)), some (.int (-1)), none]) rfl (Nat.le_of_ble_eq_true rfl) rfl ?_
              refine r_iload rfl rfl ?_
              refine r_iload rfl rfl ?_
              refine r_icmp_ne (tg := 48) rfl rfl (fun _ => ?_) (fun q => False.elim (by have : (nI t7).toInt = ((t7 : Nat) : Int) := nI_toInt (by omega); have : (-1 : Int32).toInt = -1 := rfl; have := i_eq q; omega))
              refine r_iload rfl rfl ?_
              refine r_ic (x := (-1)) rfl rfl ?_
              refine r_icmp_eq (tg := 90) rfl rfl (fun q => False.elim (by have : (nI t7).toInt = ((t7 : Nat) : Int) := nI_toInt (by omega); have : (-1 : Int32).toInt = -1 := rfl; have := i_eq q; omega)) (fun _ => ?_)
              refine r_iload rfl rfl ?_
              refine r_ic (x := (-1)) rfl rfl ?_
              refine r_icmp_eq (tg := 90) rfl rfl (fun _ => ?_) (fun q => absurd q (by decide))
              refine r_aload rfl rfl ?_
              refine r_ic (x := 0) rfl rfl ?_
              refine r_cv (y := 154) (ra := [.int 0]) (rest := []) rfl ⟨⟨rfl, rfl⟩, rfl, by decide⟩ (fx_t30 fx) rfl rfl (Nat.le_of_ble_eq_true rfl) ?_
              refine in_154 (Nat.le_of_ble_eq_true rfl) ?_
              show WR _ cd_154 0 [some (.ref (ad 30)), some (.int 0)] [] (sI h (ad 0) 6 0) _
              refine r_aload rfl rfl ?_
              refine r_iload rfl rfl ?_
              refine r_ic (x := (-1)) rfl rfl ?_
              refine r_icmp_ge (tg := 10) rfl rfl (fun _ => ?_) (fun q => absurd q (by decide))
              refine r_ic (x := 0) rfl rfl ?_
              refine r_putI rfl ⟨rfl, rfl, rfl⟩ (fx_t30 fx) ?_
              have fx : FX n ad sa z0 (sI (sI h (ad 0) 6 0) (ad 30) 11 0) := (FX.sI fx)
              refine r_iload rfl rfl ?_
              refine r_iret rfl ?_
              show WR _ cd_181 95 [some (.ref (ad 30)), some (.int c), some (.int d), some (.int (nI t7)), some (.int (-1)), none] [.int 0] (sI (sI h (ad 0) 6 0) (ad 30) 11 0) _
              refine r_iret rfl ?_
              exact ⟨rfl, Rel.why r ((Chg.rf.sI (fx_j fx) (.inl (by decide))).sI (fx_j fx) (.inl (by decide))) ⟨rfl, by decide⟩ (Eq.trans (Eq.trans (I_ne (fx_ne fx (by decide))) I_eq) (Eq.symm I_eq)), (by (try simp only [hZ_sI, hZ_sL, hZ_sD, hZ_sR]); omega), (by (try simp only [hU_sI, hU_sL, hU_sD, hU_sR]); omega)⟩
            · refine r_aaloadA (b := pa q20) rfl (isQ_of (fx_t1 fx) (by decide)) (vp_ct (fx_n1 fx) (vp_in_nI (by have := i_nlt c4; have := i_rg d; have : (0 : Int32).toInt = 0 := rfl; have := i_eq ek5; have : (nI k5).toInt = ((k5 : Nat) : Int) := nI_toInt (by omega); have := i_nle c6; have : (24 : Int32).toInt = 24 := rfl; omega) (by omega))) (Eq.trans (congrArg (hR (sI h (ad 0) 6 0) (ad 1)) ((nI_clamp (by have := i_nlt c4; have := i_rg d; have : (0 : Int32).toInt = 0 := rfl; have := i_eq ek5; have : (nI k5).toInt = ((k5 : Nat) : Int) := nI_toInt (by omega); have := i_nle c6; have : (24 : Int32).toInt = 24 := rfl; omega)) : _ = k5)) (Eq.trans R_oI w20)) ?_
              refine r_astore (lv' := [some (.ref (ad 0)), some (.int c), some (.int d), some (.ref (mid t7)), some (.ref (pa q20))]) rfl (Nat.le_of_ble_eq_true rfl) rfl ?_
              refine r_aload rfl rfl ?_
              refine r_aload rfl rfl ?_
              refine r_acmpA_ne (tg := 49) rfl rfl (fun _ => ?_) (fun q => absurd q (fun e => by have q1 := tg7; have q2 := tg20; rw [e, q2] at q1; cases q1))
              refine r_aload rfl rfl ?_
              refine r_ifnullA (tg := 71) rfl rfl ?_
              refine r_aload rfl rfl ?_
              refine r_ifnullA (tg := 71) rfl rfl ?_
              refine r_aload rfl rfl ?_
              refine r_aload rfl rfl ?_
              refine r_cw (y := 62) (ra := [.ref (pa q20)]) (rest := []) rfl ⟨rfl, rfl⟩ (by rw [show hT (sI h (ad 0) 6 0) (mid t7) = 6 from tg7]; rfl) rfl rfl (Nat.le_of_ble_eq_true rfl) ?_
              refine in_62 (Nat.le_of_ble_eq_true rfl) ?_
              show WR _ cd_62 0 [some (.ref (mid t7)), some (.ref (pa q20)), none, none] [] (sI h (ad 0) 6 0) _
              refine r_aload rfl rfl ?_
              refine r_instW rfl (by decide) tg20 (by decide) ?_
              refine r_if_eq (tg := 36) rfl rfl (fun _ => ?_) (fun q => absurd q (by decide))
              refine r_ic (x := 0) rfl rfl ?_
              refine r_zret rfl (.inl rfl) ?_
              show WR _ cd_59 64 [some (.ref (ad 0)), some (.int c), some (.int d), some (.ref (mid t7)), some (.ref (pa q20))] [.int 0] (sI h (ad 0) 6 0) _
              refine r_if_eq (tg := 71) rfl rfl (fun _ => ?_) (fun q => absurd q (by decide))
              refine r_ic (x := 0) rfl rfl ?_
              refine r_iret rfl ?_
              show EV _ 181 [.ref (ad 30), .int c, .int d] (sI h (ad 0) 6 0) _
              refine in_181 (Nat.le_of_ble_eq_true rfl) ?_
              show WR _ cd_181 0 [some (.ref (ad 30)), some (.int c), some (.int d), none, none, none] [] (sI h (ad 0) 6 0) _
              refine r_iload rfl rfl ?_
              refine WR_tI (y := nI k2) ek2 ?_
              refine r_cs (y := 153) (ra := [.int (nI k2)]) (rest := []) rfl ⟨⟨rfl, rfl⟩, by decide⟩ rfl rfl (Nat.le_of_ble_eq_true rfl) ?_
              refine in_153 (Nat.le_of_ble_eq_true rfl) ?_
              show WR _ cd_153 0 [some (.int (nI k2))] [] (sI h (ad 0) 6 0) _
              refine r_iload rfl rfl ?_
              refine r_if_lt (tg := 14) rfl rfl (fun q => False.elim (by have := i_nlt c1; have := i_rg c; have : (0 : Int32).toInt = 0 := rfl; have := i_eq ek2; have : (nI k2).toInt = ((k2 : Nat) : Int) := nI_toInt (by omega); have := i_nle c3; have : (24 : Int32).toInt = 24 := rfl; have := i_lt q; omega)) (fun _ => ?_)
              refine r_iload rfl rfl ?_
              refine r_ic (x := 24) rfl rfl ?_
              refine r_icmp_ge (tg := 14) rfl rfl (fun q => False.elim (by have := i_nlt c1; have := i_rg c; have : (0 : Int32).toInt = 0 := rfl; have := i_eq ek2; have : (nI k2).toInt = ((k2 : Nat) : Int) := nI_toInt (by omega); have := i_nle c3; have : (24 : Int32).toInt = 24 := rfl; have := i_le q; omega)) (fun _ => ?_)
              refine r_ic (x := 1) rfl rfl ?_
              refine r_goto (tg := 15) rfl rfl ?_
              refine r_zret rfl (.inr rfl) ?_
              show WR _ cd_181 4 [some (.ref (ad 30)), some (.int c), some (.int d), none, none, none] [.int 1] (sI h (ad 0) 6 0) _
              refine r_if_eq (tg := 14) rfl rfl (fun q => absurd q (by decide)) (fun _ => ?_)
              refine r_iload rfl rfl ?_
              refine WR_tI (y := nI k5) ek5 ?_
              refine r_cs (y := 153) (ra := [.int (nI k5)]) (rest := []) rfl ⟨⟨rfl, rfl⟩, by decide⟩ rfl rfl (Nat.le_of_ble_eq_true rfl) ?_
              refine in_153 (Nat.le_of_ble_eq_true rfl) ?_
              show WR _ cd_153 0 [some (.int (nI k5))] [] (sI h (ad 0) 6 0) _
              refine r_iload rfl rfl ?_
              refine r_if_lt (tg := 14) rfl rfl (fun q => False.elim (by have := i_nlt c4; have := i_rg d; have : (0 : Int32).toInt = 0 := rfl; have := i_eq ek5; have : (nI k5).toInt = ((k5 : Nat) : Int) := nI_toInt (by omega); have := i_nle c6; have : (24 : Int32).toInt = 24 := rfl; have := i_lt q; omega)) (fun _ => ?_)
              refine r_iload rfl rfl ?_
              refine r_ic (x := 24) rfl rfl ?_
              refine r_icmp_ge (tg := 14) rfl rfl (fun q => False.elim (by have := i_nlt c4; have := i_rg d; have : (0 : Int32).toInt = 0 := rfl; have := i_eq ek5; have : (nI k5).toInt = ((k5 : Nat) : Int) := nI_toInt (by omega); have := i_nle c6; have : (24 : Int32).toInt = 24 := rfl; have := i_le q; omega)) (fun _ => ?_)
              refine r_ic (x := 1) rfl rfl ?_
              refine r_goto (tg := 15) rfl rfl ?_
              refine r_zret rfl (.inr rfl) ?_
              show WR _ cd_181 11 [some (.ref (ad 30)), some (.int c), some (.int d), none, none, none] [.int 1] (sI h (ad 0) 6 0) _
              refine r_if_ne (tg := 21) rfl rfl (fun _ => ?_) (fun q => absurd q (by decide))
              refine r_aload rfl rfl ?_
              refine r_getA (b := ad 31) rfl ⟨rfl, rfl, rfl⟩ (fx_t30 fx) (fx_r30_0 fx) ?_
              refine r_iload rfl rfl ?_
              refine WR_tI (y := nI k2) ek2 ?_
              refine r_iaload rfl (.inl (fx_t31 fx)) (vp_ct (fx_n31 fx) (vp_in_nI (by have := i_nlt c1; have := i_rg c; have : (0 : Int32).toInt = 0 := rfl; have := i_eq ek2; have : (nI k2).toInt = ((k2 : Nat) : Int) := nI_toInt (by omega); have := i_nle c3; have : (24 : Int32).toInt = 24 := rfl; omega) (by omega))) ?_
              refine WR_tI (congrArg (hI (sI h (ad 0) 6 0) (ad 31)) ((nI_clamp (by have := i_nlt c1; have := i_rg c; have : (0 : Int32).toInt = 0 := rfl; have := i_eq ek2; have : (nI k2).toInt = ((k2 : Nat) : Int) := nI_toInt (by omega); have := i_nle c3; have : (24 : Int32).toInt = 24 := rfl; omega)) : _ = k2)) ?_
              refine WR_tI (y := nI t7) (Eq.trans (I_ne (fx_ne fx (by decide))) v7) ?_
              refine r_istore (lv' := [some (.ref (ad 30)), some (.int c), some (.int d), some (.int (nI t7)), none, none]) rfl (Nat.le_of_ble_eq_true rfl) rfl ?_
              refine r_aload rfl rfl ?_
              refine r_getA (b := ad 31) rfl ⟨rfl, rfl, rfl⟩ (fx_t30 fx) (fx_r30_0 fx) ?_
              refine r_iload rfl rfl ?_
              refine WR_tI (y := nI k5) ek5 ?_
              refine r_iaload rfl (.inl (fx_t31 fx)) (vp_ct (fx_n31 fx) (vp_in_nI (by have := i_nlt c4; have := i_rg d; have : (0 : Int32).toInt = 0 := rfl; have := i_eq ek5; have : (nI k5).toInt = ((k5 : Nat) : Int) := nI_toInt (by omega); have := i_nle c6; have : (24 : Int32).toInt = 24 := rfl; omega) (by omega))) ?_
              refine WR_tI (congrArg (hI (sI h (ad 0) 6 0) (ad 31)) ((nI_clamp (by have := i_nlt c4; have := i_rg d; have : (0 : Int32).toInt = 0 := rfl; have := i_eq ek5; have : (nI k5).toInt = ((k5 : Nat) : Int) := nI_toInt (by omega); have := i_nle c6; have : (24 : Int32).toInt = 24 := rfl; omega)) : _ = k5)) ?_
              refine WR_tI (y := nI (q20 + 1000)) (Eq.trans (I_ne (fx_ne fx (by decide))) v20) ?_
              refine r_istore (lv' := [some (.ref (ad 30)), some (.int c), some (.int d), some (.int (nI t7)), some (.int (nI (q20 + 1000))), none]) rfl (Nat.le_of_ble_eq_true rfl) rfl ?_
              refine r_iload rfl rfl ?_
              refine r_iload rfl rfl ?_
              refine r_icmp_ne (tg := 48) rfl rfl (fun _ => ?_) (fun q => False.elim (by have : (nI t7).toInt = ((t7 : Nat) : Int) := nI_toInt (by omega); have : (nI (q20 + 1000)).toInt = ((q20 + 1000 : Nat) : Int) := nI_toInt (by omega); have := i_eq q; omega))
              refine r_iload rfl rfl ?_
              refine r_ic (x := (-1)) rfl rfl ?_
              refine r_icmp_eq (tg := 90) rfl rfl (fun q => False.elim (by have : (nI t7).toInt = ((t7 : Nat) : Int) := nI_toInt (by omega); have : (-1 : Int32).toInt = -1 := rfl; have := i_eq q; omega)) (fun _ => ?_)
              refine r_iload rfl rfl ?_
              refine r_ic (x := (-1)) rfl rfl ?_
              refine r_icmp_eq (tg := 90) rfl rfl (fun q => False.elim (by have : (nI (q20 + 1000)).toInt = ((q20 + 1000 : Nat) : Int) := nI_toInt (by omega); have : (-1 : Int32).toInt = -1 := rfl; have := i_eq q; omega)) (fun _ => ?_)
              refine r_iload rfl rfl ?_
              refine r_ic (x := 1000) rfl rfl ?_
              refine r_icmp_ge (tg := 90) rfl rfl (fun q => False.elim (by have : (nI t7).toInt = ((t7 : Nat) : Int) := nI_toInt (by omega); have : (1000 : Int32).toInt = 1000 := rfl; have := i_le q; omega)) (fun _ => ?_)
              refine r_iload rfl rfl ?_
              refine r_ic (x := 1000) rfl rfl ?_
              refine r_icmp_ge (tg := 90) rfl rfl (fun _ => ?_) (fun q => False.elim (by have : (nI (q20 + 1000)).toInt = ((q20 + 1000 : Nat) : Int) := nI_toInt (by omega); have : (1000 : Int32).toInt = 1000 := rfl; have := i_nle q; omega))
              refine r_aload rfl rfl ?_
              refine r_ic (x := 0) rfl rfl ?_
              refine r_cv (y := 154) (ra := [.int 0]) (rest := []) rfl ⟨⟨rfl, rfl⟩, rfl, by decide⟩ (fx_t30 fx) rfl rfl (Nat.le_of_ble_eq_true rfl) ?_
              refine in_154 (Nat.le_of_ble_eq_true rfl) ?_
              show WR _ cd_154 0 [some (.ref (ad 30)), some (.int 0)] [] (sI h (ad 0) 6 0) _
              refine r_aload rfl rfl ?_
              refine r_iload rfl rfl ?_
              refine r_ic (x := (-1)) rfl rfl ?_
              refine r_icmp_ge (tg := 10) rfl rfl (fun _ => ?_) (fun q => absurd q (by decide))
              refine r_ic (x := 0) rfl rfl ?_
              refine r_putI rfl ⟨rfl, rfl, rfl⟩ (fx_t30 fx) ?_
              have fx : FX n ad sa z0 (sI (sI h (ad 0) 6 0) (ad 30) 11 0) := (FX.sI fx)
              refine r_iload rfl rfl ?_
              refine r_iret rfl ?_
              show WR _ cd_181 95 [some (.ref (ad 30)), some (.int c), some (.int d), some (.int (nI t7)), some (.int (nI (q20 + 1000))), none] [.int 0] (sI (sI h (ad 0) 6 0) (ad 30) 11 0) _
              refine r_iret rfl ?_
              exact ⟨rfl, Rel.why r ((Chg.rf.sI (fx_j fx) (.inl (by decide))).sI (fx_j fx) (.inl (by decide))) ⟨rfl, by decide⟩ (Eq.trans (Eq.trans (I_ne (fx_ne fx (by decide))) I_eq) (Eq.symm I_eq)), (by (try simp only [hZ_sI, hZ_sL, hZ_sD, hZ_sR]); omega), (by (try simp only [hU_sI, hU_sL, hU_sD, hU_sR]); omega)⟩
            · refine r_aaloadA (b := mid t20) rfl (isQ_of (fx_t1 fx) (by decide)) (vp_ct (fx_n1 fx) (vp_in_nI (by have := i_nlt c4; have := i_rg d; have : (0 : Int32).toInt = 0 := rfl; have := i_eq ek5; have : (nI k5).toInt = ((k5 : Nat) : Int) := nI_toInt (by omega); have := i_nle c6; have : (24 : Int32).toInt = 24 := rfl; omega) (by omega))) (Eq.trans (congrArg (hR (sI h (ad 0) 6 0) (ad 1)) ((nI_clamp (by have := i_nlt c4; have := i_rg d; have : (0 : Int32).toInt = 0 := rfl; have := i_eq ek5; have : (nI k5).toInt = ((k5 : Nat) : Int) := nI_toInt (by omega); have := i_nle c6; have : (24 : Int32).toInt = 24 := rfl; omega)) : _ = k5)) (Eq.trans R_oI w20)) ?_
              refine r_astore (lv' := [some (.ref (ad 0)), some (.int c), some (.int d), some (.ref (mid t7)), some (.ref (mid t20))]) rfl (Nat.le_of_ble_eq_true rfl) rfl ?_
              refine r_aload rfl rfl ?_
              refine r_aload rfl rfl ?_
              have c21e : ¬ t7 = t20 := fun e => by have q1 := tg7; have q2 := tg20; rw [e, q2] at q1; cases q1
              refine r_acmpA_ne (tg := 49) rfl rfl (fun _ => ?_) (fun q => absurd q (fun e => by have q1 := tg7; have q2 := tg20; rw [e, q2] at q1; cases q1))
              refine r_aload rfl rfl ?_
              refine r_ifnullA (tg := 71) rfl rfl ?_
              refine r_aload rfl rfl ?_
              refine r_ifnullA (tg := 71) rfl rfl ?_
              refine r_aload rfl rfl ?_
              refine r_aload rfl rfl ?_
              refine r_cw (y := 62) (ra := [.ref (mid t20)]) (rest := []) rfl ⟨rfl, rfl⟩ (by rw [show hT (sI h (ad 0) 6 0) (mid t7) = 6 from tg7]; rfl) rfl rfl (Nat.le_of_ble_eq_true rfl) ?_
              refine in_62 (Nat.le_of_ble_eq_true rfl) ?_
              show WR _ cd_62 0 [some (.ref (mid t7)), some (.ref (mid t20)), none, none] [] (sI h (ad 0) 6 0) _
              refine r_aload rfl rfl ?_
              refine r_instW rfl (by decide) tg20 (by decide) ?_
              refine r_if_eq (tg := 36) rfl rfl (fun _ => ?_) (fun q => absurd q (by decide))
              refine r_ic (x := 0) rfl rfl ?_
              refine r_zret rfl (.inl rfl) ?_
              show WR _ cd_59 64 [some (.ref (ad 0)), some (.int c), some (.int d), some (.ref (mid t7)), some (.ref (mid t20))] [.int 0] (sI h (ad 0) 6 0) _
              refine r_if_eq (tg := 71) rfl rfl (fun _ => ?_) (fun q => absurd q (by decide))
              refine r_ic (x := 0) rfl rfl ?_
              refine r_iret rfl ?_
              show EV _ 181 [.ref (ad 30), .int c, .int d] (sI h (ad 0) 6 0) _
              refine in_181 (Nat.le_of_ble_eq_true rfl) ?_
              show WR _ cd_181 0 [some (.ref (ad 30)), some (.int c), some (.int d), none, none, none] [] (sI h (ad 0) 6 0) _
              refine r_iload rfl rfl ?_
              refine WR_tI (y := nI k2) ek2 ?_
              refine r_cs (y := 153) (ra := [.int (nI k2)]) (rest := []) rfl ⟨⟨rfl, rfl⟩, by decide⟩ rfl rfl (Nat.le_of_ble_eq_true rfl) ?_
              refine in_153 (Nat.le_of_ble_eq_true rfl) ?_
              show WR _ cd_153 0 [some (.int (nI k2))] [] (sI h (ad 0) 6 0) _
              refine r_iload rfl rfl ?_
              refine r_if_lt (tg := 14) rfl rfl (fun q => False.elim (by have := i_nlt c1; have := i_rg c; have : (0 : Int32).toInt = 0 := rfl; have := i_eq ek2; have : (nI k2).toInt = ((k2 : Nat) : Int) := nI_toInt (by omega); have := i_nle c3; have : (24 : Int32).toInt = 24 := rfl; have := i_lt q; omega)) (fun _ => ?_)
              refine r_iload rfl rfl ?_
              refine r_ic (x := 24) rfl rfl ?_
              refine r_icmp_ge (tg := 14) rfl rfl (fun q => False.elim (by have := i_nlt c1; have := i_rg c; have : (0 : Int32).toInt = 0 := rfl; have := i_eq ek2; have : (nI k2).toInt = ((k2 : Nat) : Int) := nI_toInt (by omega); have := i_nle c3; have : (24 : Int32).toInt = 24 := rfl; have := i_le q; omega)) (fun _ => ?_)
              refine r_ic (x := 1) rfl rfl ?_
              refine r_goto (tg := 15) rfl rfl ?_
              refine r_zret rfl (.inr rfl) ?_
              show WR _ cd_181 4 [some (.ref (ad 30)), some (.int c), some (.int d), none, none, none] [.int 1] (sI h (ad 0) 6 0) _
              refine r_if_eq (tg := 14) rfl rfl (fun q => absurd q (by decide)) (fun _ => ?_)
              refine r_iload rfl rfl ?_
              refine WR_tI (y := nI k5) ek5 ?_
              refine r_cs (y := 153) (ra := [.int (nI k5)]) (rest := []) rfl ⟨⟨rfl, rfl⟩, by decide⟩ rfl rfl (Nat.le_of_ble_eq_true rfl) ?_
              refine in_153 (Nat.le_of_ble_eq_true rfl) ?_
              show WR _ cd_153 0 [some (.int (nI k5))] [] (sI h (ad 0) 6 0) _
              refine r_iload rfl rfl ?_
              refine r_if_lt (tg := 14) rfl rfl (fun q => False.elim (by have := i_nlt c4; have := i_rg d; have : (0 : Int32).toInt = 0 := rfl; have := i_eq ek5; have : (nI k5).toInt = ((k5 : Nat) : Int) := nI_toInt (by omega); have := i_nle c6; have : (24 : Int32).toInt = 24 := rfl; have := i_lt q; omega)) (fun _ => ?_)
              refine r_iload rfl rfl ?_
              refine r_ic (x := 24) rfl rfl ?_
              refine r_icmp_ge (tg := 14) rfl rfl (fun q => False.elim (by have := i_nlt c4; have := i_rg d; have : (0 : Int32).toInt = 0 := rfl; have := i_eq ek5; have : (nI k5).toInt = ((k5 : Nat) : Int) := nI_toInt (by omega); have := i_nle c6; have : (24 : Int32).toInt = 24 := rfl; have := i_le q; omega)) (fun _ => ?_)
              refine r_ic (x := 1) rfl rfl ?_
              refine r_goto (tg := 15) rfl rfl ?_
              refine r_zret rfl (.inr rfl) ?_
              show WR _ cd_181 11 [some (.ref (ad 30)), some (.int c), some (.int d), none, none, none] [.int 1] (sI h (ad 0) 6 0) _
              refine r_if_ne (tg := 21) rfl rfl (fun _ => ?_) (fun q => absurd q (by decide))
              refine r_aload rfl rfl ?_
              refine r_getA (b := ad 31) rfl ⟨rfl, rfl, rfl⟩ (fx_t30 fx) (fx_r30_0 fx) ?_
              refine r_iload rfl rfl ?_
              refine WR_tI (y := nI k2) ek2 ?_
              refine r_iaload rfl (.inl (fx_t31 fx)) (vp_ct (fx_n31 fx) (vp_in_nI (by have := i_nlt c1; have := i_rg c; have : (0 : Int32).toInt = 0 := rfl; have := i_eq ek2; have : (nI k2).toInt = ((k2 : Nat) : Int) := nI_toInt (by omega); have := i_nle c3; have : (24 : Int32).toInt = 24 := rfl; omega) (by omega))) ?_
              refine WR_tI (congrArg (hI (sI h (ad 0) 6 0) (ad 31)) ((nI_clamp (by have := i_nlt c1; have := i_rg c; have : (0 : Int32).toInt = 0 := rfl; have := i_eq ek2; have : (nI k2).toInt = ((k2 : Nat) : Int) := nI_toInt (by omega); have := i_nle c3; have : (24 : Int32).toInt = 24 := rfl; omega)) : _ = k2)) ?_
              refine WR_tI (y := nI t7) (Eq.trans (I_ne (fx_ne fx (by decide))) v7) ?_
              refine r_istore (lv' := [some (.ref (ad 30)), some (.int c), some (.int d), some (.int (nI t7)), none, none]) rfl (Nat.le_of_ble_eq_true rfl) rfl ?_
              refine r_aload rfl rfl ?_
              refine r_getA (b := ad 31) rfl ⟨rfl, rfl, rfl⟩ (fx_t30 fx) (fx_r30_0 fx) ?_
              refine r_iload rfl rfl ?_
              refine WR_tI (y := nI k5) ek5 ?_
              refine r_iaload rfl (.inl (fx_t31 fx)) (vp_ct (fx_n31 fx) (vp_in_nI (by have := i_nlt c4; have := i_rg d; have : (0 : Int32).toInt = 0 := rfl; have := i_eq ek5; have : (nI k5).toInt = ((k5 : Nat) : Int) := nI_toInt (by omega); have := i_nle c6; have : (24 : Int32).toInt = 24 := rfl; omega) (by omega))) ?_
              refine WR_tI (congrArg (hI (sI h (ad 0) 6 0) (ad 31)) ((nI_clamp (by have := i_nlt c4; have := i_rg d; have : (0 : Int32).toInt = 0 := rfl; have := i_eq ek5; have : (nI k5).toInt = ((k5 : Nat) : Int) := nI_toInt (by omega); have := i_nle c6; have : (24 : Int32).toInt = 24 := rfl; omega)) : _ = k5)) ?_
              refine WR_tI (y := nI t20) (Eq.trans (I_ne (fx_ne fx (by decide))) v20) ?_
              refine r_istore (lv' := [some (.ref (ad 30)), some (.int c), some (.int d), some (.int (nI t7)), some (.int (nI t20)), none]) rfl (Nat.le_of_ble_eq_true rfl) rfl ?_
              refine r_iload rfl rfl ?_
              refine r_iload rfl rfl ?_
              refine r_icmp_ne (tg := 48) rfl rfl (fun _ => ?_) (fun q => False.elim (by have : (nI t7).toInt = ((t7 : Nat) : Int) := nI_toInt (by omega); have : (nI t20).toInt = ((t20 : Nat) : Int) := nI_toInt (by omega); have := i_eq q; omega))
              refine r_iload rfl rfl ?_
              refine r_ic (x := (-1)) rfl rfl ?_
              refine r_icmp_eq (tg := 90) rfl rfl (fun q => False.elim (by have : (nI t7).toInt = ((t7 : Nat) : Int) := nI_toInt (by omega); have : (-1 : Int32).toInt = -1 := rfl; have := i_eq q; omega)) (fun _ => ?_)
              refine r_iload rfl rfl ?_
              refine r_ic (x := (-1)) rfl rfl ?_
              refine r_icmp_eq (tg := 90) rfl rfl (fun q => False.elim (by have : (nI t20).toInt = ((t20 : Nat) : Int) := nI_toInt (by omega); have : (-1 : Int32).toInt = -1 := rfl; have := i_eq q; omega)) (fun _ => ?_)
              refine r_iload rfl rfl ?_
              refine r_ic (x := 1000) rfl rfl ?_
              refine r_icmp_ge (tg := 90) rfl rfl (fun q => False.elim (by have : (nI t7).toInt = ((t7 : Nat) : Int) := nI_toInt (by omega); have : (1000 : Int32).toInt = 1000 := rfl; have := i_le q; omega)) (fun _ => ?_)
              refine r_iload rfl rfl ?_
              refine r_ic (x := 1000) rfl rfl ?_
              refine r_icmp_ge (tg := 90) rfl rfl (fun q => False.elim (by have : (nI t20).toInt = ((t20 : Nat) : Int) := nI_toInt (by omega); have : (1000 : Int32).toInt = 1000 := rfl; have := i_le q; omega)) (fun _ => ?_)
              refine r_aload rfl rfl ?_
              refine r_getA (b := ad 33) rfl ⟨rfl, rfl, rfl⟩ (fx_t30 fx) (fx_r30_2 fx) ?_
              refine r_iload rfl rfl ?_
              refine r_iaload rfl (.inl (fx_t33 fx)) (vp_ct (fx_n33 fx) (vp_in_nI (by omega) (by omega))) ?_
              refine WR_tI (congrArg (hI (sI h (ad 0) 6 0) (ad 33)) ((nI_clamp (by omega)) : _ = t7)) ?_
              refine WR_tI (y := 9) (Eq.trans (I_ne (fx_ne fx (by decide))) l2_7) ?_
              refine r_aload rfl rfl ?_
              refine r_getA (b := ad 33) rfl ⟨rfl, rfl, rfl⟩ (fx_t30 fx) (fx_r30_2 fx) ?_
              refine r_iload rfl rfl ?_
              refine r_iaload rfl (.inl (fx_t33 fx)) (vp_ct (fx_n33 fx) (vp_in_nI (by omega) (by omega))) ?_
              refine WR_tI (congrArg (hI (sI h (ad 0) 6 0) (ad 33)) ((nI_clamp (by omega)) : _ = t20)) ?_
              refine WR_tI (y := nI ln20) (Eq.trans (I_ne (fx_ne fx (by decide))) l2_20) ?_
              refine r_icmp_eq (tg := 96) rfl rfl (fun q => False.elim (by have : (9 : Int32).toInt = 9 := rfl; have : (nI ln20).toInt = ((ln20 : Nat) : Int) := nI_toInt (by omega); have := i_eq q; omega)) (fun _ => ?_)
              refine r_aload rfl rfl ?_
              refine r_ic (x := 0) rfl rfl ?_
              refine r_cv (y := 154) (ra := [.int 0]) (rest := []) rfl ⟨⟨rfl, rfl⟩, rfl, by decide⟩ (fx_t30 fx) rfl rfl (Nat.le_of_ble_eq_true rfl) ?_
              refine in_154 (Nat.le_of_ble_eq_true rfl) ?_
              show WR _ cd_154 0 [some (.ref (ad 30)), some (.int 0)] [] (sI h (ad 0) 6 0) _
              refine r_aload rfl rfl ?_
              refine r_iload rfl rfl ?_
              refine r_ic (x := (-1)) rfl rfl ?_
              refine r_icmp_ge (tg := 10) rfl rfl (fun _ => ?_) (fun q => absurd q (by decide))
              refine r_ic (x := 0) rfl rfl ?_
              refine r_putI rfl ⟨rfl, rfl, rfl⟩ (fx_t30 fx) ?_
              have fx : FX n ad sa z0 (sI (sI h (ad 0) 6 0) (ad 30) 11 0) := (FX.sI fx)
              refine r_iload rfl rfl ?_
              refine r_iret rfl ?_
              show WR _ cd_181 95 [some (.ref (ad 30)), some (.int c), some (.int d), some (.int (nI t7)), some (.int (nI t20)), none] [.int 0] (sI (sI h (ad 0) 6 0) (ad 30) 11 0) _
              refine r_iret rfl ?_
              exact ⟨rfl, Rel.why r ((Chg.rf.sI (fx_j fx) (.inl (by decide))).sI (fx_j fx) (.inl (by decide))) ⟨rfl, by decide⟩ (Eq.trans (Eq.trans (I_ne (fx_ne fx (by decide))) I_eq) (Eq.symm I_eq)), (by (try simp only [hZ_sI, hZ_sL, hZ_sD, hZ_sR]); omega), (by (try simp only [hU_sI, hU_sL, hU_sD, hU_sR]); omega)⟩
            · refine r_aaloadA (b := mid t20) rfl (isQ_of (fx_t1 fx) (by decide)) (vp_ct (fx_n1 fx) (vp_in_nI (by have := i_nlt c4; have := i_rg d; have : (0 : Int32).toInt = 0 := rfl; have := i_eq ek5; have : (nI k5).toInt = ((k5 : Nat) : Int) := nI_toInt (by omega); have := i_nle c6; have : (24 : Int32).toInt = 24 := rfl; omega) (by omega))) (Eq.trans (congrArg (hR (sI h (ad 0) 6 0) (ad 1)) ((nI_clamp (by have := i_nlt c4; have := i_rg d; have : (0 : Int32).toInt = 0 := rfl; have := i_eq ek5; have : (nI k5).toInt = ((k5 : Nat) : Int) := nI_toInt (by omega); have := i_nle c6; have : (24 : Int32).toInt = 24 := rfl; omega)) : _ = k5)) (Eq.trans R_oI w20)) ?_
              refine r_astore (lv' := [some (.ref (ad 0)), some (.int c), some (.int d), some (.ref (mid t7)), some (.ref (mid t20))]) rfl (Nat.le_of_ble_eq_true rfl) rfl ?_
              refine r_aload rfl rfl ?_
              refine r_aload rfl rfl ?_
              refine r_acmpA_ne (tg := 49) rfl rfl (fun c22 => ?_) (fun c22 => ?_)
              · have c22e : ¬ t7 = t20 := fun e => c22 (by rw [e])
                refine r_aload rfl rfl ?_
                refine r_ifnullA (tg := 71) rfl rfl ?_
                refine r_aload rfl rfl ?_
                refine r_ifnullA (tg := 71) rfl rfl ?_
                refine r_aload rfl rfl ?_
                refine r_aload rfl rfl ?_
                refine r_cw (y := 62) (ra := [.ref (mid t20)]) (rest := []) rfl ⟨rfl, rfl⟩ (by rw [show hT (sI h (ad 0) 6 0) (mid t7) = 6 from tg7]; rfl) rfl rfl (Nat.le_of_ble_eq_true rfl) ?_
                refine in_62 (Nat.le_of_ble_eq_true rfl) ?_
                show WR _ cd_62 0 [some (.ref (mid t7)), some (.ref (mid t20)), none, none] [] (sI h (ad 0) 6 0) _
                refine r_aload rfl rfl ?_
                refine r_instY rfl (by decide) tg20 ?_
                refine r_if_eq (tg := 36) rfl rfl (fun q => absurd q (by decide)) (fun _ => ?_)
                refine r_aload rfl rfl ?_
                refine r_cast rfl tg20 ?_
                refine r_astore (lv' := [some (.ref (mid t7)), some (.ref (mid t20)), some (.ref (mid t20)), none]) rfl (Nat.le_of_ble_eq_true rfl) rfl ?_
                refine r_aload rfl rfl ?_
                refine r_getI rfl ⟨rfl, rfl, rfl⟩ tg20 ?_
                refine WR_tI (y := (-1)) (Eq.trans (I_ne (dy_ad fx (.inl (by decide)) dz20)) k1_20) ?_
                refine r_aload rfl rfl ?_
                refine r_getI rfl ⟨rfl, rfl, rfl⟩ tg7 ?_
                refine WR_tI (y := nI kd7) (Eq.trans (I_ne (dy_ad fx (.inl (by decide)) dz7)) k1_7) ?_
                refine r_icmp_ne (tg := 36) rfl rfl (fun _ => ?_) (fun q => False.elim (by have : (-1 : Int32).toInt = -1 := rfl; have : (nI kd7).toInt = ((kd7 : Nat) : Int) := nI_toInt (by omega); have := i_eq q; omega))
                refine r_ic (x := 0) rfl rfl ?_
                refine r_zret rfl (.inl rfl) ?_
                show WR _ cd_59 64 [some (.ref (ad 0)), some (.int c), some (.int d), some (.ref (mid t7)), some (.ref (mid t20))] [.int 0] (sI h (ad 0) 6 0) _
                refine r_if_eq (tg := 71) rfl rfl (fun _ => ?_) (fun q => absurd q (by decide))
                refine r_ic (x := 0) rfl rfl ?_
                refine r_iret rfl ?_
                show EV _ 181 [.ref (ad 30), .int c, .int d] (sI h (ad 0) 6 0) _
                refine in_181 (Nat.le_of_ble_eq_true rfl) ?_
                show WR _ cd_181 0 [some (.ref (ad 30)), some (.int c), some (.int d), none, none, none] [] (sI h (ad 0) 6 0) _
                refine r_iload rfl rfl ?_
                refine WR_tI (y := nI k2) ek2 ?_
                refine r_cs (y := 153) (ra := [.int (nI k2)]) (rest := []) rfl ⟨⟨rfl, rfl⟩, by decide⟩ rfl rfl (Nat.le_of_ble_eq_true rfl) ?_
                refine in_153 (Nat.le_of_ble_eq_true rfl) ?_
                show WR _ cd_153 0 [some (.int (nI k2))] [] (sI h (ad 0) 6 0) _
                refine r_iload rfl rfl ?_
                refine r_if_lt (tg := 14) rfl rfl (fun q => False.elim (by have := i_nlt c1; have := i_rg c; have : (0 : Int32).toInt = 0 := rfl; have := i_eq ek2; have : (nI k2).toInt = ((k2 : Nat) : Int) := nI_toInt (by omega); have := i_nle c3; have : (24 : Int32).toInt = 24 := rfl; have := i_lt q; omega)) (fun _ => ?_)
                refine r_iload rfl rfl ?_
                refine r_ic (x := 24) rfl rfl ?_
                refine r_icmp_ge (tg := 14) rfl rfl (fun q => False.elim (by have := i_nlt c1; have := i_rg c; have : (0 : Int32).toInt = 0 := rfl; have := i_eq ek2; have : (nI k2).toInt = ((k2 : Nat) : Int) := nI_toInt (by omega); have := i_nle c3; have : (24 : Int32).toInt = 24 := rfl; have := i_le q; omega)) (fun _ => ?_)
                refine r_ic (x := 1) rfl rfl ?_
                refine r_goto (tg := 15) rfl rfl ?_
                refine r_zret rfl (.inr rfl) ?_
                show WR _ cd_181 4 [some (.ref (ad 30)), some (.int c), some (.int d), none, none, none] [.int 1] (sI h (ad 0) 6 0) _
                refine r_if_eq (tg := 14) rfl rfl (fun q => absurd q (by decide)) (fun _ => ?_)
                refine r_iload rfl rfl ?_
                refine WR_tI (y := nI k5) ek5 ?_
                refine r_cs (y := 153) (ra := [.int (nI k5)]) (rest := []) rfl ⟨⟨rfl, rfl⟩, by decide⟩ rfl rfl (Nat.le_of_ble_eq_true rfl) ?_
                refine in_153 (Nat.le_of_ble_eq_true rfl) ?_
                show WR _ cd_153 0 [some (.int (nI k5))] [] (sI h (ad 0) 6 0) _
                refine r_iload rfl rfl ?_
                refine r_if_lt (tg := 14) rfl rfl (fun q => False.elim (by have := i_nlt c4; have := i_rg d; have : (0 : Int32).toInt = 0 := rfl; have := i_eq ek5; have : (nI k5).toInt = ((k5 : Nat) : Int) := nI_toInt (by omega); have := i_nle c6; have : (24 : Int32).toInt = 24 := rfl; have := i_lt q; omega)) (fun _ => ?_)
                refine r_iload rfl rfl ?_
                refine r_ic (x := 24) rfl rfl ?_
                refine r_icmp_ge (tg := 14) rfl rfl (fun q => False.elim (by have := i_nlt c4; have := i_rg d; have : (0 : Int32).toInt = 0 := rfl; have := i_eq ek5; have : (nI k5).toInt = ((k5 : Nat) : Int) := nI_toInt (by omega); have := i_nle c6; have : (24 : Int32).toInt = 24 := rfl; have := i_le q; omega)) (fun _ => ?_)
                refine r_ic (x := 1) rfl rfl ?_
                refine r_goto (tg := 15) rfl rfl ?_
                refine r_zret rfl (.inr rfl) ?_
                show WR _ cd_181 11 [some (.ref (ad 30)), some (.int c), some (.int d), none, none, none] [.int 1] (sI h (ad 0) 6 0) _
                refine r_if_ne (tg := 21) rfl rfl (fun _ => ?_) (fun q => absurd q (by decide))
                refine r_aload rfl rfl ?_
                refine r_getA (b := ad 31) rfl ⟨rfl, rfl, rfl⟩ (fx_t30 fx) (fx_r30_0 fx) ?_
                refine r_iload rfl rfl ?_
                refine WR_tI (y := nI k2) ek2 ?_
                refine r_iaload rfl (.inl (fx_t31 fx)) (vp_ct (fx_n31 fx) (vp_in_nI (by have := i_nlt c1; have := i_rg c; have : (0 : Int32).toInt = 0 := rfl; have := i_eq ek2; have : (nI k2).toInt = ((k2 : Nat) : Int) := nI_toInt (by omega); have := i_nle c3; have : (24 : Int32).toInt = 24 := rfl; omega) (by omega))) ?_
                refine WR_tI (congrArg (hI (sI h (ad 0) 6 0) (ad 31)) ((nI_clamp (by have := i_nlt c1; have := i_rg c; have : (0 : Int32).toInt = 0 := rfl; have := i_eq ek2; have : (nI k2).toInt = ((k2 : Nat) : Int) := nI_toInt (by omega); have := i_nle c3; have : (24 : Int32).toInt = 24 := rfl; omega)) : _ = k2)) ?_
                refine WR_tI (y := nI t7) (Eq.trans (I_ne (fx_ne fx (by decide))) v7) ?_
                refine r_istore (lv' := [some (.ref (ad 30)), some (.int c), some (.int d), some (.int (nI t7)), none, none]) rfl (Nat.le_of_ble_eq_true rfl) rfl ?_
                refine r_aload rfl rfl ?_
                refine r_getA (b := ad 31) rfl ⟨rfl, rfl, rfl⟩ (fx_t30 fx) (fx_r30_0 fx) ?_
                refine r_iload rfl rfl ?_
                refine WR_tI (y := nI k5) ek5 ?_
                refine r_iaload rfl (.inl (fx_t31 fx)) (vp_ct (fx_n31 fx) (vp_in_nI (by have := i_nlt c4; have := i_rg d; have : (0 : Int32).toInt = 0 := rfl; have := i_eq ek5; have : (nI k5).toInt = ((k5 : Nat) : Int) := nI_toInt (by omega); have := i_nle c6; have : (24 : Int32).toInt = 24 := rfl; omega) (by omega))) ?_
                refine WR_tI (congrArg (hI (sI h (ad 0) 6 0) (ad 31)) ((nI_clamp (by have := i_nlt c4; have := i_rg d; have : (0 : Int32).toInt = 0 := rfl; have := i_eq ek5; have : (nI k5).toInt = ((k5 : Nat) : Int) := nI_toInt (by omega); have := i_nle c6; have : (24 : Int32).toInt = 24 := rfl; omega)) : _ = k5)) ?_
                refine WR_tI (y := nI t20) (Eq.trans (I_ne (fx_ne fx (by decide))) v20) ?_
                refine r_istore (lv' := [some (.ref (ad 30)), some (.int c), some (.int d), some (.int (nI t7)), some (.int (nI t20)), none]) rfl (Nat.le_of_ble_eq_true rfl) rfl ?_
                refine r_iload rfl rfl ?_
                refine r_iload rfl rfl ?_
                refine r_icmp_ne (tg := 48) rfl rfl (fun _ => ?_) (fun q => False.elim (by have : (nI t7).toInt = ((t7 : Nat) : Int) := nI_toInt (by omega); have : (nI t20).toInt = ((t20 : Nat) : Int) := nI_toInt (by omega); have := i_eq q; omega))
                refine r_iload rfl rfl ?_
                refine r_ic (x := (-1)) rfl rfl ?_
                refine r_icmp_eq (tg := 90) rfl rfl (fun q => False.elim (by have : (nI t7).toInt = ((t7 : Nat) : Int) := nI_toInt (by omega); have : (-1 : Int32).toInt = -1 := rfl; have := i_eq q; omega)) (fun _ => ?_)
                refine r_iload rfl rfl ?_
                refine r_ic (x := (-1)) rfl rfl ?_
                refine r_icmp_eq (tg := 90) rfl rfl (fun q => False.elim (by have : (nI t20).toInt = ((t20 : Nat) : Int) := nI_toInt (by omega); have : (-1 : Int32).toInt = -1 := rfl; have := i_eq q; omega)) (fun _ => ?_)
                refine r_iload rfl rfl ?_
                refine r_ic (x := 1000) rfl rfl ?_
                refine r_icmp_ge (tg := 90) rfl rfl (fun q => False.elim (by have : (nI t7).toInt = ((t7 : Nat) : Int) := nI_toInt (by omega); have : (1000 : Int32).toInt = 1000 := rfl; have := i_le q; omega)) (fun _ => ?_)
                refine r_iload rfl rfl ?_
                refine r_ic (x := 1000) rfl rfl ?_
                refine r_icmp_ge (tg := 90) rfl rfl (fun q => False.elim (by have : (nI t20).toInt = ((t20 : Nat) : Int) := nI_toInt (by omega); have : (1000 : Int32).toInt = 1000 := rfl; have := i_le q; omega)) (fun _ => ?_)
                refine r_aload rfl rfl ?_
                refine r_getA (b := ad 33) rfl ⟨rfl, rfl, rfl⟩ (fx_t30 fx) (fx_r30_2 fx) ?_
                refine r_iload rfl rfl ?_
                refine r_iaload rfl (.inl (fx_t33 fx)) (vp_ct (fx_n33 fx) (vp_in_nI (by omega) (by omega))) ?_
                refine WR_tI (congrArg (hI (sI h (ad 0) 6 0) (ad 33)) ((nI_clamp (by omega)) : _ = t7)) ?_
                refine WR_tI (y := 9) (Eq.trans (I_ne (fx_ne fx (by decide))) l2_7) ?_
                refine r_aload rfl rfl ?_
                refine r_getA (b := ad 33) rfl ⟨rfl, rfl, rfl⟩ (fx_t30 fx) (fx_r30_2 fx) ?_
                refine r_iload rfl rfl ?_
                refine r_iaload rfl (.inl (fx_t33 fx)) (vp_ct (fx_n33 fx) (vp_in_nI (by omega) (by omega))) ?_
                refine WR_tI (congrArg (hI (sI h (ad 0) 6 0) (ad 33)) ((nI_clamp (by omega)) : _ = t20)) ?_
                refine WR_tI (y := 8) (Eq.trans (I_ne (fx_ne fx (by decide))) l2_20) ?_
                refine r_icmp_eq (tg := 96) rfl rfl (fun q => absurd q (by decide)) (fun _ => ?_)
                refine r_aload rfl rfl ?_
                refine r_ic (x := 0) rfl rfl ?_
                refine r_cv (y := 154) (ra := [.int 0]) (rest := []) rfl ⟨⟨rfl, rfl⟩, rfl, by decide⟩ (fx_t30 fx) rfl rfl (Nat.le_of_ble_eq_true rfl) ?_
                refine in_154 (Nat.le_of_ble_eq_true rfl) ?_
                show WR _ cd_154 0 [some (.ref (ad 30)), some (.int 0)] [] (sI h (ad 0) 6 0) _
                refine r_aload rfl rfl ?_
                refine r_iload rfl rfl ?_
                refine r_ic (x := (-1)) rfl rfl ?_
                refine r_icmp_ge (tg := 10) rfl rfl (fun _ => ?_) (fun q => absurd q (by decide))
                refine r_ic (x := 0) rfl rfl ?_
                refine r_putI rfl ⟨rfl, rfl, rfl⟩ (fx_t30 fx) ?_
                have fx : FX n ad sa z0 (sI (sI h (ad 0) 6 0) (ad 30) 11 0) := (FX.sI fx)
                refine r_iload rfl rfl ?_
                refine r_iret rfl ?_
                show WR _ cd_181 95 [some (.ref (ad 30)), some (.int c), some (.int d), some (.int (nI t7)), some (.int (nI t20)), none] [.int 0] (sI (sI h (ad 0) 6 0) (ad 30) 11 0) _
                refine r_iret rfl ?_
                exact ⟨rfl, Rel.why r ((Chg.rf.sI (fx_j fx) (.inl (by decide))).sI (fx_j fx) (.inl (by decide))) ⟨rfl, by decide⟩ (Eq.trans (Eq.trans (I_ne (fx_ne fx (by decide))) I_eq) (Eq.symm I_eq)), (by (try simp only [hZ_sI, hZ_sL, hZ_sD, hZ_sR]); omega), (by (try simp only [hU_sI, hU_sL, hU_sD, hU_sR]); omega)⟩
              · have c22e := rs.2.2.1 _ _ (by assumption) (by assumption) (.inl ⟨k2, (by have := i_nlt c1; have := i_rg c; have : (0 : Int32).toInt = 0 := rfl; have := i_eq ek2; have : (nI k2).toInt = ((k2 : Nat) : Int) := nI_toInt (by omega); have := i_nle c3; have : (24 : Int32).toInt = 24 := rfl; omega), v7⟩) (.inl ⟨k5, (by have := i_nlt c4; have := i_rg d; have : (0 : Int32).toInt = 0 := rfl; have := i_eq ek5; have : (nI k5).toInt = ((k5 : Nat) : Int) := nI_toInt (by omega); have := i_nle c6; have : (24 : Int32).toInt = 24 := rfl; omega), v20⟩) c22
                refine r_ic (x := 1) rfl rfl ?_
                refine r_iret rfl ?_
                show EV _ 181 [.ref (ad 30), .int c, .int d] (sI h (ad 0) 6 0) _
                refine in_181 (Nat.le_of_ble_eq_true rfl) ?_
                show WR _ cd_181 0 [some (.ref (ad 30)), some (.int c), some (.int d), none, none, none] [] (sI h (ad 0) 6 0) _
                refine r_iload rfl rfl ?_
                refine WR_tI (y := nI k2) ek2 ?_
                refine r_cs (y := 153) (ra := [.int (nI k2)]) (rest := []) rfl ⟨⟨rfl, rfl⟩, by decide⟩ rfl rfl (Nat.le_of_ble_eq_true rfl) ?_
                refine in_153 (Nat.le_of_ble_eq_true rfl) ?_
                show WR _ cd_153 0 [some (.int (nI k2))] [] (sI h (ad 0) 6 0) _
                refine r_iload rfl rfl ?_
                refine r_if_lt (tg := 14) rfl rfl (fun q => False.elim (by have := i_nlt c1; have := i_rg c; have : (0 : Int32).toInt = 0 := rfl; have := i_eq ek2; have : (nI k2).toInt = ((k2 : Nat) : Int) := nI_toInt (by omega); have := i_nle c3; have : (24 : Int32).toInt = 24 := rfl; have := i_lt q; omega)) (fun _ => ?_)
                refine r_iload rfl rfl ?_
                refine r_ic (x := 24) rfl rfl ?_
                refine r_icmp_ge (tg := 14) rfl rfl (fun q => False.elim (by have := i_nlt c1; have := i_rg c; have : (0 : Int32).toInt = 0 := rfl; have := i_eq ek2; have : (nI k2).toInt = ((k2 : Nat) : Int) := nI_toInt (by omega); have := i_nle c3; have : (24 : Int32).toInt = 24 := rfl; have := i_le q; omega)) (fun _ => ?_)
                refine r_ic (x := 1) rfl rfl ?_
                refine r_goto (tg := 15) rfl rfl ?_
                refine r_zret rfl (.inr rfl) ?_
                show WR _ cd_181 4 [some (.ref (ad 30)), some (.int c), some (.int d), none, none, none] [.int 1] (sI h (ad 0) 6 0) _
                refine r_if_eq (tg := 14) rfl rfl (fun q => absurd q (by decide)) (fun _ => ?_)
                refine r_iload rfl rfl ?_
                refine WR_tI (y := nI k5) ek5 ?_
                refine r_cs (y := 153) (ra := [.int (nI k5)]) (rest := []) rfl ⟨⟨rfl, rfl⟩, by decide⟩ rfl rfl (Nat.le_of_ble_eq_true rfl) ?_
                refine in_153 (Nat.le_of_ble_eq_true rfl) ?_
                show WR _ cd_153 0 [some (.int (nI k5))] [] (sI h (ad 0) 6 0) _
                refine r_iload rfl rfl ?_
                refine r_if_lt (tg := 14) rfl rfl (fun q => False.elim (by have := i_nlt c4; have := i_rg d; have : (0 : Int32).toInt = 0 := rfl; have := i_eq ek5; have : (nI k5).toInt = ((k5 : Nat) : Int) := nI_toInt (by omega); have := i_nle c6; have : (24 : Int32).toInt = 24 := rfl; have := i_lt q; omega)) (fun _ => ?_)
                refine r_iload rfl rfl ?_
                refine r_ic (x := 24) rfl rfl ?_
                refine r_icmp_ge (tg := 14) rfl rfl (fun q => False.elim (by have := i_nlt c4; have := i_rg d; have : (0 : Int32).toInt = 0 := rfl; have := i_eq ek5; have : (nI k5).toInt = ((k5 : Nat) : Int) := nI_toInt (by omega); have := i_nle c6; have : (24 : Int32).toInt = 24 := rfl; have := i_le q; omega)) (fun _ => ?_)
                refine r_ic (x := 1) rfl rfl ?_
                refine r_goto (tg := 15) rfl rfl ?_
                refine r_zret rfl (.inr rfl) ?_
                show WR _ cd_181 11 [some (.ref (ad 30)), some (.int c), some (.int d), none, none, none] [.int 1] (sI h (ad 0) 6 0) _
                refine r_if_ne (tg := 21) rfl rfl (fun _ => ?_) (fun q => absurd q (by decide))
                refine r_aload rfl rfl ?_
                refine r_getA (b := ad 31) rfl ⟨rfl, rfl, rfl⟩ (fx_t30 fx) (fx_r30_0 fx) ?_
                refine r_iload rfl rfl ?_
                refine WR_tI (y := nI k2) ek2 ?_
                refine r_iaload rfl (.inl (fx_t31 fx)) (vp_ct (fx_n31 fx) (vp_in_nI (by have := i_nlt c1; have := i_rg c; have : (0 : Int32).toInt = 0 := rfl; have := i_eq ek2; have : (nI k2).toInt = ((k2 : Nat) : Int) := nI_toInt (by omega); have := i_nle c3; have : (24 : Int32).toInt = 24 := rfl; omega) (by omega))) ?_
                refine WR_tI (congrArg (hI (sI h (ad 0) 6 0) (ad 31)) ((nI_clamp (by have := i_nlt c1; have := i_rg c; have : (0 : Int32).toInt = 0 := rfl; have := i_eq ek2; have : (nI k2).toInt = ((k2 : Nat) : Int) := nI_toInt (by omega); have := i_nle c3; have : (24 : Int32).toInt = 24 := rfl; omega)) : _ = k2)) ?_
                refine WR_tI (y := nI t7) (Eq.trans (I_ne (fx_ne fx (by decide))) v7) ?_
                refine r_istore (lv' := [some (.ref (ad 30)), some (.int c), some (.int d), some (.int (nI t7)), none, none]) rfl (Nat.le_of_ble_eq_true rfl) rfl ?_
                refine r_aload rfl rfl ?_
                refine r_getA (b := ad 31) rfl ⟨rfl, rfl, rfl⟩ (fx_t30 fx) (fx_r30_0 fx) ?_
                refine r_iload rfl rfl ?_
                refine WR_tI (y := nI k5) ek5 ?_
                refine r_iaload rfl (.inl (fx_t31 fx)) (vp_ct (fx_n31 fx) (vp_in_nI (by have := i_nlt c4; have := i_rg d; have : (0 : Int32).toInt = 0 := rfl; have := i_eq ek5; have : (nI k5).toInt = ((k5 : Nat) : Int) := nI_toInt (by omega); have := i_nle c6; have : (24 : Int32).toInt = 24 := rfl; omega) (by omega))) ?_
                refine WR_tI (congrArg (hI (sI h (ad 0) 6 0) (ad 31)) ((nI_clamp (by have := i_nlt c4; have := i_rg d; have : (0 : Int32).toInt = 0 := rfl; have := i_eq ek5; have : (nI k5).toInt = ((k5 : Nat) : Int) := nI_toInt (by omega); have := i_nle c6; have : (24 : Int32).toInt = 24 := rfl; omega)) : _ = k5)) ?_
                refine WR_tI (y := nI t20) (Eq.trans (I_ne (fx_ne fx (by decide))) v20) ?_
                refine r_istore (lv' := [some (.ref (ad 30)), some (.int c), some (.int d), some (.int (nI t7)), some (.int (nI t20)), none]) rfl (Nat.le_of_ble_eq_true rfl) rfl ?_
                refine r_iload rfl rfl ?_
                refine r_iload rfl rfl ?_
                refine r_icmp_ne (tg := 48) rfl rfl (fun q => False.elim (by have : (nI t7).toInt = ((t7 : Nat) : Int) := nI_toInt (by omega); have : (nI t20).toInt = ((t20 : Nat) : Int) := nI_toInt (by omega); have := i_neq q; omega)) (fun _ => ?_)
                refine r_aload rfl rfl ?_
                refine r_ic (x := 1) rfl rfl ?_
                refine r_cv (y := 154) (ra := [.int 1]) (rest := []) rfl ⟨⟨rfl, rfl⟩, rfl, by decide⟩ (fx_t30 fx) rfl rfl (Nat.le_of_ble_eq_true rfl) ?_
                refine in_154 (Nat.le_of_ble_eq_true rfl) ?_
                show WR _ cd_154 0 [some (.ref (ad 30)), some (.int 1)] [] (sI h (ad 0) 6 0) _
                refine r_aload rfl rfl ?_
                refine r_iload rfl rfl ?_
                refine r_ic (x := (-1)) rfl rfl ?_
                refine r_icmp_ge (tg := 10) rfl rfl (fun _ => ?_) (fun q => absurd q (by decide))
                refine r_ic (x := 0) rfl rfl ?_
                refine r_putI rfl ⟨rfl, rfl, rfl⟩ (fx_t30 fx) ?_
                have fx : FX n ad sa z0 (sI (sI h (ad 0) 6 0) (ad 30) 11 0) := (FX.sI fx)
                refine r_iload rfl rfl ?_
                refine r_iret rfl ?_
                show WR _ cd_181 47 [some (.ref (ad 30)), some (.int c), some (.int d), some (.int (nI t7)), some (.int (nI t20)), none] [.int 1] (sI (sI h (ad 0) 6 0) (ad 30) 11 0) _
                refine r_iret rfl ?_
                exact ⟨rfl, Rel.why r ((Chg.rf.sI (fx_j fx) (.inl (by decide))).sI (fx_j fx) (.inl (by decide))) ⟨rfl, by decide⟩ (Eq.trans (Eq.trans (I_ne (fx_ne fx (by decide))) I_eq) (Eq.symm I_eq)), (by (try simp only [hZ_sI, hZ_sL, hZ_sD, hZ_sR]); omega), (by (try simp only [hU_sI, hU_sL, hU_sD, hU_sR]); omega)⟩
            · refine r_aaloadA (b := mid t20) rfl (isQ_of (fx_t1 fx) (by decide)) (vp_ct (fx_n1 fx) (vp_in_nI (by have := i_nlt c4; have := i_rg d; have : (0 : Int32).toInt = 0 := rfl; have := i_eq ek5; have : (nI k5).toInt = ((k5 : Nat) : Int) := nI_toInt (by omega); have := i_nle c6; have : (24 : Int32).toInt = 24 := rfl; omega) (by omega))) (Eq.trans (congrArg (hR (sI h (ad 0) 6 0) (ad 1)) ((nI_clamp (by have := i_nlt c4; have := i_rg d; have : (0 : Int32).toInt = 0 := rfl; have := i_eq ek5; have : (nI k5).toInt = ((k5 : Nat) : Int) := nI_toInt (by omega); have := i_nle c6; have : (24 : Int32).toInt = 24 := rfl; omega)) : _ = k5)) (Eq.trans R_oI w20)) ?_
              refine r_astore (lv' := [some (.ref (ad 0)), some (.int c), some (.int d), some (.ref (mid t7)), some (.ref (mid t20))]) rfl (Nat.le_of_ble_eq_true rfl) rfl ?_
              refine r_aload rfl rfl ?_
              refine r_aload rfl rfl ?_
              refine r_acmpA_ne (tg := 49) rfl rfl (fun c23 => ?_) (fun c23 => ?_)
              · have c23e : ¬ t7 = t20 := fun e => c23 (by rw [e])
                refine r_aload rfl rfl ?_
                refine r_ifnullA (tg := 71) rfl rfl ?_
                refine r_aload rfl rfl ?_
                refine r_ifnullA (tg := 71) rfl rfl ?_
                refine r_aload rfl rfl ?_
                refine r_aload rfl rfl ?_
                refine r_cw (y := 62) (ra := [.ref (mid t20)]) (rest := []) rfl ⟨rfl, rfl⟩ (by rw [show hT (sI h (ad 0) 6 0) (mid t7) = 6 from tg7]; rfl) rfl rfl (Nat.le_of_ble_eq_true rfl) ?_
                have rsy : Rs ad z0 mid pa np (sI h (ad 0) 6 0) := Rs.y fx0 rs
                have smy : smS ad z0 h (sI h (ad 0) 6 0) := smY fx0
                obtain ⟨P, p1, p2⟩ := al_c (H := sI h (ad 0) 6 0) fx rsy ht7 ht20 (rw7.s smy) (rw20.s smy)
                refine p1 _ _ (fun hP => ?_) (fun hP => ?_)
                · show WR _ cd_59 64 [some (.ref (ad 0)), some (.int c), some (.int d), some (.ref (mid t7)), some (.ref (mid t20))] [.int 1] (sI h (ad 0) 6 0) _
                  refine r_if_eq (tg := 71) rfl rfl (fun q => absurd q (by decide)) (fun _ => ?_)
                  refine r_ic (x := 2) rfl rfl ?_
                  refine r_goto (tg := 72) rfl rfl ?_
                  refine r_iret rfl ?_
                  show EV _ 181 [.ref (ad 30), .int c, .int d] (sI h (ad 0) 6 0) _
                  refine in_181 (Nat.le_of_ble_eq_true rfl) ?_
                  show WR _ cd_181 0 [some (.ref (ad 30)), some (.int c), some (.int d), none, none, none] [] (sI h (ad 0) 6 0) _
                  refine r_iload rfl rfl ?_
                  refine WR_tI (y := nI k2) ek2 ?_
                  refine r_cs (y := 153) (ra := [.int (nI k2)]) (rest := []) rfl ⟨⟨rfl, rfl⟩, by decide⟩ rfl rfl (Nat.le_of_ble_eq_true rfl) ?_
                  refine in_153 (Nat.le_of_ble_eq_true rfl) ?_
                  show WR _ cd_153 0 [some (.int (nI k2))] [] (sI h (ad 0) 6 0) _
                  refine r_iload rfl rfl ?_
                  refine r_if_lt (tg := 14) rfl rfl (fun q => False.elim (by have := i_nlt c1; have := i_rg c; have : (0 : Int32).toInt = 0 := rfl; have := i_eq ek2; have : (nI k2).toInt = ((k2 : Nat) : Int) := nI_toInt (by omega); have := i_nle c3; have : (24 : Int32).toInt = 24 := rfl; have := i_lt q; omega)) (fun _ => ?_)
                  refine r_iload rfl rfl ?_
                  refine r_ic (x := 24) rfl rfl ?_
                  refine r_icmp_ge (tg := 14) rfl rfl (fun q => False.elim (by have := i_nlt c1; have := i_rg c; have : (0 : Int32).toInt = 0 := rfl; have := i_eq ek2; have : (nI k2).toInt = ((k2 : Nat) : Int) := nI_toInt (by omega); have := i_nle c3; have : (24 : Int32).toInt = 24 := rfl; have := i_le q; omega)) (fun _ => ?_)
                  refine r_ic (x := 1) rfl rfl ?_
                  refine r_goto (tg := 15) rfl rfl ?_
                  refine r_zret rfl (.inr rfl) ?_
                  show WR _ cd_181 4 [some (.ref (ad 30)), some (.int c), some (.int d), none, none, none] [.int 1] (sI h (ad 0) 6 0) _
                  refine r_if_eq (tg := 14) rfl rfl (fun q => absurd q (by decide)) (fun _ => ?_)
                  refine r_iload rfl rfl ?_
                  refine WR_tI (y := nI k5) ek5 ?_
                  refine r_cs (y := 153) (ra := [.int (nI k5)]) (rest := []) rfl ⟨⟨rfl, rfl⟩, by decide⟩ rfl rfl (Nat.le_of_ble_eq_true rfl) ?_
                  refine in_153 (Nat.le_of_ble_eq_true rfl) ?_
                  show WR _ cd_153 0 [some (.int (nI k5))] [] (sI h (ad 0) 6 0) _
                  refine r_iload rfl rfl ?_
                  refine r_if_lt (tg := 14) rfl rfl (fun q => False.elim (by have := i_nlt c4; have := i_rg d; have : (0 : Int32).toInt = 0 := rfl; have := i_eq ek5; have : (nI k5).toInt = ((k5 : Nat) : Int) := nI_toInt (by omega); have := i_nle c6; have : (24 : Int32).toInt = 24 := rfl; have := i_lt q; omega)) (fun _ => ?_)
                  refine r_iload rfl rfl ?_
                  refine r_ic (x := 24) rfl rfl ?_
                  refine r_icmp_ge (tg := 14) rfl rfl (fun q => False.elim (by have := i_nlt c4; have := i_rg d; have : (0 : Int32).toInt = 0 := rfl; have := i_eq ek5; have : (nI k5).toInt = ((k5 : Nat) : Int) := nI_toInt (by omega); have := i_nle c6; have : (24 : Int32).toInt = 24 := rfl; have := i_le q; omega)) (fun _ => ?_)
                  refine r_ic (x := 1) rfl rfl ?_
                  refine r_goto (tg := 15) rfl rfl ?_
                  refine r_zret rfl (.inr rfl) ?_
                  show WR _ cd_181 11 [some (.ref (ad 30)), some (.int c), some (.int d), none, none, none] [.int 1] (sI h (ad 0) 6 0) _
                  refine r_if_ne (tg := 21) rfl rfl (fun _ => ?_) (fun q => absurd q (by decide))
                  refine r_aload rfl rfl ?_
                  refine r_getA (b := ad 31) rfl ⟨rfl, rfl, rfl⟩ (fx_t30 fx) (fx_r30_0 fx) ?_
                  refine r_iload rfl rfl ?_
                  refine WR_tI (y := nI k2) ek2 ?_
                  refine r_iaload rfl (.inl (fx_t31 fx)) (vp_ct (fx_n31 fx) (vp_in_nI (by have := i_nlt c1; have := i_rg c; have : (0 : Int32).toInt = 0 := rfl; have := i_eq ek2; have : (nI k2).toInt = ((k2 : Nat) : Int) := nI_toInt (by omega); have := i_nle c3; have : (24 : Int32).toInt = 24 := rfl; omega) (by omega))) ?_
                  refine WR_tI (congrArg (hI (sI h (ad 0) 6 0) (ad 31)) ((nI_clamp (by have := i_nlt c1; have := i_rg c; have : (0 : Int32).toInt = 0 := rfl; have := i_eq ek2; have : (nI k2).toInt = ((k2 : Nat) : Int) := nI_toInt (by omega); have := i_nle c3; have : (24 : Int32).toInt = 24 := rfl; omega)) : _ = k2)) ?_
                  refine WR_tI (y := nI t7) (Eq.trans (I_ne (fx_ne fx (by decide))) v7) ?_
                  refine r_istore (lv' := [some (.ref (ad 30)), some (.int c), some (.int d), some (.int (nI t7)), none, none]) rfl (Nat.le_of_ble_eq_true rfl) rfl ?_
                  refine r_aload rfl rfl ?_
                  refine r_getA (b := ad 31) rfl ⟨rfl, rfl, rfl⟩ (fx_t30 fx) (fx_r30_0 fx) ?_
                  refine r_iload rfl rfl ?_
                  refine WR_tI (y := nI k5) ek5 ?_
                  refine r_iaload rfl (.inl (fx_t31 fx)) (vp_ct (fx_n31 fx) (vp_in_nI (by have := i_nlt c4; have := i_rg d; have : (0 : Int32).toInt = 0 := rfl; have := i_eq ek5; have : (nI k5).toInt = ((k5 : Nat) : Int) := nI_toInt (by omega); have := i_nle c6; have : (24 : Int32).toInt = 24 := rfl; omega) (by omega))) ?_
                  refine WR_tI (congrArg (hI (sI h (ad 0) 6 0) (ad 31)) ((nI_clamp (by have := i_nlt c4; have := i_rg d; have : (0 : Int32).toInt = 0 := rfl; have := i_eq ek5; have : (nI k5).toInt = ((k5 : Nat) : Int) := nI_toInt (by omega); have := i_nle c6; have : (24 : Int32).toInt = 24 := rfl; omega)) : _ = k5)) ?_
                  refine WR_tI (y := nI t20) (Eq.trans (I_ne (fx_ne fx (by decide))) v20) ?_
                  refine r_istore (lv' := [some (.ref (ad 30)), some (.int c), some (.int d), some (.int (nI t7)), some (.int (nI t20)), none]) rfl (Nat.le_of_ble_eq_true rfl) rfl ?_
                  refine r_iload rfl rfl ?_
                  refine r_iload rfl rfl ?_
                  refine r_icmp_ne (tg := 48) rfl rfl (fun _ => ?_) (fun q => False.elim (by have : (nI t7).toInt = ((t7 : Nat) : Int) := nI_toInt (by omega); have : (nI t20).toInt = ((t20 : Nat) : Int) := nI_toInt (by omega); have := i_eq q; omega))
                  refine r_iload rfl rfl ?_
                  refine r_ic (x := (-1)) rfl rfl ?_
                  refine r_icmp_eq (tg := 90) rfl rfl (fun q => False.elim (by have : (nI t7).toInt = ((t7 : Nat) : Int) := nI_toInt (by omega); have : (-1 : Int32).toInt = -1 := rfl; have := i_eq q; omega)) (fun _ => ?_)
                  refine r_iload rfl rfl ?_
                  refine r_ic (x := (-1)) rfl rfl ?_
                  refine r_icmp_eq (tg := 90) rfl rfl (fun q => False.elim (by have : (nI t20).toInt = ((t20 : Nat) : Int) := nI_toInt (by omega); have : (-1 : Int32).toInt = -1 := rfl; have := i_eq q; omega)) (fun _ => ?_)
                  refine r_iload rfl rfl ?_
                  refine r_ic (x := 1000) rfl rfl ?_
                  refine r_icmp_ge (tg := 90) rfl rfl (fun q => False.elim (by have : (nI t7).toInt = ((t7 : Nat) : Int) := nI_toInt (by omega); have : (1000 : Int32).toInt = 1000 := rfl; have := i_le q; omega)) (fun _ => ?_)
                  refine r_iload rfl rfl ?_
                  refine r_ic (x := 1000) rfl rfl ?_
                  refine r_icmp_ge (tg := 90) rfl rfl (fun q => False.elim (by have : (nI t20).toInt = ((t20 : Nat) : Int) := nI_toInt (by omega); have : (1000 : Int32).toInt = 1000 := rfl; have := i_le q; omega)) (fun _ => ?_)
                  refine r_aload rfl rfl ?_
                  refine r_getA (b := ad 33) rfl ⟨rfl, rfl, rfl⟩ (fx_t30 fx) (fx_r30_2 fx) ?_
                  refine r_iload rfl rfl ?_
                  refine r_iaload rfl (.inl (fx_t33 fx)) (vp_ct (fx_n33 fx) (vp_in_nI (by omega) (by omega))) ?_
                  refine WR_tI (congrArg (hI (sI h (ad 0) 6 0) (ad 33)) ((nI_clamp (by omega)) : _ = t7)) ?_
                  refine WR_tI (y := 9) (Eq.trans (I_ne (fx_ne fx (by decide))) l2_7) ?_
                  refine r_aload rfl rfl ?_
                  refine r_getA (b := ad 33) rfl ⟨rfl, rfl, rfl⟩ (fx_t30 fx) (fx_r30_2 fx) ?_
                  refine r_iload rfl rfl ?_
                  refine r_iaload rfl (.inl (fx_t33 fx)) (vp_ct (fx_n33 fx) (vp_in_nI (by omega) (by omega))) ?_
                  refine WR_tI (congrArg (hI (sI h (ad 0) 6 0) (ad 33)) ((nI_clamp (by omega)) : _ = t20)) ?_
                  refine WR_tI (y := 9) (Eq.trans (I_ne (fx_ne fx (by decide))) l2_20) ?_
                  refine r_icmp_eq (tg := 96) rfl rfl (fun _ => ?_) (fun q => absurd q (by decide))
                  refine r_aload rfl rfl ?_
                  refine r_getA (b := ad 33) rfl ⟨rfl, rfl, rfl⟩ (fx_t30 fx) (fx_r30_2 fx) ?_
                  refine r_iload rfl rfl ?_
                  refine r_iaload rfl (.inl (fx_t33 fx)) (vp_ct (fx_n33 fx) (vp_in_nI (by omega) (by omega))) ?_
                  refine WR_tI (congrArg (hI (sI h (ad 0) 6 0) (ad 33)) ((nI_clamp (by omega)) : _ = t7)) ?_
                  refine WR_tI (y := 9) (Eq.trans (I_ne (fx_ne fx (by decide))) l2_7) ?_
                  refine r_ic (x := 8) rfl rfl ?_
                  refine r_icmp_ne (tg := 117) rfl rfl (fun _ => ?_) (fun q => absurd q (by decide))
                  refine r_aload rfl rfl ?_
                  refine r_iload rfl rfl ?_
                  refine r_iload rfl rfl ?_
                  refine r_cv (y := 183) (ra := [.int (nI t20), .int (nI t7)]) (rest := []) rfl ⟨⟨rfl, rfl⟩, rfl, by decide⟩ (fx_t30 fx) rfl rfl (Nat.le_of_ble_eq_true rfl) ?_
                  refine p2 _ (fun z => by omega) _ (fun _ => ?_) (fun z => absurd hP z)
                  show WR _ cd_181 124 [some (.ref (ad 30)), some (.int c), some (.int d), some (.int (nI t7)), some (.int (nI t20)), none] [.int 1] (sI h (ad 0) 6 0) _
                  refine r_istore (lv' := [some (.ref (ad 30)), some (.int c), some (.int d), some (.int (nI t7)), some (.int (nI t20)), some (.int 1)]) rfl (Nat.le_of_ble_eq_true rfl) rfl ?_
                  refine r_aload rfl rfl ?_
                  refine r_iload rfl rfl ?_
                  refine r_if_eq (tg := 136) rfl rfl (fun q => absurd q (by decide)) (fun _ => ?_)
                  refine r_ic (x := 2) rfl rfl ?_
                  refine r_goto (tg := 137) rfl rfl ?_
                  refine r_cv (y := 154) (ra := [.int 2]) (rest := []) rfl ⟨⟨rfl, rfl⟩, rfl, by decide⟩ (fx_t30 fx) rfl rfl (Nat.le_of_ble_eq_true rfl) ?_
                  refine in_154 (Nat.le_of_ble_eq_true rfl) ?_
                  show WR _ cd_154 0 [some (.ref (ad 30)), some (.int 2)] [] (sI h (ad 0) 6 0) _
                  refine r_aload rfl rfl ?_
                  refine r_iload rfl rfl ?_
                  refine r_ic (x := (-1)) rfl rfl ?_
                  refine r_icmp_ge (tg := 10) rfl rfl (fun _ => ?_) (fun q => absurd q (by decide))
                  refine r_ic (x := 0) rfl rfl ?_
                  refine r_putI rfl ⟨rfl, rfl, rfl⟩ (fx_t30 fx) ?_
                  have fx : FX n ad sa z0 (sI (sI h (ad 0) 6 0) (ad 30) 11 0) := (FX.sI fx)
                  refine r_iload rfl rfl ?_
                  refine r_iret rfl ?_
                  show WR _ cd_181 140 [some (.ref (ad 30)), some (.int c), some (.int d), some (.int (nI t7)), some (.int (nI t20)), some (.int 1)] [.int 2] (sI (sI h (ad 0) 6 0) (ad 30) 11 0) _
                  refine r_iret rfl ?_
                  exact ⟨rfl, Rel.why r ((Chg.rf.sI (fx_j fx) (.inl (by decide))).sI (fx_j fx) (.inl (by decide))) ⟨rfl, by decide⟩ (Eq.trans (Eq.trans (I_ne (fx_ne fx (by decide))) I_eq) (Eq.symm I_eq)), (by (try simp only [hZ_sI, hZ_sL, hZ_sD, hZ_sR]); omega), (by (try simp only [hU_sI, hU_sL, hU_sD, hU_sR]); omega)⟩
                · show WR _ cd_59 64 [some (.ref (ad 0)), some (.int c), some (.int d), some (.ref (mid t7)), some (.ref (mid t20))] [.int 0] (sI h (ad 0) 6 0) _
                  refine r_if_eq (tg := 71) rfl rfl (fun _ => ?_) (fun q => absurd q (by decide))
                  refine r_ic (x := 0) rfl rfl ?_
                  refine r_iret rfl ?_
                  show EV _ 181 [.ref (ad 30), .int c, .int d] (sI h (ad 0) 6 0) _
                  refine in_181 (Nat.le_of_ble_eq_true rfl) ?_
                  show WR _ cd_181 0 [some (.ref (ad 30)), some (.int c), some (.int d), none, none, none] [] (sI h (ad 0) 6 0) _
                  refine r_iload rfl rfl ?_
                  refine WR_tI (y := nI k2) ek2 ?_
                  refine r_cs (y := 153) (ra := [.int (nI k2)]) (rest := []) rfl ⟨⟨rfl, rfl⟩, by decide⟩ rfl rfl (Nat.le_of_ble_eq_true rfl) ?_
                  refine in_153 (Nat.le_of_ble_eq_true rfl) ?_
                  show WR _ cd_153 0 [some (.int (nI k2))] [] (sI h (ad 0) 6 0) _
                  refine r_iload rfl rfl ?_
                  refine r_if_lt (tg := 14) rfl rfl (fun q => False.elim (by have := i_nlt c1; have := i_rg c; have : (0 : Int32).toInt = 0 := rfl; have := i_eq ek2; have : (nI k2).toInt = ((k2 : Nat) : Int) := nI_toInt (by omega); have := i_nle c3; have : (24 : Int32).toInt = 24 := rfl; have := i_lt q; omega)) (fun _ => ?_)
                  refine r_iload rfl rfl ?_
                  refine r_ic (x := 24) rfl rfl ?_
                  refine r_icmp_ge (tg := 14) rfl rfl (fun q => False.elim (by have := i_nlt c1; have := i_rg c; have : (0 : Int32).toInt = 0 := rfl; have := i_eq ek2; have : (nI k2).toInt = ((k2 : Nat) : Int) := nI_toInt (by omega); have := i_nle c3; have : (24 : Int32).toInt = 24 := rfl; have := i_le q; omega)) (fun _ => ?_)
                  refine r_ic (x := 1) rfl rfl ?_
                  refine r_goto (tg := 15) rfl rfl ?_
                  refine r_zret rfl (.inr rfl) ?_
                  show WR _ cd_181 4 [some (.ref (ad 30)), some (.int c), some (.int d), none, none, none] [.int 1] (sI h (ad 0) 6 0) _
                  refine r_if_eq (tg := 14) rfl rfl (fun q => absurd q (by decide)) (fun _ => ?_)
                  refine r_iload rfl rfl ?_
                  refine WR_tI (y := nI k5) ek5 ?_
                  refine r_cs (y := 153) (ra := [.int (nI k5)]) (rest := []) rfl ⟨⟨rfl, rfl⟩, by decide⟩ rfl rfl (Nat.le_of_ble_eq_true rfl) ?_
                  refine in_153 (Nat.le_of_ble_eq_true rfl) ?_
                  show WR _ cd_153 0 [some (.int (nI k5))] [] (sI h (ad 0) 6 0) _
                  refine r_iload rfl rfl ?_
                  refine r_if_lt (tg := 14) rfl rfl (fun q => False.elim (by have := i_nlt c4; have := i_rg d; have : (0 : Int32).toInt = 0 := rfl; have := i_eq ek5; have : (nI k5).toInt = ((k5 : Nat) : Int) := nI_toInt (by omega); have := i_nle c6; have : (24 : Int32).toInt = 24 := rfl; have := i_lt q; omega)) (fun _ => ?_)
                  refine r_iload rfl rfl ?_
                  refine r_ic (x := 24) rfl rfl ?_
                  refine r_icmp_ge (tg := 14) rfl rfl (fun q => False.elim (by have := i_nlt c4; have := i_rg d; have : (0 : Int32).toInt = 0 := rfl; have := i_eq ek5; have : (nI k5).toInt = ((k5 : Nat) : Int) := nI_toInt (by omega); have := i_nle c6; have : (24 : Int32).toInt = 24 := rfl; have := i_le q; omega)) (fun _ => ?_)
                  refine r_ic (x := 1) rfl rfl ?_
                  refine r_goto (tg := 15) rfl rfl ?_
                  refine r_zret rfl (.inr rfl) ?_
                  show WR _ cd_181 11 [some (.ref (ad 30)), some (.int c), some (.int d), none, none, none] [.int 1] (sI h (ad 0) 6 0) _
                  refine r_if_ne (tg := 21) rfl rfl (fun _ => ?_) (fun q => absurd q (by decide))
                  refine r_aload rfl rfl ?_
                  refine r_getA (b := ad 31) rfl ⟨rfl, rfl, rfl⟩ (fx_t30 fx) (fx_r30_0 fx) ?_
                  refine r_iload rfl rfl ?_
                  refine WR_tI (y := nI k2) ek2 ?_
                  refine r_iaload rfl (.inl (fx_t31 fx)) (vp_ct (fx_n31 fx) (vp_in_nI (by have := i_nlt c1; have := i_rg c; have : (0 : Int32).toInt = 0 := rfl; have := i_eq ek2; have : (nI k2).toInt = ((k2 : Nat) : Int) := nI_toInt (by omega); have := i_nle c3; have : (24 : Int32).toInt = 24 := rfl; omega) (by omega))) ?_
                  refine WR_tI (congrArg (hI (sI h (ad 0) 6 0) (ad 31)) ((nI_clamp (by have := i_nlt c1; have := i_rg c; have : (0 : Int32).toInt = 0 := rfl; have := i_eq ek2; have : (nI k2).toInt = ((k2 : Nat) : Int) := nI_toInt (by omega); have := i_nle c3; have : (24 : Int32).toInt = 24 := rfl; omega)) : _ = k2)) ?_
                  refine WR_tI (y := nI t7) (Eq.trans (I_ne (fx_ne fx (by decide))) v7) ?_
                  refine r_istore (lv' := [some (.ref (ad 30)), some (.int c), some (.int d), some (.int (nI t7)), none, none]) rfl (Nat.le_of_ble_eq_true rfl) rfl ?_
                  refine r_aload rfl rfl ?_
                  refine r_getA (b := ad 31) rfl ⟨rfl, rfl, rfl⟩ (fx_t30 fx) (fx_r30_0 fx) ?_
                  refine r_iload rfl rfl ?_
                  refine WR_tI (y := nI k5) ek5 ?_
                  refine r_iaload rfl (.inl (fx_t31 fx)) (vp_ct (fx_n31 fx) (vp_in_nI (by have := i_nlt c4; have := i_rg d; have : (0 : Int32).toInt = 0 := rfl; have := i_eq ek5; have : (nI k5).toInt = ((k5 : Nat) : Int) := nI_toInt (by omega); have := i_nle c6; have : (24 : Int32).toInt = 24 := rfl; omega) (by omega))) ?_
                  refine WR_tI (congrArg (hI (sI h (ad 0) 6 0) (ad 31)) ((nI_clamp (by have := i_nlt c4; have := i_rg d; have : (0 : Int32).toInt = 0 := rfl; have := i_eq ek5; have : (nI k5).toInt = ((k5 : Nat) : Int) := nI_toInt (by omega); have := i_nle c6; have : (24 : Int32).toInt = 24 := rfl; omega)) : _ = k5)) ?_
                  refine WR_tI (y := nI t20) (Eq.trans (I_ne (fx_ne fx (by decide))) v20) ?_
                  refine r_istore (lv' := [some (.ref (ad 30)), some (.int c), some (.int d), some (.int (nI t7)), some (.int (nI t20)), none]) rfl (Nat.le_of_ble_eq_true rfl) rfl ?_
                  refine r_iload rfl rfl ?_
                  refine r_iload rfl rfl ?_
                  refine r_icmp_ne (tg := 48) rfl rfl (fun _ => ?_) (fun q => False.elim (by have : (nI t7).toInt = ((t7 : Nat) : Int) := nI_toInt (by omega); have : (nI t20).toInt = ((t20 : Nat) : Int) := nI_toInt (by omega); have := i_eq q; omega))
                  refine r_iload rfl rfl ?_
                  refine r_ic (x := (-1)) rfl rfl ?_
                  refine r_icmp_eq (tg := 90) rfl rfl (fun q => False.elim (by have : (nI t7).toInt = ((t7 : Nat) : Int) := nI_toInt (by omega); have : (-1 : Int32).toInt = -1 := rfl; have := i_eq q; omega)) (fun _ => ?_)
                  refine r_iload rfl rfl ?_
                  refine r_ic (x := (-1)) rfl rfl ?_
                  refine r_icmp_eq (tg := 90) rfl rfl (fun q => False.elim (by have : (nI t20).toInt = ((t20 : Nat) : Int) := nI_toInt (by omega); have : (-1 : Int32).toInt = -1 := rfl; have := i_eq q; omega)) (fun _ => ?_)
                  refine r_iload rfl rfl ?_
                  refine r_ic (x := 1000) rfl rfl ?_
                  refine r_icmp_ge (tg := 90) rfl rfl (fun q => False.elim (by have : (nI t7).toInt = ((t7 : Nat) : Int) := nI_toInt (by omega); have : (1000 : Int32).toInt = 1000 := rfl; have := i_le q; omega)) (fun _ => ?_)
                  refine r_iload rfl rfl ?_
                  refine r_ic (x := 1000) rfl rfl ?_
                  refine r_icmp_ge (tg := 90) rfl rfl (fun q => False.elim (by have : (nI t20).toInt = ((t20 : Nat) : Int) := nI_toInt (by omega); have : (1000 : Int32).toInt = 1000 := rfl; have := i_le q; omega)) (fun _ => ?_)
                  refine r_aload rfl rfl ?_
                  refine r_getA (b := ad 33) rfl ⟨rfl, rfl, rfl⟩ (fx_t30 fx) (fx_r30_2 fx) ?_
                  refine r_iload rfl rfl ?_
                  refine r_iaload rfl (.inl (fx_t33 fx)) (vp_ct (fx_n33 fx) (vp_in_nI (by omega) (by omega))) ?_
                  refine WR_tI (congrArg (hI (sI h (ad 0) 6 0) (ad 33)) ((nI_clamp (by omega)) : _ = t7)) ?_
                  refine WR_tI (y := 9) (Eq.trans (I_ne (fx_ne fx (by decide))) l2_7) ?_
                  refine r_aload rfl rfl ?_
                  refine r_getA (b := ad 33) rfl ⟨rfl, rfl, rfl⟩ (fx_t30 fx) (fx_r30_2 fx) ?_
                  refine r_iload rfl rfl ?_
                  refine r_iaload rfl (.inl (fx_t33 fx)) (vp_ct (fx_n33 fx) (vp_in_nI (by omega) (by omega))) ?_
                  refine WR_tI (congrArg (hI (sI h (ad 0) 6 0) (ad 33)) ((nI_clamp (by omega)) : _ = t20)) ?_
                  refine WR_tI (y := 9) (Eq.trans (I_ne (fx_ne fx (by decide))) l2_20) ?_
                  refine r_icmp_eq (tg := 96) rfl rfl (fun _ => ?_) (fun q => absurd q (by decide))
                  refine r_aload rfl rfl ?_
                  refine r_getA (b := ad 33) rfl ⟨rfl, rfl, rfl⟩ (fx_t30 fx) (fx_r30_2 fx) ?_
                  refine r_iload rfl rfl ?_
                  refine r_iaload rfl (.inl (fx_t33 fx)) (vp_ct (fx_n33 fx) (vp_in_nI (by omega) (by omega))) ?_
                  refine WR_tI (congrArg (hI (sI h (ad 0) 6 0) (ad 33)) ((nI_clamp (by omega)) : _ = t7)) ?_
                  refine WR_tI (y := 9) (Eq.trans (I_ne (fx_ne fx (by decide))) l2_7) ?_
                  refine r_ic (x := 8) rfl rfl ?_
                  refine r_icmp_ne (tg := 117) rfl rfl (fun _ => ?_) (fun q => absurd q (by decide))
                  refine r_aload rfl rfl ?_
                  refine r_iload rfl rfl ?_
                  refine r_iload rfl rfl ?_
                  refine r_cv (y := 183) (ra := [.int (nI t20), .int (nI t7)]) (rest := []) rfl ⟨⟨rfl, rfl⟩, rfl, by decide⟩ (fx_t30 fx) rfl rfl (Nat.le_of_ble_eq_true rfl) ?_
                  refine p2 _ (fun z => by omega) _ (fun z => absurd z hP) (fun _ => ?_)
                  show WR _ cd_181 124 [some (.ref (ad 30)), some (.int c), some (.int d), some (.int (nI t7)), some (.int (nI t20)), none] [.int 0] (sI h (ad 0) 6 0) _
                  refine r_istore (lv' := [some (.ref (ad 30)), some (.int c), some (.int d), some (.int (nI t7)), some (.int (nI t20)), some (.int 0)]) rfl (Nat.le_of_ble_eq_true rfl) rfl ?_
                  refine r_aload rfl rfl ?_
                  refine r_iload rfl rfl ?_
                  refine r_if_eq (tg := 136) rfl rfl (fun _ => ?_) (fun q => absurd q (by decide))
                  refine r_ic (x := 0) rfl rfl ?_
                  refine r_cv (y := 154) (ra := [.int 0]) (rest := []) rfl ⟨⟨rfl, rfl⟩, rfl, by decide⟩ (fx_t30 fx) rfl rfl (Nat.le_of_ble_eq_true rfl) ?_
                  refine in_154 (Nat.le_of_ble_eq_true rfl) ?_
                  show WR _ cd_154 0 [some (.ref (ad 30)), some (.int 0)] [] (sI h (ad 0) 6 0) _
                  refine r_aload rfl rfl ?_
                  refine r_iload rfl rfl ?_
                  refine r_ic (x := (-1)) rfl rfl ?_
                  refine r_icmp_ge (tg := 10) rfl rfl (fun _ => ?_) (fun q => absurd q (by decide))
                  refine r_ic (x := 0) rfl rfl ?_
                  refine r_putI rfl ⟨rfl, rfl, rfl⟩ (fx_t30 fx) ?_
                  have fx : FX n ad sa z0 (sI (sI h (ad 0) 6 0) (ad 30) 11 0) := (FX.sI fx)
                  refine r_iload rfl rfl ?_
                  refine r_iret rfl ?_
                  show WR _ cd_181 140 [some (.ref (ad 30)), some (.int c), some (.int d), some (.int (nI t7)), some (.int (nI t20)), some (.int 0)] [.int 0] (sI (sI h (ad 0) 6 0) (ad 30) 11 0) _
                  refine r_iret rfl ?_
                  exact ⟨rfl, Rel.why r ((Chg.rf.sI (fx_j fx) (.inl (by decide))).sI (fx_j fx) (.inl (by decide))) ⟨rfl, by decide⟩ (Eq.trans (Eq.trans (I_ne (fx_ne fx (by decide))) I_eq) (Eq.symm I_eq)), (by (try simp only [hZ_sI, hZ_sL, hZ_sD, hZ_sR]); omega), (by (try simp only [hU_sI, hU_sL, hU_sD, hU_sR]); omega)⟩
              · have c23e := rs.2.2.1 _ _ (by assumption) (by assumption) (.inl ⟨k2, (by have := i_nlt c1; have := i_rg c; have : (0 : Int32).toInt = 0 := rfl; have := i_eq ek2; have : (nI k2).toInt = ((k2 : Nat) : Int) := nI_toInt (by omega); have := i_nle c3; have : (24 : Int32).toInt = 24 := rfl; omega), v7⟩) (.inl ⟨k5, (by have := i_nlt c4; have := i_rg d; have : (0 : Int32).toInt = 0 := rfl; have := i_eq ek5; have : (nI k5).toInt = ((k5 : Nat) : Int) := nI_toInt (by omega); have := i_nle c6; have : (24 : Int32).toInt = 24 := rfl; omega), v20⟩) c23
                refine r_ic (x := 1) rfl rfl ?_
                refine r_iret rfl ?_
                show EV _ 181 [.ref (ad 30), .int c, .int d] (sI h (ad 0) 6 0) _
                refine in_181 (Nat.le_of_ble_eq_true rfl) ?_
                show WR _ cd_181 0 [some (.ref (ad 30)), some (.int c), some (.int d), none, none, none] [] (sI h (ad 0) 6 0) _
                refine r_iload rfl rfl ?_
                refine WR_tI (y := nI k2) ek2 ?_
                refine r_cs (y := 153) (ra := [.int (nI k2)]) (rest := []) rfl ⟨⟨rfl, rfl⟩, by decide⟩ rfl rfl (Nat.le_of_ble_eq_true rfl) ?_
                refine in_153 (Nat.le_of_ble_eq_true rfl) ?_
                show WR _ cd_153 0 [some (.int (nI k2))] [] (sI h (ad 0) 6 0) _
                refine r_iload rfl rfl ?_
                refine r_if_lt (tg := 14) rfl rfl (fun q => False.elim (by have := i_nlt c1; have := i_rg c; have : (0 : Int32).toInt = 0 := rfl; have := i_eq ek2; have : (nI k2).toInt = ((k2 : Nat) : Int) := nI_toInt (by omega); have := i_nle c3; have : (24 : Int32).toInt = 24 := rfl; have := i_lt q; omega)) (fun _ => ?_)
                refine r_iload rfl rfl ?_
                refine r_ic (x := 24) rfl rfl ?_
                refine r_icmp_ge (tg := 14) rfl rfl (fun q => False.elim (by have := i_nlt c1; have := i_rg c; have : (0 : Int32).toInt = 0 := rfl; have := i_eq ek2; have : (nI k2).toInt = ((k2 : Nat) : Int) := nI_toInt (by omega); have := i_nle c3; have : (24 : Int32).toInt = 24 := rfl; have := i_le q; omega)) (fun _ => ?_)
                refine r_ic (x := 1) rfl rfl ?_
                refine r_goto (tg := 15) rfl rfl ?_
                refine r_zret rfl (.inr rfl) ?_
                show WR _ cd_181 4 [some (.ref (ad 30)), some (.int c), some (.int d), none, none, none] [.int 1] (sI h (ad 0) 6 0) _
                refine r_if_eq (tg := 14) rfl rfl (fun q => absurd q (by decide)) (fun _ => ?_)
                refine r_iload rfl rfl ?_
                refine WR_tI (y := nI k5) ek5 ?_
                refine r_cs (y := 153) (ra := [.int (nI k5)]) (rest := []) rfl ⟨⟨rfl, rfl⟩, by decide⟩ rfl rfl (Nat.le_of_ble_eq_true rfl) ?_
                refine in_153 (Nat.le_of_ble_eq_true rfl) ?_
                show WR _ cd_153 0 [some (.int (nI k5))] [] (sI h (ad 0) 6 0) _
                refine r_iload rfl rfl ?_
                refine r_if_lt (tg := 14) rfl rfl (fun q => False.elim (by have := i_nlt c4; have := i_rg d; have : (0 : Int32).toInt = 0 := rfl; have := i_eq ek5; have : (nI k5).toInt = ((k5 : Nat) : Int) := nI_toInt (by omega); have := i_nle c6; have : (24 : Int32).toInt = 24 := rfl; have := i_lt q; omega)) (fun _ => ?_)
                refine r_iload rfl rfl ?_
                refine r_ic (x := 24) rfl rfl ?_
                refine r_icmp_ge (tg := 14) rfl rfl (fun q => False.elim (by have := i_nlt c4; have := i_rg d; have : (0 : Int32).toInt = 0 := rfl; have := i_eq ek5; have : (nI k5).toInt = ((k5 : Nat) : Int) := nI_toInt (by omega); have := i_nle c6; have : (24 : Int32).toInt = 24 := rfl; have := i_le q; omega)) (fun _ => ?_)
                refine r_ic (x := 1) rfl rfl ?_
                refine r_goto (tg := 15) rfl rfl ?_
                refine r_zret rfl (.inr rfl) ?_
                show WR _ cd_181 11 [some (.ref (ad 30)), some (.int c), some (.int d), none, none, none] [.int 1] (sI h (ad 0) 6 0) _
                refine r_if_ne (tg := 21) rfl rfl (fun _ => ?_) (fun q => absurd q (by decide))
                refine r_aload rfl rfl ?_
                refine r_getA (b := ad 31) rfl ⟨rfl, rfl, rfl⟩ (fx_t30 fx) (fx_r30_0 fx) ?_
                refine r_iload rfl rfl ?_
                refine WR_tI (y := nI k2) ek2 ?_
                refine r_iaload rfl (.inl (fx_t31 fx)) (vp_ct (fx_n31 fx) (vp_in_nI (by have := i_nlt c1; have := i_rg c; have : (0 : Int32).toInt = 0 := rfl; have := i_eq ek2; have : (nI k2).toInt = ((k2 : Nat) : Int) := nI_toInt (by omega); have := i_nle c3; have : (24 : Int32).toInt = 24 := rfl; omega) (by omega))) ?_
                refine WR_tI (congrArg (hI (sI h (ad 0) 6 0) (ad 31)) ((nI_clamp (by have := i_nlt c1; have := i_rg c; have : (0 : Int32).toInt = 0 := rfl; have := i_eq ek2; have : (nI k2).toInt = ((k2 : Nat) : Int) := nI_toInt (by omega); have := i_nle c3; have : (24 : Int32).toInt = 24 := rfl; omega)) : _ = k2)) ?_
                refine WR_tI (y := nI t7) (Eq.trans (I_ne (fx_ne fx (by decide))) v7) ?_
                refine r_istore (lv' := [some (.ref (ad 30)), some (.int c), some (.int d), some (.int (nI t7)), none, none]) rfl (Nat.le_of_ble_eq_true rfl) rfl ?_
                refine r_aload rfl rfl ?_
                refine r_getA (b := ad 31) rfl ⟨rfl, rfl, rfl⟩ (fx_t30 fx) (fx_r30_0 fx) ?_
                refine r_iload rfl rfl ?_
                refine WR_tI (y := nI k5) ek5 ?_
                refine r_iaload rfl (.inl (fx_t31 fx)) (vp_ct (fx_n31 fx) (vp_in_nI (by have := i_nlt c4; have := i_rg d; have : (0 : Int32).toInt = 0 := rfl; have := i_eq ek5; have : (nI k5).toInt = ((k5 : Nat) : Int) := nI_toInt (by omega); have := i_nle c6; have : (24 : Int32).toInt = 24 := rfl; omega) (by omega))) ?_
                refine WR_tI (congrArg (hI (sI h (ad 0) 6 0) (ad 31)) ((nI_clamp (by have := i_nlt c4; have := i_rg d; have : (0 : Int32).toInt = 0 := rfl; have := i_eq ek5; have : (nI k5).toInt = ((k5 : Nat) : Int) := nI_toInt (by omega); have := i_nle c6; have : (24 : Int32).toInt = 24 := rfl; omega)) : _ = k5)) ?_
                refine WR_tI (y := nI t20) (Eq.trans (I_ne (fx_ne fx (by decide))) v20) ?_
                refine r_istore (lv' := [some (.ref (ad 30)), some (.int c), some (.int d), some (.int (nI t7)), some (.int (nI t20)), none]) rfl (Nat.le_of_ble_eq_true rfl) rfl ?_
                refine r_iload rfl rfl ?_
                refine r_iload rfl rfl ?_
                refine r_icmp_ne (tg := 48) rfl rfl (fun q => False.elim (by have : (nI t7).toInt = ((t7 : Nat) : Int) := nI_toInt (by omega); have : (nI t20).toInt = ((t20 : Nat) : Int) := nI_toInt (by omega); have := i_neq q; omega)) (fun _ => ?_)
                refine r_aload rfl rfl ?_
                refine r_ic (x := 1) rfl rfl ?_
                refine r_cv (y := 154) (ra := [.int 1]) (rest := []) rfl ⟨⟨rfl, rfl⟩, rfl, by decide⟩ (fx_t30 fx) rfl rfl (Nat.le_of_ble_eq_true rfl) ?_
                refine in_154 (Nat.le_of_ble_eq_true rfl) ?_
                show WR _ cd_154 0 [some (.ref (ad 30)), some (.int 1)] [] (sI h (ad 0) 6 0) _
                refine r_aload rfl rfl ?_
                refine r_iload rfl rfl ?_
                refine r_ic (x := (-1)) rfl rfl ?_
                refine r_icmp_ge (tg := 10) rfl rfl (fun _ => ?_) (fun q => absurd q (by decide))
                refine r_ic (x := 0) rfl rfl ?_
                refine r_putI rfl ⟨rfl, rfl, rfl⟩ (fx_t30 fx) ?_
                have fx : FX n ad sa z0 (sI (sI h (ad 0) 6 0) (ad 30) 11 0) := (FX.sI fx)
                refine r_iload rfl rfl ?_
                refine r_iret rfl ?_
                show WR _ cd_181 47 [some (.ref (ad 30)), some (.int c), some (.int d), some (.int (nI t7)), some (.int (nI t20)), none] [.int 1] (sI (sI h (ad 0) 6 0) (ad 30) 11 0) _
                refine r_iret rfl ?_
                exact ⟨rfl, Rel.why r ((Chg.rf.sI (fx_j fx) (.inl (by decide))).sI (fx_j fx) (.inl (by decide))) ⟨rfl, by decide⟩ (Eq.trans (Eq.trans (I_ne (fx_ne fx (by decide))) I_eq) (Eq.symm I_eq)), (by (try simp only [hZ_sI, hZ_sL, hZ_sD, hZ_sR]); omega), (by (try simp only [hU_sI, hU_sL, hU_sD, hU_sR]); omega)⟩

/-! ===== copy; printed ===== -/
set_option maxHeartbeats 10000000 in
theorem k_copy {n : Nat} {ad sa : Nat → Nat} {z0 : Nat} {h : mH} (r : Rel n ad sa z0 h) (c : Int32) (i : Int32) (d : Int32) (j : Int32) (m : Int32) : AP n ad sa z0 h 51 179 [.int c, .int i, .int d, .int j, .int m] := by
  obtain ⟨mid, pa, np, fx, ry, rt, ra, rp, rf, rst, ru, rs⟩ := id r
  have fx0 := fx
  obtain ⟨np1, np2, np3, -, -⟩ := id rs.1
  unfold AP
  refine in_51 (Nat.le_of_ble_eq_true rfl) ?_
  show WR _ cd_51 0 [some (.ref (ad 0)), some (.int c), some (.int i), some (.int d), some (.int j), some (.int m), none, none, none] [] h _
  refine r_aload rfl rfl ?_
  refine r_ic (x := 0) rfl rfl ?_
  refine r_putI rfl ⟨rfl, rfl, rfl⟩ (fx_t0 fx) ?_
  have fx : FX n ad sa z0 (sI h (ad 0) 6 0) := (FX.sI fx)
  refine r_iload rfl rfl ?_
  refine r_cs (y := 12) (ra := [.int c]) (rest := []) rfl ⟨⟨rfl, rfl⟩, by decide⟩ rfl rfl (Nat.le_of_ble_eq_true rfl) ?_
  refine in_12 (Nat.le_of_ble_eq_true rfl) ?_
  show WR _ cd_12 0 [some (.int c)] [] (sI h (ad 0) 6 0) _
  refine r_iload rfl rfl ?_
  refine r_if_lt (tg := 14) rfl rfl (fun c1 => ?_) (fun c1 => ?_)
  · refine r_ic (x := 0) rfl rfl ?_
    refine r_zret rfl (.inl rfl) ?_
    show WR _ cd_51 9 [some (.ref (ad 0)), some (.int c), some (.int i), some (.int d), some (.int j), some (.int m), none, none, none] [.int 0] (sI h (ad 0) 6 0) _
    refine r_if_eq (tg := 19) rfl rfl (fun _ => ?_) (fun q => absurd q (by decide))
    refine r_aload rfl rfl ?_
    refine r_ic (x := (-2)) rfl rfl ?_
    refine r_cv (y := 13) (ra := [.int (-2)]) (rest := []) rfl ⟨⟨rfl, rfl⟩, rfl, by decide⟩ (fx_t0 fx) rfl rfl (Nat.le_of_ble_eq_true rfl) ?_
    refine in_13 (Nat.le_of_ble_eq_true rfl) ?_
    show WR _ cd_13 0 [some (.ref (ad 0)), some (.int (-2))] [] (sI h (ad 0) 6 0) _
    refine r_aload rfl rfl ?_
    refine r_iload rfl rfl ?_
    refine r_putI rfl ⟨rfl, rfl, rfl⟩ (fx_t0 fx) ?_
    have fx : FX n ad sa z0 (sI (sI h (ad 0) 6 0) (ad 0) 6 (-2)) := (FX.sI fx)
    refine r_iload rfl rfl ?_
    refine r_iret rfl ?_
    show WR _ cd_51 25 [some (.ref (ad 0)), some (.int c), some (.int i), some (.int d), some (.int j), some (.int m), none, none, none] [.int (-2)] (sI (sI h (ad 0) 6 0) (ad 0) 6 (-2)) _
    refine r_iret rfl ?_
    show EV _ 179 [.ref (ad 30), .int c, .int i, .int d, .int j, .int m] (sI (sI h (ad 0) 6 0) (ad 0) 6 (-2)) _
    refine in_179 (Nat.le_of_ble_eq_true rfl) ?_
    show WR _ cd_179 0 [some (.ref (ad 30)), some (.int c), some (.int i), some (.int d), some (.int j), some (.int m), none, none, none, none, none] [] (sI (sI h (ad 0) 6 0) (ad 0) 6 (-2)) _
    refine r_iload rfl rfl ?_
    refine r_cs (y := 153) (ra := [.int c]) (rest := []) rfl ⟨⟨rfl, rfl⟩, by decide⟩ rfl rfl (Nat.le_of_ble_eq_true rfl) ?_
    refine in_153 (Nat.le_of_ble_eq_true rfl) ?_
    show WR _ cd_153 0 [some (.int c)] [] (sI (sI h (ad 0) 6 0) (ad 0) 6 (-2)) _
    refine r_iload rfl rfl ?_
    refine r_if_lt (tg := 14) rfl rfl (fun _ => ?_) (fun q => False.elim (by have := i_lt c1; have := i_rg c; have : (0 : Int32).toInt = 0 := rfl; have := i_nlt q; omega))
    refine r_ic (x := 0) rfl rfl ?_
    refine r_zret rfl (.inl rfl) ?_
    show WR _ cd_179 4 [some (.ref (ad 30)), some (.int c), some (.int i), some (.int d), some (.int j), some (.int m), none, none, none, none, none] [.int 0] (sI (sI h (ad 0) 6 0) (ad 0) 6 (-2)) _
    refine r_if_eq (tg := 14) rfl rfl (fun _ => ?_) (fun q => absurd q (by decide))
    refine r_aload rfl rfl ?_
    refine r_ic (x := (-2)) rfl rfl ?_
    refine r_cv (y := 154) (ra := [.int (-2)]) (rest := []) rfl ⟨⟨rfl, rfl⟩, rfl, by decide⟩ (fx_t30 fx) rfl rfl (Nat.le_of_ble_eq_true rfl) ?_
    refine in_154 (Nat.le_of_ble_eq_true rfl) ?_
    show WR _ cd_154 0 [some (.ref (ad 30)), some (.int (-2))] [] (sI (sI h (ad 0) 6 0) (ad 0) 6 (-2)) _
    refine r_aload rfl rfl ?_
    refine r_iload rfl rfl ?_
    refine r_ic (x := (-1)) rfl rfl ?_
    refine r_icmp_ge (tg := 10) rfl rfl (fun q => absurd q (by decide)) (fun _ => ?_)
    refine r_iload rfl rfl ?_
    refine r_goto (tg := 11) rfl rfl ?_
    refine r_putI rfl ⟨rfl, rfl, rfl⟩ (fx_t30 fx) ?_
    have fx : FX n ad sa z0 (sI (sI (sI h (ad 0) 6 0) (ad 0) 6 (-2)) (ad 30) 11 (-2)) := (FX.sI fx)
    refine r_iload rfl rfl ?_
    refine r_iret rfl ?_
    show WR _ cd_179 20 [some (.ref (ad 30)), some (.int c), some (.int i), some (.int d), some (.int j), some (.int m), none, none, none, none, none] [.int (-2)] (sI (sI (sI h (ad 0) 6 0) (ad 0) 6 (-2)) (ad 30) 11 (-2)) _
    refine r_iret rfl ?_
    exact ⟨rfl, Rel.why r (((Chg.rf.sI (fx_j fx) (.inl (by decide))).sI (fx_j fx) (.inl (by decide))).sI (fx_j fx) (.inl (by decide))) ⟨rfl, by decide⟩ (Eq.trans (Eq.trans (I_ne (fx_ne fx (by decide))) I_eq) (Eq.symm I_eq)), (by (try simp only [hZ_sI, hZ_sL, hZ_sD, hZ_sR]); omega), (by (try simp only [hU_sI, hU_sL, hU_sD, hU_sR]); omega)⟩
  · obtain ⟨k2, hk2, ek2⟩ := ix_of (x := c) (n := 2147483648) (by have := i_nlt c1; have := i_rg c; have : (0 : Int32).toInt = 0 := rfl; omega) (by have := i_nlt c1; have := i_rg c; have : (0 : Int32).toInt = 0 := rfl; omega)
    refine r_iload rfl rfl ?_
    refine WR_tI (y := nI k2) ek2 ?_
    refine r_ic (x := 24) rfl rfl ?_
    refine r_icmp_ge (tg := 14) rfl rfl (fun c3 => ?_) (fun c3 => ?_)
    · refine r_ic (x := 0) rfl rfl ?_
      refine r_zret rfl (.inl rfl) ?_
      show WR _ cd_51 9 [some (.ref (ad 0)), some (.int c), some (.int i), some (.int d), some (.int j), some (.int m), none, none, none] [.int 0] (sI h (ad 0) 6 0) _
      refine r_if_eq (tg := 19) rfl rfl (fun _ => ?_) (fun q => absurd q (by decide))
      refine r_aload rfl rfl ?_
      refine r_ic (x := (-2)) rfl rfl ?_
      refine r_cv (y := 13) (ra := [.int (-2)]) (rest := []) rfl ⟨⟨rfl, rfl⟩, rfl, by decide⟩ (fx_t0 fx) rfl rfl (Nat.le_of_ble_eq_true rfl) ?_
      refine in_13 (Nat.le_of_ble_eq_true rfl) ?_
      show WR _ cd_13 0 [some (.ref (ad 0)), some (.int (-2))] [] (sI h (ad 0) 6 0) _
      refine r_aload rfl rfl ?_
      refine r_iload rfl rfl ?_
      refine r_putI rfl ⟨rfl, rfl, rfl⟩ (fx_t0 fx) ?_
      have fx : FX n ad sa z0 (sI (sI h (ad 0) 6 0) (ad 0) 6 (-2)) := (FX.sI fx)
      refine r_iload rfl rfl ?_
      refine r_iret rfl ?_
      show WR _ cd_51 25 [some (.ref (ad 0)), some (.int c), some (.int i), some (.int d), some (.int j), some (.int m), none, none, none] [.int (-2)] (sI (sI h (ad 0) 6 0) (ad 0) 6 (-2)) _
      refine r_iret rfl ?_
      show EV _ 179 [.ref (ad 30), .int c, .int i, .int d, .int j, .int m] (sI (sI h (ad 0) 6 0) (ad 0) 6 (-2)) _
      refine in_179 (Nat.le_of_ble_eq_true rfl) ?_
      show WR _ cd_179 0 [some (.ref (ad 30)), some (.int c), some (.int i), some (.int d), some (.int j), some (.int m), none, none, none, none, none] [] (sI (sI h (ad 0) 6 0) (ad 0) 6 (-2)) _
      refine r_iload rfl rfl ?_
      refine WR_tI (y := nI k2) ek2 ?_
      refine r_cs (y := 153) (ra := [.int (nI k2)]) (rest := []) rfl ⟨⟨rfl, rfl⟩, by decide⟩ rfl rfl (Nat.le_of_ble_eq_true rfl) ?_
      refine in_153 (Nat.le_of_ble_eq_true rfl) ?_
      show WR _ cd_153 0 [some (.int (nI k2))] [] (sI (sI h (ad 0) 6 0) (ad 0) 6 (-2)) _
      refine r_iload rfl rfl ?_
      refine r_if_lt (tg := 14) rfl rfl (fun q => False.elim (by have := i_nlt c1; have := i_rg c; have : (0 : Int32).toInt = 0 := rfl; have := i_eq ek2; have : (nI k2).toInt = ((k2 : Nat) : Int) := nI_toInt (by omega); have := i_le c3; have : (24 : Int32).toInt = 24 := rfl; have := i_lt q; omega)) (fun _ => ?_)
      refine r_iload rfl rfl ?_
      refine r_ic (x := 24) rfl rfl ?_
      refine r_icmp_ge (tg := 14) rfl rfl (fun _ => ?_) (fun q => False.elim (by have := i_nlt c1; have := i_rg c; have : (0 : Int32).toInt = 0 := rfl; have := i_eq ek2; have : (nI k2).toInt = ((k2 : Nat) : Int) := nI_toInt (by omega); have := i_le c3; have : (24 : Int32).toInt = 24 := rfl; have := i_nle q; omega))
      refine r_ic (x := 0) rfl rfl ?_
      refine r_zret rfl (.inl rfl) ?_
      show WR _ cd_179 4 [some (.ref (ad 30)), some (.int c), some (.int i), some (.int d), some (.int j), some (.int m), none, none, none, none, none] [.int 0] (sI (sI h (ad 0) 6 0) (ad 0) 6 (-2)) _
      refine r_if_eq (tg := 14) rfl rfl (fun _ => ?_) (fun q => absurd q (by decide))
      refine r_aload rfl rfl ?_
      refine r_ic (x := (-2)) rfl rfl ?_
      refine r_cv (y := 154) (ra := [.int (-2)]) (rest := []) rfl ⟨⟨rfl, rfl⟩, rfl, by decide⟩ (fx_t30 fx) rfl rfl (Nat.le_of_ble_eq_true rfl) ?_
      refine in_154 (Nat.le_of_ble_eq_true rfl) ?_
      show WR _ cd_154 0 [some (.ref (ad 30)), some (.int (-2))] [] (sI (sI h (ad 0) 6 0) (ad 0) 6 (-2)) _
      refine r_aload rfl rfl ?_
      refine r_iload rfl rfl ?_
      refine r_ic (x := (-1)) rfl rfl ?_
      refine r_icmp_ge (tg := 10) rfl rfl (fun q => absurd q (by decide)) (fun _ => ?_)
      refine r_iload rfl rfl ?_
      refine r_goto (tg := 11) rfl rfl ?_
      refine r_putI rfl ⟨rfl, rfl, rfl⟩ (fx_t30 fx) ?_
      have fx : FX n ad sa z0 (sI (sI (sI h (ad 0) 6 0) (ad 0) 6 (-2)) (ad 30) 11 (-2)) := (FX.sI fx)
      refine r_iload rfl rfl ?_
      refine r_iret rfl ?_
      show WR _ cd_179 20 [some (.ref (ad 30)), some (.int c), some (.int i), some (.int d), some (.int j), some (.int m), none, none, none, none, none] [.int (-2)] (sI (sI (sI h (ad 0) 6 0) (ad 0) 6 (-2)) (ad 30) 11 (-2)) _
      refine r_iret rfl ?_
      exact ⟨rfl, Rel.why r (((Chg.rf.sI (fx_j fx) (.inl (by decide))).sI (fx_j fx) (.inl (by decide))).sI (fx_j fx) (.inl (by decide))) ⟨rfl, by decide⟩ (Eq.trans (Eq.trans (I_ne (fx_ne fx (by decide))) I_eq) (Eq.symm I_eq)), (by (try simp only [hZ_sI, hZ_sL, hZ_sD, hZ_sR]); omega), (by (try simp only [hU_sI, hU_sL, hU_sD, hU_sR]); omega)⟩
    · refine r_ic (x := 1) rfl rfl ?_
      refine r_goto (tg := 15) rfl rfl ?_
      refine r_zret rfl (.inr rfl) ?_
      show WR _ cd_51 9 [some (.ref (ad 0)), some (.int c), some (.int i), some (.int d), some (.int j), some (.int m), none, none, none] [.int 1] (sI h (ad 0) 6 0) _
      refine r_if_eq (tg := 19) rfl rfl (fun q => absurd q (by decide)) (fun _ => ?_)
      refine r_iload rfl rfl ?_
      refine r_cs (y := 12) (ra := [.int d]) (rest := []) rfl ⟨⟨rfl, rfl⟩, by decide⟩ rfl rfl (Nat.le_of_ble_eq_true rfl) ?_
      refine in_12 (Nat.le_of_ble_eq_true rfl) ?_
      show WR _ cd_12 0 [some (.int d)] [] (sI h (ad 0) 6 0) _
      refine r_iload rfl rfl ?_
      refine r_if_lt (tg := 14) rfl rfl (fun c4 => ?_) (fun c4 => ?_)
      · refine r_ic (x := 0) rfl rfl ?_
        refine r_zret rfl (.inl rfl) ?_
        show WR _ cd_51 16 [some (.ref (ad 0)), some (.int c), some (.int i), some (.int d), some (.int j), some (.int m), none, none, none] [.int 0] (sI h (ad 0) 6 0) _
        refine r_if_ne (tg := 26) rfl rfl (fun q => absurd q (by decide)) (fun _ => ?_)
        refine r_aload rfl rfl ?_
        refine r_ic (x := (-2)) rfl rfl ?_
        refine r_cv (y := 13) (ra := [.int (-2)]) (rest := []) rfl ⟨⟨rfl, rfl⟩, rfl, by decide⟩ (fx_t0 fx) rfl rfl (Nat.le_of_ble_eq_true rfl) ?_
        refine in_13 (Nat.le_of_ble_eq_true rfl) ?_
        show WR _ cd_13 0 [some (.ref (ad 0)), some (.int (-2))] [] (sI h (ad 0) 6 0) _
        refine r_aload rfl rfl ?_
        refine r_iload rfl rfl ?_
        refine r_putI rfl ⟨rfl, rfl, rfl⟩ (fx_t0 fx) ?_
        have fx : FX n ad sa z0 (sI (sI h (ad 0) 6 0) (ad 0) 6 (-2)) := (FX.sI fx)
        refine r_iload rfl rfl ?_
        refine r_iret rfl ?_
        show WR _ cd_51 25 [some (.ref (ad 0)), some (.int c), some (.int i), some (.int d), some (.int j), some (.int m), none, none, none] [.int (-2)] (sI (sI h (ad 0) 6 0) (ad 0) 6 (-2)) _
        refine r_iret rfl ?_
        show EV _ 179 [.ref (ad 30), .int c, .int i, .int d, .int j, .int m] (sI (sI h (ad 0) 6 0) (ad 0) 6 (-2)) _
        refine in_179 (Nat.le_of_ble_eq_true rfl) ?_
        show WR _ cd_179 0 [some (.ref (ad 30)), some (.int c), some (.int i), some (.int d), some (.int j), some (.int m), none, none, none, none, none] [] (sI (sI h (ad 0) 6 0) (ad 0) 6 (-2)) _
        refine r_iload rfl rfl ?_
        refine WR_tI (y := nI k2) ek2 ?_
        refine r_cs (y := 153) (ra := [.int (nI k2)]) (rest := []) rfl ⟨⟨rfl, rfl⟩, by decide⟩ rfl rfl (Nat.le_of_ble_eq_true rfl) ?_
        refine in_153 (Nat.le_of_ble_eq_true rfl) ?_
        show WR _ cd_153 0 [some (.int (nI k2))] [] (sI (sI h (ad 0) 6 0) (ad 0) 6 (-2)) _
        refine r_iload rfl rfl ?_
        refine r_if_lt (tg := 14) rfl rfl (fun q => False.elim (by have := i_nlt c1; have := i_rg c; have : (0 : Int32).toInt = 0 := rfl; have := i_eq ek2; have : (nI k2).toInt = ((k2 : Nat) : Int) := nI_toInt (by omega); have := i_nle c3; have : (24 : Int32).toInt = 24 := rfl; have := i_lt q; omega)) (fun _ => ?_)
        refine r_iload rfl rfl ?_
        refine r_ic (x := 24) rfl rfl ?_
        refine r_icmp_ge (tg := 14) rfl rfl (fun q => False.elim (by have := i_nlt c1; have := i_rg c; have : (0 : Int32).toInt = 0 := rfl; have := i_eq ek2; have : (nI k2).toInt = ((k2 : Nat) : Int) := nI_toInt (by omega); have := i_nle c3; have : (24 : Int32).toInt = 24 := rfl; have := i_le q; omega)) (fun _ => ?_)
        refine r_ic (x := 1) rfl rfl ?_
        refine r_goto (tg := 15) rfl rfl ?_
        refine r_zret rfl (.inr rfl) ?_
        show WR _ cd_179 4 [some (.ref (ad 30)), some (.int c), some (.int i), some (.int d), some (.int j), some (.int m), none, none, none, none, none] [.int 1] (sI (sI h (ad 0) 6 0) (ad 0) 6 (-2)) _
        refine r_if_eq (tg := 14) rfl rfl (fun q => absurd q (by decide)) (fun _ => ?_)
        refine r_iload rfl rfl ?_
        refine r_cs (y := 153) (ra := [.int d]) (rest := []) rfl ⟨⟨rfl, rfl⟩, by decide⟩ rfl rfl (Nat.le_of_ble_eq_true rfl) ?_
        refine in_153 (Nat.le_of_ble_eq_true rfl) ?_
        show WR _ cd_153 0 [some (.int d)] [] (sI (sI h (ad 0) 6 0) (ad 0) 6 (-2)) _
        refine r_iload rfl rfl ?_
        refine r_if_lt (tg := 14) rfl rfl (fun _ => ?_) (fun q => False.elim (by have := i_lt c4; have := i_rg d; have : (0 : Int32).toInt = 0 := rfl; have := i_nlt q; omega))
        refine r_ic (x := 0) rfl rfl ?_
        refine r_zret rfl (.inl rfl) ?_
        show WR _ cd_179 11 [some (.ref (ad 30)), some (.int c), some (.int i), some (.int d), some (.int j), some (.int m), none, none, none, none, none] [.int 0] (sI (sI h (ad 0) 6 0) (ad 0) 6 (-2)) _
        refine r_if_ne (tg := 21) rfl rfl (fun q => absurd q (by decide)) (fun _ => ?_)
        refine r_aload rfl rfl ?_
        refine r_ic (x := (-2)) rfl rfl ?_
        refine r_cv (y := 154) (ra := [.int (-2)]) (rest := []) rfl ⟨⟨rfl, rfl⟩, rfl, by decide⟩ (fx_t30 fx) rfl rfl (Nat.le_of_ble_eq_true rfl) ?_
        refine in_154 (Nat.le_of_ble_eq_true rfl) ?_
        show WR _ cd_154 0 [some (.ref (ad 30)), some (.int (-2))] [] (sI (sI h (ad 0) 6 0) (ad 0) 6 (-2)) _
        refine r_aload rfl rfl ?_
        refine r_iload rfl rfl ?_
        refine r_ic (x := (-1)) rfl rfl ?_
        refine r_icmp_ge (tg := 10) rfl rfl (fun q => absurd q (by decide)) (fun _ => ?_)
        refine r_iload rfl rfl ?_
        refine r_goto (tg := 11) rfl rfl ?_
        refine r_putI rfl ⟨rfl, rfl, rfl⟩ (fx_t30 fx) ?_
        have fx : FX n ad sa z0 (sI (sI (sI h (ad 0) 6 0) (ad 0) 6 (-2)) (ad 30) 11 (-2)) := (FX.sI fx)
        refine r_iload rfl rfl ?_
        refine r_iret rfl ?_
        show WR _ cd_179 20 [some (.ref (ad 30)), some (.int c), some (.int i), some (.int d), some (.int j), some (.int m), none, none, none, none, none] [.int (-2)] (sI (sI (sI h (ad 0) 6 0) (ad 0) 6 (-2)) (ad 30) 11 (-2)) _
        refine r_iret rfl ?_
        exact ⟨rfl, Rel.why r (((Chg.rf.sI (fx_j fx) (.inl (by decide))).sI (fx_j fx) (.inl (by decide))).sI (fx_j fx) (.inl (by decide))) ⟨rfl, by decide⟩ (Eq.trans (Eq.trans (I_ne (fx_ne fx (by decide))) I_eq) (Eq.symm I_eq)), (by (try simp only [hZ_sI, hZ_sL, hZ_sD, hZ_sR]); omega), (by (try simp only [hU_sI, hU_sL, hU_sD, hU_sR]); omega)⟩
      · obtain ⟨k5, hk5, ek5⟩ := ix_of (x := d) (n := 2147483648) (by have := i_nlt c4; have := i_rg d; have : (0 : Int32).toInt = 0 := rfl; omega) (by have := i_nlt c4; have := i_rg d; have : (0 : Int32).toInt = 0 := rfl; omega)
        refine r_iload rfl rfl ?_
        refine WR_tI (y := nI k5) ek5 ?_
        refine r_ic (x := 24) rfl rfl ?_
        refine r_icmp_ge (tg := 14) rfl rfl (fun c6 => ?_) (fun c6 => ?_)
        · refine r_ic (x := 0) rfl rfl ?_
          refine r_zret rfl (.inl rfl) ?_
          show WR _ cd_51 16 [some (.ref (ad 0)), some (.int c), some (.int i), some (.int d), some (.int j), some (.int m), none, none, none] [.int 0] (sI h (ad 0) 6 0) _
          refine r_if_ne (tg := 26) rfl rfl (fun q => absurd q (by decide)) (fun _ => ?_)
          refine r_aload rfl rfl ?_
          refine r_ic (x := (-2)) rfl rfl ?_
          refine r_cv (y := 13) (ra := [.int (-2)]) (rest := []) rfl ⟨⟨rfl, rfl⟩, rfl, by decide⟩ (fx_t0 fx) rfl rfl (Nat.le_of_ble_eq_true rfl) ?_
          refine in_13 (Nat.le_of_ble_eq_true rfl) ?_
          show WR _ cd_13 0 [some (.ref (ad 0)), some (.int (-2))] [] (sI h (ad 0) 6 0) _
          refine r_aload rfl rfl ?_
          refine r_iload rfl rfl ?_
          refine r_putI rfl ⟨rfl, rfl, rfl⟩ (fx_t0 fx) ?_
          have fx : FX n ad sa z0 (sI (sI h (ad 0) 6 0) (ad 0) 6 (-2)) := (FX.sI fx)
          refine r_iload rfl rfl ?_
          refine r_iret rfl ?_
          show WR _ cd_51 25 [some (.ref (ad 0)), some (.int c), some (.int i), some (.int d), some (.int j), some (.int m), none, none, none] [.int (-2)] (sI (sI h (ad 0) 6 0) (ad 0) 6 (-2)) _
          refine r_iret rfl ?_
          show EV _ 179 [.ref (ad 30), .int c, .int i, .int d, .int j, .int m] (sI (sI h (ad 0) 6 0) (ad 0) 6 (-2)) _
          refine in_179 (Nat.le_of_ble_eq_true rfl) ?_
          show WR _ cd_179 0 [some (.ref (ad 30)), some (.int c), some (.int i), some (.int d), some (.int j), some (.int m), none, none, none, none, none] [] (sI (sI h (ad 0) 6 0) (ad 0) 6 (-2)) _
          refine r_iload rfl rfl ?_
          refine WR_tI (y := nI k2) ek2 ?_
          refine r_cs (y := 153) (ra := [.int (nI k2)]) (rest := []) rfl ⟨⟨rfl, rfl⟩, by decide⟩ rfl rfl (Nat.le_of_ble_eq_true rfl) ?_
          refine in_153 (Nat.le_of_ble_eq_true rfl) ?_
          show WR _ cd_153 0 [some (.int (nI k2))] [] (sI (sI h (ad 0) 6 0) (ad 0) 6 (-2)) _
          refine r_iload rfl rfl ?_
          refine r_if_lt (tg := 14) rfl rfl (fun q => False.elim (by have := i_nlt c1; have := i_rg c; have : (0 : Int32).toInt = 0 := rfl; have := i_eq ek2; have : (nI k2).toInt = ((k2 : Nat) : Int) := nI_toInt (by omega); have := i_nle c3; have : (24 : Int32).toInt = 24 := rfl; have := i_lt q; omega)) (fun _ => ?_)
          refine r_iload rfl rfl ?_
          refine r_ic (x := 24) rfl rfl ?_
          refine r_icmp_ge (tg := 14) rfl rfl (fun q => False.elim (by have := i_nlt c1; have := i_rg c; have : (0 : Int32).toInt = 0 := rfl; have := i_eq ek2; have : (nI k2).toInt = ((k2 : Nat) : Int) := nI_toInt (by omega); have := i_nle c3; have : (24 : Int32).toInt = 24 := rfl; have := i_le q; omega)) (fun _ => ?_)
          refine r_ic (x := 1) rfl rfl ?_
          refine r_goto (tg := 15) rfl rfl ?_
          refine r_zret rfl (.inr rfl) ?_
          show WR _ cd_179 4 [some (.ref (ad 30)), some (.int c), some (.int i), some (.int d), some (.int j), some (.int m), none, none, none, none, none] [.int 1] (sI (sI h (ad 0) 6 0) (ad 0) 6 (-2)) _
          refine r_if_eq (tg := 14) rfl rfl (fun q => absurd q (by decide)) (fun _ => ?_)
          refine r_iload rfl rfl ?_
          refine WR_tI (y := nI k5) ek5 ?_
          refine r_cs (y := 153) (ra := [.int (nI k5)]) (rest := []) rfl ⟨⟨rfl, rfl⟩, by decide⟩ rfl rfl (Nat.le_of_ble_eq_true rfl) ?_
          refine in_153 (Nat.le_of_ble_eq_true rfl) ?_
          show WR _ cd_153 0 [some (.int (nI k5))] [] (sI (sI h (ad 0) 6 0) (ad 0) 6 (-2)) _
          refine r_iload rfl rfl ?_
          refine r_if_lt (tg := 14) rfl rfl (fun q => False.elim (by have := i_nlt c4; have := i_rg d; have : (0 : Int32).toInt = 0 := rfl; have := i_eq ek5; have : (nI k5).toInt = ((k5 : Nat) : Int) := nI_toInt (by omega); have := i_le c6; have : (24 : Int32).toInt = 24 := rfl; have := i_lt q; omega)) (fun _ => ?_)
          refine r_iload rfl rfl ?_
          refine r_ic (x := 24) rfl rfl ?_
          refine r_icmp_ge (tg := 14) rfl rfl (fun _ => ?_) (fun q => False.elim (by have := i_nlt c4; have := i_rg d; have : (0 : Int32).toInt = 0 := rfl; have := i_eq ek5; have : (nI k5).toInt = ((k5 : Nat) : Int) := nI_toInt (by omega); have := i_le c6; have : (24 : Int32).toInt = 24 := rfl; have := i_nle q; omega))
          refine r_ic (x := 0) rfl rfl ?_
          refine r_zret rfl (.inl rfl) ?_
          show WR _ cd_179 11 [some (.ref (ad 30)), some (.int c), some (.int i), some (.int d), some (.int j), some (.int m), none, none, none, none, none] [.int 0] (sI (sI h (ad 0) 6 0) (ad 0) 6 (-2)) _
          refine r_if_ne (tg := 21) rfl rfl (fun q => absurd q (by decide)) (fun _ => ?_)
          refine r_aload rfl rfl ?_
          refine r_ic (x := (-2)) rfl rfl ?_
          refine r_cv (y := 154) (ra := [.int (-2)]) (rest := []) rfl ⟨⟨rfl, rfl⟩, rfl, by decide⟩ (fx_t30 fx) rfl rfl (Nat.le_of_ble_eq_true rfl) ?_
          refine in_154 (Nat.le_of_ble_eq_true rfl) ?_
          show WR _ cd_154 0 [some (.ref (ad 30)), some (.int (-2))] [] (sI (sI h (ad 0) 6 0) (ad 0) 6 (-2)) _
          refine r_aload rfl rfl ?_
          refine r_iload rfl rfl ?_
          refine r_ic (x := (-1)) rfl rfl ?_
          refine r_icmp_ge (tg := 10) rfl rfl (fun q => absurd q (by decide)) (fun _ => ?_)
          refine r_iload rfl rfl ?_
          refine r_goto (tg := 11) rfl rfl ?_
          refine r_putI rfl ⟨rfl, rfl, rfl⟩ (fx_t30 fx) ?_
          have fx : FX n ad sa z0 (sI (sI (sI h (ad 0) 6 0) (ad 0) 6 (-2)) (ad 30) 11 (-2)) := (FX.sI fx)
          refine r_iload rfl rfl ?_
          refine r_iret rfl ?_
          show WR _ cd_179 20 [some (.ref (ad 30)), some (.int c), some (.int i), some (.int d), some (.int j), some (.int m), none, none, none, none, none] [.int (-2)] (sI (sI (sI h (ad 0) 6 0) (ad 0) 6 (-2)) (ad 30) 11 (-2)) _
          refine r_iret rfl ?_
          exact ⟨rfl, Rel.why r (((Chg.rf.sI (fx_j fx) (.inl (by decide))).sI (fx_j fx) (.inl (by decide))).sI (fx_j fx) (.inl (by decide))) ⟨rfl, by decide⟩ (Eq.trans (Eq.trans (I_ne (fx_ne fx (by decide))) I_eq) (Eq.symm I_eq)), (by (try simp only [hZ_sI, hZ_sL, hZ_sD, hZ_sR]); omega), (by (try simp only [hU_sI, hU_sL, hU_sD, hU_sR]); omega)⟩
        · refine r_ic (x := 1) rfl rfl ?_
          refine r_goto (tg := 15) rfl rfl ?_
          refine r_zret rfl (.inr rfl) ?_
          show WR _ cd_51 16 [some (.ref (ad 0)), some (.int c), some (.int i), some (.int d), some (.int j), some (.int m), none, none, none] [.int 1] (sI h (ad 0) 6 0) _
          refine r_if_ne (tg := 26) rfl rfl (fun _ => ?_) (fun q => absurd q (by decide))
          refine r_aload rfl rfl ?_
          refine r_getA (b := ad 1) rfl ⟨rfl, rfl, rfl⟩ (fx_t0 fx) (fx_r0_0 fx) ?_
          refine r_iload rfl rfl ?_
          refine WR_tI (y := nI k2) ek2 ?_
          rcases rs.cs (n := n) (sa := sa) (c := k2) (by have := i_nlt c1; have := i_rg c; have : (0 : Int32).toInt = 0 := rfl; have := i_eq ek2; have : (nI k2).toInt = ((k2 : Nat) : Int) := nI_toInt (by omega); have := i_nle c3; have : (24 : Int32).toInt = 24 := rfl; omega) with ⟨v7, w7⟩ | ⟨q7, kd7, hq7, hn7, v7, w7, dz7, tg7, s1_7, k1_7, k2_7, hk_7, we7⟩ | ⟨t7, ln7, sz7, ht7, v7, w7, dz7, tg7, r_7, tg2_7, l1_7, l2_7, hl_7, kd_7, n_7, sz_7, hs_7, al7, rw7⟩ | ⟨t7, sz7, ht7, v7, w7, dz7, tg7, r_7, tg2_7, k1_7, l2_7, k2_7, n_7, sz_7, hs_7, al7, rw7⟩ | ⟨t7, kd7, sz7, ht7, v7, w7, dz7, tg7, r_7, tg2_7, k1_7, l2_7, k2_7, hk_7, n_7, sz_7, hs_7, al7, rw7⟩
          · refine r_aaload0 rfl (isQ_of (fx_t1 fx) (by decide)) (vp_ct (fx_n1 fx) (vp_in_nI (by have := i_nlt c1; have := i_rg c; have : (0 : Int32).toInt = 0 := rfl; have := i_eq ek2; have : (nI k2).toInt = ((k2 : Nat) : Int) := nI_toInt (by omega); have := i_nle c3; have : (24 : Int32).toInt = 24 := rfl; omega) (by omega))) (Eq.trans (congrArg (hR (sI h (ad 0) 6 0) (ad 1)) ((nI_clamp (by have := i_nlt c1; have := i_rg c; have : (0 : Int32).toInt = 0 := rfl; have := i_eq ek2; have : (nI k2).toInt = ((k2 : Nat) : Int) := nI_toInt (by omega); have := i_nle c3; have : (24 : Int32).toInt = 24 := rfl; omega)) : _ = k2)) (Eq.trans R_oI w7)) ?_
            refine r_astore0 (lv' := [some (.ref (ad 0)), some (.int c), some (.int i), some (.int d), some (.int j), some (.int m), some (.null), none, none]) rfl (Nat.le_of_ble_eq_true rfl) rfl ?_
            refine r_aload rfl rfl ?_
            refine r_getA (b := ad 1) rfl ⟨rfl, rfl, rfl⟩ (fx_t0 fx) (fx_r0_0 fx) ?_
            refine r_iload rfl rfl ?_
            refine WR_tI (y := nI k5) ek5 ?_
            rcases rs.cs (n := n) (sa := sa) (c := k5) (by have := i_nlt c4; have := i_rg d; have : (0 : Int32).toInt = 0 := rfl; have := i_eq ek5; have : (nI k5).toInt = ((k5 : Nat) : Int) := nI_toInt (by omega); have := i_nle c6; have : (24 : Int32).toInt = 24 := rfl; omega) with ⟨v8, w8⟩ | ⟨q8, kd8, hq8, hn8, v8, w8, dz8, tg8, s1_8, k1_8, k2_8, hk_8, we8⟩ | ⟨t8, ln8, sz8, ht8, v8, w8, dz8, tg8, r_8, tg2_8, l1_8, l2_8, hl_8, kd_8, n_8, sz_8, hs_8, al8, rw8⟩ | ⟨t8, sz8, ht8, v8, w8, dz8, tg8, r_8, tg2_8, k1_8, l2_8, k2_8, n_8, sz_8, hs_8, al8, rw8⟩ | ⟨t8, kd8, sz8, ht8, v8, w8, dz8, tg8, r_8, tg2_8, k1_8, l2_8, k2_8, hk_8, n_8, sz_8, hs_8, al8, rw8⟩
            · refine r_aaload0 rfl (isQ_of (fx_t1 fx) (by decide)) (vp_ct (fx_n1 fx) (vp_in_nI (by have := i_nlt c4; have := i_rg d; have : (0 : Int32).toInt = 0 := rfl; have := i_eq ek5; have : (nI k5).toInt = ((k5 : Nat) : Int) := nI_toInt (by omega); have := i_nle c6; have : (24 : Int32).toInt = 24 := rfl; omega) (by omega))) (Eq.trans (congrArg (hR (sI h (ad 0) 6 0) (ad 1)) ((nI_clamp (by have := i_nlt c4; have := i_rg d; have : (0 : Int32).toInt = 0 := rfl; have := i_eq ek5; have : (nI k5).toInt = ((k5 : Nat) : Int) := nI_toInt (by omega); have := i_nle c6; have : (24 : Int32).toInt = 24 := rfl; omega)) : _ = k5)) (Eq.trans R_oI w8)) ?_
              refine r_astore0 (lv' := [some (.ref (ad 0)), some (.int c), some (.int i), some (.int d), some (.int j), some (.int m), some (.null), some (.null), none]) rfl (Nat.le_of_ble_eq_true rfl) rfl ?_
              refine r_aload0 rfl rfl ?_
              refine r_ifnullN (tg := 52) rfl rfl ?_
              refine r_aload rfl rfl ?_
              refine r_ic (x := (-11)) rfl rfl ?_
              refine r_cv (y := 13) (ra := [.int (-11)]) (rest := []) rfl ⟨⟨rfl, rfl⟩, rfl, by decide⟩ (fx_t0 fx) rfl rfl (Nat.le_of_ble_eq_true rfl) ?_
              refine in_13 (Nat.le_of_ble_eq_true rfl) ?_
              show WR _ cd_13 0 [some (.ref (ad 0)), some (.int (-11))] [] (sI h (ad 0) 6 0) _
              refine r_aload rfl rfl ?_
              refine r_iload rfl rfl ?_
              refine r_putI rfl ⟨rfl, rfl, rfl⟩ (fx_t0 fx) ?_
              have fx : FX n ad sa z0 (sI (sI h (ad 0) 6 0) (ad 0) 6 (-11)) := (FX.sI fx)
              refine r_iload rfl rfl ?_
              refine r_iret rfl ?_
              show WR _ cd_51 58 [some (.ref (ad 0)), some (.int c), some (.int i), some (.int d), some (.int j), some (.int m), some (.null), some (.null), none] [.int (-11)] (sI (sI h (ad 0) 6 0) (ad 0) 6 (-11)) _
              refine r_iret rfl ?_
              show EV _ 179 [.ref (ad 30), .int c, .int i, .int d, .int j, .int m] (sI (sI h (ad 0) 6 0) (ad 0) 6 (-11)) _
              refine in_179 (Nat.le_of_ble_eq_true rfl) ?_
              show WR _ cd_179 0 [some (.ref (ad 30)), some (.int c), some (.int i), some (.int d), some (.int j), some (.int m), none, none, none, none, none] [] (sI (sI h (ad 0) 6 0) (ad 0) 6 (-11)) _
              refine r_iload rfl rfl ?_
              refine WR_tI (y := nI k2) ek2 ?_
              refine r_cs (y := 153) (ra := [.int (nI k2)]) (rest := []) rfl ⟨⟨rfl, rfl⟩, by decide⟩ rfl rfl (Nat.le_of_ble_eq_true rfl) ?_
              refine in_153 (Nat.le_of_ble_eq_true rfl) ?_
              show WR _ cd_153 0 [some (.int (nI k2))] [] (sI (sI h (ad 0) 6 0) (ad 0) 6 (-11)) _
              refine r_iload rfl rfl ?_
              refine r_if_lt (tg := 14) rfl rfl (fun q => False.elim (by have := i_nlt c1; have := i_rg c; have : (0 : Int32).toInt = 0 := rfl; have := i_eq ek2; have : (nI k2).toInt = ((k2 : Nat) : Int) := nI_toInt (by omega); have := i_nle c3; have : (24 : Int32).toInt = 24 := rfl; have := i_lt q; omega)) (fun _ => ?_)
              refine r_iload rfl rfl ?_
              refine r_ic (x := 24) rfl rfl ?_
              refine r_icmp_ge (tg := 14) rfl rfl (fun q => False.elim (by have := i_nlt c1; have := i_rg c; have : (0 : Int32).toInt = 0 := rfl; have := i_eq ek2; have : (nI k2).toInt = ((k2 : Nat) : Int) := nI_toInt (by omega); have := i_nle c3; have : (24 : Int32).toInt = 24 := rfl; have := i_le q; omega)) (fun _ => ?_)
              refine r_ic (x := 1) rfl rfl ?_
              refine r_goto (tg := 15) rfl rfl ?_
              refine r_zret rfl (.inr rfl) ?_
              show WR _ cd_179 4 [some (.ref (ad 30)), some (.int c), some (.int i), some (.int d), some (.int j), some (.int m), none, none, none, none, none] [.int 1] (sI (sI h (ad 0) 6 0) (ad 0) 6 (-11)) _
              refine r_if_eq (tg := 14) rfl rfl (fun q => absurd q (by decide)) (fun _ => ?_)
              refine r_iload rfl rfl ?_
              refine WR_tI (y := nI k5) ek5 ?_
              refine r_cs (y := 153) (ra := [.int (nI k5)]) (rest := []) rfl ⟨⟨rfl, rfl⟩, by decide⟩ rfl rfl (Nat.le_of_ble_eq_true rfl) ?_
              refine in_153 (Nat.le_of_ble_eq_true rfl) ?_
              show WR _ cd_153 0 [some (.int (nI k5))] [] (sI (sI h (ad 0) 6 0) (ad 0) 6 (-11)) _
              refine r_iload rfl rfl ?_
              refine r_if_lt (tg := 14) rfl rfl (fun q => False.elim (by have := i_nlt c4; have := i_rg d; have : (0 : Int32).toInt = 0 := rfl; have := i_eq ek5; have : (nI k5).toInt = ((k5 : Nat) : Int) := nI_toInt (by omega); have := i_nle c6; have : (24 : Int32).toInt = 24 := rfl; have := i_lt q; omega)) (fun _ => ?_)
              refine r_iload rfl rfl ?_
              refine r_ic (x := 24) rfl rfl ?_
              refine r_icmp_ge (tg := 14) rfl rfl (fun q => False.elim (by have := i_nlt c4; have := i_rg d; have : (0 : Int32).toInt = 0 := rfl; have := i_eq ek5; have : (nI k5).toInt = ((k5 : Nat) : Int) := nI_toInt (by omega); have := i_nle c6; have : (24 : Int32).toInt = 24 := rfl; have := i_le q; omega)) (fun _ => ?_)
              refine r_ic (x := 1) rfl rfl ?_
              refine r_goto (tg := 15) rfl rfl ?_
              refine r_zret rfl (.inr rfl) ?_
              show WR _ cd_179 11 [some (.ref (ad 30)), some (.int c), some (.int i), some (.int d), some (.int j), some (.int m), none, none, none, none, none] [.int 1] (sI (sI h (ad 0) 6 0) (ad 0) 6 (-11)) _
              refine r_if_ne (tg := 21) rfl rfl (fun _ => ?_) (fun q => absurd q (by decide))
              refine r_aload rfl rfl ?_
              refine r_getA (b := ad 31) rfl ⟨rfl, rfl, rfl⟩ (fx_t30 fx) (fx_r30_0 fx) ?_
              refine r_iload rfl rfl ?_
              refine WR_tI (y := nI k2) ek2 ?_
              refine r_iaload rfl (.inl (fx_t31 fx)) (vp_ct (fx_n31 fx) (vp_in_nI (by have := i_nlt c1; have := i_rg c; have : (0 : Int32).toInt = 0 := rfl; have := i_eq ek2; have : (nI k2).toInt = ((k2 : Nat) : Int) := nI_toInt (by omega); have := i_nle c3; have : (24 : Int32).toInt = 24 := rfl; omega) (by omega))) ?_
              refine WR_tI (congrArg (hI (sI (sI h (ad 0) 6 0) (ad 0) 6 (-11)) (ad 31)) ((nI_clamp (by have := i_nlt c1; have := i_rg c; have : (0 : Int32).toInt = 0 := rfl; have := i_eq ek2; have : (nI k2).toInt = ((k2 : Nat) : Int) := nI_toInt (by omega); have := i_nle c3; have : (24 : Int32).toInt = 24 := rfl; omega)) : _ = k2)) ?_
              refine WR_tI (y := (-1)) (Eq.trans (I_ne (fx_ne fx (by decide))) (Eq.trans (I_ne (fx_ne fx (by decide))) v7)) ?_
              refine r_istore (lv' := [some (.ref (ad 30)), some (.int c), some (.int i), some (.int d), some (.int j), some (.int m), some (.int (-1)), none, none, none, none]) rfl (Nat.le_of_ble_eq_true rfl) rfl ?_
              refine r_aload rfl rfl ?_
              refine r_getA (b := ad 31) rfl ⟨rfl, rfl, rfl⟩ (fx_t30 fx) (fx_r30_0 fx) ?_
              refine r_iload rfl rfl ?_
              refine WR_tI (y := nI k5) ek5 ?_
              refine r_iaload rfl (.inl (fx_t31 fx)) (vp_ct (fx_n31 fx) (vp_in_nI (by have := i_nlt c4; have := i_rg d; have : (0 : Int32).toInt = 0 := rfl; have := i_eq ek5; have : (nI k5).toInt = ((k5 : Nat) : Int) := nI_toInt (by omega); have := i_nle c6; have : (24 : Int32).toInt = 24 := rfl; omega) (by omega))) ?_
              refine WR_tI (congrArg (hI (sI (sI h (ad 0) 6 0) (ad 0) 6 (-11)) (ad 31)) ((nI_clamp (by have := i_nlt c4; have := i_rg d; have : (0 : Int32).toInt = 0 := rfl; have := i_eq ek5; have : (nI k5).toInt = ((k5 : Nat) : Int) := nI_toInt (by omega); have := i_nle c6; have : (24 : Int32).toInt = 24 := rfl; omega)) : _ = k5)) ?_
              refine WR_tI (y := (-1)) (Eq.trans (I_ne (fx_ne fx (by decide))) (Eq.trans (I_ne (fx_ne fx (by decide))) v8)) ?_
              refine r_istore (lv' := [some (.ref (ad 30)), some (.int c), some (.int i), some (.int d), some (.int j), some (.int m), some (.int (-1)), some (.int (-1)), none, none, none]) rfl (Nat.le_of_ble_eq_true rfl) rfl ?_
              refine r_iload rfl rfl ?_
              refine r_ic (x := (-1)) rfl rfl ?_
              refine r_icmp_eq (tg := 49) rfl rfl (fun _ => ?_) (fun q => absurd q (by decide))
              refine r_aload rfl rfl ?_
              refine r_ic (x := 1) rfl rfl ?_
              refine r_cv (y := 156) (ra := [.int 1]) (rest := []) rfl ⟨⟨rfl, rfl⟩, rfl, by decide⟩ (fx_t30 fx) rfl rfl (Nat.le_of_ble_eq_true rfl) ?_
              refine in_156 (Nat.le_of_ble_eq_true rfl) ?_
              show WR _ cd_156 0 [some (.ref (ad 30)), some (.int 1)] [] (sI (sI h (ad 0) 6 0) (ad 0) 6 (-11)) _
              refine r_aload rfl rfl ?_
              refine r_ic (x := (-10)) rfl rfl ?_
              refine r_iload rfl rfl ?_
              refine r_isub rfl ?_
              refine WR_tI (y := (-11)) rfl ?_
              refine r_cv (y := 154) (ra := [.int (-11)]) (rest := []) rfl ⟨⟨rfl, rfl⟩, rfl, by decide⟩ (fx_t30 fx) rfl rfl (Nat.le_of_ble_eq_true rfl) ?_
              refine in_154 (Nat.le_of_ble_eq_true rfl) ?_
              show WR _ cd_154 0 [some (.ref (ad 30)), some (.int (-11))] [] (sI (sI h (ad 0) 6 0) (ad 0) 6 (-11)) _
              refine r_aload rfl rfl ?_
              refine r_iload rfl rfl ?_
              refine r_ic (x := (-1)) rfl rfl ?_
              refine r_icmp_ge (tg := 10) rfl rfl (fun q => absurd q (by decide)) (fun _ => ?_)
              refine r_iload rfl rfl ?_
              refine r_goto (tg := 11) rfl rfl ?_
              refine r_putI rfl ⟨rfl, rfl, rfl⟩ (fx_t30 fx) ?_
              have fx : FX n ad sa z0 (sI (sI (sI h (ad 0) 6 0) (ad 0) 6 (-11)) (ad 30) 11 (-11)) := (FX.sI fx)
              refine r_iload rfl rfl ?_
              refine r_iret rfl ?_
              show WR _ cd_156 8 [some (.ref (ad 30)), some (.int 1)] [.int (-11)] (sI (sI (sI h (ad 0) 6 0) (ad 0) 6 (-11)) (ad 30) 11 (-11)) _
              refine r_iret rfl ?_
              show WR _ cd_179 54 [some (.ref (ad 30)), some (.int c), some (.int i), some (.int d), some (.int j), some (.int m), some (.int (-1)), some (.int (-1)), none, none, none] [.int (-11)] (sI (sI (sI h (ad 0) 6 0) (ad 0) 6 (-11)) (ad 30) 11 (-11)) _
              refine r_iret rfl ?_
              exact ⟨rfl, Rel.why r (((Chg.rf.sI (fx_j fx) (.inl (by decide))).sI (fx_j fx) (.inl (by decide))).sI (fx_j fx) (.inl (by decide))) ⟨rfl, by decide⟩ (Eq.trans (Eq.trans (I_ne (fx_ne fx (by decide))) I_eq) (Eq.symm I_eq)), (by (try simp only [hZ_sI, hZ_sL, hZ_sD, hZ_sR]); omega), (by (try simp only [hU_sI, hU_sL, hU_sD, hU_sR]); omega)⟩
            · refine r_aaloadA (b := pa q8) rfl (isQ_of (fx_t1 fx) (by decide)) (vp_ct (fx_n1 fx) (vp_in_nI (by have := i_nlt c4; have := i_rg d; have : (0 : Int32).toInt = 0 := rfl; have := i_eq ek5; have : (nI k5).toInt = ((k5 : Nat) : Int) := nI_toInt (by omega); have := i_nle c6; have : (24 : Int32).toInt = 24 := rfl; omega) (by omega))) (Eq.trans (congrArg (hR (sI h (ad 0) 6 0) (ad 1)) ((nI_clamp (by have := i_nlt c4; have := i_rg d; have : (0 : Int32).toInt = 0 := rfl; have := i_eq ek5; have : (nI k5).toInt = ((k5 : Nat) : Int) := nI_toInt (by omega); have := i_nle c6; have : (24 : Int32).toInt = 24 := rfl; omega)) : _ = k5)) (Eq.trans R_oI w8)) ?_
              refine r_astore (lv' := [some (.ref (ad 0)), some (.int c), some (.int i), some (.int d), some (.int j), some (.int m), some (.null), some (.ref (pa q8)), none]) rfl (Nat.le_of_ble_eq_true rfl) rfl ?_
              refine r_aload0 rfl rfl ?_
              refine r_ifnullN (tg := 52) rfl rfl ?_
              refine r_aload rfl rfl ?_
              refine r_ic (x := (-11)) rfl rfl ?_
              refine r_cv (y := 13) (ra := [.int (-11)]) (rest := []) rfl ⟨⟨rfl, rfl⟩, rfl, by decide⟩ (fx_t0 fx) rfl rfl (Nat.le_of_ble_eq_true rfl) ?_
              refine in_13 (Nat.le_of_ble_eq_true rfl) ?_
              show WR _ cd_13 0 [some (.ref (ad 0)), some (.int (-11))] [] (sI h (ad 0) 6 0) _
              refine r_aload rfl rfl ?_
              refine r_iload rfl rfl ?_
              refine r_putI rfl ⟨rfl, rfl, rfl⟩ (fx_t0 fx) ?_
              have fx : FX n ad sa z0 (sI (sI h (ad 0) 6 0) (ad 0) 6 (-11)) := (FX.sI fx)
              refine r_iload rfl rfl ?_
              refine r_iret rfl ?_
              show WR _ cd_51 58 [some (.ref (ad 0)), some (.int c), some (.int i), some (.int d), some (.int j), some (.int m), some (.null), some (.ref (pa q8)), none] [.int (-11)] (sI (sI h (ad 0) 6 0) (ad 0) 6 (-11)) _
              refine r_iret rfl ?_
              show EV _ 179 [.ref (ad 30), .int c, .int i, .int d, .int j, .int m] (sI (sI h (ad 0) 6 0) (ad 0) 6 (-11)) _
              refine in_179 (Nat.le_of_ble_eq_true rfl) ?_
              show WR _ cd_179 0 [some (.ref (ad 30)), some (.int c), some (.int i), some (.int d), some (.int j), some (.int m), none, none, none, none, none] [] (sI (sI h (ad 0) 6 0) (ad 0) 6 (-11)) _
              refine r_iload rfl rfl ?_
              refine WR_tI (y := nI k2) ek2 ?_
              refine r_cs (y := 153) (ra := [.int (nI k2)]) (rest := []) rfl ⟨⟨rfl, rfl⟩, by decide⟩ rfl rfl (Nat.le_of_ble_eq_true rfl) ?_
              refine in_153 (Nat.le_of_ble_eq_true rfl) ?_
              show WR _ cd_153 0 [some (.int (nI k2))] [] (sI (sI h (ad 0) 6 0) (ad 0) 6 (-11)) _
              refine r_iload rfl rfl ?_
              refine r_if_lt (tg := 14) rfl rfl (fun q => False.elim (by have := i_nlt c1; have := i_rg c; have : (0 : Int32).toInt = 0 := rfl; have := i_eq ek2; have : (nI k2).toInt = ((k2 : Nat) : Int) := nI_toInt (by omega); have := i_nle c3; have : (24 : Int32).toInt = 24 := rfl; have := i_lt q; omega)) (fun _ => ?_)
              refine r_iload rfl rfl ?_
              refine r_ic (x := 24) rfl rfl ?_
              refine r_icmp_ge (tg := 14) rfl rfl (fun q => False.elim (by have := i_nlt c1; have := i_rg c; have : (0 : Int32).toInt = 0 := rfl; have := i_eq ek2; have : (nI k2).toInt = ((k2 : Nat) : Int) := nI_toInt (by omega); have := i_nle c3; have : (24 : Int32).toInt = 24 := rfl; have := i_le q; omega)) (fun _ => ?_)
              refine r_ic (x := 1) rfl rfl ?_
              refine r_goto (tg := 15) rfl rfl ?_
              refine r_zret rfl (.inr rfl) ?_
              show WR _ cd_179 4 [some (.ref (ad 30)), some (.int c), some (.int i), some (.int d), some (.int j), some (.int m), none, none, none, none, none] [.int 1] (sI (sI h (ad 0) 6 0) (ad 0) 6 (-11)) _
              refine r_if_eq (tg := 14) rfl rfl (fun q => absurd q (by decide)) (fun _ => ?_)
              refine r_iload rfl rfl ?_
              refine WR_tI (y := nI k5) ek5 ?_
              refine r_cs (y := 153) (ra := [.int (nI k5)]) (rest := []) rfl ⟨⟨rfl, rfl⟩, by decide⟩ rfl rfl (Nat.le_of_ble_eq_true rfl) ?_
              refine in_153 (Nat.le_of_ble_eq_true rfl) ?_
              show WR _ cd_153 0 [some (.int (nI k5))] [] (sI (sI h (ad 0) 6 0) (ad 0) 6 (-11)) _
              refine r_iload rfl rfl ?_
              refine r_if_lt (tg := 14) rfl rfl (fun q => False.elim (by have := i_nlt c4; have := i_rg d; have : (0 : Int32).toInt = 0 := rfl; have := i_eq ek5; have : (nI k5).toInt = ((k5 : Nat) : Int) := nI_toInt (by omega); have := i_nle c6; have : (24 : Int32).toInt = 24 := rfl; have := i_lt q; omega)) (fun _ => ?_)
              refine r_iload rfl rfl ?_
              refine r_ic (x := 24) rfl rfl ?_
              refine r_icmp_ge (tg := 14) rfl rfl (fun q => False.elim (by have := i_nlt c4; have := i_rg d; have : (0 : Int32).toInt = 0 := rfl; have := i_eq ek5; have : (nI k5).toInt = ((k5 : Nat) : Int) := nI_toInt (by omega); have := i_nle c6; have : (24 : Int32).toInt = 24 := rfl; have := i_le q; omega)) (fun _ => ?_)
              refine r_ic (x := 1) rfl rfl ?_
              refine r_goto (tg := 15) rfl rfl ?_
              refine r_zret rfl (.inr rfl) ?_
              show WR _ cd_179 11 [some (.ref (ad 30)), some (.int c), some (.int i), some (.int d), some (.int j), some (.int m), none, none, none, none, none] [.int 1] (sI (sI h (ad 0) 6 0) (ad 0) 6 (-11)) _
              refine r_if_ne (tg := 21) rfl rfl (fun _ => ?_) (fun q => absurd q (by decide))
              refine r_aload rfl rfl ?_
              refine r_getA (b := ad 31) rfl ⟨rfl, rfl, rfl⟩ (fx_t30 fx) (fx_r30_0 fx) ?_
              refine r_iload rfl rfl ?_
              refine WR_tI (y := nI k2) ek2 ?_
              refine r_iaload rfl (.inl (fx_t31 fx)) (vp_ct (fx_n31 fx) (vp_in_nI (by have := i_nlt c1; have := i_rg c; have : (0 : Int32).toInt = 0 := rfl; have := i_eq ek2; have : (nI k2).toInt = ((k2 : Nat) : Int) := nI_toInt (by omega); have := i_nle c3; have : (24 : Int32).toInt = 24 := rfl; omega) (by omega))) ?_
              refine WR_tI (congrArg (hI (sI (sI h (ad 0) 6 0) (ad 0) 6 (-11)) (ad 31)) ((nI_clamp (by have := i_nlt c1; have := i_rg c; have : (0 : Int32).toInt = 0 := rfl; have := i_eq ek2; have : (nI k2).toInt = ((k2 : Nat) : Int) := nI_toInt (by omega); have := i_nle c3; have : (24 : Int32).toInt = 24 := rfl; omega)) : _ = k2)) ?_
              refine WR_tI (y := (-1)) (Eq.trans (I_ne (fx_ne fx (by decide))) (Eq.trans (I_ne (fx_ne fx (by decide))) v7)) ?_
              refine r_istore (lv' := [some (.ref (ad 30)), some (.int c), some (.int i), some (.int d), some (.int j), some (.int m), some (.int (-1)), none, none, none, none]) rfl (Nat.le_of_ble_eq_true rfl) rfl ?_
              refine r_aload rfl rfl ?_
              refine r_getA (b := ad 31) rfl ⟨rfl, rfl, rfl⟩ (fx_t30 fx) (fx_r30_0 fx) ?_
              refine r_iload rfl rfl ?_
              refine WR_tI (y := nI k5) ek5 ?_
              refine r_iaload rfl (.inl (fx_t31 fx)) (vp_ct (fx_n31 fx) (vp_in_nI (by have := i_nlt c4; have := i_rg d; have : (0 : Int32).toInt = 0 := rfl; have := i_eq ek5; have : (nI k5).toInt = ((k5 : Nat) : Int) := nI_toInt (by omega); have := i_nle c6; have : (24 : Int32).toInt = 24 := rfl; omega) (by omega))) ?_
              refine WR_tI (congrArg (hI (sI (sI h (ad 0) 6 0) (ad 0) 6 (-11)) (ad 31)) ((nI_clamp (by have := i_nlt c4; have := i_rg d; have : (0 : Int32).toInt = 0 := rfl; have := i_eq ek5; have : (nI k5).toInt = ((k5 : Nat) : Int) := nI_toInt (by omega); have := i_nle c6; have : (24 : Int32).toInt = 24 := rfl; omega)) : _ = k5)) ?_
              refine WR_tI (y := nI (q8 + 1000)) (Eq.trans (I_ne (fx_ne fx (by decide))) (Eq.trans (I_ne (fx_ne fx (by decide))) v8)) ?_
              refine r_istore (lv' := [some (.ref (ad 30)), some (.int c), some (.int i), some (.int d), some (.int j), some (.int m), some (.int (-1)), some (.int (nI (q8 + 1000))), none, none, none]) rfl (Nat.le_of_ble_eq_true rfl) rfl ?_
              refine r_iload rfl rfl ?_
              refine r_ic (x := (-1)) rfl rfl ?_
              refine r_icmp_eq (tg := 49) rfl rfl (fun _ => ?_) (fun q => absurd q (by decide))
              refine r_aload rfl rfl ?_
              refine r_ic (x := 1) rfl rfl ?_
              refine r_cv (y := 156) (ra := [.int 1]) (rest := []) rfl ⟨⟨rfl, rfl⟩, rfl, by decide⟩ (fx_t30 fx) rfl rfl (Nat.le_of_ble_eq_true rfl) ?_
              refine in_156 (Nat.le_of_ble_eq_true rfl) ?_
              show WR _ cd_156 0 [some (.ref (ad 30)), some (.int 1)] [] (sI (sI h (ad 0) 6 0) (ad 0) 6 (-11)) _
              refine r_aload rfl rfl ?_
              refine r_ic (x := (-10)) rfl rfl ?_
              refine r_iload rfl rfl ?_
              refine r_isub rfl ?_
              refine WR_tI (y := (-11)) rfl ?_
              refine r_cv (y := 154) (ra := [.int (-11)]) (rest := []) rfl ⟨⟨rfl, rfl⟩, rfl, by decide⟩ (fx_t30 fx) rfl rfl (Nat.le_of_ble_eq_true rfl) ?_
              refine in_154 (Nat.le_of_ble_eq_true rfl) ?_
              show WR _ cd_154 0 [some (.ref (ad 30)), some (.int (-11))] [] (sI (sI h (ad 0) 6 0) (ad 0) 6 (-11)) _
              refine r_aload rfl rfl ?_
              refine r_iload rfl rfl ?_
              refine r_ic (x := (-1)) rfl rfl ?_
              refine r_icmp_ge (tg := 10) rfl rfl (fun q => absurd q (by decide)) (fun _ => ?_)
              refine r_iload rfl rfl ?_
              refine r_goto (tg := 11) rfl rfl ?_
              refine r_putI rfl ⟨rfl, rfl, rfl⟩ (fx_t30 fx) ?_
              have fx : FX n ad sa z0 (sI (sI (sI h (ad 0) 6 0) (ad 0) 6 (-11)) (ad 30) 11 (-11)) := (FX.sI fx)
              refine r_iload rfl rfl ?_
              refine r_iret rfl ?_
              show WR _ cd_156 8 [some (.ref (ad 30)), some (.int 1)] [.int (-11)] (sI (sI (sI h (ad 0) 6 0) (ad 0) 6 (-11)) (ad 30) 11 (-11)) _
              refine r_iret rfl ?_
              show WR _ cd_179 54 [some (.ref (ad 30)), some (.int c), some (.int i), some (.int d), some (.int j), some (.int m), some (.int (-1)), some (.int (nI (q8 + 1000))), none, none, none] [.int (-11)] (sI (sI (sI h (ad 0) 6 0) (ad 0) 6 (-11)) (ad 30) 11 (-11)) _
              refine r_iret rfl ?_
              exact ⟨rfl, Rel.why r (((Chg.rf.sI (fx_j fx) (.inl (by decide))).sI (fx_j fx) (.inl (by decide))).sI (fx_j fx) (.inl (by decide))) ⟨rfl, by decide⟩ (Eq.trans (Eq.trans (I_ne (fx_ne fx (by decide))) I_eq) (Eq.symm I_eq)), (by (try simp only [hZ_sI, hZ_sL, hZ_sD, hZ_sR]); omega), (by (try simp only [hU_sI, hU_sL, hU_sD, hU_sR]); omega)⟩
            · refine r_aaloadA (b := mid t8) rfl (isQ_of (fx_t1 fx) (by decide)) (vp_ct (fx_n1 fx) (vp_in_nI (by have := i_nlt c4; have := i_rg d; have : (0 : Int32).toInt = 0 := rfl; have := i_eq ek5; have : (nI k5).toInt = ((k5 : Nat) : Int) := nI_toInt (by omega); have := i_nle c6; have : (24 : Int32).toInt = 24 := rfl; omega) (by omega))) (Eq.trans (congrArg (hR (sI h (ad 0) 6 0) (ad 1)) ((nI_clamp (by have := i_nlt c4; have := i_rg d; have : (0 : Int32).toInt = 0 := rfl; have := i_eq ek5; have : (nI k5).toInt = ((k5 : Nat) : Int) := nI_toInt (by omega); have := i_nle c6; have : (24 : Int32).toInt = 24 := rfl; omega)) : _ = k5)) (Eq.trans R_oI w8)) ?_
              refine r_astore (lv' := [some (.ref (ad 0)), some (.int c), some (.int i), some (.int d), some (.int j), some (.int m), some (.null), some (.ref (mid t8)), none]) rfl (Nat.le_of_ble_eq_true rfl) rfl ?_
              refine r_aload0 rfl rfl ?_
              refine r_ifnullN (tg := 52) rfl rfl ?_
              refine r_aload rfl rfl ?_
              refine r_ic (x := (-11)) rfl rfl ?_
              refine r_cv (y := 13) (ra := [.int (-11)]) (rest := []) rfl ⟨⟨rfl, rfl⟩, rfl, by decide⟩ (fx_t0 fx) rfl rfl (Nat.le_of_ble_eq_true rfl) ?_
              refine in_13 (Nat.le_of_ble_eq_true rfl) ?_
              show WR _ cd_13 0 [some (.ref (ad 0)), some (.int (-11))] [] (sI h (ad 0) 6 0) _
              refine r_aload rfl rfl ?_
              refine r_iload rfl rfl ?_
              refine r_putI rfl ⟨rfl, rfl, rfl⟩ (fx_t0 fx) ?_
              have fx : FX n ad sa z0 (sI (sI h (ad 0) 6 0) (ad 0) 6 (-11)) := (FX.sI fx)
              refine r_iload rfl rfl ?_
              refine r_iret rfl ?_
              show WR _ cd_51 58 [some (.ref (ad 0)), some (.int c), some (.int i), some (.int d), some (.int j), some (.int m), some (.null), some (.ref (mid t8)), none] [.int (-11)] (sI (sI h (ad 0) 6 0) (ad 0) 6 (-11)) _
              refine r_iret rfl ?_
              show EV _ 179 [.ref (ad 30), .int c, .int i, .int d, .int j, .int m] (sI (sI h (ad 0) 6 0) (ad 0) 6 (-11)) _
              refine in_179 (Nat.le_of_ble_eq_true rfl) ?_
              show WR _ cd_179 0 [some (.ref (ad 30)), some (.int c), some (.int i), some (.int d), some (.int j), some (.int m), none, none, none, none, none] [] (sI (sI h (ad 0) 6 0) (ad 0) 6 (-11)) _
              refine r_iload rfl rfl ?_
              refine WR_tI (y := nI k2) ek2 ?_
              refine r_cs (y := 153) (ra := [.int (nI k2)]) (rest := []) rfl ⟨⟨rfl, rfl⟩, by decide⟩ rfl rfl (Nat.le_of_ble_eq_true rfl) ?_
              refine in_153 (Nat.le_of_ble_eq_true rfl) ?_
              show WR _ cd_153 0 [some (.int (nI k2))] [] (sI (sI h (ad 0) 6 0) (ad 0) 6 (-11)) _
              refine r_iload rfl rfl ?_
              refine r_if_lt (tg := 14) rfl rfl (fun q => False.elim (by have := i_nlt c1; have := i_rg c; have : (0 : Int32).toInt = 0 := rfl; have := i_eq ek2; have : (nI k2).toInt = ((k2 : Nat) : Int) := nI_toInt (by omega); have := i_nle c3; have : (24 : Int32).toInt = 24 := rfl; have := i_lt q; omega)) (fun _ => ?_)
              refine r_iload rfl rfl ?_
              refine r_ic (x := 24) rfl rfl ?_
              refine r_icmp_ge (tg := 14) rfl rfl (fun q => False.elim (by have := i_nlt c1; have := i_rg c; have : (0 : Int32).toInt = 0 := rfl; have := i_eq ek2; have : (nI k2).toInt = ((k2 : Nat) : Int) := nI_toInt (by omega); have := i_nle c3; have : (24 : Int32).toInt = 24 := rfl; have := i_le q; omega)) (fun _ => ?_)
              refine r_ic (x := 1) rfl rfl ?_
              refine r_goto (tg := 15) rfl rfl ?_
              refine r_zret rfl (.inr rfl) ?_
              show WR _ cd_179 4 [some (.ref (ad 30)), some (.int c), some (.int i), some (.int d), some (.int j), some (.int m), none, none, none, none, none] [.int 1] (sI (sI h (ad 0) 6 0) (ad 0) 6 (-11)) _
              refine r_if_eq (tg := 14) rfl rfl (fun q => absurd q (by decide)) (fun _ => ?_)
              refine r_iload rfl rfl ?_
              refine WR_tI (y := nI k5) ek5 ?_
              refine r_cs (y := 153) (ra := [.int (nI k5)]) (rest := []) rfl ⟨⟨rfl, rfl⟩, by decide⟩ rfl rfl (Nat.le_of_ble_eq_true rfl) ?_
              refine in_153 (Nat.le_of_ble_eq_true rfl) ?_
              show WR _ cd_153 0 [some (.int (nI k5))] [] (sI (sI h (ad 0) 6 0) (ad 0) 6 (-11)) _
              refine r_iload rfl rfl ?_
              refine r_if_lt (tg := 14) rfl rfl (fun q => False.elim (by have := i_nlt c4; have := i_rg d; have : (0 : Int32).toInt = 0 := rfl; have := i_eq ek5; have : (nI k5).toInt = ((k5 : Nat) : Int) := nI_toInt (by omega); have := i_nle c6; have : (24 : Int32).toInt = 24 := rfl; have := i_lt q; omega)) (fun _ => ?_)
              refine r_iload rfl rfl ?_
              refine r_ic (x := 24) rfl rfl ?_
              refine r_icmp_ge (tg := 14) rfl rfl (fun q => False.elim (by have := i_nlt c4; have := i_rg d; have : (0 : Int32).toInt = 0 := rfl; have := i_eq ek5; have : (nI k5).toInt = ((k5 : Nat) : Int) := nI_toInt (by omega); have := i_nle c6; have : (24 : Int32).toInt = 24 := rfl; have := i_le q; omega)) (fun _ => ?_)
              refine r_ic (x := 1) rfl rfl ?_
              refine r_goto (tg := 15) rfl rfl ?_
              refine r_zret rfl (.inr rfl) ?_
              show WR _ cd_179 11 [some (.ref (ad 30)), some (.int c), some (.int i), some (.int d), some (.int j), some (.int m), none, none, none, none, none] [.int 1] (sI (sI h (ad 0) 6 0) (ad 0) 6 (-11)) _
              refine r_if_ne (tg := 21) rfl rfl (fun _ => ?_) (fun q => absurd q (by decide))
              refine r_aload rfl rfl ?_
              refine r_getA (b := ad 31) rfl ⟨rfl, rfl, rfl⟩ (fx_t30 fx) (fx_r30_0 fx) ?_
              refine r_iload rfl rfl ?_
              refine WR_tI (y := nI k2) ek2 ?_
              refine r_iaload rfl (.inl (fx_t31 fx)) (vp_ct (fx_n31 fx) (vp_in_nI (by have := i_nlt c1; have := i_rg c; have : (0 : Int32).toInt = 0 := rfl; have := i_eq ek2; have : (nI k2).toInt = ((k2 : Nat) : Int) := nI_toInt (by omega); have := i_nle c3; have : (24 : Int32).toInt = 24 := rfl; omega) (by omega))) ?_
              refine WR_tI (congrArg (hI (sI (sI h (ad 0) 6 0) (ad 0) 6 (-11)) (ad 31)) ((nI_clamp (by have := i_nlt c1; have := i_rg c; have : (0 : Int32).toInt = 0 := rfl; have := i_eq ek2; have : (nI k2).toInt = ((k2 : Nat) : Int) := nI_toInt (by omega); have := i_nle c3; have : (24 : Int32).toInt = 24 := rfl; omega)) : _ = k2)) ?_
              refine WR_tI (y := (-1)) (Eq.trans (I_ne (fx_ne fx (by decide))) (Eq.trans (I_ne (fx_ne fx (by decide))) v7)) ?_
              refine r_istore (lv' := [some (.ref (ad 30)), some (.int c), some (.int i), some (.int d), some (.int j), some (.int m), some (.int (-1)), none, none, none, none]) rfl (Nat.le_of_ble_eq_true rfl) rfl ?_
              refine r_aload rfl rfl ?_
              refine r_getA (b := ad 31) rfl ⟨rfl, rfl, rfl⟩ (fx_t30 fx) (fx_r30_0 fx) ?_
              refine r_iload rfl rfl ?_
              refine WR_tI (y := nI k5) ek5 ?_
              refine r_iaload rfl (.inl (fx_t31 fx)) (vp_ct (fx_n31 fx) (vp_in_nI (by have := i_nlt c4; have := i_rg d; have : (0 : Int32).toInt = 0 := rfl; have := i_eq ek5; have : (nI k5).toInt = ((k5 : Nat) : Int) := nI_toInt (by omega); have := i_nle c6; have : (24 : Int32).toInt = 24 := rfl; omega) (by omega))) ?_
              refine WR_tI (congrArg (hI (sI (sI h (ad 0) 6 0) (ad 0) 6 (-11)) (ad 31)) ((nI_clamp (by have := i_nlt c4; have := i_rg d; have : (0 : Int32).toInt = 0 := rfl; have := i_eq ek5; have : (nI k5).toInt = ((k5 : Nat) : Int) := nI_toInt (by omega); have := i_nle c6; have : (24 : Int32).toInt = 24 := rfl; omega)) : _ = k5)) ?_
              refine WR_tI (y := nI t8) (Eq.trans (I_ne (fx_ne fx (by decide))) (Eq.trans (I_ne (fx_ne fx (by decide))) v8)) ?_
              refine r_istore (lv' := [some (.ref (ad 30)), some (.int c), some (.int i), some (.int d), some (.int j), some (.int m), some (.int (-1)), some (.int (nI t8)), none, none, none]) rfl (Nat.le_of_ble_eq_true rfl) rfl ?_
              refine r_iload rfl rfl ?_
              refine r_ic (x := (-1)) rfl rfl ?_
              refine r_icmp_eq (tg := 49) rfl rfl (fun _ => ?_) (fun q => absurd q (by decide))
              refine r_aload rfl rfl ?_
              refine r_ic (x := 1) rfl rfl ?_
              refine r_cv (y := 156) (ra := [.int 1]) (rest := []) rfl ⟨⟨rfl, rfl⟩, rfl, by decide⟩ (fx_t30 fx) rfl rfl (Nat.le_of_ble_eq_true rfl) ?_
              refine in_156 (Nat.le_of_ble_eq_true rfl) ?_
              show WR _ cd_156 0 [some (.ref (ad 30)), some (.int 1)] [] (sI (sI h (ad 0) 6 0) (ad 0) 6 (-11)) _
              refine r_aload rfl rfl ?_
              refine r_ic (x := (-10)) rfl rfl ?_
              refine r_iload rfl rfl ?_
              refine r_isub rfl ?_
              refine WR_tI (y := (-11)) rfl ?_
              refine r_cv (y := 154) (ra := [.int (-11)]) (rest := []) rfl ⟨⟨rfl, rfl⟩, rfl, by decide⟩ (fx_t30 fx) rfl rfl (Nat.le_of_ble_eq_true rfl) ?_
              refine in_154 (Nat.le_of_ble_eq_true rfl) ?_
              show WR _ cd_154 0 [some (.ref (ad 30)), some (.int (-11))] [] (sI (sI h (ad 0) 6 0) (ad 0) 6 (-11)) _
              refine r_aload rfl rfl ?_
              refine r_iload rfl rfl ?_
              refine r_ic (x := (-1)) rfl rfl ?_
              refine r_icmp_ge (tg := 10) rfl rfl (fun q => absurd q (by decide)) (fun _ => ?_)
              refine r_iload rfl rfl ?_
              refine r_goto (tg := 11) rfl rfl ?_
              refine r_putI rfl ⟨rfl, rfl, rfl⟩ (fx_t30 fx) ?_
              have fx : FX n ad sa z0 (sI (sI (sI h (ad 0) 6 0) (ad 0) 6 (-11)) (ad 30) 11 (-11)) := (FX.sI fx)
              refine r_iload rfl rfl ?_
              refine r_iret rfl ?_
              show WR _ cd_156 8 [some (.ref (ad 30)), some (.int 1)] [.int (-11)] (sI (sI (sI h (ad 0) 6 0) (ad 0) 6 (-11)) (ad 30) 11 (-11)) _
              refine r_iret rfl ?_
              show WR _ cd_179 54 [some (.ref (ad 30)), some (.int c), some (.int i), some (.int d), some (.int j), some (.int m), some (.int (-1)), some (.int (nI t8)), none, none, none] [.int (-11)] (sI (sI (sI h (ad 0) 6 0) (ad 0) 6 (-11)) (ad 30) 11 (-11)) _
              refine r_iret rfl ?_
              exact ⟨rfl, Rel.why r (((Chg.rf.sI (fx_j fx) (.inl (by decide))).sI (fx_j fx) (.inl (by decide))).sI (fx_j fx) (.inl (by decide))) ⟨rfl, by decide⟩ (Eq.trans (Eq.trans (I_ne (fx_ne fx (by decide))) I_eq) (Eq.symm I_eq)), (by (try simp only [hZ_sI, hZ_sL, hZ_sD, hZ_sR]); omega), (by (try simp only [hU_sI, hU_sL, hU_sD, hU_sR]); omega)⟩
            · refine r_aaloadA (b := mid t8) rfl (isQ_of (fx_t1 fx) (by decide)) (vp_ct (fx_n1 fx) (vp_in_nI (by have := i_nlt c4; have := i_rg d; have : (0 : Int32).toInt = 0 := rfl; have := i_eq ek5; have : (nI k5).toInt = ((k5 : Nat) : Int) := nI_toInt (by omega); have := i_nle c6; have : (24 : Int32).toInt = 24 := rfl; omega) (by omega))) (Eq.trans (congrArg (hR (sI h (ad 0) 6 0) (ad 1)) ((nI_clamp (by have := i_nlt c4; have := i_rg d; have : (0 : Int32).toInt = 0 := rfl; have := i_eq ek5; have : (nI k5).toInt = ((k5 : Nat) : Int) := nI_toInt (by omega); have := i_nle c6; have : (24 : Int32).toInt = 24 := rfl; omega)) : _ = k5)) (Eq.trans R_oI w8)) ?_
              refine r_astore (lv' := [some (.ref (ad 0)), some (.int c), some (.int i), some (.int d), some (.int j), some (.int m), some (.null), some (.ref (mid t8)), none]) rfl (Nat.le_of_ble_eq_true rfl) rfl ?_
              refine r_aload0 rfl rfl ?_
              refine r_ifnullN (tg := 52) rfl rfl ?_
              refine r_aload rfl rfl ?_
              refine r_ic (x := (-11)) rfl rfl ?_
              refine r_cv (y := 13) (ra := [.int (-11)]) (rest := []) rfl ⟨⟨rfl, rfl⟩, rfl, by decide⟩ (fx_t0 fx) rfl rfl (Nat.le_of_ble_eq_true rfl) ?_
              refine in_13 (Nat.le_of_ble_eq_true rfl) ?_
              show WR _ cd_13 0 [some (.ref (ad 0)), some (.int (-11))] [] (sI h (ad 0) 6 0) _
              refine r_aload rfl rfl ?_
              refine r_iload rfl rfl ?_
              refine r_putI rfl ⟨rfl, rfl, rfl⟩ (fx_t0 fx) ?_
              have fx : FX n ad sa z0 (sI (sI h (ad 0) 6 0) (ad 0) 6 (-11)) := (FX.sI fx)
              refine r_iload rfl rfl ?_
              refine r_iret rfl ?_
              show WR _ cd_51 58 [some (.ref (ad 0)), some (.int c), some (.int i), some (.int d), some (.int j), some (.int m), some (.null), some (.ref (mid t8)), none] [.int (-11)] (sI (sI h (ad 0) 6 0) (ad 0) 6 (-11)) _
              refine r_iret rfl ?_
              show EV _ 179 [.ref (ad 30), .int c, .int i, .int d, .int j, .int m] (sI (sI h (ad 0) 6 0) (ad 0) 6 (-11)) _
              refine in_179 (Nat.le_of_ble_eq_true rfl) ?_
              show WR _ cd_179 0 [some (.ref (ad 30)), some (.int c), some (.int i), some (.int d), some (.int j), some (.int m), none, none, none, none, none] [] (sI (sI h (ad 0) 6 0) (ad 0) 6 (-11)) _
              refine r_iload rfl rfl ?_
              refine WR_tI (y := nI k2) ek2 ?_
              refine r_cs (y := 153) (ra := [.int (nI k2)]) (rest := []) rfl ⟨⟨rfl, rfl⟩, by decide⟩ rfl rfl (Nat.le_of_ble_eq_true rfl) ?_
              refine in_153 (Nat.le_of_ble_eq_true rfl) ?_
              show WR _ cd_153 0 [some (.int (nI k2))] [] (sI (sI h (ad 0) 6 0) (ad 0) 6 (-11)) _
              refine r_iload rfl rfl ?_
              refine r_if_lt (tg := 14) rfl rfl (fun q => False.elim (by have := i_nlt c1; have := i_rg c; have : (0 : Int32).toInt = 0 := rfl; have := i_eq ek2; have : (nI k2).toInt = ((k2 : Nat) : Int) := nI_toInt (by omega); have := i_nle c3; have : (24 : Int32).toInt = 24 := rfl; have := i_lt q; omega)) (fun _ => ?_)
              refine r_iload rfl rfl ?_
              refine r_ic (x := 24) rfl rfl ?_
              refine r_icmp_ge (tg := 14) rfl rfl (fun q => False.elim (by have := i_nlt c1; have := i_rg c; have : (0 : Int32).toInt = 0 := rfl; have := i_eq ek2; have : (nI k2).toInt = ((k2 : Nat) : Int) := nI_toInt (by omega); have := i_nle c3; have : (24 : Int32).toInt = 24 := rfl; have := i_le q; omega)) (fun _ => ?_)
              refine r_ic (x := 1) rfl rfl ?_
              refine r_goto (tg := 15) rfl rfl ?_
              refine r_zret rfl (.inr rfl) ?_
              show WR _ cd_179 4 [some (.ref (ad 30)), some (.int c), some (.int i), some (.int d), some (.int j), some (.int m), none, none, none, none, none] [.int 1] (sI (sI h (ad 0) 6 0) (ad 0) 6 (-11)) _
              refine r_if_eq (tg := 14) rfl rfl (fun q => absurd q (by decide)) (fun _ => ?_)
              refine r_iload rfl rfl ?_
              refine WR_tI (y := nI k5) ek5 ?_
              refine r_cs (y := 153) (ra := [.int (nI k5)]) (rest := []) rfl ⟨⟨rfl, rfl⟩, by decide⟩ rfl rfl (Nat.le_of_ble_eq_true rfl) ?_
              refine in_153 (Nat.le_of_ble_eq_true rfl) ?_
              show WR _ cd_153 0 [some (.int (nI k5))] [] (sI (sI h (ad 0) 6 0) (ad 0) 6 (-11)) _
              refine r_iload rfl rfl ?_
              refine r_if_lt (tg := 14) rfl rfl (fun q => False.elim (by have := i_nlt c4; have := i_rg d; have : (0 : Int32).toInt = 0 := rfl; have := i_eq ek5; have : (nI k5).toInt = ((k5 : Nat) : Int) := nI_toInt (by omega); have := i_nle c6; have : (24 : Int32).toInt = 24 := rfl; have := i_lt q; omega)) (fun _ => ?_)
              refine r_iload rfl rfl ?_
              refine r_ic (x := 24) rfl rfl ?_
              refine r_icmp_ge (tg := 14) rfl rfl (fun q => False.elim (by have := i_nlt c4; have := i_rg d; have : (0 : Int32).toInt = 0 := rfl; have := i_eq ek5; have : (nI k5).toInt = ((k5 : Nat) : Int) := nI_toInt (by omega); have := i_nle c6; have : (24 : Int32).toInt = 24 := rfl; have := i_le q; omega)) (fun _ => ?_)
              refine r_ic (x := 1) rfl rfl ?_
              refine r_goto (tg := 15) rfl rfl ?_
              refine r_zret rfl (.inr rfl) ?_
              show WR _ cd_179 11 [some (.ref (ad 30)), some (.int c), some (.int i), some (.int d), some (.int j), some (.int m), none, none, none, none, none] [.int 1] (sI (sI h (ad 0) 6 0) (ad 0) 6 (-11)) _
              refine r_if_ne (tg := 21) rfl rfl (fun _ => ?_) (fun q => absurd q (by decide))
              refine r_aload rfl rfl ?_
              refine r_getA (b := ad 31) rfl ⟨rfl, rfl, rfl⟩ (fx_t30 fx) (fx_r30_0 fx) ?_
              refine r_iload rfl rfl ?_
              refine WR_tI (y := nI k2) ek2 ?_
              refine r_iaload rfl (.inl (fx_t31 fx)) (vp_ct (fx_n31 fx) (vp_in_nI (by have := i_nlt c1; have := i_rg c; have : (0 : Int32).toInt = 0 := rfl; have := i_eq ek2; have : (nI k2).toInt = ((k2 : Nat) : Int) := nI_toInt (by omega); have := i_nle c3; have : (24 : Int32).toInt = 24 := rfl; omega) (by omega))) ?_
              refine WR_tI (congrArg (hI (sI (sI h (ad 0) 6 0) (ad 0) 6 (-11)) (ad 31)) ((nI_clamp (by have := i_nlt c1; have := i_rg c; have : (0 : Int32).toInt = 0 := rfl; have := i_eq ek2; have : (nI k2).toInt = ((k2 : Nat) : Int) := nI_toInt (by omega); have := i_nle c3; have : (24 : Int32).toInt = 24 := rfl; omega)) : _ = k2)) ?_
              refine WR_tI (y := (-1)) (Eq.trans (I_ne (fx_ne fx (by decide))) (Eq.trans (I_ne (fx_ne fx (by decide))) v7)) ?_
              refine r_istore (lv' := [some (.ref (ad 30)), some (.int c), some (.int i), some (.int d), some (.int j), some (.int m), some (.int (-1)), none, none, none, none]) rfl (Nat.le_of_ble_eq_true rfl) rfl ?_
              refine r_aload rfl rfl ?_
              refine r_getA (b := ad 31) rfl ⟨rfl, rfl, rfl⟩ (fx_t30 fx) (fx_r30_0 fx) ?_
              refine r_iload rfl rfl ?_
              refine WR_tI (y := nI k5) ek5 ?_
              refine r_iaload rfl (.inl (fx_t31 fx)) (vp_ct (fx_n31 fx) (vp_in_nI (by have := i_nlt c4; have := i_rg d; have : (0 : Int32).toInt = 0 := rfl; have := i_eq ek5; have : (nI k5).toInt = ((k5 : Nat) : Int) := nI_toInt (by omega); have := i_nle c6; have : (24 : Int32).toInt = 24 := rfl; omega) (by omega))) ?_
              refine WR_tI (congrArg (hI (sI (sI h (ad 0) 6 0) (ad 0) 6 (-11)) (ad 31)) ((nI_clamp (by have := i_nlt c4; have := i_rg d; have : (0 : Int32).toInt = 0 := rfl; have := i_eq ek5; have : (nI k5).toInt = ((k5 : Nat) : Int) := nI_toInt (by omega); have := i_nle c6; have : (24 : Int32).toInt = 24 := rfl; omega)) : _ = k5)) ?_
              refine WR_tI (y := nI t8) (Eq.trans (I_ne (fx_ne fx (by decide))) (Eq.trans (I_ne (fx_ne fx (by decide))) v8)) ?_
              refine r_istore (lv' := [some (.ref (ad 30)), some (.int c), some (.int i), some (.int d), some (.int j), some (.int m), some (.int (-1)), some (.int (nI t8)), none, none, none]) rfl (Nat.le_of_ble_eq_true rfl) rfl ?_
              refine r_iload rfl rfl ?_
              refine r_ic (x := (-1)) rfl rfl ?_
              refine r_icmp_eq (tg := 49) rfl rfl (fun _ => ?_) (fun q => absurd q (by decide))
              refine r_aload rfl rfl ?_
              refine r_ic (x := 1) rfl rfl ?_
              refine r_cv (y := 156) (ra := [.int 1]) (rest := []) rfl ⟨⟨rfl, rfl⟩, rfl, by decide⟩ (fx_t30 fx) rfl rfl (Nat.le_of_ble_eq_true rfl) ?_
              refine in_156 (Nat.le_of_ble_eq_true rfl) ?_
              show WR _ cd_156 0 [some (.ref (ad 30)), some (.int 1)] [] (sI (sI h (ad 0) 6 0) (ad 0) 6 (-11)) _
              refine r_aload rfl rfl ?_
              refine r_ic (x := (-10)) rfl rfl ?_
              refine r_iload rfl rfl ?_
              refine r_isub rfl ?_
              refine WR_tI (y := (-11)) rfl ?_
              refine r_cv (y := 154) (ra := [.int (-11)]) (rest := []) rfl ⟨⟨rfl, rfl⟩, rfl, by decide⟩ (fx_t30 fx) rfl rfl (Nat.le_of_ble_eq_true rfl) ?_
              refine in_154 (Nat.le_of_ble_eq_true rfl) ?_
              show WR _ cd_154 0 [some (.ref (ad 30)), some (.int (-11))] [] (sI (sI h (ad 0) 6 0) (ad 0) 6 (-11)) _
              refine r_aload rfl rfl ?_
              refine r_iload rfl rfl ?_
              refine r_ic (x := (-1)) rfl rfl ?_
              refine r_icmp_ge (tg := 10) rfl rfl (fun q => absurd q (by decide)) (fun _ => ?_)
              refine r_iload rfl rfl ?_
              refine r_goto (tg := 11) rfl rfl ?_
              refine r_putI rfl ⟨rfl, rfl, rfl⟩ (fx_t30 fx) ?_
              have fx : FX n ad sa z0 (sI (sI (sI h (ad 0) 6 0) (ad 0) 6 (-11)) (ad 30) 11 (-11)) := (FX.sI fx)
              refine r_iload rfl rfl ?_
              refine r_iret rfl ?_
              show WR _ cd_156 8 [some (.ref (ad 30)), some (.int 1)] [.int (-11)] (sI (sI (sI h (ad 0) 6 0) (ad 0) 6 (-11)) (ad 30) 11 (-11)) _
              refine r_iret rfl ?_
              show WR _ cd_179 54 [some (.ref (ad 30)), some (.int c), some (.int i), some (.int d), some (.int j), some (.int m), some (.int (-1)), some (.int (nI t8)), none, none, none] [.int (-11)] (sI (sI (sI h (ad 0) 6 0) (ad 0) 6 (-11)) (ad 30) 11 (-11)) _
              refine r_iret rfl ?_
              exact ⟨rfl, Rel.why r (((Chg.rf.sI (fx_j fx) (.inl (by decide))).sI (fx_j fx) (.inl (by decide))).sI (fx_j fx) (.inl (by decide))) ⟨rfl, by decide⟩ (Eq.trans (Eq.trans (I_ne (fx_ne fx (by decide))) I_eq) (Eq.symm I_eq)), (by (try simp only [hZ_sI, hZ_sL, hZ_sD, hZ_sR]); omega), (by (try simp only [hU_sI, hU_sL, hU_sD, hU_sR]); omega)⟩
            · refine r_aaloadA (b := mid t8) rfl (isQ_of (fx_t1 fx) (by decide)) (vp_ct (fx_n1 fx) (vp_in_nI (by have := i_nlt c4; have := i_rg d; have : (0 : Int32).toInt = 0 := rfl; have := i_eq ek5; have : (nI k5).toInt = ((k5 : Nat) : Int) := nI_toInt (by omega); have := i_nle c6; have : (24 : Int32).toInt = 24 := rfl; omega) (by omega))) (Eq.trans (congrArg (hR (sI h (ad 0) 6 0) (ad 1)) ((nI_clamp (by have := i_nlt c4; have := i_rg d; have : (0 : Int32).toInt = 0 := rfl; have := i_eq ek5; have : (nI k5).toInt = ((k5 : Nat) : Int) := nI_toInt (by omega); have := i_nle c6; have : (24 : Int32).toInt = 24 := rfl; omega)) : _ = k5)) (Eq.trans R_oI w8)) ?_
              refine r_astore (lv' := [some (.ref (ad 0)), some (.int c), some (.int i), some (.int d), some (.int j), some (.int m), some (.null), some (.ref (mid t8)), none]) rfl (Nat.le_of_ble_eq_true rfl) rfl ?_
              refine r_aload0 rfl rfl ?_
              refine r_ifnullN (tg := 52) rfl rfl ?_
              refine r_aload rfl rfl ?_
              refine r_ic (x := (-11)) rfl rfl ?_
              refine r_cv (y := 13) (ra := [.int (-11)]) (rest := []) rfl ⟨⟨rfl, rfl⟩, rfl, by decide⟩ (fx_t0 fx) rfl rfl (Nat.le_of_ble_eq_true rfl) ?_
              refine in_13 (Nat.le_of_ble_eq_true rfl) ?_
              show WR _ cd_13 0 [some (.ref (ad 0)), some (.int (-11))] [] (sI h (ad 0) 6 0) _
              refine r_aload rfl rfl ?_
              refine r_iload rfl rfl ?_
              refine r_putI rfl ⟨rfl, rfl, rfl⟩ (fx_t0 fx) ?_
              have fx : FX n ad sa z0 (sI (sI h (ad 0) 6 0) (ad 0) 6 (-11)) := (FX.sI fx)
              refine r_iload rfl rfl ?_
              refine r_iret rfl ?_
              show WR _ cd_51 58 [some (.ref (ad 0)), some (.int c), some (.int i), some (.int d), some (.int j), some (.int m), some (.null), some (.ref (mid t8)), none] [.int (-11)] (sI (sI h (ad 0) 6 0) (ad 0) 6 (-11)) _
              refine r_iret rfl ?_
              show EV _ 179 [.ref (ad 30), .int c, .int i, .int d, .int j, .int m] (sI (sI h (ad 0) 6 0) (ad 0) 6 (-11)) _
              refine in_179 (Nat.le_of_ble_eq_true rfl) ?_
              show WR _ cd_179 0 [some (.ref (ad 30)), some (.int c), some (.int i), some (.int d), some (.int j), some (.int m), none, none, none, none, none] [] (sI (sI h (ad 0) 6 0) (ad 0) 6 (-11)) _
              refine r_iload rfl rfl ?_
              refine WR_tI (y := nI k2) ek2 ?_
              refine r_cs (y := 153) (ra := [.int (nI k2)]) (rest := []) rfl ⟨⟨rfl, rfl⟩, by decide⟩ rfl rfl (Nat.le_of_ble_eq_true rfl) ?_
              refine in_153 (Nat.le_of_ble_eq_true rfl) ?_
              show WR _ cd_153 0 [some (.int (nI k2))] [] (sI (sI h (ad 0) 6 0) (ad 0) 6 (-11)) _
              refine r_iload rfl rfl ?_
              refine r_if_lt (tg := 14) rfl rfl (fun q => False.elim (by have := i_nlt c1; have := i_rg c; have : (0 : Int32).toInt = 0 := rfl; have := i_eq ek2; have : (nI k2).toInt = ((k2 : Nat) : Int) := nI_toInt (by omega); have := i_nle c3; have : (24 : Int32).toInt = 24 := rfl; have := i_lt q; omega)) (fun _ => ?_)
              refine r_iload rfl rfl ?_
              refine r_ic (x := 24) rfl rfl ?_
              refine r_icmp_ge (tg := 14) rfl rfl (fun q => False.elim (by have := i_nlt c1; have := i_rg c; have : (0 : Int32).toInt = 0 := rfl; have := i_eq ek2; have : (nI k2).toInt = ((k2 : Nat) : Int) := nI_toInt (by omega); have := i_nle c3; have : (24 : Int32).toInt = 24 := rfl; have := i_le q; omega)) (fun _ => ?_)
              refine r_ic (x := 1) rfl rfl ?_
              refine r_goto (tg := 15) rfl rfl ?_
              refine r_zret rfl (.inr rfl) ?_
              show WR _ cd_179 4 [some (.ref (ad 30)), some (.int c), some (.int i), some (.int d), some (.int j), some (.int m), none, none, none, none, none] [.int 1] (sI (sI h (ad 0) 6 0) (ad 0) 6 (-11)) _
              refine r_if_eq (tg := 14) rfl rfl (fun q => absurd q (by decide)) (fun _ => ?_)
              refine r_iload rfl rfl ?_
              refine WR_tI (y := nI k5) ek5 ?_
              refine r_cs (y := 153) (ra := [.int (nI k5)]) (rest := []) rfl ⟨⟨rfl, rfl⟩, by decide⟩ rfl rfl (Nat.le_of_ble_eq_true rfl) ?_
              refine in_153 (Nat.le_of_ble_eq_true rfl) ?_
              show WR _ cd_153 0 [some (.int (nI k5))] [] (sI (sI h (ad 0) 6 0) (ad 0) 6 (-11)) _
              refine r_iload rfl rfl ?_
              refine r_if_lt (tg := 14) rfl rfl (fun q => False.elim (by have := i_nlt c4; have := i_rg d; have : (0 : Int32).toInt = 0 := rfl; have := i_eq ek5; have : (nI k5).toInt = ((k5 : Nat) : Int) := nI_toInt (by omega); have := i_nle c6; have : (24 : Int32).toInt = 24 := rfl; have := i_lt q; omega)) (fun _ => ?_)
              refine r_iload rfl rfl ?_
              refine r_ic (x := 24) rfl rfl ?_
              refine r_icmp_ge (tg := 14) rfl rfl (fun q => False.elim (by have := i_nlt c4; have := i_rg d; have : (0 : Int32).toInt = 0 := rfl; have := i_eq ek5; have : (nI k5).toInt = ((k5 : Nat) : Int) := nI_toInt (by omega); have := i_nle c6; have : (24 : Int32).toInt = 24 := rfl; have := i_le q; omega)) (fun _ => ?_)
              refine r_ic (x := 1) rfl rfl ?_
              refine r_goto (tg := 15) rfl rfl ?_
              refine r_zret rfl (.inr rfl) ?_
              show WR _ cd_179 11 [some (.ref (ad 30)), some (.int c), some (.int i), some (.int d), some (.int j), some (.int m), none, none, none, none, none] [.int 1] (sI (sI h (ad 0) 6 0) (ad 0) 6 (-11)) _
              refine r_if_ne (tg := 21) rfl rfl (fun _ => ?_) (fun q => absurd q (by decide))
              refine r_aload rfl rfl ?_
              refine r_getA (b := ad 31) rfl ⟨rfl, rfl, rfl⟩ (fx_t30 fx) (fx_r30_0 fx) ?_
              refine r_iload rfl rfl ?_
              refine WR_tI (y := nI k2) ek2 ?_
              refine r_iaload rfl (.inl (fx_t31 fx)) (vp_ct (fx_n31 fx) (vp_in_nI (by have := i_nlt c1; have := i_rg c; have : (0 : Int32).toInt = 0 := rfl; have := i_eq ek2; have : (nI k2).toInt = ((k2 : Nat) : Int) := nI_toInt (by omega); have := i_nle c3; have : (24 : Int32).toInt = 24 := rfl; omega) (by omega))) ?_
              refine WR_tI (congrArg (hI (sI (sI h (ad 0) 6 0) (ad 0) 6 (-11)) (ad 31)) ((nI_clamp (by have := i_nlt c1; have := i_rg c; have : (0 : Int32).toInt = 0 := rfl; have := i_eq ek2; have : (nI k2).toInt = ((k2 : Nat) : Int) := nI_toInt (by omega); have := i_nle c3; have : (24 : Int32).toInt = 24 := rfl; omega)) : _ = k2)) ?_
              refine WR_tI (y := (-1)) (Eq.trans (I_ne (fx_ne fx (by decide))) (Eq.trans (I_ne (fx_ne fx (by decide))) v7)) ?_
              refine r_istore (lv' := [some (.ref (ad 30)), some (.int c), some (.int i), some (.int d), some (.int j), some (.int m), some (.int (-1)), none, none, none, none]) rfl (Nat.le_of_ble_eq_true rfl) rfl ?_
              refine r_aload rfl rfl ?_
              refine r_getA (b := ad 31) rfl ⟨rfl, rfl, rfl⟩ (fx_t30 fx) (fx_r30_0 fx) ?_
              refine r_iload rfl rfl ?_
              refine WR_tI (y := nI k5) ek5 ?_
              refine r_iaload rfl (.inl (fx_t31 fx)) (vp_ct (fx_n31 fx) (vp_in_nI (by have := i_nlt c4; have := i_rg d; have : (0 : Int32).toInt = 0 := rfl; have := i_eq ek5; have : (nI k5).toInt = ((k5 : Nat) : Int) := nI_toInt (by omega); have := i_nle c6; have : (24 : Int32).toInt = 24 := rfl; omega) (by omega))) ?_
              refine WR_tI (congrArg (hI (sI (sI h (ad 0) 6 0) (ad 0) 6 (-11)) (ad 31)) ((nI_clamp (by have := i_nlt c4; have := i_rg d; have : (0 : Int32).toInt = 0 := rfl; have := i_eq ek5; have : (nI k5).toInt = ((k5 : Nat) : Int) := nI_toInt (by omega); have := i_nle c6; have : (24 : Int32).toInt = 24 := rfl; omega)) : _ = k5)) ?_
              refine WR_tI (y := nI t8) (Eq.trans (I_ne (fx_ne fx (by decide))) (Eq.trans (I_ne (fx_ne fx (by decide))) v8)) ?_
              refine r_istore (lv' := [some (.ref (ad 30)), some (.int c), some (.int i), some (.int d), some (.int j), some (.int m), some (.int (-1)), some (.int (nI t8)), none, none, none]) rfl (Nat.le_of_ble_eq_true rfl) rfl ?_
              refine r_iload rfl rfl ?_
              refine r_ic (x := (-1)) rfl rfl ?_
              refine r_icmp_eq (tg := 49) rfl rfl (fun _ => ?_) (fun q => absurd q (by decide))
              refine r_aload rfl rfl ?_
              refine r_ic (x := 1) rfl rfl ?_
              refine r_cv (y := 156) (ra := [.int 1]) (rest := []) rfl ⟨⟨rfl, rfl⟩, rfl, by decide⟩ (fx_t30 fx) rfl rfl (Nat.le_of_ble_eq_true rfl) ?_
              refine in_156 (Nat.le_of_ble_eq_true rfl) ?_
              show WR _ cd_156 0 [some (.ref (ad 30)), some (.int 1)] [] (sI (sI h (ad 0) 6 0) (ad 0) 6 (-11)) _
              refine r_aload rfl rfl ?_
              refine r_ic (x := (-10)) rfl rfl ?_
              refine r_iload rfl rfl ?_
              refine r_isub rfl ?_
              refine WR_tI (y := (-11)) rfl ?_
              refine r_cv (y := 154) (ra := [.int (-11)]) (rest := []) rfl ⟨⟨rfl, rfl⟩, rfl, by decide⟩ (fx_t30 fx) rfl rfl (Nat.le_of_ble_eq_true rfl) ?_
              refine in_154 (Nat.le_of_ble_eq_true rfl) ?_
              show WR _ cd_154 0 [some (.ref (ad 30)), some (.int (-11))] [] (sI (sI h (ad 0) 6 0) (ad 0) 6 (-11)) _
              refine r_aload rfl rfl ?_
              refine r_iload rfl rfl ?_
              refine r_ic (x := (-1)) rfl rfl ?_
              refine r_icmp_ge (tg := 10) rfl rfl (fun q => absurd q (by decide)) (fun _ => ?_)
              refine r_iload rfl rfl ?_
              refine r_goto (tg := 11) rfl rfl ?_
              refine r_putI rfl ⟨rfl, rfl, rfl⟩ (fx_t30 fx) ?_
              have fx : FX n ad sa z0 (sI (sI (sI h (ad 0) 6 0) (ad 0) 6 (-11)) (ad 30) 11 (-11)) := (FX.sI fx)
              refine r_iload rfl rfl ?_
              refine r_iret rfl ?_
              show WR _ cd_156 8 [some (.ref (ad 30)), some (.int 1)] [.int (-11)] (sI (sI (sI h (ad 0) 6 0) (ad 0) 6 (-11)) (ad 30) 11 (-11)) _
              refine r_iret rfl ?_
              show WR _ cd_179 54 [some (.ref (ad 30)), some (.int c), some (.int i), some (.int d), some (.int j), some (.int m), some (.int (-1)), some (.int (nI t8)), none, none, none] [.int (-11)] (sI (sI (sI h (ad 0) 6 0) (ad 0) 6 (-11)) (ad 30) 11 (-11)) _
              refine r_iret rfl ?_
              exact ⟨rfl, Rel.why r (((Chg.rf.sI (fx_j fx) (.inl (by decide))).sI (fx_j fx) (.inl (by decide))).sI (fx_j fx) (.inl (by decide))) ⟨rfl, by decide⟩ (Eq.trans (Eq.trans (I_ne (fx_ne fx (by decide))) I_eq) (Eq.symm I_eq)), (by (try simp only [hZ_sI, hZ_sL, hZ_sD, hZ_sR]); omega), (by (try simp only [hU_sI, hU_sL, hU_sD, hU_sR]); omega)⟩
          · refine r_aaloadA (b := pa q7) rfl (isQ_of (fx_t1 fx) (by decide)) (vp_ct (fx_n1 fx) (vp_in_nI (by have := i_nlt c1; have := i_rg c; have : (0 : Int32).toInt = 0 := rfl; have := i_eq ek2; have : (nI k2).toInt = ((k2 : Nat) : Int) := nI_toInt (by omega); have := i_nle c3; have : (24 : Int32).toInt = 24 := rfl; omega) (by omega))) (Eq.trans (congrArg (hR (sI h (ad 0) 6 0) (ad 1)) ((nI_clamp (by have := i_nlt c1; have := i_rg c; have : (0 : Int32).toInt = 0 := rfl; have := i_eq ek2; have : (nI k2).toInt = ((k2 : Nat) : Int) := nI_toInt (by omega); have := i_nle c3; have : (24 : Int32).toInt = 24 := rfl; omega)) : _ = k2)) (Eq.trans R_oI w7)) ?_
            refine r_astore (lv' := [some (.ref (ad 0)), some (.int c), some (.int i), some (.int d), some (.int j), some (.int m), some (.ref (pa q7)), none, none]) rfl (Nat.le_of_ble_eq_true rfl) rfl ?_
            refine r_aload rfl rfl ?_
            refine r_getA (b := ad 1) rfl ⟨rfl, rfl, rfl⟩ (fx_t0 fx) (fx_r0_0 fx) ?_
            refine r_iload rfl rfl ?_
            refine WR_tI (y := nI k5) ek5 ?_
            rcases rs.cs (n := n) (sa := sa) (c := k5) (by have := i_nlt c4; have := i_rg d; have : (0 : Int32).toInt = 0 := rfl; have := i_eq ek5; have : (nI k5).toInt = ((k5 : Nat) : Int) := nI_toInt (by omega); have := i_nle c6; have : (24 : Int32).toInt = 24 := rfl; omega) with ⟨v9, w9⟩ | ⟨q9, kd9, hq9, hn9, v9, w9, dz9, tg9, s1_9, k1_9, k2_9, hk_9, we9⟩ | ⟨t9, ln9, sz9, ht9, v9, w9, dz9, tg9, r_9, tg2_9, l1_9, l2_9, hl_9, kd_9, n_9, sz_9, hs_9, al9, rw9⟩ | ⟨t9, sz9, ht9, v9, w9, dz9, tg9, r_9, tg2_9, k1_9, l2_9, k2_9, n_9, sz_9, hs_9, al9, rw9⟩ | ⟨t9, kd9, sz9, ht9, v9, w9, dz9, tg9, r_9, tg2_9, k1_9, l2_9, k2_9, hk_9, n_9, sz_9, hs_9, al9, rw9⟩
            · refine r_aaload0 rfl (isQ_of (fx_t1 fx) (by decide)) (vp_ct (fx_n1 fx) (vp_in_nI (by have := i_nlt c4; have := i_rg d; have : (0 : Int32).toInt = 0 := rfl; have := i_eq ek5; have : (nI k5).toInt = ((k5 : Nat) : Int) := nI_toInt (by omega); have := i_nle c6; have : (24 : Int32).toInt = 24 := rfl; omega) (by omega))) (Eq.trans (congrArg (hR (sI h (ad 0) 6 0) (ad 1)) ((nI_clamp (by have := i_nlt c4; have := i_rg d; have : (0 : Int32).toInt = 0 := rfl; have := i_eq ek5; have : (nI k5).toInt = ((k5 : Nat) : Int) := nI_toInt (by omega); have := i_nle c6; have : (24 : Int32).toInt = 24 := rfl; omega)) : _ = k5)) (Eq.trans R_oI w9)) ?_
              refine r_astore0 (lv' := [some (.ref (ad 0)), some (.int c), some (.int i), some (.int d), some (.int j), some (.int m), some (.ref (pa q7)), some (.null), none]) rfl (Nat.le_of_ble_eq_true rfl) rfl ?_
              refine r_aload rfl rfl ?_
              refine r_ifnullA (tg := 52) rfl rfl ?_
              refine r_aload0 rfl rfl ?_
              refine r_ifnonnullN (tg := 59) rfl rfl ?_
              refine r_aload rfl rfl ?_
              refine r_ic (x := (-11)) rfl rfl ?_
              refine r_cv (y := 13) (ra := [.int (-11)]) (rest := []) rfl ⟨⟨rfl, rfl⟩, rfl, by decide⟩ (fx_t0 fx) rfl rfl (Nat.le_of_ble_eq_true rfl) ?_
              refine in_13 (Nat.le_of_ble_eq_true rfl) ?_
              show WR _ cd_13 0 [some (.ref (ad 0)), some (.int (-11))] [] (sI h (ad 0) 6 0) _
              refine r_aload rfl rfl ?_
              refine r_iload rfl rfl ?_
              refine r_putI rfl ⟨rfl, rfl, rfl⟩ (fx_t0 fx) ?_
              have fx : FX n ad sa z0 (sI (sI h (ad 0) 6 0) (ad 0) 6 (-11)) := (FX.sI fx)
              refine r_iload rfl rfl ?_
              refine r_iret rfl ?_
              show WR _ cd_51 58 [some (.ref (ad 0)), some (.int c), some (.int i), some (.int d), some (.int j), some (.int m), some (.ref (pa q7)), some (.null), none] [.int (-11)] (sI (sI h (ad 0) 6 0) (ad 0) 6 (-11)) _
              refine r_iret rfl ?_
              show EV _ 179 [.ref (ad 30), .int c, .int i, .int d, .int j, .int m] (sI (sI h (ad 0) 6 0) (ad 0) 6 (-11)) _
              refine in_179 (Nat.le_of_ble_eq_true rfl) ?_
              show WR _ cd_179 0 [some (.ref (ad 30)), some (.int c), some (.int i), some (.int d), some (.int j), some (.int m), none, none, none, none, none] [] (sI (sI h (ad 0) 6 0) (ad 0) 6 (-11)) _
              refine r_iload rfl rfl ?_
              refine WR_tI (y := nI k2) ek2 ?_
              refine r_cs (y := 153) (ra := [.int (nI k2)]) (rest := []) rfl ⟨⟨rfl, rfl⟩, by decide⟩ rfl rfl (Nat.le_of_ble_eq_true rfl) ?_
              refine in_153 (Nat.le_of_ble_eq_true rfl) ?_
              show WR _ cd_153 0 [some (.int (nI k2))] [] (sI (sI h (ad 0) 6 0) (ad 0) 6 (-11)) _
              refine r_iload rfl rfl ?_
              refine r_if_lt (tg := 14) rfl rfl (fun q => False.elim (by have := i_nlt c1; have := i_rg c; have : (0 : Int32).toInt = 0 := rfl; have := i_eq ek2; have : (nI k2).toInt = ((k2 : Nat) : Int) := nI_toInt (by omega); have := i_nle c3; have : (24 : Int32).toInt = 24 := rfl; have := i_lt q; omega)) (fun _ => ?_)
              refine r_iload rfl rfl ?_
              refine r_ic (x := 24) rfl rfl ?_
              refine r_icmp_ge (tg := 14) rfl rfl (fun q => False.elim (by have := i_nlt c1; have := i_rg c; have : (0 : Int32).toInt = 0 := rfl; have := i_eq ek2; have : (nI k2).toInt = ((k2 : Nat) : Int) := nI_toInt (by omega); have := i_nle c3; have : (24 : Int32).toInt = 24 := rfl; have := i_le q; omega)) (fun _ => ?_)
              refine r_ic (x := 1) rfl rfl ?_
              refine r_goto (tg := 15) rfl rfl ?_
              refine r_zret rfl (.inr rfl) ?_
              show WR _ cd_179 4 [some (.ref (ad 30)), some (.int c), some (.int i), some (.int d), some (.int j), some (.int m), none, none, none, none, none] [.int 1] (sI (sI h (ad 0) 6 0) (ad 0) 6 (-11)) _
              refine r_if_eq (tg := 14) rfl rfl (fun q => absurd q (by decide)) (fun _ => ?_)
              refine r_iload rfl rfl ?_
              refine WR_tI (y := nI k5) ek5 ?_
              refine r_cs (y := 153) (ra := [.int (nI k5)]) (rest := []) rfl ⟨⟨rfl, rfl⟩, by decide⟩ rfl rfl (Nat.le_of_ble_eq_true rfl) ?_
              refine in_153 (Nat.le_of_ble_eq_true rfl) ?_
              show WR _ cd_153 0 [some (.int (nI k5))] [] (sI (sI h (ad 0) 6 0) (ad 0) 6 (-11)) _
              refine r_iload rfl rfl ?_
              refine r_if_lt (tg := 14) rfl rfl (fun q => False.elim (by have := i_nlt c4; have := i_rg d; have : (0 : Int32).toInt = 0 := rfl; have := i_eq ek5; have : (nI k5).toInt = ((k5 : Nat) : Int) := nI_toInt (by omega); have := i_nle c6; have : (24 : Int32).toInt = 24 := rfl; have := i_lt q; omega)) (fun _ => ?_)
              refine r_iload rfl rfl ?_
              refine r_ic (x := 24) rfl rfl ?_
              refine r_icmp_ge (tg := 14) rfl rfl (fun q => False.elim (by have := i_nlt c4; have := i_rg d; have : (0 : Int32).toInt = 0 := rfl; have := i_eq ek5; have : (nI k5).toInt = ((k5 : Nat) : Int) := nI_toInt (by omega); have := i_nle c6; have : (24 : Int32).toInt = 24 := rfl; have := i_le q; omega)) (fun _ => ?_)
              refine r_ic (x := 1) rfl rfl ?_
              refine r_goto (tg := 15) rfl rfl ?_
              refine r_zret rfl (.inr rfl) ?_
              show WR _ cd_179 11 [some (.ref (ad 30)), some (.int c), some (.int i), some (.int d), some (.int j), some (.int m), none, none, none, none, none] [.int 1] (sI (sI h (ad 0) 6 0) (ad 0) 6 (-11)) _
              refine r_if_ne (tg := 21) rfl rfl (fun _ => ?_) (fun q => absurd q (by decide))
              refine r_aload rfl rfl ?_
              refine r_getA (b := ad 31) rfl ⟨rfl, rfl, rfl⟩ (fx_t30 fx) (fx_r30_0 fx) ?_
              refine r_iload rfl rfl ?_
              refine WR_tI (y := nI k2) ek2 ?_
              refine r_iaload rfl (.inl (fx_t31 fx)) (vp_ct (fx_n31 fx) (vp_in_nI (by have := i_nlt c1; have := i_rg c; have : (0 : Int32).toInt = 0 := rfl; have := i_eq ek2; have : (nI k2).toInt = ((k2 : Nat) : Int) := nI_toInt (by omega); have := i_nle c3; have : (24 : Int32).toInt = 24 := rfl; omega) (by omega))) ?_
              refine WR_tI (congrArg (hI (sI (sI h (ad 0) 6 0) (ad 0) 6 (-11)) (ad 31)) ((nI_clamp (by have := i_nlt c1; have := i_rg c; have : (0 : Int32).toInt = 0 := rfl; have := i_eq ek2; have : (nI k2).toInt = ((k2 : Nat) : Int) := nI_toInt (by omega); have := i_nle c3; have : (24 : Int32).toInt = 24 := rfl; omega)) : _ = k2)) ?_
              refine WR_tI (y := nI (q7 + 1000)) (Eq.trans (I_ne (fx_ne fx (by decide))) (Eq.trans (I_ne (fx_ne fx (by decide))) v7)) ?_
              refine r_istore (lv' := [some (.ref (ad 30)), some (.int c), some (.int i), some (.int d), some (.int j), some (.int m), some (.int (nI (q7 + 1000))), none, none, none, none]) rfl (Nat.le_of_ble_eq_true rfl) rfl ?_
              refine r_aload rfl rfl ?_
              refine r_getA (b := ad 31) rfl ⟨rfl, rfl, rfl⟩ (fx_t30 fx) (fx_r30_0 fx) ?_
              refine r_iload rfl rfl ?_
              refine WR_tI (y := nI k5) ek5 ?_
              refine r_iaload rfl (.inl (fx_t31 fx)) (vp_ct (fx_n31 fx) (vp_in_nI (by have := i_nlt c4; have := i_rg d; have : (0 : Int32).toInt = 0 := rfl; have := i_eq ek5; have : (nI k5).toInt = ((k5 : Nat) : Int) := nI_toInt (by omega); have := i_nle c6; have : (24 : Int32).toInt = 24 := rfl; omega) (by omega))) ?_
              refine WR_tI (congrArg (hI (sI (sI h (ad 0) 6 0) (ad 0) 6 (-11)) (ad 31)) ((nI_clamp (by have := i_nlt c4; have := i_rg d; have : (0 : Int32).toInt = 0 := rfl; have := i_eq ek5; have : (nI k5).toInt = ((k5 : Nat) : Int) := nI_toInt (by omega); have := i_nle c6; have : (24 : Int32).toInt = 24 := rfl; omega)) : _ = k5)) ?_
              refine WR_tI (y := (-1)) (Eq.trans (I_ne (fx_ne fx (by decide))) (Eq.trans (I_ne (fx_ne fx (by decide))) v9)) ?_
              refine r_istore (lv' := [some (.ref (ad 30)), some (.int c), some (.int i), some (.int d), some (.int j), some (.int m), some (.int (nI (q7 + 1000))), some (.int (-1)), none, none, none]) rfl (Nat.le_of_ble_eq_true rfl) rfl ?_
              refine r_iload rfl rfl ?_
              refine r_ic (x := (-1)) rfl rfl ?_
              refine r_icmp_eq (tg := 49) rfl rfl (fun q => False.elim (by have : (nI (q7 + 1000)).toInt = ((q7 + 1000 : Nat) : Int) := nI_toInt (by omega); have : (-1 : Int32).toInt = -1 := rfl; have := i_eq q; omega)) (fun _ => ?_)
              refine r_iload rfl rfl ?_
              refine r_ic (x := (-1)) rfl rfl ?_
              refine r_icmp_ne (tg := 55) rfl rfl (fun q => absurd q (by decide)) (fun _ => ?_)
              refine r_aload rfl rfl ?_
              refine r_ic (x := 1) rfl rfl ?_
              refine r_cv (y := 156) (ra := [.int 1]) (rest := []) rfl ⟨⟨rfl, rfl⟩, rfl, by decide⟩ (fx_t30 fx) rfl rfl (Nat.le_of_ble_eq_true rfl) ?_
              refine in_156 (Nat.le_of_ble_eq_true rfl) ?_
              show WR _ cd_156 0 [some (.ref (ad 30)), some (.int 1)] [] (sI (sI h (ad 0) 6 0) (ad 0) 6 (-11)) _
              refine r_aload rfl rfl ?_
              refine r_ic (x := (-10)) rfl rfl ?_
              refine r_iload rfl rfl ?_
              refine r_isub rfl ?_
              refine WR_tI (y := (-11)) rfl ?_
              refine r_cv (y := 154) (ra := [.int (-11)]) (rest := []) rfl ⟨⟨rfl, rfl⟩, rfl, by decide⟩ (fx_t30 fx) rfl rfl (Nat.le_of_ble_eq_true rfl) ?_
              refine in_154 (Nat.le_of_ble_eq_true rfl) ?_
              show WR _ cd_154 0 [some (.ref (ad 30)), some (.int (-11))] [] (sI (sI h (ad 0) 6 0) (ad 0) 6 (-11)) _
              refine r_aload rfl rfl ?_
              refine r_iload rfl rfl ?_
              refine r_ic (x := (-1)) rfl rfl ?_
              refine r_icmp_ge (tg := 10) rfl rfl (fun q => absurd q (by decide)) (fun _ => ?_)
              refine r_iload rfl rfl ?_
              refine r_goto (tg := 11) rfl rfl ?_
              refine r_putI rfl ⟨rfl, rfl, rfl⟩ (fx_t30 fx) ?_
              have fx : FX n ad sa z0 (sI (sI (sI h (ad 0) 6 0) (ad 0) 6 (-11)) (ad 30) 11 (-11)) := (FX.sI fx)
              refine r_iload rfl rfl ?_
              refine r_iret rfl ?_
              show WR _ cd_156 8 [some (.ref (ad 30)), some (.int 1)] [.int (-11)] (sI (sI (sI h (ad 0) 6 0) (ad 0) 6 (-11)) (ad 30) 11 (-11)) _
              refine r_iret rfl ?_
              show WR _ cd_179 54 [some (.ref (ad 30)), some (.int c), some (.int i), some (.int d), some (.int j), some (.int m), some (.int (nI (q7 + 1000))), some (.int (-1)), none, none, none] [.int (-11)] (sI (sI (sI h (ad 0) 6 0) (ad 0) 6 (-11)) (ad 30) 11 (-11)) _
              refine r_iret rfl ?_
              exact ⟨rfl, Rel.why r (((Chg.rf.sI (fx_j fx) (.inl (by decide))).sI (fx_j fx) (.inl (by decide))).sI (fx_j fx) (.inl (by decide))) ⟨rfl, by decide⟩ (Eq.trans (Eq.trans (I_ne (fx_ne fx (by decide))) I_eq) (Eq.symm I_eq)), (by (try simp only [hZ_sI, hZ_sL, hZ_sD, hZ_sR]); omega), (by (try simp only [hU_sI, hU_sL, hU_sD, hU_sR]); omega)⟩
            · refine r_aaloadA (b := pa q9) rfl (isQ_of (fx_t1 fx) (by decide)) (vp_ct (fx_n1 fx) (vp_in_nI (by have := i_nlt c4; have := i_rg d; have : (0 : Int32).toInt = 0 := rfl; have := i_eq ek5; have : (nI k5).toInt = ((k5 : Nat) : Int) := nI_toInt (by omega); have := i_nle c6; have : (24 : Int32).toInt = 24 := rfl; omega) (by omega))) (Eq.trans (congrArg (hR (sI h (ad 0) 6 0) (ad 1)) ((nI_clamp (by have := i_nlt c4; have := i_rg d; have : (0 : Int32).toInt = 0 := rfl; have := i_eq ek5; have : (nI k5).toInt = ((k5 : Nat) : Int) := nI_toInt (by omega); have := i_nle c6; have : (24 : Int32).toInt = 24 := rfl; omega)) : _ = k5)) (Eq.trans R_oI w9)) ?_
              refine r_astore (lv' := [some (.ref (ad 0)), some (.int c), some (.int i), some (.int d), some (.int j), some (.int m), some (.ref (pa q7)), some (.ref (pa q9)), none]) rfl (Nat.le_of_ble_eq_true rfl) rfl ?_
              refine r_aload rfl rfl ?_
              refine r_ifnullA (tg := 52) rfl rfl ?_
              refine r_aload rfl rfl ?_
              refine r_ifnonnullA (tg := 59) rfl rfl ?_
              refine r_aload rfl rfl ?_
              refine r_aload rfl rfl ?_
              refine r_cw (y := 52) (ra := [.ref (pa q9)]) (rest := []) rfl ⟨rfl, rfl⟩ (by rw [show hT (sI h (ad 0) 6 0) (pa q7) = 4 from tg7]; rfl) rfl rfl (Nat.le_of_ble_eq_true rfl) ?_
              refine in_52 (Nat.le_of_ble_eq_true rfl) ?_
              show WR _ cd_52 0 [some (.ref (pa q7)), some (.ref (pa q9))] [] (sI h (ad 0) 6 0) _
              refine r_ic (x := 0) rfl rfl ?_
              refine r_zret rfl (.inl rfl) ?_
              show WR _ cd_51 66 [some (.ref (ad 0)), some (.int c), some (.int i), some (.int d), some (.int j), some (.int m), some (.ref (pa q7)), some (.ref (pa q9)), none] [.int 0] (sI h (ad 0) 6 0) _
              refine r_if_ne (tg := 76) rfl rfl (fun q => absurd q (by decide)) (fun _ => ?_)
              refine r_aload rfl rfl ?_
              refine r_ic (x := (-15)) rfl rfl ?_
              refine r_cv (y := 13) (ra := [.int (-15)]) (rest := []) rfl ⟨⟨rfl, rfl⟩, rfl, by decide⟩ (fx_t0 fx) rfl rfl (Nat.le_of_ble_eq_true rfl) ?_
              refine in_13 (Nat.le_of_ble_eq_true rfl) ?_
              show WR _ cd_13 0 [some (.ref (ad 0)), some (.int (-15))] [] (sI h (ad 0) 6 0) _
              refine r_aload rfl rfl ?_
              refine r_iload rfl rfl ?_
              refine r_putI rfl ⟨rfl, rfl, rfl⟩ (fx_t0 fx) ?_
              have fx : FX n ad sa z0 (sI (sI h (ad 0) 6 0) (ad 0) 6 (-15)) := (FX.sI fx)
              refine r_iload rfl rfl ?_
              refine r_iret rfl ?_
              show WR _ cd_51 75 [some (.ref (ad 0)), some (.int c), some (.int i), some (.int d), some (.int j), some (.int m), some (.ref (pa q7)), some (.ref (pa q9)), none] [.int (-15)] (sI (sI h (ad 0) 6 0) (ad 0) 6 (-15)) _
              refine r_iret rfl ?_
              show EV _ 179 [.ref (ad 30), .int c, .int i, .int d, .int j, .int m] (sI (sI h (ad 0) 6 0) (ad 0) 6 (-15)) _
              refine in_179 (Nat.le_of_ble_eq_true rfl) ?_
              show WR _ cd_179 0 [some (.ref (ad 30)), some (.int c), some (.int i), some (.int d), some (.int j), some (.int m), none, none, none, none, none] [] (sI (sI h (ad 0) 6 0) (ad 0) 6 (-15)) _
              refine r_iload rfl rfl ?_
              refine WR_tI (y := nI k2) ek2 ?_
              refine r_cs (y := 153) (ra := [.int (nI k2)]) (rest := []) rfl ⟨⟨rfl, rfl⟩, by decide⟩ rfl rfl (Nat.le_of_ble_eq_true rfl) ?_
              refine in_153 (Nat.le_of_ble_eq_true rfl) ?_
              show WR _ cd_153 0 [some (.int (nI k2))] [] (sI (sI h (ad 0) 6 0) (ad 0) 6 (-15)) _
              refine r_iload rfl rfl ?_
              refine r_if_lt (tg := 14) rfl rfl (fun q => False.elim (by have := i_nlt c1; have := i_rg c; have : (0 : Int32).toInt = 0 := rfl; have := i_eq ek2; have : (nI k2).toInt = ((k2 : Nat) : Int) := nI_toInt (by omega); have := i_nle c3; have : (24 : Int32).toInt = 24 := rfl; have := i_lt q; omega)) (fun _ => ?_)
              refine r_iload rfl rfl ?_
              refine r_ic (x := 24) rfl rfl ?_
              refine r_icmp_ge (tg := 14) rfl rfl (fun q => False.elim (by have := i_nlt c1; have := i_rg c; have : (0 : Int32).toInt = 0 := rfl; have := i_eq ek2; have : (nI k2).toInt = ((k2 : Nat) : Int) := nI_toInt (by omega); have := i_nle c3; have : (24 : Int32).toInt = 24 := rfl; have := i_le q; omega)) (fun _ => ?_)
              refine r_ic (x := 1) rfl rfl ?_
              refine r_goto (tg := 15) rfl rfl ?_
              refine r_zret rfl (.inr rfl) ?_
              show WR _ cd_179 4 [some (.ref (ad 30)), some (.int c), some (.int i), some (.int d), some (.int j), some (.int m), none, none, none, none, none] [.int 1] (sI (sI h (ad 0) 6 0) (ad 0) 6 (-15)) _
              refine r_if_eq (tg := 14) rfl rfl (fun q => absurd q (by decide)) (fun _ => ?_)
              refine r_iload rfl rfl ?_
              refine WR_tI (y := nI k5) ek5 ?_
              refine r_cs (y := 153) (ra := [.int (nI k5)]) (rest := []) rfl ⟨⟨rfl, rfl⟩, by decide⟩ rfl rfl (Nat.le_of_ble_eq_true rfl) ?_
              refine in_153 (Nat.le_of_ble_eq_true rfl) ?_
              show WR _ cd_153 0 [some (.int (nI k5))] [] (sI (sI h (ad 0) 6 0) (ad 0) 6 (-15)) _
              refine r_iload rfl rfl ?_
              refine r_if_lt (tg := 14) rfl rfl (fun q => False.elim (by have := i_nlt c4; have := i_rg d; have : (0 : Int32).toInt = 0 := rfl; have := i_eq ek5; have : (nI k5).toInt = ((k5 : Nat) : Int) := nI_toInt (by omega); have := i_nle c6; have : (24 : Int32).toInt = 24 := rfl; have := i_lt q; omega)) (fun _ => ?_)
              refine r_iload rfl rfl ?_
              refine r_ic (x := 24) rfl rfl ?_
              refine r_icmp_ge (tg := 14) rfl rfl (fun q => False.elim (by have := i_nlt c4; have := i_rg d; have : (0 : Int32).toInt = 0 := rfl; have := i_eq ek5; have : (nI k5).toInt = ((k5 : Nat) : Int) := nI_toInt (by omega); have := i_nle c6; have : (24 : Int32).toInt = 24 := rfl; have := i_le q; omega)) (fun _ => ?_)
              refine r_ic (x := 1) rfl rfl ?_
              refine r_goto (tg := 15) rfl rfl ?_
              refine r_zret rfl (.inr rfl) ?_
              show WR _ cd_179 11 [some (.ref (ad 30)), some (.int c), some (.int i), some (.int d), some (.int j), some (.int m), none, none, none, none, none] [.int 1] (sI (sI h (ad 0) 6 0) (ad 0) 6 (-15)) _
              refine r_if_ne (tg := 21) rfl rfl (fun _ => ?_) (fun q => absurd q (by decide))
              refine r_aload rfl rfl ?_
              refine r_getA (b := ad 31) rfl ⟨rfl, rfl, rfl⟩ (fx_t30 fx) (fx_r30_0 fx) ?_
              refine r_iload rfl rfl ?_
              refine WR_tI (y := nI k2) ek2 ?_
              refine r_iaload rfl (.inl (fx_t31 fx)) (vp_ct (fx_n31 fx) (vp_in_nI (by have := i_nlt c1; have := i_rg c; have : (0 : Int32).toInt = 0 := rfl; have := i_eq ek2; have : (nI k2).toInt = ((k2 : Nat) : Int) := nI_toInt (by omega); have := i_nle c3; have : (24 : Int32).toInt = 24 := rfl; omega) (by omega))) ?_
              refine WR_tI (congrArg (hI (sI (sI h (ad 0) 6 0) (ad 0) 6 (-15)) (ad 31)) ((nI_clamp (by have := i_nlt c1; have := i_rg c; have : (0 : Int32).toInt = 0 := rfl; have := i_eq ek2; have : (nI k2).toInt = ((k2 : Nat) : Int) := nI_toInt (by omega); have := i_nle c3; have : (24 : Int32).toInt = 24 := rfl; omega)) : _ = k2)) ?_
              refine WR_tI (y := nI (q7 + 1000)) (Eq.trans (I_ne (fx_ne fx (by decide))) (Eq.trans (I_ne (fx_ne fx (by decide))) v7)) ?_
              refine r_istore (lv' := [some (.ref (ad 30)), some (.int c), some (.int i), some (.int d), some (.int j), some (.int m), some (.int (nI (q7 + 1000))), none, none, none, none]) rfl (Nat.le_of_ble_eq_true rfl) rfl ?_
              refine r_aload rfl rfl ?_
              refine r_getA (b := ad 31) rfl ⟨rfl, rfl, rfl⟩ (fx_t30 fx) (fx_r30_0 fx) ?_
              refine r_iload rfl rfl ?_
              refine WR_tI (y := nI k5) ek5 ?_
              refine r_iaload rfl (.inl (fx_t31 fx)) (vp_ct (fx_n31 fx) (vp_in_nI (by have := i_nlt c4; have := i_rg d; have : (0 : Int32).toInt = 0 := rfl; have := i_eq ek5; have : (nI k5).toInt = ((k5 : Nat) : Int) := nI_toInt (by omega); have := i_nle c6; have : (24 : Int32).toInt = 24 := rfl; omega) (by omega))) ?_
              refine WR_tI (congrArg (hI (sI (sI h (ad 0) 6 0) (ad 0) 6 (-15)) (ad 31)) ((nI_clamp (by have := i_nlt c4; have := i_rg d; have : (0 : Int32).toInt = 0 := rfl; have := i_eq ek5; have : (nI k5).toInt = ((k5 : Nat) : Int) := nI_toInt (by omega); have := i_nle c6; have : (24 : Int32).toInt = 24 := rfl; omega)) : _ = k5)) ?_
              refine WR_tI (y := nI (q9 + 1000)) (Eq.trans (I_ne (fx_ne fx (by decide))) (Eq.trans (I_ne (fx_ne fx (by decide))) v9)) ?_
              refine r_istore (lv' := [some (.ref (ad 30)), some (.int c), some (.int i), some (.int d), some (.int j), some (.int m), some (.int (nI (q7 + 1000))), some (.int (nI (q9 + 1000))), none, none, none]) rfl (Nat.le_of_ble_eq_true rfl) rfl ?_
              refine r_iload rfl rfl ?_
              refine r_ic (x := (-1)) rfl rfl ?_
              refine r_icmp_eq (tg := 49) rfl rfl (fun q => False.elim (by have : (nI (q7 + 1000)).toInt = ((q7 + 1000 : Nat) : Int) := nI_toInt (by omega); have : (-1 : Int32).toInt = -1 := rfl; have := i_eq q; omega)) (fun _ => ?_)
              refine r_iload rfl rfl ?_
              refine r_ic (x := (-1)) rfl rfl ?_
              refine r_icmp_ne (tg := 55) rfl rfl (fun _ => ?_) (fun q => False.elim (by have : (nI (q9 + 1000)).toInt = ((q9 + 1000 : Nat) : Int) := nI_toInt (by omega); have : (-1 : Int32).toInt = -1 := rfl; have := i_eq q; omega))
              refine r_iload rfl rfl ?_
              refine r_ic (x := 1000) rfl rfl ?_
              refine r_icmp_ge (tg := 112) rfl rfl (fun _ => ?_) (fun q => False.elim (by have : (nI (q7 + 1000)).toInt = ((q7 + 1000 : Nat) : Int) := nI_toInt (by omega); have : (1000 : Int32).toInt = 1000 := rfl; have := i_nle q; omega))
              refine r_aload rfl rfl ?_
              refine r_ic (x := 5) rfl rfl ?_
              refine r_cv (y := 156) (ra := [.int 5]) (rest := []) rfl ⟨⟨rfl, rfl⟩, rfl, by decide⟩ (fx_t30 fx) rfl rfl (Nat.le_of_ble_eq_true rfl) ?_
              refine in_156 (Nat.le_of_ble_eq_true rfl) ?_
              show WR _ cd_156 0 [some (.ref (ad 30)), some (.int 5)] [] (sI (sI h (ad 0) 6 0) (ad 0) 6 (-15)) _
              refine r_aload rfl rfl ?_
              refine r_ic (x := (-10)) rfl rfl ?_
              refine r_iload rfl rfl ?_
              refine r_isub rfl ?_
              refine WR_tI (y := (-15)) rfl ?_
              refine r_cv (y := 154) (ra := [.int (-15)]) (rest := []) rfl ⟨⟨rfl, rfl⟩, rfl, by decide⟩ (fx_t30 fx) rfl rfl (Nat.le_of_ble_eq_true rfl) ?_
              refine in_154 (Nat.le_of_ble_eq_true rfl) ?_
              show WR _ cd_154 0 [some (.ref (ad 30)), some (.int (-15))] [] (sI (sI h (ad 0) 6 0) (ad 0) 6 (-15)) _
              refine r_aload rfl rfl ?_
              refine r_iload rfl rfl ?_
              refine r_ic (x := (-1)) rfl rfl ?_
              refine r_icmp_ge (tg := 10) rfl rfl (fun q => absurd q (by decide)) (fun _ => ?_)
              refine r_iload rfl rfl ?_
              refine r_goto (tg := 11) rfl rfl ?_
              refine r_putI rfl ⟨rfl, rfl, rfl⟩ (fx_t30 fx) ?_
              have fx : FX n ad sa z0 (sI (sI (sI h (ad 0) 6 0) (ad 0) 6 (-15)) (ad 30) 11 (-15)) := (FX.sI fx)
              refine r_iload rfl rfl ?_
              refine r_iret rfl ?_
              show WR _ cd_156 8 [some (.ref (ad 30)), some (.int 5)] [.int (-15)] (sI (sI (sI h (ad 0) 6 0) (ad 0) 6 (-15)) (ad 30) 11 (-15)) _
              refine r_iret rfl ?_
              show WR _ cd_179 117 [some (.ref (ad 30)), some (.int c), some (.int i), some (.int d), some (.int j), some (.int m), some (.int (nI (q7 + 1000))), some (.int (nI (q9 + 1000))), none, none, none] [.int (-15)] (sI (sI (sI h (ad 0) 6 0) (ad 0) 6 (-15)) (ad 30) 11 (-15)) _
              refine r_iret rfl ?_
              exact ⟨rfl, Rel.why r (((Chg.rf.sI (fx_j fx) (.inl (by decide))).sI (fx_j fx) (.inl (by decide))).sI (fx_j fx) (.inl (by decide))) ⟨rfl, by decide⟩ (Eq.trans (Eq.trans (I_ne (fx_ne fx (by decide))) I_eq) (Eq.symm I_eq)), (by (try simp only [hZ_sI, hZ_sL, hZ_sD, hZ_sR]); omega), (by (try simp only [hU_sI, hU_sL, hU_sD, hU_sR]); omega)⟩
            · refine r_aaloadA (b := mid t9) rfl (isQ_of (fx_t1 fx) (by decide)) (vp_ct (fx_n1 fx) (vp_in_nI (by have := i_nlt c4; have := i_rg d; have : (0 : Int32).toInt = 0 := rfl; have := i_eq ek5; have : (nI k5).toInt = ((k5 : Nat) : Int) := nI_toInt (by omega); have := i_nle c6; have : (24 : Int32).toInt = 24 := rfl; omega) (by omega))) (Eq.trans (congrArg (hR (sI h (ad 0) 6 0) (ad 1)) ((nI_clamp (by have := i_nlt c4; have := i_rg d; have : (0 : Int32).toInt = 0 := rfl; have := i_eq ek5; have : (nI k5).toInt = ((k5 : Nat) : Int) := nI_toInt (by omega); have := i_nle c6; have : (24 : Int32).toInt = 24 := rfl; omega)) : _ = k5)) (Eq.trans R_oI w9)) ?_
              refine r_astore (lv' := [some (.ref (ad 0)), some (.int c), some (.int i), some (.int d), some (.int j), some (.int m), some (.ref (pa q7)), some (.ref (mid t9)), none]) rfl (Nat.le_of_ble_eq_true rfl) rfl ?_
              refine r_aload rfl rfl ?_
              refine r_ifnullA (tg := 52) rfl rfl ?_
              refine r_aload rfl rfl ?_
              refine r_ifnonnullA (tg := 59) rfl rfl ?_
              refine r_aload rfl rfl ?_
              refine r_aload rfl rfl ?_
              refine r_cw (y := 52) (ra := [.ref (mid t9)]) (rest := []) rfl ⟨rfl, rfl⟩ (by rw [show hT (sI h (ad 0) 6 0) (pa q7) = 4 from tg7]; rfl) rfl rfl (Nat.le_of_ble_eq_true rfl) ?_
              refine in_52 (Nat.le_of_ble_eq_true rfl) ?_
              show WR _ cd_52 0 [some (.ref (pa q7)), some (.ref (mid t9))] [] (sI h (ad 0) 6 0) _
              refine r_ic (x := 0) rfl rfl ?_
              refine r_zret rfl (.inl rfl) ?_
              show WR _ cd_51 66 [some (.ref (ad 0)), some (.int c), some (.int i), some (.int d), some (.int j), some (.int m), some (.ref (pa q7)), some (.ref (mid t9)), none] [.int 0] (sI h (ad 0) 6 0) _
              refine r_if_ne (tg := 76) rfl rfl (fun q => absurd q (by decide)) (fun _ => ?_)
              refine r_aload rfl rfl ?_
              refine r_ic (x := (-15)) rfl rfl ?_
              refine r_cv (y := 13) (ra := [.int (-15)]) (rest := []) rfl ⟨⟨rfl, rfl⟩, rfl, by decide⟩ (fx_t0 fx) rfl rfl (Nat.le_of_ble_eq_true rfl) ?_
              refine in_13 (Nat.le_of_ble_eq_true rfl) ?_
              show WR _ cd_13 0 [some (.ref (ad 0)), some (.int (-15))] [] (sI h (ad 0) 6 0) _
              refine r_aload rfl rfl ?_
              refine r_iload rfl rfl ?_
              refine r_putI rfl ⟨rfl, rfl, rfl⟩ (fx_t0 fx) ?_
              have fx : FX n ad sa z0 (sI (sI h (ad 0) 6 0) (ad 0) 6 (-15)) := (FX.sI fx)
              refine r_iload rfl rfl ?_
              refine r_iret rfl ?_
              show WR _ cd_51 75 [some (.ref (ad 0)), some (.int c), some (.int i), some (.int d), some (.int j), some (.int m), some (.ref (pa q7)), some (.ref (mid t9)), none] [.int (-15)] (sI (sI h (ad 0) 6 0) (ad 0) 6 (-15)) _
              refine r_iret rfl ?_
              show EV _ 179 [.ref (ad 30), .int c, .int i, .int d, .int j, .int m] (sI (sI h (ad 0) 6 0) (ad 0) 6 (-15)) _
              refine in_179 (Nat.le_of_ble_eq_true rfl) ?_
              show WR _ cd_179 0 [some (.ref (ad 30)), some (.int c), some (.int i), some (.int d), some (.int j), some (.int m), none, none, none, none, none] [] (sI (sI h (ad 0) 6 0) (ad 0) 6 (-15)) _
              refine r_iload rfl rfl ?_
              refine WR_tI (y := nI k2) ek2 ?_
              refine r_cs (y := 153) (ra := [.int (nI k2)]) (rest := []) rfl ⟨⟨rfl, rfl⟩, by decide⟩ rfl rfl (Nat.le_of_ble_eq_true rfl) ?_
              refine in_153 (Nat.le_of_ble_eq_true rfl) ?_
              show WR _ cd_153 0 [some (.int (nI k2))] [] (sI (sI h (ad 0) 6 0) (ad 0) 6 (-15)) _
              refine r_iload rfl rfl ?_
              refine r_if_lt (tg := 14) rfl rfl (fun q => False.elim (by have := i_nlt c1; have := i_rg c; have : (0 : Int32).toInt = 0 := rfl; have := i_eq ek2; have : (nI k2).toInt = ((k2 : Nat) : Int) := nI_toInt (by omega); have := i_nle c3; have : (24 : Int32).toInt = 24 := rfl; have := i_lt q; omega)) (fun _ => ?_)
              refine r_iload rfl rfl ?_
              refine r_ic (x := 24) rfl rfl ?_
              refine r_icmp_ge (tg := 14) rfl rfl (fun q => False.elim (by have := i_nlt c1; have := i_rg c; have : (0 : Int32).toInt = 0 := rfl; have := i_eq ek2; have : (nI k2).toInt = ((k2 : Nat) : Int) := nI_toInt (by omega); have := i_nle c3; have : (24 : Int32).toInt = 24 := rfl; have := i_le q; omega)) (fun _ => ?_)
              refine r_ic (x := 1) rfl rfl ?_
              refine r_goto (tg := 15) rfl rfl ?_
              refine r_zret rfl (.inr rfl) ?_
              show WR _ cd_179 4 [some (.ref (ad 30)), some (.int c), some (.int i), some (.int d), some (.int j), some (.int m), none, none, none, none, none] [.int 1] (sI (sI h (ad 0) 6 0) (ad 0) 6 (-15)) _
              refine r_if_eq (tg := 14) rfl rfl (fun q => absurd q (by decide)) (fun _ => ?_)
              refine r_iload rfl rfl ?_
              refine WR_tI (y := nI k5) ek5 ?_
              refine r_cs (y := 153) (ra := [.int (nI k5)]) (rest := []) rfl ⟨⟨rfl, rfl⟩, by decide⟩ rfl rfl (Nat.le_of_ble_eq_true rfl) ?_
              refine in_153 (Nat.le_of_ble_eq_true rfl) ?_
              show WR _ cd_153 0 [some (.int (nI k5))] [] (sI (sI h (ad 0) 6 0) (ad 0) 6 (-15)) _
              refine r_iload rfl rfl ?_
              refine r_if_lt (tg := 14) rfl rfl (fun q => False.elim (by have := i_nlt c4; have := i_rg d; have : (0 : Int32).toInt = 0 := rfl; have := i_eq ek5; have : (nI k5).toInt = ((k5 : Nat) : Int) := nI_toInt (by omega); have := i_nle c6; have : (24 : Int32).toInt = 24 := rfl; have := i_lt q; omega)) (fun _ => ?_)
              refine r_iload rfl rfl ?_
              refine r_ic (x := 24) rfl rfl ?_
              refine r_icmp_ge (tg := 14) rfl rfl (fun q => False.elim (by have := i_nlt c4; have := i_rg d; have : (0 : Int32).toInt = 0 := rfl; have := i_eq ek5; have : (nI k5).toInt = ((k5 : Nat) : Int) := nI_toInt (by omega); have := i_nle c6; have : (24 : Int32).toInt = 24 := rfl; have := i_le q; omega)) (fun _ => ?_)
              refine r_ic (x := 1) rfl rfl ?_
              refine r_goto (tg := 15) rfl rfl ?_
              refine r_zret rfl (.inr rfl) ?_
              show WR _ cd_179 11 [some (.ref (ad 30)), some (.int c), some (.int i), some (.int d), some (.int j), some (.int m), none, none, none, none, none] [.int 1] (sI (sI h (ad 0) 6 0) (ad 0) 6 (-15)) _
              refine r_if_ne (tg := 21) rfl rfl (fun _ => ?_) (fun q => absurd q (by decide))
              refine r_aload rfl rfl ?_
              refine r_getA (b := ad 31) rfl ⟨rfl, rfl, rfl⟩ (fx_t30 fx) (fx_r30_0 fx) ?_
              refine r_iload rfl rfl ?_
              refine WR_tI (y := nI k2) ek2 ?_
              refine r_iaload rfl (.inl (fx_t31 fx)) (vp_ct (fx_n31 fx) (vp_in_nI (by have := i_nlt c1; have := i_rg c; have : (0 : Int32).toInt = 0 := rfl; have := i_eq ek2; have : (nI k2).toInt = ((k2 : Nat) : Int) := nI_toInt (by omega); have := i_nle c3; have : (24 : Int32).toInt = 24 := rfl; omega) (by omega))) ?_
              refine WR_tI (congrArg (hI (sI (sI h (ad 0) 6 0) (ad 0) 6 (-15)) (ad 31)) ((nI_clamp (by have := i_nlt c1; have := i_rg c; have : (0 : Int32).toInt = 0 := rfl; have := i_eq ek2; have : (nI k2).toInt = ((k2 : Nat) : Int) := nI_toInt (by omega); have := i_nle c3; have : (24 : Int32).toInt = 24 := rfl; omega)) : _ = k2)) ?_
              refine WR_tI (y := nI (q7 + 1000)) (Eq.trans (I_ne (fx_ne fx (by decide))) (Eq.trans (I_ne (fx_ne fx (by decide))) v7)) ?_
              refine r_istore (lv' := [some (.ref (ad 30)), some (.int c), some (.int i), some (.int d), some (.int j), some (.int m), some (.int (nI (q7 + 1000))), none, none, none, none]) rfl (Nat.le_of_ble_eq_true rfl) rfl ?_
              refine r_aload rfl rfl ?_
              refine r_getA (b := ad 31) rfl ⟨rfl, rfl, rfl⟩ (fx_t30 fx) (fx_r30_0 fx) ?_
              refine r_iload rfl rfl ?_
              refine WR_tI (y := nI k5) ek5 ?_
              refine r_iaload rfl (.inl (fx_t31 fx)) (vp_ct (fx_n31 fx) (vp_in_nI (by have := i_nlt c4; have := i_rg d; have : (0 : Int32).toInt = 0 := rfl; have := i_eq ek5; have : (nI k5).toInt = ((k5 : Nat) : Int) := nI_toInt (by omega); have := i_nle c6; have : (24 : Int32).toInt = 24 := rfl; omega) (by omega))) ?_
              refine WR_tI (congrArg (hI (sI (sI h (ad 0) 6 0) (ad 0) 6 (-15)) (ad 31)) ((nI_clamp (by have := i_nlt c4; have := i_rg d; have : (0 : Int32).toInt = 0 := rfl; have := i_eq ek5; have : (nI k5).toInt = ((k5 : Nat) : Int) := nI_toInt (by omega); have := i_nle c6; have : (24 : Int32).toInt = 24 := rfl; omega)) : _ = k5)) ?_
              refine WR_tI (y := nI t9) (Eq.trans (I_ne (fx_ne fx (by decide))) (Eq.trans (I_ne (fx_ne fx (by decide))) v9)) ?_
              refine r_istore (lv' := [some (.ref (ad 30)), some (.int c), some (.int i), some (.int d), some (.int j), some (.int m), some (.int (nI (q7 + 1000))), some (.int (nI t9)), none, none, none]) rfl (Nat.le_of_ble_eq_true rfl) rfl ?_
              refine r_iload rfl rfl ?_
              refine r_ic (x := (-1)) rfl rfl ?_
              refine r_icmp_eq (tg := 49) rfl rfl (fun q => False.elim (by have : (nI (q7 + 1000)).toInt = ((q7 + 1000 : Nat) : Int) := nI_toInt (by omega); have : (-1 : Int32).toInt = -1 := rfl; have := i_eq q; omega)) (fun _ => ?_)
              refine r_iload rfl rfl ?_
              refine r_ic (x := (-1)) rfl rfl ?_
              refine r_icmp_ne (tg := 55) rfl rfl (fun _ => ?_) (fun q => False.elim (by have : (nI t9).toInt = ((t9 : Nat) : Int) := nI_toInt (by omega); have : (-1 : Int32).toInt = -1 := rfl; have := i_eq q; omega))
              refine r_iload rfl rfl ?_
              refine r_ic (x := 1000) rfl rfl ?_
              refine r_icmp_ge (tg := 112) rfl rfl (fun _ => ?_) (fun q => False.elim (by have : (nI (q7 + 1000)).toInt = ((q7 + 1000 : Nat) : Int) := nI_toInt (by omega); have : (1000 : Int32).toInt = 1000 := rfl; have := i_nle q; omega))
              refine r_aload rfl rfl ?_
              refine r_ic (x := 5) rfl rfl ?_
              refine r_cv (y := 156) (ra := [.int 5]) (rest := []) rfl ⟨⟨rfl, rfl⟩, rfl, by decide⟩ (fx_t30 fx) rfl rfl (Nat.le_of_ble_eq_true rfl) ?_
              refine in_156 (Nat.le_of_ble_eq_true rfl) ?_
              show WR _ cd_156 0 [some (.ref (ad 30)), some (.int 5)] [] (sI (sI h (ad 0) 6 0) (ad 0) 6 (-15)) _
              refine r_aload rfl rfl ?_
              refine r_ic (x := (-10)) rfl rfl ?_
              refine r_iload rfl rfl ?_
              refine r_isub rfl ?_
              refine WR_tI (y := (-15)) rfl ?_
              refine r_cv (y := 154) (ra := [.int (-15)]) (rest := []) rfl ⟨⟨rfl, rfl⟩, rfl, by decide⟩ (fx_t30 fx) rfl rfl (Nat.le_of_ble_eq_true rfl) ?_
              refine in_154 (Nat.le_of_ble_eq_true rfl) ?_
              show WR _ cd_154 0 [some (.ref (ad 30)), some (.int (-15))] [] (sI (sI h (ad 0) 6 0) (ad 0) 6 (-15)) _
              refine r_aload rfl rfl ?_
              refine r_iload rfl rfl ?_
              refine r_ic (x := (-1)) rfl rfl ?_
              refine r_icmp_ge (tg := 10) rfl rfl (fun q => absurd q (by decide)) (fun _ => ?_)
              refine r_iload rfl rfl ?_
              refine r_goto (tg := 11) rfl rfl ?_
              refine r_putI rfl ⟨rfl, rfl, rfl⟩ (fx_t30 fx) ?_
              have fx : FX n ad sa z0 (sI (sI (sI h (ad 0) 6 0) (ad 0) 6 (-15)) (ad 30) 11 (-15)) := (FX.sI fx)
              refine r_iload rfl rfl ?_
              refine r_iret rfl ?_
              show WR _ cd_156 8 [some (.ref (ad 30)), some (.int 5)] [.int (-15)] (sI (sI (sI h (ad 0) 6 0) (ad 0) 6 (-15)) (ad 30) 11 (-15)) _
              refine r_iret rfl ?_
              show WR _ cd_179 117 [some (.ref (ad 30)), some (.int c), some (.int i), some (.int d), some (.int j), some (.int m), some (.int (nI (q7 + 1000))), some (.int (nI t9)), none, none, none] [.int (-15)] (sI (sI (sI h (ad 0) 6 0) (ad 0) 6 (-15)) (ad 30) 11 (-15)) _
              refine r_iret rfl ?_
              exact ⟨rfl, Rel.why r (((Chg.rf.sI (fx_j fx) (.inl (by decide))).sI (fx_j fx) (.inl (by decide))).sI (fx_j fx) (.inl (by decide))) ⟨rfl, by decide⟩ (Eq.trans (Eq.trans (I_ne (fx_ne fx (by decide))) I_eq) (Eq.symm I_eq)), (by (try simp only [hZ_sI, hZ_sL, hZ_sD, hZ_sR]); omega), (by (try simp only [hU_sI, hU_sL, hU_sD, hU_sR]); omega)⟩
            · refine r_aaloadA (b := mid t9) rfl (isQ_of (fx_t1 fx) (by decide)) (vp_ct (fx_n1 fx) (vp_in_nI (by have := i_nlt c4; have := i_rg d; have : (0 : Int32).toInt = 0 := rfl; have := i_eq ek5; have : (nI k5).toInt = ((k5 : Nat) : Int) := nI_toInt (by omega); have := i_nle c6; have : (24 : Int32).toInt = 24 := rfl; omega) (by omega))) (Eq.trans (congrArg (hR (sI h (ad 0) 6 0) (ad 1)) ((nI_clamp (by have := i_nlt c4; have := i_rg d; have : (0 : Int32).toInt = 0 := rfl; have := i_eq ek5; have : (nI k5).toInt = ((k5 : Nat) : Int) := nI_toInt (by omega); have := i_nle c6; have : (24 : Int32).toInt = 24 := rfl; omega)) : _ = k5)) (Eq.trans R_oI w9)) ?_
              refine r_astore (lv' := [some (.ref (ad 0)), some (.int c), some (.int i), some (.int d), some (.int j), some (.int m), some (.ref (pa q7)), some (.ref (mid t9)), none]) rfl (Nat.le_of_ble_eq_true rfl) rfl ?_
              refine r_aload rfl rfl ?_
              refine r_ifnullA (tg := 52) rfl rfl ?_
              refine r_aload rfl rfl ?_
              refine r_ifnonnullA (tg := 59) rfl rfl ?_
              refine r_aload rfl rfl ?_
              refine r_aload rfl rfl ?_
              refine r_cw (y := 52) (ra := [.ref (mid t9)]) (rest := []) rfl ⟨rfl, rfl⟩ (by rw [show hT (sI h (ad 0) 6 0) (pa q7) = 4 from tg7]; rfl) rfl rfl (Nat.le_of_ble_eq_true rfl) ?_
              refine in_52 (Nat.le_of_ble_eq_true rfl) ?_
              show WR _ cd_52 0 [some (.ref (pa q7)), some (.ref (mid t9))] [] (sI h (ad 0) 6 0) _
              refine r_ic (x := 0) rfl rfl ?_
              refine r_zret rfl (.inl rfl) ?_
              show WR _ cd_51 66 [some (.ref (ad 0)), some (.int c), some (.int i), some (.int d), some (.int j), some (.int m), some (.ref (pa q7)), some (.ref (mid t9)), none] [.int 0] (sI h (ad 0) 6 0) _
              refine r_if_ne (tg := 76) rfl rfl (fun q => absurd q (by decide)) (fun _ => ?_)
              refine r_aload rfl rfl ?_
              refine r_ic (x := (-15)) rfl rfl ?_
              refine r_cv (y := 13) (ra := [.int (-15)]) (rest := []) rfl ⟨⟨rfl, rfl⟩, rfl, by decide⟩ (fx_t0 fx) rfl rfl (Nat.le_of_ble_eq_true rfl) ?_
              refine in_13 (Nat.le_of_ble_eq_true rfl) ?_
              show WR _ cd_13 0 [some (.ref (ad 0)), some (.int (-15))] [] (sI h (ad 0) 6 0) _
              refine r_aload rfl rfl ?_
              refine r_iload rfl rfl ?_
              refine r_putI rfl ⟨rfl, rfl, rfl⟩ (fx_t0 fx) ?_
              have fx : FX n ad sa z0 (sI (sI h (ad 0) 6 0) (ad 0) 6 (-15)) := (FX.sI fx)
              refine r_iload rfl rfl ?_
              refine r_iret rfl ?_
              show WR _ cd_51 75 [some (.ref (ad 0)), some (.int c), some (.int i), some (.int d), some (.int j), some (.int m), some (.ref (pa q7)), some (.ref (mid t9)), none] [.int (-15)] (sI (sI h (ad 0) 6 0) (ad 0) 6 (-15)) _
              refine r_iret rfl ?_
              show EV _ 179 [.ref (ad 30), .int c, .int i, .int d, .int j, .int m] (sI (sI h (ad 0) 6 0) (ad 0) 6 (-15)) _
              refine in_179 (Nat.le_of_ble_eq_true rfl) ?_
              show WR _ cd_179 0 [some (.ref (ad 30)), some (.int c), some (.int i), some (.int d), some (.int j), some (.int m), none, none, none, none, none] [] (sI (sI h (ad 0) 6 0) (ad 0) 6 (-15)) _
              refine r_iload rfl rfl ?_
              refine WR_tI (y := nI k2) ek2 ?_
              refine r_cs (y := 153) (ra := [.int (nI k2)]) (rest := []) rfl ⟨⟨rfl, rfl⟩, by decide⟩ rfl rfl (Nat.le_of_ble_eq_true rfl) ?_
              refine in_153 (Nat.le_of_ble_eq_true rfl) ?_
              show WR _ cd_153 0 [some (.int (nI k2))] [] (sI (sI h (ad 0) 6 0) (ad 0) 6 (-15)) _
              refine r_iload rfl rfl ?_
              refine r_if_lt (tg := 14) rfl rfl (fun q => False.elim (by have := i_nlt c1; have := i_rg c; have : (0 : Int32).toInt = 0 := rfl; have := i_eq ek2; have : (nI k2).toInt = ((k2 : Nat) : Int) := nI_toInt (by omega); have := i_nle c3; have : (24 : Int32).toInt = 24 := rfl; have := i_lt q; omega)) (fun _ => ?_)
              refine r_iload rfl rfl ?_
              refine r_ic (x := 24) rfl rfl ?_
              refine r_icmp_ge (tg := 14) rfl rfl (fun q => False.elim (by have := i_nlt c1; have := i_rg c; have : (0 : Int32).toInt = 0 := rfl; have := i_eq ek2; have : (nI k2).toInt = ((k2 : Nat) : Int) := nI_toInt (by omega); have := i_nle c3; have : (24 : Int32).toInt = 24 := rfl; have := i_le q; omega)) (fun _ => ?_)
              refine r_ic (x := 1) rfl rfl ?_
              refine r_goto (tg := 15) rfl rfl ?_
              refine r_zret rfl (.inr rfl) ?_
              show WR _ cd_179 4 [some (.ref (ad 30)), some (.int c), some (.int i), some (.int d), some (.int j), some (.int m), none, none, none, none, none] [.int 1] (sI (sI h (ad 0) 6 0) (ad 0) 6 (-15)) _
              refine r_if_eq (tg := 14) rfl rfl (fun q => absurd q (by decide)) (fun _ => ?_)
              refine r_iload rfl rfl ?_
              refine WR_tI (y := nI k5) ek5 ?_
              refine r_cs (y := 153) (ra := [.int (nI k5)]) (rest := []) rfl ⟨⟨rfl, rfl⟩, by decide⟩ rfl rfl (Nat.le_of_ble_eq_true rfl) ?_
              refine in_153 (Nat.le_of_ble_eq_true rfl) ?_
              show WR _ cd_153 0 [some (.int (nI k5))] [] (sI (sI h (ad 0) 6 0) (ad 0) 6 (-15)) _
              refine r_iload rfl rfl ?_
              refine r_if_lt (tg := 14) rfl rfl (fun q => False.elim (by have := i_nlt c4; have := i_rg d; have : (0 : Int32).toInt = 0 := rfl; have := i_eq ek5; have : (nI k5).toInt = ((k5 : Nat) : Int) := nI_toInt (by omega); have := i_nle c6; have : (24 : Int32).toInt = 24 := rfl; have := i_lt q; omega)) (fun _ => ?_)
              refine r_iload rfl rfl ?_
              refine r_ic (x := 24) rfl rfl ?_
              refine r_icmp_ge (tg := 14) rfl rfl (fun q => False.elim (by have := i_nlt c4; have := i_rg d; have : (0 : Int32).toInt = 0 := rfl; have := i_eq ek5; have : (nI k5).toInt = ((k5 : Nat) : Int) := nI_toInt (by omega); have := i_nle c6; have : (24 : Int32).toInt = 24 := rfl; have := i_le q; omega)) (fun _ => ?_)
              refine r_ic (x := 1) rfl rfl ?_
              refine r_goto (tg := 15) rfl rfl ?_
              refine r_zret rfl (.inr rfl) ?_
              show WR _ cd_179 11 [some (.ref (ad 30)), some (.int c), some (.int i), some (.int d), some (.int j), some (.int m), none, none, none, none, none] [.int 1] (sI (sI h (ad 0) 6 0) (ad 0) 6 (-15)) _
              refine r_if_ne (tg := 21) rfl rfl (fun _ => ?_) (fun q => absurd q (by decide))
              refine r_aload rfl rfl ?_
              refine r_getA (b := ad 31) rfl ⟨rfl, rfl, rfl⟩ (fx_t30 fx) (fx_r30_0 fx) ?_
              refine r_iload rfl rfl ?_
              refine WR_tI (y := nI k2) ek2 ?_
              refine r_iaload rfl (.inl (fx_t31 fx)) (vp_ct (fx_n31 fx) (vp_in_nI (by have := i_nlt c1; have := i_rg c; have : (0 : Int32).toInt = 0 := rfl; have := i_eq ek2; have : (nI k2).toInt = ((k2 : Nat) : Int) := nI_toInt (by omega); have := i_nle c3; have : (24 : Int32).toInt = 24 := rfl; omega) (by omega))) ?_
              refine WR_tI (congrArg (hI (sI (sI h (ad 0) 6 0) (ad 0) 6 (-15)) (ad 31)) ((nI_clamp (by have := i_nlt c1; have := i_rg c; have : (0 : Int32).toInt = 0 := rfl; have := i_eq ek2; have : (nI k2).toInt = ((k2 : Nat) : Int) := nI_toInt (by omega); have := i_nle c3; have : (24 : Int32).toInt = 24 := rfl; omega)) : _ = k2)) ?_
              refine WR_tI (y := nI (q7 + 1000)) (Eq.trans (I_ne (fx_ne fx (by decide))) (Eq.trans (I_ne (fx_ne fx (by decide))) v7)) ?_
              refine r_istore (lv' := [some (.ref (ad 30)), some (.int c), some (.int i), some (.int d), some (.int j), some (.int m), some (.int (nI (q7 + 1000))), none, none, none, none]) rfl (Nat.le_of_ble_eq_true rfl) rfl ?_
              refine r_aload rfl rfl ?_
              refine r_getA (b := ad 31) rfl ⟨rfl, rfl, rfl⟩ (fx_t30 fx) (fx_r30_0 fx) ?_
              refine r_iload rfl rfl ?_
              refine WR_tI (y := nI k5) ek5 ?_
              refine r_iaload rfl (.inl (fx_t31 fx)) (vp_ct (fx_n31 fx) (vp_in_nI (by have := i_nlt c4; have := i_rg d; have : (0 : Int32).toInt = 0 := rfl; have := i_eq ek5; have : (nI k5).toInt = ((k5 : Nat) : Int) := nI_toInt (by omega); have := i_nle c6; have : (24 : Int32).toInt = 24 := rfl; omega) (by omega))) ?_
              refine WR_tI (congrArg (hI (sI (sI h (ad 0) 6 0) (ad 0) 6 (-15)) (ad 31)) ((nI_clamp (by have := i_nlt c4; have := i_rg d; have : (0 : Int32).toInt = 0 := rfl; have := i_eq ek5; have : (nI k5).toInt = ((k5 : Nat) : Int) := nI_toInt (by omega); have := i_nle c6; have : (24 : Int32).toInt = 24 := rfl; omega)) : _ = k5)) ?_
              refine WR_tI (y := nI t9) (Eq.trans (I_ne (fx_ne fx (by decide))) (Eq.trans (I_ne (fx_ne fx (by decide))) v9)) ?_
              refine r_istore (lv' := [some (.ref (ad 30)), some (.int c), some (.int i), some (.int d), some (.int j), some (.int m), some (.int (nI (q7 + 1000))), some (.int (nI t9)), none, none, none]) rfl (Nat.le_of_ble_eq_true rfl) rfl ?_
              refine r_iload rfl rfl ?_
              refine r_ic (x := (-1)) rfl rfl ?_
              refine r_icmp_eq (tg := 49) rfl rfl (fun q => False.elim (by have : (nI (q7 + 1000)).toInt = ((q7 + 1000 : Nat) : Int) := nI_toInt (by omega); have : (-1 : Int32).toInt = -1 := rfl; have := i_eq q; omega)) (fun _ => ?_)
              refine r_iload rfl rfl ?_
              refine r_ic (x := (-1)) rfl rfl ?_
              refine r_icmp_ne (tg := 55) rfl rfl (fun _ => ?_) (fun q => False.elim (by have : (nI t9).toInt = ((t9 : Nat) : Int) := nI_toInt (by omega); have : (-1 : Int32).toInt = -1 := rfl; have := i_eq q; omega))
              refine r_iload rfl rfl ?_
              refine r_ic (x := 1000) rfl rfl ?_
              refine r_icmp_ge (tg := 112) rfl rfl (fun _ => ?_) (fun q => False.elim (by have : (nI (q7 + 1000)).toInt = ((q7 + 1000 : Nat) : Int) := nI_toInt (by omega); have : (1000 : Int32).toInt = 1000 := rfl; have := i_nle q; omega))
              refine r_aload rfl rfl ?_
              refine r_ic (x := 5) rfl rfl ?_
              refine r_cv (y := 156) (ra := [.int 5]) (rest := []) rfl ⟨⟨rfl, rfl⟩, rfl, by decide⟩ (fx_t30 fx) rfl rfl (Nat.le_of_ble_eq_true rfl) ?_
              refine in_156 (Nat.le_of_ble_eq_true rfl) ?_
              show WR _ cd_156 0 [some (.ref (ad 30)), some (.int 5)] [] (sI (sI h (ad 0) 6 0) (ad 0) 6 (-15)) _
              refine r_aload rfl rfl ?_
              refine r_ic (x := (-10)) rfl rfl ?_
              refine r_iload rfl rfl ?_
              refine r_isub rfl ?_
              refine WR_tI (y := (-15)) rfl ?_
              refine r_cv (y := 154) (ra := [.int (-15)]) (rest := []) rfl ⟨⟨rfl, rfl⟩, rfl, by decide⟩ (fx_t30 fx) rfl rfl (Nat.le_of_ble_eq_true rfl) ?_
              refine in_154 (Nat.le_of_ble_eq_true rfl) ?_
              show WR _ cd_154 0 [some (.ref (ad 30)), some (.int (-15))] [] (sI (sI h (ad 0) 6 0) (ad 0) 6 (-15)) _
              refine r_aload rfl rfl ?_
              refine r_iload rfl rfl ?_
              refine r_ic (x := (-1)) rfl rfl ?_
              refine r_icmp_ge (tg := 10) rfl rfl (fun q => absurd q (by decide)) (fun _ => ?_)
              refine r_iload rfl rfl ?_
              refine r_goto (tg := 11) rfl rfl ?_
              refine r_putI rfl ⟨rfl, rfl, rfl⟩ (fx_t30 fx) ?_
              have fx : FX n ad sa z0 (sI (sI (sI h (ad 0) 6 0) (ad 0) 6 (-15)) (ad 30) 11 (-15)) := (FX.sI fx)
              refine r_iload rfl rfl ?_
              refine r_iret rfl ?_
              show WR _ cd_156 8 [some (.ref (ad 30)), some (.int 5)] [.int (-15)] (sI (sI (sI h (ad 0) 6 0) (ad 0) 6 (-15)) (ad 30) 11 (-15)) _
              refine r_iret rfl ?_
              show WR _ cd_179 117 [some (.ref (ad 30)), some (.int c), some (.int i), some (.int d), some (.int j), some (.int m), some (.int (nI (q7 + 1000))), some (.int (nI t9)), none, none, none] [.int (-15)] (sI (sI (sI h (ad 0) 6 0) (ad 0) 6 (-15)) (ad 30) 11 (-15)) _
              refine r_iret rfl ?_
              exact ⟨rfl, Rel.why r (((Chg.rf.sI (fx_j fx) (.inl (by decide))).sI (fx_j fx) (.inl (by decide))).sI (fx_j fx) (.inl (by decide))) ⟨rfl, by decide⟩ (Eq.trans (Eq.trans (I_ne (fx_ne fx (by decide))) I_eq) (Eq.symm I_eq)), (by (try simp only [hZ_sI, hZ_sL, hZ_sD, hZ_sR]); omega), (by (try simp only [hU_sI, hU_sL, hU_sD, hU_sR]); omega)⟩
            · refine r_aaloadA (b := mid t9) rfl (isQ_of (fx_t1 fx) (by decide)) (vp_ct (fx_n1 fx) (vp_in_nI (by have := i_nlt c4; have := i_rg d; have : (0 : Int32).toInt = 0 := rfl; have := i_eq ek5; have : (nI k5).toInt = ((k5 : Nat) : Int) := nI_toInt (by omega); have := i_nle c6; have : (24 : Int32).toInt = 24 := rfl; omega) (by omega))) (Eq.trans (congrArg (hR (sI h (ad 0) 6 0) (ad 1)) ((nI_clamp (by have := i_nlt c4; have := i_rg d; have : (0 : Int32).toInt = 0 := rfl; have := i_eq ek5; have : (nI k5).toInt = ((k5 : Nat) : Int) := nI_toInt (by omega); have := i_nle c6; have : (24 : Int32).toInt = 24 := rfl; omega)) : _ = k5)) (Eq.trans R_oI w9)) ?_
              refine r_astore (lv' := [some (.ref (ad 0)), some (.int c), some (.int i), some (.int d), some (.int j), some (.int m), some (.ref (pa q7)), some (.ref (mid t9)), none]) rfl (Nat.le_of_ble_eq_true rfl) rfl ?_
              refine r_aload rfl rfl ?_
              refine r_ifnullA (tg := 52) rfl rfl ?_
              refine r_aload rfl rfl ?_
              refine r_ifnonnullA (tg := 59) rfl rfl ?_
              refine r_aload rfl rfl ?_
              refine r_aload rfl rfl ?_
              refine r_cw (y := 52) (ra := [.ref (mid t9)]) (rest := []) rfl ⟨rfl, rfl⟩ (by rw [show hT (sI h (ad 0) 6 0) (pa q7) = 4 from tg7]; rfl) rfl rfl (Nat.le_of_ble_eq_true rfl) ?_
              refine in_52 (Nat.le_of_ble_eq_true rfl) ?_
              show WR _ cd_52 0 [some (.ref (pa q7)), some (.ref (mid t9))] [] (sI h (ad 0) 6 0) _
              refine r_ic (x := 0) rfl rfl ?_
              refine r_zret rfl (.inl rfl) ?_
              show WR _ cd_51 66 [some (.ref (ad 0)), some (.int c), some (.int i), some (.int d), some (.int j), some (.int m), some (.ref (pa q7)), some (.ref (mid t9)), none] [.int 0] (sI h (ad 0) 6 0) _
              refine r_if_ne (tg := 76) rfl rfl (fun q => absurd q (by decide)) (fun _ => ?_)
              refine r_aload rfl rfl ?_
              refine r_ic (x := (-15)) rfl rfl ?_
              refine r_cv (y := 13) (ra := [.int (-15)]) (rest := []) rfl ⟨⟨rfl, rfl⟩, rfl, by decide⟩ (fx_t0 fx) rfl rfl (Nat.le_of_ble_eq_true rfl) ?_
              refine in_13 (Nat.le_of_ble_eq_true rfl) ?_
              show WR _ cd_13 0 [some (.ref (ad 0)), some (.int (-15))] [] (sI h (ad 0) 6 0) _
              refine r_aload rfl rfl ?_
              refine r_iload rfl rfl ?_
              refine r_putI rfl ⟨rfl, rfl, rfl⟩ (fx_t0 fx) ?_
              have fx : FX n ad sa z0 (sI (sI h (ad 0) 6 0) (ad 0) 6 (-15)) := (FX.sI fx)
              refine r_iload rfl rfl ?_
              refine r_iret rfl ?_
              show WR _ cd_51 75 [some (.ref (ad 0)), some (.int c), some (.int i), some (.int d), some (.int j), some (.int m), some (.ref (pa q7)), some (.ref (mid t9)), none] [.int (-15)] (sI (sI h (ad 0) 6 0) (ad 0) 6 (-15)) _
              refine r_iret rfl ?_
              show EV _ 179 [.ref (ad 30), .int c, .int i, .int d, .int j, .int m] (sI (sI h (ad 0) 6 0) (ad 0) 6 (-15)) _
              refine in_179 (Nat.le_of_ble_eq_true rfl) ?_
              show WR _ cd_179 0 [some (.ref (ad 30)), some (.int c), some (.int i), some (.int d), some (.int j), some (.int m), none, none, none, none, none] [] (sI (sI h (ad 0) 6 0) (ad 0) 6 (-15)) _
              refine r_iload rfl rfl ?_
              refine WR_tI (y := nI k2) ek2 ?_
              refine r_cs (y := 153) (ra := [.int (nI k2)]) (rest := []) rfl ⟨⟨rfl, rfl⟩, by decide⟩ rfl rfl (Nat.le_of_ble_eq_true rfl) ?_
              refine in_153 (Nat.le_of_ble_eq_true rfl) ?_
              show WR _ cd_153 0 [some (.int (nI k2))] [] (sI (sI h (ad 0) 6 0) (ad 0) 6 (-15)) _
              refine r_iload rfl rfl ?_
              refine r_if_lt (tg := 14) rfl rfl (fun q => False.elim (by have := i_nlt c1; have := i_rg c; have : (0 : Int32).toInt = 0 := rfl; have := i_eq ek2; have : (nI k2).toInt = ((k2 : Nat) : Int) := nI_toInt (by omega); have := i_nle c3; have : (24 : Int32).toInt = 24 := rfl; have := i_lt q; omega)) (fun _ => ?_)
              refine r_iload rfl rfl ?_
              refine r_ic (x := 24) rfl rfl ?_
              refine r_icmp_ge (tg := 14) rfl rfl (fun q => False.elim (by have := i_nlt c1; have := i_rg c; have : (0 : Int32).toInt = 0 := rfl; have := i_eq ek2; have : (nI k2).toInt = ((k2 : Nat) : Int) := nI_toInt (by omega); have := i_nle c3; have : (24 : Int32).toInt = 24 := rfl; have := i_le q; omega)) (fun _ => ?_)
              refine r_ic (x := 1) rfl rfl ?_
              refine r_goto (tg := 15) rfl rfl ?_
              refine r_zret rfl (.inr rfl) ?_
              show WR _ cd_179 4 [some (.ref (ad 30)), some (.int c), some (.int i), some (.int d), some (.int j), some (.int m), none, none, none, none, none] [.int 1] (sI (sI h (ad 0) 6 0) (ad 0) 6 (-15)) _
              refine r_if_eq (tg := 14) rfl rfl (fun q => absurd q (by decide)) (fun _ => ?_)
              refine r_iload rfl rfl ?_
              refine WR_tI (y := nI k5) ek5 ?_
              refine r_cs (y := 153) (ra := [.int (nI k5)]) (rest := []) rfl ⟨⟨rfl, rfl⟩, by decide⟩ rfl rfl (Nat.le_of_ble_eq_true rfl) ?_
              refine in_153 (Nat.le_of_ble_eq_true rfl) ?_
              show WR _ cd_153 0 [some (.int (nI k5))] [] (sI (sI h (ad 0) 6 0) (ad 0) 6 (-15)) _
              refine r_iload rfl rfl ?_
              refine r_if_lt (tg := 14) rfl rfl (fun q => False.elim (by have := i_nlt c4; have := i_rg d; have : (0 : Int32).toInt = 0 := rfl; have := i_eq ek5; have : (nI k5).toInt = ((k5 : Nat) : Int) := nI_toInt (by omega); have := i_nle c6; have : (24 : Int32).toInt = 24 := rfl; have := i_lt q; omega)) (fun _ => ?_)
              refine r_iload rfl rfl ?_
              refine r_ic (x := 24) rfl rfl ?_
              refine r_icmp_ge (tg := 14) rfl rfl (fun q => False.elim (by have := i_nlt c4; have := i_rg d; have : (0 : Int32).toInt = 0 := rfl; have := i_eq ek5; have : (nI k5).toInt = ((k5 : Nat) : Int) := nI_toInt (by omega); have := i_nle c6; have : (24 : Int32).toInt = 24 := rfl; have := i_le q; omega)) (fun _ => ?_)
              refine r_ic (x := 1) rfl rfl ?_
              refine r_goto (tg := 15) rfl rfl ?_
              refine r_zret rfl (.inr rfl) ?_
              show WR _ cd_179 11 [some (.ref (ad 30)), some (.int c), some (.int i), some (.int d), some (.int j), some (.int m), none, none, none, none, none] [.int 1] (sI (sI h (ad 0) 6 0) (ad 0) 6 (-15)) _
              refine r_if_ne (tg := 21) rfl rfl (fun _ => ?_) (fun q => absurd q (by decide))
              refine r_aload rfl rfl ?_
              refine r_getA (b := ad 31) rfl ⟨rfl, rfl, rfl⟩ (fx_t30 fx) (fx_r30_0 fx) ?_
              refine r_iload rfl rfl ?_
              refine WR_tI (y := nI k2) ek2 ?_
              refine r_iaload rfl (.inl (fx_t31 fx)) (vp_ct (fx_n31 fx) (vp_in_nI (by have := i_nlt c1; have := i_rg c; have : (0 : Int32).toInt = 0 := rfl; have := i_eq ek2; have : (nI k2).toInt = ((k2 : Nat) : Int) := nI_toInt (by omega); have := i_nle c3; have : (24 : Int32).toInt = 24 := rfl; omega) (by omega))) ?_
              refine WR_tI (congrArg (hI (sI (sI h (ad 0) 6 0) (ad 0) 6 (-15)) (ad 31)) ((nI_clamp (by have := i_nlt c1; have := i_rg c; have : (0 : Int32).toInt = 0 := rfl; have := i_eq ek2; have : (nI k2).toInt = ((k2 : Nat) : Int) := nI_toInt (by omega); have := i_nle c3; have : (24 : Int32).toInt = 24 := rfl; omega)) : _ = k2)) ?_
              refine WR_tI (y := nI (q7 + 1000)) (Eq.trans (I_ne (fx_ne fx (by decide))) (Eq.trans (I_ne (fx_ne fx (by decide))) v7)) ?_
              refine r_istore (lv' := [some (.ref (ad 30)), some (.int c), some (.int i), some (.int d), some (.int j), some (.int m), some (.int (nI (q7 + 1000))), none, none, none, none]) rfl (Nat.le_of_ble_eq_true rfl) rfl ?_
              refine r_aload rfl rfl ?_
              refine r_getA (b := ad 31) rfl ⟨rfl, rfl, rfl⟩ (fx_t30 fx) (fx_r30_0 fx) ?_
              refine r_iload rfl rfl ?_
              refine WR_tI (y := nI k5) ek5 ?_
              refine r_iaload rfl (.inl (fx_t31 fx)) (vp_ct (fx_n31 fx) (vp_in_nI (by have := i_nlt c4; have := i_rg d; have : (0 : Int32).toInt = 0 := rfl; have := i_eq ek5; have : (nI k5).toInt = ((k5 : Nat) : Int) := nI_toInt (by omega); have := i_nle c6; have : (24 : Int32).toInt = 24 := rfl; omega) (by omega))) ?_
              refine WR_tI (congrArg (hI (sI (sI h (ad 0) 6 0) (ad 0) 6 (-15)) (ad 31)) ((nI_clamp (by have := i_nlt c4; have := i_rg d; have : (0 : Int32).toInt = 0 := rfl; have := i_eq ek5; have : (nI k5).toInt = ((k5 : Nat) : Int) := nI_toInt (by omega); have := i_nle c6; have : (24 : Int32).toInt = 24 := rfl; omega)) : _ = k5)) ?_
              refine WR_tI (y := nI t9) (Eq.trans (I_ne (fx_ne fx (by decide))) (Eq.trans (I_ne (fx_ne fx (by decide))) v9)) ?_
              refine r_istore (lv' := [some (.ref (ad 30)), some (.int c), some (.int i), some (.int d), some (.int j), some (.int m), some (.int (nI (q7 + 1000))), some (.int (nI t9)), none, none, none]) rfl (Nat.le_of_ble_eq_true rfl) rfl ?_
              refine r_iload rfl rfl ?_
              refine r_ic (x := (-1)) rfl rfl ?_
              refine r_icmp_eq (tg := 49) rfl rfl (fun q => False.elim (by have : (nI (q7 + 1000)).toInt = ((q7 + 1000 : Nat) : Int) := nI_toInt (by omega); have : (-1 : Int32).toInt = -1 := rfl; have := i_eq q; omega)) (fun _ => ?_)
              refine r_iload rfl rfl ?_
              refine r_ic (x := (-1)) rfl rfl ?_
              refine r_icmp_ne (tg := 55) rfl rfl (fun _ => ?_) (fun q => False.elim (by have : (nI t9).toInt = ((t9 : Nat) : Int) := nI_toInt (by omega); have : (-1 : Int32).toInt = -1 := rfl; have := i_eq q; omega))
              refine r_iload rfl rfl ?_
              refine r_ic (x := 1000) rfl rfl ?_
              refine r_icmp_ge (tg := 112) rfl rfl (fun _ => ?_) (fun q => False.elim (by have : (nI (q7 + 1000)).toInt = ((q7 + 1000 : Nat) : Int) := nI_toInt (by omega); have : (1000 : Int32).toInt = 1000 := rfl; have := i_nle q; omega))
              refine r_aload rfl rfl ?_
              refine r_ic (x := 5) rfl rfl ?_
              refine r_cv (y := 156) (ra := [.int 5]) (rest := []) rfl ⟨⟨rfl, rfl⟩, rfl, by decide⟩ (fx_t30 fx) rfl rfl (Nat.le_of_ble_eq_true rfl) ?_
              refine in_156 (Nat.le_of_ble_eq_true rfl) ?_
              show WR _ cd_156 0 [some (.ref (ad 30)), some (.int 5)] [] (sI (sI h (ad 0) 6 0) (ad 0) 6 (-15)) _
              refine r_aload rfl rfl ?_
              refine r_ic (x := (-10)) rfl rfl ?_
              refine r_iload rfl rfl ?_
              refine r_isub rfl ?_
              refine WR_tI (y := (-15)) rfl ?_
              refine r_cv (y := 154) (ra := [.int (-15)]) (rest := []) rfl ⟨⟨rfl, rfl⟩, rfl, by decide⟩ (fx_t30 fx) rfl rfl (Nat.le_of_ble_eq_true rfl) ?_
              refine in_154 (Nat.le_of_ble_eq_true rfl) ?_
              show WR _ cd_154 0 [some (.ref (ad 30)), some (.int (-15))] [] (sI (sI h (ad 0) 6 0) (ad 0) 6 (-15)) _
              refine r_aload rfl rfl ?_
              refine r_iload rfl rfl ?_
              refine r_ic (x := (-1)) rfl rfl ?_
              refine r_icmp_ge (tg := 10) rfl rfl (fun q => absurd q (by decide)) (fun _ => ?_)
              refine r_iload rfl rfl ?_
              refine r_goto (tg := 11) rfl rfl ?_
              refine r_putI rfl ⟨rfl, rfl, rfl⟩ (fx_t30 fx) ?_
              have fx : FX n ad sa z0 (sI (sI (sI h (ad 0) 6 0) (ad 0) 6 (-15)) (ad 30) 11 (-15)) := (FX.sI fx)
              refine r_iload rfl rfl ?_
              refine r_iret rfl ?_
              show WR _ cd_156 8 [some (.ref (ad 30)), some (.int 5)] [.int (-15)] (sI (sI (sI h (ad 0) 6 0) (ad 0) 6 (-15)) (ad 30) 11 (-15)) _
              refine r_iret rfl ?_
              show WR _ cd_179 117 [some (.ref (ad 30)), some (.int c), some (.int i), some (.int d), some (.int j), some (.int m), some (.int (nI (q7 + 1000))), some (.int (nI t9)), none, none, none] [.int (-15)] (sI (sI (sI h (ad 0) 6 0) (ad 0) 6 (-15)) (ad 30) 11 (-15)) _
              refine r_iret rfl ?_
              exact ⟨rfl, Rel.why r (((Chg.rf.sI (fx_j fx) (.inl (by decide))).sI (fx_j fx) (.inl (by decide))).sI (fx_j fx) (.inl (by decide))) ⟨rfl, by decide⟩ (Eq.trans (Eq.trans (I_ne (fx_ne fx (by decide))) I_eq) (Eq.symm I_eq)), (by (try simp only [hZ_sI, hZ_sL, hZ_sD, hZ_sR]); omega), (by (try simp only [hU_sI, hU_sL, hU_sD, hU_sR]); omega)⟩
          · refine r_aaloadA (b := mid t7) rfl (isQ_of (fx_t1 fx) (by decide)) (vp_ct (fx_n1 fx) (vp_in_nI (by have := i_nlt c1; have := i_rg c; have : (0 : Int32).toInt = 0 := rfl; have := i_eq ek2; have : (nI k2).toInt = ((k2 : Nat) : Int) := nI_toInt (by omega); have := i_nle c3; have : (24 : Int32).toInt = 24 := rfl; omega) (by omega))) (Eq.trans (congrArg (hR (sI h (ad 0) 6 0) (ad 1)) ((nI_clamp (by have := i_nlt c1; have := i_rg c; have : (0 : Int32).toInt = 0 := rfl; have := i_eq ek2; have : (nI k2).toInt = ((k2 : Nat) : Int) := nI_toInt (by omega); have := i_nle c3; have : (24 : Int32).toInt = 24 := rfl; omega)) : _ = k2)) (Eq.trans R_oI w7)) ?_
            refine r_astore (lv' := [some (.ref (ad 0)), some (.int c), some (.int i), some (.int d), some (.int j), some (.int m), some (.ref (mid t7)), none, none]) rfl (Nat.le_of_ble_eq_true rfl) rfl ?_
            refine r_aload rfl rfl ?_
            refine r_getA (b := ad 1) rfl ⟨rfl, rfl, rfl⟩ (fx_t0 fx) (fx_r0_0 fx) ?_
            refine r_iload rfl rfl ?_
            refine WR_tI (y := nI k5) ek5 ?_
            rcases rs.cs (n := n) (sa := sa) (c := k5) (by have := i_nlt c4; have := i_rg d; have : (0 : Int32).toInt = 0 := rfl; have := i_eq ek5; have : (nI k5).toInt = ((k5 : Nat) : Int) := nI_toInt (by omega); have := i_nle c6; have : (24 : Int32).toInt = 24 := rfl; omega) with ⟨v10, w10⟩ | ⟨q10, kd10, hq10, hn10, v10, w10, dz10, tg10, s1_10, k1_10, k2_10, hk_10, we10⟩ | ⟨t10, ln10, sz10, ht10, v10, w10, dz10, tg10, r_10, tg2_10, l1_10, l2_10, hl_10, kd_10, n_10, sz_10, hs_10, al10, rw10⟩ | ⟨t10, sz10, ht10, v10, w10, dz10, tg10, r_10, tg2_10, k1_10, l2_10, k2_10, n_10, sz_10, hs_10, al10, rw10⟩ | ⟨t10, kd10, sz10, ht10, v10, w10, dz10, tg10, r_10, tg2_10, k1_10, l2_10, k2_10, hk_10, n_10, sz_10, hs_10, al10, rw10⟩
            · refine r_aaload0 rfl (isQ_of (fx_t1 fx) (by decide)) (vp_ct (fx_n1 fx) (vp_in_nI (by have := i_nlt c4; have := i_rg d; have : (0 : Int32).toInt = 0 := rfl; have := i_eq ek5; have : (nI k5).toInt = ((k5 : Nat) : Int) := nI_toInt (by omega); have := i_nle c6; have : (24 : Int32).toInt = 24 := rfl; omega) (by omega))) (Eq.trans (congrArg (hR (sI h (ad 0) 6 0) (ad 1)) ((nI_clamp (by have := i_nlt c4; have := i_rg d; have : (0 : Int32).toInt = 0 := rfl; have := i_eq ek5; have : (nI k5).toInt = ((k5 : Nat) : Int) := nI_toInt (by omega); have := i_nle c6; have : (24 : Int32).toInt = 24 := rfl; omega)) : _ = k5)) (Eq.trans R_oI w10)) ?_
              refine r_astore0 (lv' := [some (.ref (ad 0)), some (.int c), some (.int i), some (.int d), some (.int j), some (.int m), some (.ref (mid t7)), some (.null), none]) rfl (Nat.le_of_ble_eq_true rfl) rfl ?_
              refine r_aload rfl rfl ?_
              refine r_ifnullA (tg := 52) rfl rfl ?_
              refine r_aload0 rfl rfl ?_
              refine r_ifnonnullN (tg := 59) rfl rfl ?_
              refine r_aload rfl rfl ?_
              refine r_ic (x := (-11)) rfl rfl ?_
              refine r_cv (y := 13) (ra := [.int (-11)]) (rest := []) rfl ⟨⟨rfl, rfl⟩, rfl, by decide⟩ (fx_t0 fx) rfl rfl (Nat.le_of_ble_eq_true rfl) ?_
              refine in_13 (Nat.le_of_ble_eq_true rfl) ?_
              show WR _ cd_13 0 [some (.ref (ad 0)), some (.int (-11))] [] (sI h (ad 0) 6 0) _
              refine r_aload rfl rfl ?_
              refine r_iload rfl rfl ?_
              refine r_putI rfl ⟨rfl, rfl, rfl⟩ (fx_t0 fx) ?_
              have fx : FX n ad sa z0 (sI (sI h (ad 0) 6 0) (ad 0) 6 (-11)) := (FX.sI fx)
              refine r_iload rfl rfl ?_
              refine r_iret rfl ?_
              show WR _ cd_51 58 [some (.ref (ad 0)), some (.int c), some (.int i), some (.int d), some (.int j), some (.int m), some (.ref (mid t7)), some (.null), none] [.int (-11)] (sI (sI h (ad 0) 6 0) (ad 0) 6 (-11)) _
              refine r_iret rfl ?_
              show EV _ 179 [.ref (ad 30), .int c, .int i, .int d, .int j, .int m] (sI (sI h (ad 0) 6 0) (ad 0) 6 (-11)) _
              refine in_179 (Nat.le_of_ble_eq_true rfl) ?_
              show WR _ cd_179 0 [some (.ref (ad 30)), some (.int c), some (.int i), some (.int d), some (.int j), some (.int m), none, none, none, none, none] [] (sI (sI h (ad 0) 6 0) (ad 0) 6 (-11)) _
              refine r_iload rfl rfl ?_
              refine WR_tI (y := nI k2) ek2 ?_
              refine r_cs (y := 153) (ra := [.int (nI k2)]) (rest := []) rfl ⟨⟨rfl, rfl⟩, by decide⟩ rfl rfl (Nat.le_of_ble_eq_true rfl) ?_
              refine in_153 (Nat.le_of_ble_eq_true rfl) ?_
              show WR _ cd_153 0 [some (.int (nI k2))] [] (sI (sI h (ad 0) 6 0) (ad 0) 6 (-11)) _
              refine r_iload rfl rfl ?_
              refine r_if_lt (tg := 14) rfl rfl (fun q => False.elim (by have := i_nlt c1; have := i_rg c; have : (0 : Int32).toInt = 0 := rfl; have := i_eq ek2; have : (nI k2).toInt = ((k2 : Nat) : Int) := nI_toInt (by omega); have := i_nle c3; have : (24 : Int32).toInt = 24 := rfl; have := i_lt q; omega)) (fun _ => ?_)
              refine r_iload rfl rfl ?_
              refine r_ic (x := 24) rfl rfl ?_
              refine r_icmp_ge (tg := 14) rfl rfl (fun q => False.elim (by have := i_nlt c1; have := i_rg c; have : (0 : Int32).toInt = 0 := rfl; have := i_eq ek2; have : (nI k2).toInt = ((k2 : Nat) : Int) := nI_toInt (by omega); have := i_nle c3; have : (24 : Int32).toInt = 24 := rfl; have := i_le q; omega)) (fun _ => ?_)
              refine r_ic (x := 1) rfl rfl ?_
              refine r_goto (tg := 15) rfl rfl ?_
              refine r_zret rfl (.inr rfl) ?_
              show WR _ cd_179 4 [some (.ref (ad 30)), some (.int c), some (.int i), some (.int d), some (.int j), some (.int m), none, none, none, none, none] [.int 1] (sI (sI h (ad 0) 6 0) (ad 0) 6 (-11)) _
              refine r_if_eq (tg := 14) rfl rfl (fun q => absurd q (by decide)) (fun _ => ?_)
              refine r_iload rfl rfl ?_
              refine WR_tI (y := nI k5) ek5 ?_
              refine r_cs (y := 153) (ra := [.int (nI k5)]) (rest := []) rfl ⟨⟨rfl, rfl⟩, by decide⟩ rfl rfl (Nat.le_of_ble_eq_true rfl) ?_
              refine in_153 (Nat.le_of_ble_eq_true rfl) ?_
              show WR _ cd_153 0 [some (.int (nI k5))] [] (sI (sI h (ad 0) 6 0) (ad 0) 6 (-11)) _
              refine r_iload rfl rfl ?_
              refine r_if_lt (tg := 14) rfl rfl (fun q => False.elim (by have := i_nlt c4; have := i_rg d; have : (0 : Int32).toInt = 0 := rfl; have := i_eq ek5; have : (nI k5).toInt = ((k5 : Nat) : Int) := nI_toInt (by omega); have := i_nle c6; have : (24 : Int32).toInt = 24 := rfl; have := i_lt q; omega)) (fun _ => ?_)
              refine r_iload rfl rfl ?_
              refine r_ic (x := 24) rfl rfl ?_
              refine r_icmp_ge (tg := 14) rfl rfl (fun q => False.elim (by have := i_nlt c4; have := i_rg d; have : (0 : Int32).toInt = 0 := rfl; have := i_eq ek5; have : (nI k5).toInt = ((k5 : Nat) : Int) := nI_toInt (by omega); have := i_nle c6; have : (24 : Int32).toInt = 24 := rfl; have := i_le q; omega)) (fun _ => ?_)
              refine r_ic (x := 1) rfl rfl ?_
              refine r_goto (tg := 15) rfl rfl ?_
              refine r_zret rfl (.inr rfl) ?_
              show WR _ cd_179 11 [some (.ref (ad 30)), some (.int c), some (.int i), some (.int d), some (.int j), some (.int m), none, none, none, none, none] [.int 1] (sI (sI h (ad 0) 6 0) (ad 0) 6 (-11)) _
              refine r_if_ne (tg := 21) rfl rfl (fun _ => ?_) (fun q => absurd q (by decide))
              refine r_aload rfl rfl ?_
              refine r_getA (b := ad 31) rfl ⟨rfl, rfl, rfl⟩ (fx_t30 fx) (fx_r30_0 fx) ?_
              refine r_iload rfl rfl ?_
              refine WR_tI (y := nI k2) ek2 ?_
              refine r_iaload rfl (.inl (fx_t31 fx)) (vp_ct (fx_n31 fx) (vp_in_nI (by have := i_nlt c1; have := i_rg c; have : (0 : Int32).toInt = 0 := rfl; have := i_eq ek2; have : (nI k2).toInt = ((k2 : Nat) : Int) := nI_toInt (by omega); have := i_nle c3; have : (24 : Int32).toInt = 24 := rfl; omega) (by omega))) ?_
              refine WR_tI (congrArg (hI (sI (sI h (ad 0) 6 0) (ad 0) 6 (-11)) (ad 31)) ((nI_clamp (by have := i_nlt c1; have := i_rg c; have : (0 : Int32).toInt = 0 := rfl; have := i_eq ek2; have : (nI k2).toInt = ((k2 : Nat) : Int) := nI_toInt (by omega); have := i_nle c3; have : (24 : Int32).toInt = 24 := rfl; omega)) : _ = k2)) ?_
              refine WR_tI (y := nI t7) (Eq.trans (I_ne (fx_ne fx (by decide))) (Eq.trans (I_ne (fx_ne fx (by decide))) v7)) ?_
              refine r_istore (lv' := [some (.ref (ad 30)), some (.int c), some (.int i), some (.int d), some (.int j), some (.int m), some (.int (nI t7)), none, none, none, none]) rfl (Nat.le_of_ble_eq_true rfl) rfl ?_
              refine r_aload rfl rfl ?_
              refine r_getA (b := ad 31) rfl ⟨rfl, rfl, rfl⟩ (fx_t30 fx) (fx_r30_0 fx) ?_
              refine r_iload rfl rfl ?_
              refine WR_tI (y := nI k5) ek5 ?_
              refine r_iaload rfl (.inl (fx_t31 fx)) (vp_ct (fx_n31 fx) (vp_in_nI (by have := i_nlt c4; have := i_rg d; have : (0 : Int32).toInt = 0 := rfl; have := i_eq ek5; have : (nI k5).toInt = ((k5 : Nat) : Int) := nI_toInt (by omega); have := i_nle c6; have : (24 : Int32).toInt = 24 := rfl; omega) (by omega))) ?_
              refine WR_tI (congrArg (hI (sI (sI h (ad 0) 6 0) (ad 0) 6 (-11)) (ad 31)) ((nI_clamp (by have := i_nlt c4; have := i_rg d; have : (0 : Int32).toInt = 0 := rfl; have := i_eq ek5; have : (nI k5).toInt = ((k5 : Nat) : Int) := nI_toInt (by omega); have := i_nle c6; have : (24 : Int32).toInt = 24 := rfl; omega)) : _ = k5)) ?_
              refine WR_tI (y := (-1)) (Eq.trans (I_ne (fx_ne fx (by decide))) (Eq.trans (I_ne (fx_ne fx (by decide))) v10)) ?_
              refine r_istore (lv' := [some (.ref (ad 30)), some (.int c), some (.int i), some (.int d), some (.int j), some (.int m), some (.int (nI t7)), some (.int (-1)), none, none, none]) rfl (Nat.le_of_ble_eq_true rfl) rfl ?_
              refine r_iload rfl rfl ?_
              refine r_ic (x := (-1)) rfl rfl ?_
              refine r_icmp_eq (tg := 49) rfl rfl (fun q => False.elim (by have : (nI t7).toInt = ((t7 : Nat) : Int) := nI_toInt (by omega); have : (-1 : Int32).toInt = -1 := rfl; have := i_eq q; omega)) (fun _ => ?_)
              refine r_iload rfl rfl ?_
              refine r_ic (x := (-1)) rfl rfl ?_
              refine r_icmp_ne (tg := 55) rfl rfl (fun q => absurd q (by decide)) (fun _ => ?_)
              refine r_aload rfl rfl ?_
              refine r_ic (x := 1) rfl rfl ?_
              refine r_cv (y := 156) (ra := [.int 1]) (rest := []) rfl ⟨⟨rfl, rfl⟩, rfl, by decide⟩ (fx_t30 fx) rfl rfl (Nat.le_of_ble_eq_true rfl) ?_
              refine in_156 (Nat.le_of_ble_eq_true rfl) ?_
              show WR _ cd_156 0 [some (.ref (ad 30)), some (.int 1)] [] (sI (sI h (ad 0) 6 0) (ad 0) 6 (-11)) _
              refine r_aload rfl rfl ?_
              refine r_ic (x := (-10)) rfl rfl ?_
              refine r_iload rfl rfl ?_
              refine r_isub rfl ?_
              refine WR_tI (y := (-11)) rfl ?_
              refine r_cv (y := 154) (ra := [.int (-11)]) (rest := []) rfl ⟨⟨rfl, rfl⟩, rfl, by decide⟩ (fx_t30 fx) rfl rfl (Nat.le_of_ble_eq_true rfl) ?_
              refine in_154 (Nat.le_of_ble_eq_true rfl) ?_
              show WR _ cd_154 0 [some (.ref (ad 30)), some (.int (-11))] [] (sI (sI h (ad 0) 6 0) (ad 0) 6 (-11)) _
              refine r_aload rfl rfl ?_
              refine r_iload rfl rfl ?_
              refine r_ic (x := (-1)) rfl rfl ?_
              refine r_icmp_ge (tg := 10) rfl rfl (fun q => absurd q (by decide)) (fun _ => ?_)
              refine r_iload rfl rfl ?_
              refine r_goto (tg := 11) rfl rfl ?_
              refine r_putI rfl ⟨rfl, rfl, rfl⟩ (fx_t30 fx) ?_
              have fx : FX n ad sa z0 (sI (sI (sI h (ad 0) 6 0) (ad 0) 6 (-11)) (ad 30) 11 (-11)) := (FX.sI fx)
              refine r_iload rfl rfl ?_
              refine r_iret rfl ?_
              show WR _ cd_156 8 [some (.ref (ad 30)), some (.int 1)] [.int (-11)] (sI (sI (sI h (ad 0) 6 0) (ad 0) 6 (-11)) (ad 30) 11 (-11)) _
              refine r_iret rfl ?_
              show WR _ cd_179 54 [some (.ref (ad 30)), some (.int c), some (.int i), some (.int d), some (.int j), some (.int m), some (.int (nI t7)), some (.int (-1)), none, none, none] [.int (-11)] (sI (sI (sI h (ad 0) 6 0) (ad 0) 6 (-11)) (ad 30) 11 (-11)) _
              refine r_iret rfl ?_
              exact ⟨rfl, Rel.why r (((Chg.rf.sI (fx_j fx) (.inl (by decide))).sI (fx_j fx) (.inl (by decide))).sI (fx_j fx) (.inl (by decide))) ⟨rfl, by decide⟩ (Eq.trans (Eq.trans (I_ne (fx_ne fx (by decide))) I_eq) (Eq.symm I_eq)), (by (try simp only [hZ_sI, hZ_sL, hZ_sD, hZ_sR]); omega), (by (try simp only [hU_sI, hU_sL, hU_sD, hU_sR]); omega)⟩
            · refine r_aaloadA (b := pa q10) rfl (isQ_of (fx_t1 fx) (by decide)) (vp_ct (fx_n1 fx) (vp_in_nI (by have := i_nlt c4; have := i_rg d; have : (0 : Int32).toInt = 0 := rfl; have := i_eq ek5; have : (nI k5).toInt = ((k5 : Nat) : Int) := nI_toInt (by omega); have := i_nle c6; have : (24 : Int32).toInt = 24 := rfl; omega) (by omega))) (Eq.trans (congrArg (hR (sI h (ad 0) 6 0) (ad 1)) ((nI_clamp (by have := i_nlt c4; have := i_rg d; have : (0 : Int32).toInt = 0 := rfl; have := i_eq ek5; have : (nI k5).toInt = ((k5 : Nat) : Int) := nI_toInt (by omega); have := i_nle c6; have : (24 : Int32).toInt = 24 := rfl; omega)) : _ = k5)) (Eq.trans R_oI w10)) ?_
              refine r_astore (lv' := [some (.ref (ad 0)), some (.int c), some (.int i), some (.int d), some (.int j), some (.int m), some (.ref (mid t7)), some (.ref (pa q10)), none]) rfl (Nat.le_of_ble_eq_true rfl) rfl ?_
              refine r_aload rfl rfl ?_
              refine r_ifnullA (tg := 52) rfl rfl ?_
              refine r_aload rfl rfl ?_
              refine r_ifnonnullA (tg := 59) rfl rfl ?_
              refine r_aload rfl rfl ?_
              refine r_aload rfl rfl ?_
              refine r_cw (y := 53) (ra := [.ref (pa q10)]) (rest := []) rfl ⟨rfl, rfl⟩ (by rw [show hT (sI h (ad 0) 6 0) (mid t7) = 5 from tg7]; rfl) rfl rfl (Nat.le_of_ble_eq_true rfl) ?_
              refine in_53 (Nat.le_of_ble_eq_true rfl) ?_
              show WR _ cd_53 0 [some (.ref (mid t7)), some (.ref (pa q10))] [] (sI h (ad 0) 6 0) _
              refine r_aload rfl rfl ?_
              refine r_cw (y := 26) (ra := []) (rest := []) rfl ⟨rfl, rfl⟩ (by rw [show hT (sI h (ad 0) 6 0) (pa q10) = 4 from tg10]; rfl) rfl rfl (Nat.le_of_ble_eq_true rfl) ?_
              refine in_26 (Nat.le_of_ble_eq_true rfl) ?_
              show WR _ cd_26 0 [some (.ref (pa q10))] [] (sI h (ad 0) 6 0) _
              refine r_ic (x := 10) rfl rfl ?_
              refine r_iret rfl ?_
              show WR _ cd_53 4 [some (.ref (mid t7)), some (.ref (pa q10))] [.int 10] (sI h (ad 0) 6 0) _
              refine r_aload rfl rfl ?_
              refine r_getI rfl ⟨rfl, rfl, rfl⟩ tg7 ?_
              refine WR_tI (y := nI ln7) (Eq.trans (I_ne (dy_ad fx (.inl (by decide)) dz7)) l1_7) ?_
              refine r_icmp_ne (tg := 15) rfl rfl (fun _ => ?_) (fun q => False.elim (by have : (10 : Int32).toInt = 10 := rfl; have : (nI ln7).toInt = ((ln7 : Nat) : Int) := nI_toInt (by omega); have := i_eq q; omega))
              refine r_ic (x := 0) rfl rfl ?_
              refine r_zret rfl (.inl rfl) ?_
              show WR _ cd_51 66 [some (.ref (ad 0)), some (.int c), some (.int i), some (.int d), some (.int j), some (.int m), some (.ref (mid t7)), some (.ref (pa q10)), none] [.int 0] (sI h (ad 0) 6 0) _
              refine r_if_ne (tg := 76) rfl rfl (fun q => absurd q (by decide)) (fun _ => ?_)
              refine r_aload rfl rfl ?_
              refine r_ic (x := (-15)) rfl rfl ?_
              refine r_cv (y := 13) (ra := [.int (-15)]) (rest := []) rfl ⟨⟨rfl, rfl⟩, rfl, by decide⟩ (fx_t0 fx) rfl rfl (Nat.le_of_ble_eq_true rfl) ?_
              refine in_13 (Nat.le_of_ble_eq_true rfl) ?_
              show WR _ cd_13 0 [some (.ref (ad 0)), some (.int (-15))] [] (sI h (ad 0) 6 0) _
              refine r_aload rfl rfl ?_
              refine r_iload rfl rfl ?_
              refine r_putI rfl ⟨rfl, rfl, rfl⟩ (fx_t0 fx) ?_
              have fx : FX n ad sa z0 (sI (sI h (ad 0) 6 0) (ad 0) 6 (-15)) := (FX.sI fx)
              refine r_iload rfl rfl ?_
              refine r_iret rfl ?_
              show WR _ cd_51 75 [some (.ref (ad 0)), some (.int c), some (.int i), some (.int d), some (.int j), some (.int m), some (.ref (mid t7)), some (.ref (pa q10)), none] [.int (-15)] (sI (sI h (ad 0) 6 0) (ad 0) 6 (-15)) _
              refine r_iret rfl ?_
              show EV _ 179 [.ref (ad 30), .int c, .int i, .int d, .int j, .int m] (sI (sI h (ad 0) 6 0) (ad 0) 6 (-15)) _
              refine in_179 (Nat.le_of_ble_eq_true rfl) ?_
              show WR _ cd_179 0 [some (.ref (ad 30)), some (.int c), some (.int i), some (.int d), some (.int j), some (.int m), none, none, none, none, none] [] (sI (sI h (ad 0) 6 0) (ad 0) 6 (-15)) _
              refine r_iload rfl rfl ?_
              refine WR_tI (y := nI k2) ek2 ?_
              refine r_cs (y := 153) (ra := [.int (nI k2)]) (rest := []) rfl ⟨⟨rfl, rfl⟩, by decide⟩ rfl rfl (Nat.le_of_ble_eq_true rfl) ?_
              refine in_153 (Nat.le_of_ble_eq_true rfl) ?_
              show WR _ cd_153 0 [some (.int (nI k2))] [] (sI (sI h (ad 0) 6 0) (ad 0) 6 (-15)) _
              refine r_iload rfl rfl ?_
              refine r_if_lt (tg := 14) rfl rfl (fun q => False.elim (by have := i_nlt c1; have := i_rg c; have : (0 : Int32).toInt = 0 := rfl; have := i_eq ek2; have : (nI k2).toInt = ((k2 : Nat) : Int) := nI_toInt (by omega); have := i_nle c3; have : (24 : Int32).toInt = 24 := rfl; have := i_lt q; omega)) (fun _ => ?_)
              refine r_iload rfl rfl ?_
              refine r_ic (x := 24) rfl rfl ?_
              refine r_icmp_ge (tg := 14) rfl rfl (fun q => False.elim (by have := i_nlt c1; have := i_rg c; have : (0 : Int32).toInt = 0 := rfl; have := i_eq ek2; have : (nI k2).toInt = ((k2 : Nat) : Int) := nI_toInt (by omega); have := i_nle c3; have : (24 : Int32).toInt = 24 := rfl; have := i_le q; omega)) (fun _ => ?_)
              refine r_ic (x := 1) rfl rfl ?_
              refine r_goto (tg := 15) rfl rfl ?_
              refine r_zret rfl (.inr rfl) ?_
              show WR _ cd_179 4 [some (.ref (ad 30)), some (.int c), some (.int i), some (.int d), some (.int j), some (.int m), none, none, none, none, none] [.int 1] (sI (sI h (ad 0) 6 0) (ad 0) 6 (-15)) _
              refine r_if_eq (tg := 14) rfl rfl (fun q => absurd q (by decide)) (fun _ => ?_)
              refine r_iload rfl rfl ?_
              refine WR_tI (y := nI k5) ek5 ?_
              refine r_cs (y := 153) (ra := [.int (nI k5)]) (rest := []) rfl ⟨⟨rfl, rfl⟩, by decide⟩ rfl rfl (Nat.le_of_ble_eq_true rfl) ?_
              refine in_153 (Nat.le_of_ble_eq_true rfl) ?_
              show WR _ cd_153 0 [some (.int (nI k5))] [] (sI (sI h (ad 0) 6 0) (ad 0) 6 (-15)) _
              refine r_iload rfl rfl ?_
              refine r_if_lt (tg := 14) rfl rfl (fun q => False.elim (by have := i_nlt c4; have := i_rg d; have : (0 : Int32).toInt = 0 := rfl; have := i_eq ek5; have : (nI k5).toInt = ((k5 : Nat) : Int) := nI_toInt (by omega); have := i_nle c6; have : (24 : Int32).toInt = 24 := rfl; have := i_lt q; omega)) (fun _ => ?_)
              refine r_iload rfl rfl ?_
              refine r_ic (x := 24) rfl rfl ?_
              refine r_icmp_ge (tg := 14) rfl rfl (fun q => False.elim (by have := i_nlt c4; have := i_rg d; have : (0 : Int32).toInt = 0 := rfl; have := i_eq ek5; have : (nI k5).toInt = ((k5 : Nat) : Int) := nI_toInt (by omega); have := i_nle c6; have : (24 : Int32).toInt = 24 := rfl; have := i_le q; omega)) (fun _ => ?_)
              refine r_ic (x := 1) rfl rfl ?_
              refine r_goto (tg := 15) rfl rfl ?_
              refine r_zret rfl (.inr rfl) ?_
              show WR _ cd_179 11 [some (.ref (ad 30)), some (.int c), some (.int i), some (.int d), some (.int j), some (.int m), none, none, none, none, none] [.int 1] (sI (sI h (ad 0) 6 0) (ad 0) 6 (-15)) _
              refine r_if_ne (tg := 21) rfl rfl (fun _ => ?_) (fun q => absurd q (by decide))
              refine r_aload rfl rfl ?_
              refine r_getA (b := ad 31) rfl ⟨rfl, rfl, rfl⟩ (fx_t30 fx) (fx_r30_0 fx) ?_
              refine r_iload rfl rfl ?_
              refine WR_tI (y := nI k2) ek2 ?_
              refine r_iaload rfl (.inl (fx_t31 fx)) (vp_ct (fx_n31 fx) (vp_in_nI (by have := i_nlt c1; have := i_rg c; have : (0 : Int32).toInt = 0 := rfl; have := i_eq ek2; have : (nI k2).toInt = ((k2 : Nat) : Int) := nI_toInt (by omega); have := i_nle c3; have : (24 : Int32).toInt = 24 := rfl; omega) (by omega))) ?_
              refine WR_tI (congrArg (hI (sI (sI h (ad 0) 6 0) (ad 0) 6 (-15)) (ad 31)) ((nI_clamp (by have := i_nlt c1; have := i_rg c; have : (0 : Int32).toInt = 0 := rfl; have := i_eq ek2; have : (nI k2).toInt = ((k2 : Nat) : Int) := nI_toInt (by omega); have := i_nle c3; have : (24 : Int32).toInt = 24 := rfl; omega)) : _ = k2)) ?_
              refine WR_tI (y := nI t7) (Eq.trans (I_ne (fx_ne fx (by decide))) (Eq.trans (I_ne (fx_ne fx (by decide))) v7)) ?_
              refine r_istore (lv' := [some (.ref (ad 30)), some (.int c), some (.int i), some (.int d), some (.int j), some (.int m), some (.int (nI t7)), none, none, none, none]) rfl (Nat.le_of_ble_eq_true rfl) rfl ?_
              refine r_aload rfl rfl ?_
              refine r_getA (b := ad 31) rfl ⟨rfl, rfl, rfl⟩ (fx_t30 fx) (fx_r30_0 fx) ?_
              refine r_iload rfl rfl ?_
              refine WR_tI (y := nI k5) ek5 ?_
              refine r_iaload rfl (.inl (fx_t31 fx)) (vp_ct (fx_n31 fx) (vp_in_nI (by have := i_nlt c4; have := i_rg d; have : (0 : Int32).toInt = 0 := rfl; have := i_eq ek5; have : (nI k5).toInt = ((k5 : Nat) : Int) := nI_toInt (by omega); have := i_nle c6; have : (24 : Int32).toInt = 24 := rfl; omega) (by omega))) ?_
              refine WR_tI (congrArg (hI (sI (sI h (ad 0) 6 0) (ad 0) 6 (-15)) (ad 31)) ((nI_clamp (by have := i_nlt c4; have := i_rg d; have : (0 : Int32).toInt = 0 := rfl; have := i_eq ek5; have : (nI k5).toInt = ((k5 : Nat) : Int) := nI_toInt (by omega); have := i_nle c6; have : (24 : Int32).toInt = 24 := rfl; omega)) : _ = k5)) ?_
              refine WR_tI (y := nI (q10 + 1000)) (Eq.trans (I_ne (fx_ne fx (by decide))) (Eq.trans (I_ne (fx_ne fx (by decide))) v10)) ?_
              refine r_istore (lv' := [some (.ref (ad 30)), some (.int c), some (.int i), some (.int d), some (.int j), some (.int m), some (.int (nI t7)), some (.int (nI (q10 + 1000))), none, none, none]) rfl (Nat.le_of_ble_eq_true rfl) rfl ?_
              refine r_iload rfl rfl ?_
              refine r_ic (x := (-1)) rfl rfl ?_
              refine r_icmp_eq (tg := 49) rfl rfl (fun q => False.elim (by have : (nI t7).toInt = ((t7 : Nat) : Int) := nI_toInt (by omega); have : (-1 : Int32).toInt = -1 := rfl; have := i_eq q; omega)) (fun _ => ?_)
              refine r_iload rfl rfl ?_
              refine r_ic (x := (-1)) rfl rfl ?_
              refine r_icmp_ne (tg := 55) rfl rfl (fun _ => ?_) (fun q => False.elim (by have : (nI (q10 + 1000)).toInt = ((q10 + 1000 : Nat) : Int) := nI_toInt (by omega); have : (-1 : Int32).toInt = -1 := rfl; have := i_eq q; omega))
              refine r_iload rfl rfl ?_
              refine r_ic (x := 1000) rfl rfl ?_
              refine r_icmp_ge (tg := 112) rfl rfl (fun q => False.elim (by have : (nI t7).toInt = ((t7 : Nat) : Int) := nI_toInt (by omega); have : (1000 : Int32).toInt = 1000 := rfl; have := i_le q; omega)) (fun _ => ?_)
              refine r_iload rfl rfl ?_
              refine r_ic (x := 1000) rfl rfl ?_
              refine r_icmp_ge (tg := 112) rfl rfl (fun _ => ?_) (fun q => False.elim (by have : (nI (q10 + 1000)).toInt = ((q10 + 1000 : Nat) : Int) := nI_toInt (by omega); have : (1000 : Int32).toInt = 1000 := rfl; have := i_nle q; omega))
              refine r_aload rfl rfl ?_
              refine r_ic (x := 5) rfl rfl ?_
              refine r_cv (y := 156) (ra := [.int 5]) (rest := []) rfl ⟨⟨rfl, rfl⟩, rfl, by decide⟩ (fx_t30 fx) rfl rfl (Nat.le_of_ble_eq_true rfl) ?_
              refine in_156 (Nat.le_of_ble_eq_true rfl) ?_
              show WR _ cd_156 0 [some (.ref (ad 30)), some (.int 5)] [] (sI (sI h (ad 0) 6 0) (ad 0) 6 (-15)) _
              refine r_aload rfl rfl ?_
              refine r_ic (x := (-10)) rfl rfl ?_
              refine r_iload rfl rfl ?_
              refine r_isub rfl ?_
              refine WR_tI (y := (-15)) rfl ?_
              refine r_cv (y := 154) (ra := [.int (-15)]) (rest := []) rfl ⟨⟨rfl, rfl⟩, rfl, by decide⟩ (fx_t30 fx) rfl rfl (Nat.le_of_ble_eq_true rfl) ?_
              refine in_154 (Nat.le_of_ble_eq_true rfl) ?_
              show WR _ cd_154 0 [some (.ref (ad 30)), some (.int (-15))] [] (sI (sI h (ad 0) 6 0) (ad 0) 6 (-15)) _
              refine r_aload rfl rfl ?_
              refine r_iload rfl rfl ?_
              refine r_ic (x := (-1)) rfl rfl ?_
              refine r_icmp_ge (tg := 10) rfl rfl (fun q => absurd q (by decide)) (fun _ => ?_)
              refine r_iload rfl rfl ?_
              refine r_goto (tg := 11) rfl rfl ?_
              refine r_putI rfl ⟨rfl, rfl, rfl⟩ (fx_t30 fx) ?_
              have fx : FX n ad sa z0 (sI (sI (sI h (ad 0) 6 0) (ad 0) 6 (-15)) (ad 30) 11 (-15)) := (FX.sI fx)
              refine r_iload rfl rfl ?_
              refine r_iret rfl ?_
              show WR _ cd_156 8 [some (.ref (ad 30)), some (.int 5)] [.int (-15)] (sI (sI (sI h (ad 0) 6 0) (ad 0) 6 (-15)) (ad 30) 11 (-15)) _
              refine r_iret rfl ?_
              show WR _ cd_179 117 [some (.ref (ad 30)), some (.int c), some (.int i), some (.int d), some (.int j), some (.int m), some (.int (nI t7)), some (.int (nI (q10 + 1000))), none, none, none] [.int (-15)] (sI (sI (sI h (ad 0) 6 0) (ad 0) 6 (-15)) (ad 30) 11 (-15)) _
              refine r_iret rfl ?_
              exact ⟨rfl, Rel.why r (((Chg.rf.sI (fx_j fx) (.inl (by decide))).sI (fx_j fx) (.inl (by decide))).sI (fx_j fx) (.inl (by decide))) ⟨rfl, by decide⟩ (Eq.trans (Eq.trans (I_ne (fx_ne fx (by decide))) I_eq) (Eq.symm I_eq)), (by (try simp only [hZ_sI, hZ_sL, hZ_sD, hZ_sR]); omega), (by (try simp only [hU_sI, hU_sL, hU_sD, hU_sR]); omega)⟩
            · refine r_aaloadA (b := mid t10) rfl (isQ_of (fx_t1 fx) (by decide)) (vp_ct (fx_n1 fx) (vp_in_nI (by have := i_nlt c4; have := i_rg d; have : (0 : Int32).toInt = 0 := rfl; have := i_eq ek5; have : (nI k5).toInt = ((k5 : Nat) : Int) := nI_toInt (by omega); have := i_nle c6; have : (24 : Int32).toInt = 24 := rfl; omega) (by omega))) (Eq.trans (congrArg (hR (sI h (ad 0) 6 0) (ad 1)) ((nI_clamp (by have := i_nlt c4; have := i_rg d; have : (0 : Int32).toInt = 0 := rfl; have := i_eq ek5; have : (nI k5).toInt = ((k5 : Nat) : Int) := nI_toInt (by omega); have := i_nle c6; have : (24 : Int32).toInt = 24 := rfl; omega)) : _ = k5)) (Eq.trans R_oI w10)) ?_
              refine r_astore (lv' := [some (.ref (ad 0)), some (.int c), some (.int i), some (.int d), some (.int j), some (.int m), some (.ref (mid t7)), some (.ref (mid t10)), none]) rfl (Nat.le_of_ble_eq_true rfl) rfl ?_
              refine r_aload rfl rfl ?_
              refine r_ifnullA (tg := 52) rfl rfl ?_
              refine r_aload rfl rfl ?_
              refine r_ifnonnullA (tg := 59) rfl rfl ?_
              refine r_aload rfl rfl ?_
              refine r_aload rfl rfl ?_
              refine r_cw (y := 53) (ra := [.ref (mid t10)]) (rest := []) rfl ⟨rfl, rfl⟩ (by rw [show hT (sI h (ad 0) 6 0) (mid t7) = 5 from tg7]; rfl) rfl rfl (Nat.le_of_ble_eq_true rfl) ?_
              refine in_53 (Nat.le_of_ble_eq_true rfl) ?_
              show WR _ cd_53 0 [some (.ref (mid t7)), some (.ref (mid t10))] [] (sI h (ad 0) 6 0) _
              refine r_aload rfl rfl ?_
              refine r_cw (y := 27) (ra := []) (rest := []) rfl ⟨rfl, rfl⟩ (by rw [show hT (sI h (ad 0) 6 0) (mid t10) = 5 from tg10]; rfl) rfl rfl (Nat.le_of_ble_eq_true rfl) ?_
              refine in_27 (Nat.le_of_ble_eq_true rfl) ?_
              show WR _ cd_27 0 [some (.ref (mid t10))] [] (sI h (ad 0) 6 0) _
              refine r_aload rfl rfl ?_
              refine r_getI rfl ⟨rfl, rfl, rfl⟩ tg10 ?_
              refine WR_tI (y := nI ln10) (Eq.trans (I_ne (dy_ad fx (.inl (by decide)) dz10)) l1_10) ?_
              refine r_iret rfl ?_
              show WR _ cd_53 4 [some (.ref (mid t7)), some (.ref (mid t10))] [.int (nI ln10)] (sI h (ad 0) 6 0) _
              refine r_aload rfl rfl ?_
              refine r_getI rfl ⟨rfl, rfl, rfl⟩ tg7 ?_
              refine WR_tI (y := nI ln7) (Eq.trans (I_ne (dy_ad fx (.inl (by decide)) dz7)) l1_7) ?_
              refine r_icmp_ne (tg := 15) rfl rfl (fun c11 => ?_) (fun c11 => ?_)
              · refine r_ic (x := 0) rfl rfl ?_
                refine r_zret rfl (.inl rfl) ?_
                show WR _ cd_51 66 [some (.ref (ad 0)), some (.int c), some (.int i), some (.int d), some (.int j), some (.int m), some (.ref (mid t7)), some (.ref (mid t10)), none] [.int 0] (sI h (ad 0) 6 0) _
                refine r_if_ne (tg := 76) rfl rfl (fun q => absurd q (by decide)) (fun _ => ?_)
                refine r_aload rfl rfl ?_
                refine r_ic (x := (-15)) rfl rfl ?_
                refine r_cv (y := 13) (ra := [.int (-15)]) (rest := []) rfl ⟨⟨rfl, rfl⟩, rfl, by decide⟩ (fx_t0 fx) rfl rfl (Nat.le_of_ble_eq_true rfl) ?_
                refine in_13 (Nat.le_of_ble_eq_true rfl) ?_
                show WR _ cd_13 0 [some (.ref (ad 0)), some (.int (-15))] [] (sI h (ad 0) 6 0) _
                refine r_aload rfl rfl ?_
                refine r_iload rfl rfl ?_
                refine r_putI rfl ⟨rfl, rfl, rfl⟩ (fx_t0 fx) ?_
                have fx : FX n ad sa z0 (sI (sI h (ad 0) 6 0) (ad 0) 6 (-15)) := (FX.sI fx)
                refine r_iload rfl rfl ?_
                refine r_iret rfl ?_
                show WR _ cd_51 75 [some (.ref (ad 0)), some (.int c), some (.int i), some (.int d), some (.int j), some (.int m), some (.ref (mid t7)), some (.ref (mid t10)), none] [.int (-15)] (sI (sI h (ad 0) 6 0) (ad 0) 6 (-15)) _
                refine r_iret rfl ?_
                show EV _ 179 [.ref (ad 30), .int c, .int i, .int d, .int j, .int m] (sI (sI h (ad 0) 6 0) (ad 0) 6 (-15)) _
                refine in_179 (Nat.le_of_ble_eq_true rfl) ?_
                show WR _ cd_179 0 [some (.ref (ad 30)), some (.int c), some (.int i), some (.int d), some (.int j), some (.int m), none, none, none, none, none] [] (sI (sI h (ad 0) 6 0) (ad 0) 6 (-15)) _
                refine r_iload rfl rfl ?_
                refine WR_tI (y := nI k2) ek2 ?_
                refine r_cs (y := 153) (ra := [.int (nI k2)]) (rest := []) rfl ⟨⟨rfl, rfl⟩, by decide⟩ rfl rfl (Nat.le_of_ble_eq_true rfl) ?_
                refine in_153 (Nat.le_of_ble_eq_true rfl) ?_
                show WR _ cd_153 0 [some (.int (nI k2))] [] (sI (sI h (ad 0) 6 0) (ad 0) 6 (-15)) _
                refine r_iload rfl rfl ?_
                refine r_if_lt (tg := 14) rfl rfl (fun q => False.elim (by have := i_nlt c1; have := i_rg c; have : (0 : Int32).toInt = 0 := rfl; have := i_eq ek2; have : (nI k2).toInt = ((k2 : Nat) : Int) := nI_toInt (by omega); have := i_nle c3; have : (24 : Int32).toInt = 24 := rfl; have := i_lt q; omega)) (fun _ => ?_)
                refine r_iload rfl rfl ?_
                refine r_ic (x := 24) rfl rfl ?_
                refine r_icmp_ge (tg := 14) rfl rfl (fun q => False.elim (by have := i_nlt c1; have := i_rg c; have : (0 : Int32).toInt = 0 := rfl; have := i_eq ek2; have : (nI k2).toInt = ((k2 : Nat) : Int) := nI_toInt (by omega); have := i_nle c3; have : (24 : Int32).toInt = 24 := rfl; have := i_le q; omega)) (fun _ => ?_)
                refine r_ic (x := 1) rfl rfl ?_
                refine r_goto (tg := 15) rfl rfl ?_
                refine r_zret rfl (.inr rfl) ?_
                show WR _ cd_179 4 [some (.ref (ad 30)), some (.int c), some (.int i), some (.int d), some (.int j), some (.int m), none, none, none, none, none] [.int 1] (sI (sI h (ad 0) 6 0) (ad 0) 6 (-15)) _
                refine r_if_eq (tg := 14) rfl rfl (fun q => absurd q (by decide)) (fun _ => ?_)
                refine r_iload rfl rfl ?_
                refine WR_tI (y := nI k5) ek5 ?_
                refine r_cs (y := 153) (ra := [.int (nI k5)]) (rest := []) rfl ⟨⟨rfl, rfl⟩, by decide⟩ rfl rfl (Nat.le_of_ble_eq_true rfl) ?_
                refine in_153 (Nat.le_of_ble_eq_true rfl) ?_
                show WR _ cd_153 0 [some (.int (nI k5))] [] (sI (sI h (ad 0) 6 0) (ad 0) 6 (-15)) _
                refine r_iload rfl rfl ?_
                refine r_if_lt (tg := 14) rfl rfl (fun q => False.elim (by have := i_nlt c4; have := i_rg d; have : (0 : Int32).toInt = 0 := rfl; have := i_eq ek5; have : (nI k5).toInt = ((k5 : Nat) : Int) := nI_toInt (by omega); have := i_nle c6; have : (24 : Int32).toInt = 24 := rfl; have := i_lt q; omega)) (fun _ => ?_)
                refine r_iload rfl rfl ?_
                refine r_ic (x := 24) rfl rfl ?_
                refine r_icmp_ge (tg := 14) rfl rfl (fun q => False.elim (by have := i_nlt c4; have := i_rg d; have : (0 : Int32).toInt = 0 := rfl; have := i_eq ek5; have : (nI k5).toInt = ((k5 : Nat) : Int) := nI_toInt (by omega); have := i_nle c6; have : (24 : Int32).toInt = 24 := rfl; have := i_le q; omega)) (fun _ => ?_)
                refine r_ic (x := 1) rfl rfl ?_
                refine r_goto (tg := 15) rfl rfl ?_
                refine r_zret rfl (.inr rfl) ?_
                show WR _ cd_179 11 [some (.ref (ad 30)), some (.int c), some (.int i), some (.int d), some (.int j), some (.int m), none, none, none, none, none] [.int 1] (sI (sI h (ad 0) 6 0) (ad 0) 6 (-15)) _
                refine r_if_ne (tg := 21) rfl rfl (fun _ => ?_) (fun q => absurd q (by decide))
                refine r_aload rfl rfl ?_
                refine r_getA (b := ad 31) rfl ⟨rfl, rfl, rfl⟩ (fx_t30 fx) (fx_r30_0 fx) ?_
                refine r_iload rfl rfl ?_
                refine WR_tI (y := nI k2) ek2 ?_
                refine r_iaload rfl (.inl (fx_t31 fx)) (vp_ct (fx_n31 fx) (vp_in_nI (by have := i_nlt c1; have := i_rg c; have : (0 : Int32).toInt = 0 := rfl; have := i_eq ek2; have : (nI k2).toInt = ((k2 : Nat) : Int) := nI_toInt (by omega); have := i_nle c3; have : (24 : Int32).toInt = 24 := rfl; omega) (by omega))) ?_
                refine WR_tI (congrArg (hI (sI (sI h (ad 0) 6 0) (ad 0) 6 (-15)) (ad 31)) ((nI_clamp (by have := i_nlt c1; have := i_rg c; have : (0 : Int32).toInt = 0 := rfl; have := i_eq ek2; have : (nI k2).toInt = ((k2 : Nat) : Int) := nI_toInt (by omega); have := i_nle c3; have : (24 : Int32).toInt = 24 := rfl; omega)) : _ = k2)) ?_
                refine WR_tI (y := nI t7) (Eq.trans (I_ne (fx_ne fx (by decide))) (Eq.trans (I_ne (fx_ne fx (by decide))) v7)) ?_
                refine r_istore (lv' := [some (.ref (ad 30)), some (.int c), some (.int i), some (.int d), some (.int j), some (.int m), some (.int (nI t7)), none, none, none, none]) rfl (Nat.le_of_ble_eq_true rfl) rfl ?_
                refine r_aload rfl rfl ?_
                refine r_getA (b := ad 31) rfl ⟨rfl, rfl, rfl⟩ (fx_t30 fx) (fx_r30_0 fx) ?_
                refine r_iload rfl rfl ?_
                refine WR_tI (y := nI k5) ek5 ?_
                refine r_iaload rfl (.inl (fx_t31 fx)) (vp_ct (fx_n31 fx) (vp_in_nI (by have := i_nlt c4; have := i_rg d; have : (0 : Int32).toInt = 0 := rfl; have := i_eq ek5; have : (nI k5).toInt = ((k5 : Nat) : Int) := nI_toInt (by omega); have := i_nle c6; have : (24 : Int32).toInt = 24 := rfl; omega) (by omega))) ?_
                refine WR_tI (congrArg (hI (sI (sI h (ad 0) 6 0) (ad 0) 6 (-15)) (ad 31)) ((nI_clamp (by have := i_nlt c4; have := i_rg d; have : (0 : Int32).toInt = 0 := rfl; have := i_eq ek5; have : (nI k5).toInt = ((k5 : Nat) : Int) := nI_toInt (by omega); have := i_nle c6; have : (24 : Int32).toInt = 24 := rfl; omega)) : _ = k5)) ?_
                refine WR_tI (y := nI t10) (Eq.trans (I_ne (fx_ne fx (by decide))) (Eq.trans (I_ne (fx_ne fx (by decide))) v10)) ?_
                refine r_istore (lv' := [some (.ref (ad 30)), some (.int c), some (.int i), some (.int d), some (.int j), some (.int m), some (.int (nI t7)), some (.int (nI t10)), none, none, none]) rfl (Nat.le_of_ble_eq_true rfl) rfl ?_
                refine r_iload rfl rfl ?_
                refine r_ic (x := (-1)) rfl rfl ?_
                refine r_icmp_eq (tg := 49) rfl rfl (fun q => False.elim (by have : (nI t7).toInt = ((t7 : Nat) : Int) := nI_toInt (by omega); have : (-1 : Int32).toInt = -1 := rfl; have := i_eq q; omega)) (fun _ => ?_)
                refine r_iload rfl rfl ?_
                refine r_ic (x := (-1)) rfl rfl ?_
                refine r_icmp_ne (tg := 55) rfl rfl (fun _ => ?_) (fun q => False.elim (by have : (nI t10).toInt = ((t10 : Nat) : Int) := nI_toInt (by omega); have : (-1 : Int32).toInt = -1 := rfl; have := i_eq q; omega))
                refine r_iload rfl rfl ?_
                refine r_ic (x := 1000) rfl rfl ?_
                refine r_icmp_ge (tg := 112) rfl rfl (fun q => False.elim (by have : (nI t7).toInt = ((t7 : Nat) : Int) := nI_toInt (by omega); have : (1000 : Int32).toInt = 1000 := rfl; have := i_le q; omega)) (fun _ => ?_)
                refine r_iload rfl rfl ?_
                refine r_ic (x := 1000) rfl rfl ?_
                refine r_icmp_ge (tg := 112) rfl rfl (fun q => False.elim (by have : (nI t10).toInt = ((t10 : Nat) : Int) := nI_toInt (by omega); have : (1000 : Int32).toInt = 1000 := rfl; have := i_le q; omega)) (fun _ => ?_)
                refine r_aload rfl rfl ?_
                refine r_getA (b := ad 33) rfl ⟨rfl, rfl, rfl⟩ (fx_t30 fx) (fx_r30_2 fx) ?_
                refine r_iload rfl rfl ?_
                refine r_iaload rfl (.inl (fx_t33 fx)) (vp_ct (fx_n33 fx) (vp_in_nI (by omega) (by omega))) ?_
                refine WR_tI (congrArg (hI (sI (sI h (ad 0) 6 0) (ad 0) 6 (-15)) (ad 33)) ((nI_clamp (by omega)) : _ = t7)) ?_
                refine WR_tI (y := nI ln7) (Eq.trans (I_ne (fx_ne fx (by decide))) (Eq.trans (I_ne (fx_ne fx (by decide))) l2_7)) ?_
                refine r_aload rfl rfl ?_
                refine r_getA (b := ad 33) rfl ⟨rfl, rfl, rfl⟩ (fx_t30 fx) (fx_r30_2 fx) ?_
                refine r_iload rfl rfl ?_
                refine r_iaload rfl (.inl (fx_t33 fx)) (vp_ct (fx_n33 fx) (vp_in_nI (by omega) (by omega))) ?_
                refine WR_tI (congrArg (hI (sI (sI h (ad 0) 6 0) (ad 0) 6 (-15)) (ad 33)) ((nI_clamp (by omega)) : _ = t10)) ?_
                refine WR_tI (y := nI ln10) (Eq.trans (I_ne (fx_ne fx (by decide))) (Eq.trans (I_ne (fx_ne fx (by decide))) l2_10)) ?_
                refine r_icmp_eq (tg := 118) rfl rfl (fun q => False.elim (by have := i_neq c11; have : (nI ln10).toInt = ((ln10 : Nat) : Int) := nI_toInt (by omega); have : (nI ln7).toInt = ((ln7 : Nat) : Int) := nI_toInt (by omega); have := i_eq q; omega)) (fun _ => ?_)
                refine r_aload rfl rfl ?_
                refine r_getA (b := ad 33) rfl ⟨rfl, rfl, rfl⟩ (fx_t30 fx) (fx_r30_2 fx) ?_
                refine r_iload rfl rfl ?_
                refine r_iaload rfl (.inl (fx_t33 fx)) (vp_ct (fx_n33 fx) (vp_in_nI (by omega) (by omega))) ?_
                refine WR_tI (congrArg (hI (sI (sI h (ad 0) 6 0) (ad 0) 6 (-15)) (ad 33)) ((nI_clamp (by omega)) : _ = t7)) ?_
                refine WR_tI (y := nI ln7) (Eq.trans (I_ne (fx_ne fx (by decide))) (Eq.trans (I_ne (fx_ne fx (by decide))) l2_7)) ?_
                refine r_ic (x := 8) rfl rfl ?_
                refine r_icmp_lt (tg := 112) rfl rfl (fun _ => ?_) (fun q => False.elim (by have : (nI ln7).toInt = ((ln7 : Nat) : Int) := nI_toInt (by omega); have : (8 : Int32).toInt = 8 := rfl; have := i_nlt q; omega))
                refine r_aload rfl rfl ?_
                refine r_ic (x := 5) rfl rfl ?_
                refine r_cv (y := 156) (ra := [.int 5]) (rest := []) rfl ⟨⟨rfl, rfl⟩, rfl, by decide⟩ (fx_t30 fx) rfl rfl (Nat.le_of_ble_eq_true rfl) ?_
                refine in_156 (Nat.le_of_ble_eq_true rfl) ?_
                show WR _ cd_156 0 [some (.ref (ad 30)), some (.int 5)] [] (sI (sI h (ad 0) 6 0) (ad 0) 6 (-15)) _
                refine r_aload rfl rfl ?_
                refine r_ic (x := (-10)) rfl rfl ?_
                refine r_iload rfl rfl ?_
                refine r_isub rfl ?_
                refine WR_tI (y := (-15)) rfl ?_
                refine r_cv (y := 154) (ra := [.int (-15)]) (rest := []) rfl ⟨⟨rfl, rfl⟩, rfl, by decide⟩ (fx_t30 fx) rfl rfl (Nat.le_of_ble_eq_true rfl) ?_
                refine in_154 (Nat.le_of_ble_eq_true rfl) ?_
                show WR _ cd_154 0 [some (.ref (ad 30)), some (.int (-15))] [] (sI (sI h (ad 0) 6 0) (ad 0) 6 (-15)) _
                refine r_aload rfl rfl ?_
                refine r_iload rfl rfl ?_
                refine r_ic (x := (-1)) rfl rfl ?_
                refine r_icmp_ge (tg := 10) rfl rfl (fun q => absurd q (by decide)) (fun _ => ?_)
                refine r_iload rfl rfl ?_
                refine r_goto (tg := 11) rfl rfl ?_
                refine r_putI rfl ⟨rfl, rfl, rfl⟩ (fx_t30 fx) ?_
                have fx : FX n ad sa z0 (sI (sI (sI h (ad 0) 6 0) (ad 0) 6 (-15)) (ad 30) 11 (-15)) := (FX.sI fx)
                refine r_iload rfl rfl ?_
                refine r_iret rfl ?_
                show WR _ cd_156 8 [some (.ref (ad 30)), some (.int 5)] [.int (-15)] (sI (sI (sI h (ad 0) 6 0) (ad 0) 6 (-15)) (ad 30) 11 (-15)) _
                refine r_iret rfl ?_
                show WR _ cd_179 117 [some (.ref (ad 30)), some (.int c), some (.int i), some (.int d), some (.int j), some (.int m), some (.int (nI t7)), some (.int (nI t10)), none, none, none] [.int (-15)] (sI (sI (sI h (ad 0) 6 0) (ad 0) 6 (-15)) (ad 30) 11 (-15)) _
                refine r_iret rfl ?_
                exact ⟨rfl, Rel.why r (((Chg.rf.sI (fx_j fx) (.inl (by decide))).sI (fx_j fx) (.inl (by decide))).sI (fx_j fx) (.inl (by decide))) ⟨rfl, by decide⟩ (Eq.trans (Eq.trans (I_ne (fx_ne fx (by decide))) I_eq) (Eq.symm I_eq)), (by (try simp only [hZ_sI, hZ_sL, hZ_sD, hZ_sR]); omega), (by (try simp only [hU_sI, hU_sL, hU_sD, hU_sR]); omega)⟩
              · refine r_ic (x := 1) rfl rfl ?_
                refine r_goto (tg := 16) rfl rfl ?_
                refine r_zret rfl (.inr rfl) ?_
                show WR _ cd_51 66 [some (.ref (ad 0)), some (.int c), some (.int i), some (.int d), some (.int j), some (.int m), some (.ref (mid t7)), some (.ref (mid t10)), none] [.int 1] (sI h (ad 0) 6 0) _
                refine r_if_ne (tg := 76) rfl rfl (fun _ => ?_) (fun q => absurd q (by decide))
                refine r_aload rfl rfl ?_
                refine r_iload rfl rfl ?_
                refine r_iload rfl rfl ?_
                refine r_cw (y := 32) (ra := [.int m, .int i]) (rest := []) rfl ⟨rfl, rfl⟩ (by rw [show hT (sI h (ad 0) 6 0) (mid t7) = 5 from tg7]; rfl) rfl rfl (Nat.le_of_ble_eq_true rfl) ?_
                refine in_32 (Nat.le_of_ble_eq_true rfl) ?_
                show WR _ cd_32 0 [some (.ref (mid t7)), some (.int i), some (.int m)] [] (sI h (ad 0) 6 0) _
                refine r_iload rfl rfl ?_
                refine r_if_lt (tg := 22) rfl rfl (fun c12 => ?_) (fun c12 => ?_)
                · refine r_ic (x := 0) rfl rfl ?_
                  refine r_zret rfl (.inl rfl) ?_
                  show WR _ cd_51 84 [some (.ref (ad 0)), some (.int c), some (.int i), some (.int d), some (.int j), some (.int m), some (.ref (mid t7)), some (.ref (mid t10)), none] [.int 0] (sI h (ad 0) 6 0) _
                  refine r_if_eq (tg := 99) rfl rfl (fun _ => ?_) (fun q => absurd q (by decide))
                  refine r_aload rfl rfl ?_
                  refine r_ic (x := (-12)) rfl rfl ?_
                  refine r_cv (y := 13) (ra := [.int (-12)]) (rest := []) rfl ⟨⟨rfl, rfl⟩, rfl, by decide⟩ (fx_t0 fx) rfl rfl (Nat.le_of_ble_eq_true rfl) ?_
                  refine in_13 (Nat.le_of_ble_eq_true rfl) ?_
                  show WR _ cd_13 0 [some (.ref (ad 0)), some (.int (-12))] [] (sI h (ad 0) 6 0) _
                  refine r_aload rfl rfl ?_
                  refine r_iload rfl rfl ?_
                  refine r_putI rfl ⟨rfl, rfl, rfl⟩ (fx_t0 fx) ?_
                  have fx : FX n ad sa z0 (sI (sI h (ad 0) 6 0) (ad 0) 6 (-12)) := (FX.sI fx)
                  refine r_iload rfl rfl ?_
                  refine r_iret rfl ?_
                  show WR _ cd_51 105 [some (.ref (ad 0)), some (.int c), some (.int i), some (.int d), some (.int j), some (.int m), some (.ref (mid t7)), some (.ref (mid t10)), none] [.int (-12)] (sI (sI h (ad 0) 6 0) (ad 0) 6 (-12)) _
                  refine r_iret rfl ?_
                  show EV _ 179 [.ref (ad 30), .int c, .int i, .int d, .int j, .int m] (sI (sI h (ad 0) 6 0) (ad 0) 6 (-12)) _
                  refine in_179 (Nat.le_of_ble_eq_true rfl) ?_
                  show WR _ cd_179 0 [some (.ref (ad 30)), some (.int c), some (.int i), some (.int d), some (.int j), some (.int m), none, none, none, none, none] [] (sI (sI h (ad 0) 6 0) (ad 0) 6 (-12)) _
                  refine r_iload rfl rfl ?_
                  refine WR_tI (y := nI k2) ek2 ?_
                  refine r_cs (y := 153) (ra := [.int (nI k2)]) (rest := []) rfl ⟨⟨rfl, rfl⟩, by decide⟩ rfl rfl (Nat.le_of_ble_eq_true rfl) ?_
                  refine in_153 (Nat.le_of_ble_eq_true rfl) ?_
                  show WR _ cd_153 0 [some (.int (nI k2))] [] (sI (sI h (ad 0) 6 0) (ad 0) 6 (-12)) _
                  refine r_iload rfl rfl ?_
                  refine r_if_lt (tg := 14) rfl rfl (fun q => False.elim (by have := i_nlt c1; have := i_rg c; have : (0 : Int32).toInt = 0 := rfl; have := i_eq ek2; have : (nI k2).toInt = ((k2 : Nat) : Int) := nI_toInt (by omega); have := i_nle c3; have : (24 : Int32).toInt = 24 := rfl; have := i_lt q; omega)) (fun _ => ?_)
                  refine r_iload rfl rfl ?_
                  refine r_ic (x := 24) rfl rfl ?_
                  refine r_icmp_ge (tg := 14) rfl rfl (fun q => False.elim (by have := i_nlt c1; have := i_rg c; have : (0 : Int32).toInt = 0 := rfl; have := i_eq ek2; have : (nI k2).toInt = ((k2 : Nat) : Int) := nI_toInt (by omega); have := i_nle c3; have : (24 : Int32).toInt = 24 := rfl; have := i_le q; omega)) (fun _ => ?_)
                  refine r_ic (x := 1) rfl rfl ?_
                  refine r_goto (tg := 15) rfl rfl ?_
                  refine r_zret rfl (.inr rfl) ?_
                  show WR _ cd_179 4 [some (.ref (ad 30)), some (.int c), some (.int i), some (.int d), some (.int j), some (.int m), none, none, none, none, none] [.int 1] (sI (sI h (ad 0) 6 0) (ad 0) 6 (-12)) _
                  refine r_if_eq (tg := 14) rfl rfl (fun q => absurd q (by decide)) (fun _ => ?_)
                  refine r_iload rfl rfl ?_
                  refine WR_tI (y := nI k5) ek5 ?_
                  refine r_cs (y := 153) (ra := [.int (nI k5)]) (rest := []) rfl ⟨⟨rfl, rfl⟩, by decide⟩ rfl rfl (Nat.le_of_ble_eq_true rfl) ?_
                  refine in_153 (Nat.le_of_ble_eq_true rfl) ?_
                  show WR _ cd_153 0 [some (.int (nI k5))] [] (sI (sI h (ad 0) 6 0) (ad 0) 6 (-12)) _
                  refine r_iload rfl rfl ?_
                  refine r_if_lt (tg := 14) rfl rfl (fun q => False.elim (by have := i_nlt c4; have := i_rg d; have : (0 : Int32).toInt = 0 := rfl; have := i_eq ek5; have : (nI k5).toInt = ((k5 : Nat) : Int) := nI_toInt (by omega); have := i_nle c6; have : (24 : Int32).toInt = 24 := rfl; have := i_lt q; omega)) (fun _ => ?_)
                  refine r_iload rfl rfl ?_
                  refine r_ic (x := 24) rfl rfl ?_
                  refine r_icmp_ge (tg := 14) rfl rfl (fun q => False.elim (by have := i_nlt c4; have := i_rg d; have : (0 : Int32).toInt = 0 := rfl; have := i_eq ek5; have : (nI k5).toInt = ((k5 : Nat) : Int) := nI_toInt (by omega); have := i_nle c6; have : (24 : Int32).toInt = 24 := rfl; have := i_le q; omega)) (fun _ => ?_)
                  refine r_ic (x := 1) rfl rfl ?_
                  refine r_goto (tg := 15) rfl rfl ?_
                  refine r_zret rfl (.inr rfl) ?_
                  show WR _ cd_179 11 [some (.ref (ad 30)), some (.int c), some (.int i), some (.int d), some (.int j), some (.int m), none, none, none, none, none] [.int 1] (sI (sI h (ad 0) 6 0) (ad 0) 6 (-12)) _
                  refine r_if_ne (tg := 21) rfl rfl (fun _ => ?_) (fun q => absurd q (by decide))
                  refine r_aload rfl rfl ?_
                  refine r_getA (b := ad 31) rfl ⟨rfl, rfl, rfl⟩ (fx_t30 fx) (fx_r30_0 fx) ?_
                  refine r_iload rfl rfl ?_
                  refine WR_tI (y := nI k2) ek2 ?_
                  refine r_iaload rfl (.inl (fx_t31 fx)) (vp_ct (fx_n31 fx) (vp_in_nI (by have := i_nlt c1; have := i_rg c; have : (0 : Int32).toInt = 0 := rfl; have := i_eq ek2; have : (nI k2).toInt = ((k2 : Nat) : Int) := nI_toInt (by omega); have := i_nle c3; have : (24 : Int32).toInt = 24 := rfl; omega) (by omega))) ?_
                  refine WR_tI (congrArg (hI (sI (sI h (ad 0) 6 0) (ad 0) 6 (-12)) (ad 31)) ((nI_clamp (by have := i_nlt c1; have := i_rg c; have : (0 : Int32).toInt = 0 := rfl; have := i_eq ek2; have : (nI k2).toInt = ((k2 : Nat) : Int) := nI_toInt (by omega); have := i_nle c3; have : (24 : Int32).toInt = 24 := rfl; omega)) : _ = k2)) ?_
                  refine WR_tI (y := nI t7) (Eq.trans (I_ne (fx_ne fx (by decide))) (Eq.trans (I_ne (fx_ne fx (by decide))) v7)) ?_
                  refine r_istore (lv' := [some (.ref (ad 30)), some (.int c), some (.int i), some (.int d), some (.int j), some (.int m), some (.int (nI t7)), none, none, none, none]) rfl (Nat.le_of_ble_eq_true rfl) rfl ?_
                  refine r_aload rfl rfl ?_
                  refine r_getA (b := ad 31) rfl ⟨rfl, rfl, rfl⟩ (fx_t30 fx) (fx_r30_0 fx) ?_
                  refine r_iload rfl rfl ?_
                  refine WR_tI (y := nI k5) ek5 ?_
                  refine r_iaload rfl (.inl (fx_t31 fx)) (vp_ct (fx_n31 fx) (vp_in_nI (by have := i_nlt c4; have := i_rg d; have : (0 : Int32).toInt = 0 := rfl; have := i_eq ek5; have : (nI k5).toInt = ((k5 : Nat) : Int) := nI_toInt (by omega); have := i_nle c6; have : (24 : Int32).toInt = 24 := rfl; omega) (by omega))) ?_
                  refine WR_tI (congrArg (hI (sI (sI h (ad 0) 6 0) (ad 0) 6 (-12)) (ad 31)) ((nI_clamp (by have := i_nlt c4; have := i_rg d; have : (0 : Int32).toInt = 0 := rfl; have := i_eq ek5; have : (nI k5).toInt = ((k5 : Nat) : Int) := nI_toInt (by omega); have := i_nle c6; have : (24 : Int32).toInt = 24 := rfl; omega)) : _ = k5)) ?_
                  refine WR_tI (y := nI t10) (Eq.trans (I_ne (fx_ne fx (by decide))) (Eq.trans (I_ne (fx_ne fx (by decide))) v10)) ?_
                  refine r_istore (lv' := [some (.ref (ad 30)), some (.int c), some (.int i), some (.int d), some (.int j), some (.int m), some (.int (nI t7)), some (.int (nI t10)), none, none, none]) rfl (Nat.le_of_ble_eq_true rfl) rfl ?_
                  refine r_iload rfl rfl ?_
                  refine r_ic (x := (-1)) rfl rfl ?_
                  refine r_icmp_eq (tg := 49) rfl rfl (fun q => False.elim (by have : (nI t7).toInt = ((t7 : Nat) : Int) := nI_toInt (by omega); have : (-1 : Int32).toInt = -1 := rfl; have := i_eq q; omega)) (fun _ => ?_)
                  refine r_iload rfl rfl ?_
                  refine r_ic (x := (-1)) rfl rfl ?_
                  refine r_icmp_ne (tg := 55) rfl rfl (fun _ => ?_) (fun q => False.elim (by have : (nI t10).toInt = ((t10 : Nat) : Int) := nI_toInt (by omega); have : (-1 : Int32).toInt = -1 := rfl; have := i_eq q; omega))
                  refine r_iload rfl rfl ?_
                  refine r_ic (x := 1000) rfl rfl ?_
                  refine r_icmp_ge (tg := 112) rfl rfl (fun q => False.elim (by have : (nI t7).toInt = ((t7 : Nat) : Int) := nI_toInt (by omega); have : (1000 : Int32).toInt = 1000 := rfl; have := i_le q; omega)) (fun _ => ?_)
                  refine r_iload rfl rfl ?_
                  refine r_ic (x := 1000) rfl rfl ?_
                  refine r_icmp_ge (tg := 112) rfl rfl (fun q => False.elim (by have : (nI t10).toInt = ((t10 : Nat) : Int) := nI_toInt (by omega); have : (1000 : Int32).toInt = 1000 := rfl; have := i_le q; omega)) (fun _ => ?_)
                  refine r_aload rfl rfl ?_
                  refine r_getA (b := ad 33) rfl ⟨rfl, rfl, rfl⟩ (fx_t30 fx) (fx_r30_2 fx) ?_
                  refine r_iload rfl rfl ?_
                  refine r_iaload rfl (.inl (fx_t33 fx)) (vp_ct (fx_n33 fx) (vp_in_nI (by omega) (by omega))) ?_
                  refine WR_tI (congrArg (hI (sI (sI h (ad 0) 6 0) (ad 0) 6 (-12)) (ad 33)) ((nI_clamp (by omega)) : _ = t7)) ?_
                  refine WR_tI (y := nI ln7) (Eq.trans (I_ne (fx_ne fx (by decide))) (Eq.trans (I_ne (fx_ne fx (by decide))) l2_7)) ?_
                  refine r_aload rfl rfl ?_
                  refine r_getA (b := ad 33) rfl ⟨rfl, rfl, rfl⟩ (fx_t30 fx) (fx_r30_2 fx) ?_
                  refine r_iload rfl rfl ?_
                  refine r_iaload rfl (.inl (fx_t33 fx)) (vp_ct (fx_n33 fx) (vp_in_nI (by omega) (by omega))) ?_
                  refine WR_tI (congrArg (hI (sI (sI h (ad 0) 6 0) (ad 0) 6 (-12)) (ad 33)) ((nI_clamp (by omega)) : _ = t10)) ?_
                  refine WR_tI (y := nI ln10) (Eq.trans (I_ne (fx_ne fx (by decide))) (Eq.trans (I_ne (fx_ne fx (by decide))) l2_10)) ?_
                  refine r_icmp_eq (tg := 118) rfl rfl (fun _ => ?_) (fun q => False.elim (by have := i_eq c11; have : (nI ln10).toInt = ((ln10 : Nat) : Int) := nI_toInt (by omega); have : (nI ln7).toInt = ((ln7 : Nat) : Int) := nI_toInt (by omega); have := i_neq q; omega))
                  refine r_iload rfl rfl ?_
                  refine r_if_lt (tg := 169) rfl rfl (fun _ => ?_) (fun q => False.elim (by have := i_lt c12; have := i_rg i; have : (0 : Int32).toInt = 0 := rfl; have := i_nlt q; omega))
                  refine r_aload rfl rfl ?_
                  refine r_ic (x := 2) rfl rfl ?_
                  refine r_cv (y := 156) (ra := [.int 2]) (rest := []) rfl ⟨⟨rfl, rfl⟩, rfl, by decide⟩ (fx_t30 fx) rfl rfl (Nat.le_of_ble_eq_true rfl) ?_
                  refine in_156 (Nat.le_of_ble_eq_true rfl) ?_
                  show WR _ cd_156 0 [some (.ref (ad 30)), some (.int 2)] [] (sI (sI h (ad 0) 6 0) (ad 0) 6 (-12)) _
                  refine r_aload rfl rfl ?_
                  refine r_ic (x := (-10)) rfl rfl ?_
                  refine r_iload rfl rfl ?_
                  refine r_isub rfl ?_
                  refine WR_tI (y := (-12)) rfl ?_
                  refine r_cv (y := 154) (ra := [.int (-12)]) (rest := []) rfl ⟨⟨rfl, rfl⟩, rfl, by decide⟩ (fx_t30 fx) rfl rfl (Nat.le_of_ble_eq_true rfl) ?_
                  refine in_154 (Nat.le_of_ble_eq_true rfl) ?_
                  show WR _ cd_154 0 [some (.ref (ad 30)), some (.int (-12))] [] (sI (sI h (ad 0) 6 0) (ad 0) 6 (-12)) _
                  refine r_aload rfl rfl ?_
                  refine r_iload rfl rfl ?_
                  refine r_ic (x := (-1)) rfl rfl ?_
                  refine r_icmp_ge (tg := 10) rfl rfl (fun q => absurd q (by decide)) (fun _ => ?_)
                  refine r_iload rfl rfl ?_
                  refine r_goto (tg := 11) rfl rfl ?_
                  refine r_putI rfl ⟨rfl, rfl, rfl⟩ (fx_t30 fx) ?_
                  have fx : FX n ad sa z0 (sI (sI (sI h (ad 0) 6 0) (ad 0) 6 (-12)) (ad 30) 11 (-12)) := (FX.sI fx)
                  refine r_iload rfl rfl ?_
                  refine r_iret rfl ?_
                  show WR _ cd_156 8 [some (.ref (ad 30)), some (.int 2)] [.int (-12)] (sI (sI (sI h (ad 0) 6 0) (ad 0) 6 (-12)) (ad 30) 11 (-12)) _
                  refine r_iret rfl ?_
                  show WR _ cd_179 174 [some (.ref (ad 30)), some (.int c), some (.int i), some (.int d), some (.int j), some (.int m), some (.int (nI t7)), some (.int (nI t10)), none, none, none] [.int (-12)] (sI (sI (sI h (ad 0) 6 0) (ad 0) 6 (-12)) (ad 30) 11 (-12)) _
                  refine r_iret rfl ?_
                  exact ⟨rfl, Rel.why r (((Chg.rf.sI (fx_j fx) (.inl (by decide))).sI (fx_j fx) (.inl (by decide))).sI (fx_j fx) (.inl (by decide))) ⟨rfl, by decide⟩ (Eq.trans (Eq.trans (I_ne (fx_ne fx (by decide))) I_eq) (Eq.symm I_eq)), (by (try simp only [hZ_sI, hZ_sL, hZ_sD, hZ_sR]); omega), (by (try simp only [hU_sI, hU_sL, hU_sD, hU_sR]); omega)⟩
                · refine r_iload rfl rfl ?_
                  refine r_if_lt (tg := 22) rfl rfl (fun c13 => ?_) (fun c13 => ?_)
                  · refine r_ic (x := 0) rfl rfl ?_
                    refine r_zret rfl (.inl rfl) ?_
                    show WR _ cd_51 84 [some (.ref (ad 0)), some (.int c), some (.int i), some (.int d), some (.int j), some (.int m), some (.ref (mid t7)), some (.ref (mid t10)), none] [.int 0] (sI h (ad 0) 6 0) _
                    refine r_if_eq (tg := 99) rfl rfl (fun _ => ?_) (fun q => absurd q (by decide))
                    refine r_aload rfl rfl ?_
                    refine r_ic (x := (-12)) rfl rfl ?_
                    refine r_cv (y := 13) (ra := [.int (-12)]) (rest := []) rfl ⟨⟨rfl, rfl⟩, rfl, by decide⟩ (fx_t0 fx) rfl rfl (Nat.le_of_ble_eq_true rfl) ?_
                    refine in_13 (Nat.le_of_ble_eq_true rfl) ?_
                    show WR _ cd_13 0 [some (.ref (ad 0)), some (.int (-12))] [] (sI h (ad 0) 6 0) _
                    refine r_aload rfl rfl ?_
                    refine r_iload rfl rfl ?_
                    refine r_putI rfl ⟨rfl, rfl, rfl⟩ (fx_t0 fx) ?_
                    have fx : FX n ad sa z0 (sI (sI h (ad 0) 6 0) (ad 0) 6 (-12)) := (FX.sI fx)
                    refine r_iload rfl rfl ?_
                    refine r_iret rfl ?_
                    show WR _ cd_51 105 [some (.ref (ad 0)), some (.int c), some (.int i), some (.int d), some (.int j), some (.int m), some (.ref (mid t7)), some (.ref (mid t10)), none] [.int (-12)] (sI (sI h (ad 0) 6 0) (ad 0) 6 (-12)) _
                    refine r_iret rfl ?_
                    show EV _ 179 [.ref (ad 30), .int c, .int i, .int d, .int j, .int m] (sI (sI h (ad 0) 6 0) (ad 0) 6 (-12)) _
                    refine in_179 (Nat.le_of_ble_eq_true rfl) ?_
                    show WR _ cd_179 0 [some (.ref (ad 30)), some (.int c), some (.int i), some (.int d), some (.int j), some (.int m), none, none, none, none, none] [] (sI (sI h (ad 0) 6 0) (ad 0) 6 (-12)) _
                    refine r_iload rfl rfl ?_
                    refine WR_tI (y := nI k2) ek2 ?_
                    refine r_cs (y := 153) (ra := [.int (nI k2)]) (rest := []) rfl ⟨⟨rfl, rfl⟩, by decide⟩ rfl rfl (Nat.le_of_ble_eq_true rfl) ?_
                    refine in_153 (Nat.le_of_ble_eq_true rfl) ?_
                    show WR _ cd_153 0 [some (.int (nI k2))] [] (sI (sI h (ad 0) 6 0) (ad 0) 6 (-12)) _
                    refine r_iload rfl rfl ?_
                    refine r_if_lt (tg := 14) rfl rfl (fun q => False.elim (by have := i_nlt c1; have := i_rg c; have : (0 : Int32).toInt = 0 := rfl; have := i_eq ek2; have : (nI k2).toInt = ((k2 : Nat) : Int) := nI_toInt (by omega); have := i_nle c3; have : (24 : Int32).toInt = 24 := rfl; have := i_lt q; omega)) (fun _ => ?_)
                    refine r_iload rfl rfl ?_
                    refine r_ic (x := 24) rfl rfl ?_
                    refine r_icmp_ge (tg := 14) rfl rfl (fun q => False.elim (by have := i_nlt c1; have := i_rg c; have : (0 : Int32).toInt = 0 := rfl; have := i_eq ek2; have : (nI k2).toInt = ((k2 : Nat) : Int) := nI_toInt (by omega); have := i_nle c3; have : (24 : Int32).toInt = 24 := rfl; have := i_le q; omega)) (fun _ => ?_)
                    refine r_ic (x := 1) rfl rfl ?_
                    refine r_goto (tg := 15) rfl rfl ?_
                    refine r_zret rfl (.inr rfl) ?_
                    show WR _ cd_179 4 [some (.ref (ad 30)), some (.int c), some (.int i), some (.int d), some (.int j), some (.int m), none, none, none, none, none] [.int 1] (sI (sI h (ad 0) 6 0) (ad 0) 6 (-12)) _
                    refine r_if_eq (tg := 14) rfl rfl (fun q => absurd q (by decide)) (fun _ => ?_)
                    refine r_iload rfl rfl ?_
                    refine WR_tI (y := nI k5) ek5 ?_
                    refine r_cs (y := 153) (ra := [.int (nI k5)]) (rest := []) rfl ⟨⟨rfl, rfl⟩, by decide⟩ rfl rfl (Nat.le_of_ble_eq_true rfl) ?_
                    refine in_153 (Nat.le_of_ble_eq_true rfl) ?_
                    show WR _ cd_153 0 [some (.int (nI k5))] [] (sI (sI h (ad 0) 6 0) (ad 0) 6 (-12)) _
                    refine r_iload rfl rfl ?_
                    refine r_if_lt (tg := 14) rfl rfl (fun q => False.elim (by have := i_nlt c4; have := i_rg d; have : (0 : Int32).toInt = 0 := rfl; have := i_eq ek5; have : (nI k5).toInt = ((k5 : Nat) : Int) := nI_toInt (by omega); have := i_nle c6; have : (24 : Int32).toInt = 24 := rfl; have := i_lt q; omega)) (fun _ => ?_)
                    refine r_iload rfl rfl ?_
                    refine r_ic (x := 24) rfl rfl ?_
                    refine r_icmp_ge (tg := 14) rfl rfl (fun q => False.elim (by have := i_nlt c4; have := i_rg d; have : (0 : Int32).toInt = 0 := rfl; have := i_eq ek5; have : (nI k5).toInt = ((k5 : Nat) : Int) := nI_toInt (by omega); have := i_nle c6; have : (24 : Int32).toInt = 24 := rfl; have := i_le q; omega)) (fun _ => ?_)
                    refine r_ic (x := 1) rfl rfl ?_
                    refine r_goto (tg := 15) rfl rfl ?_
                    refine r_zret rfl (.inr rfl) ?_
                    show WR _ cd_179 11 [some (.ref (ad 30)), some (.int c), some (.int i), some (.int d), some (.int j), some (.int m), none, none, none, none, none] [.int 1] (sI (sI h (ad 0) 6 0) (ad 0) 6 (-12)) _
                    refine r_if_ne (tg := 21) rfl rfl (fun _ => ?_) (fun q => absurd q (by decide))
                    refine r_aload rfl rfl ?_
                    refine r_getA (b := ad 31) rfl ⟨rfl, rfl, rfl⟩ (fx_t30 fx) (fx_r30_0 fx) ?_
                    refine r_iload rfl rfl ?_
                    refine WR_tI (y := nI k2) ek2 ?_
                    refine r_iaload rfl (.inl (fx_t31 fx)) (vp_ct (fx_n31 fx) (vp_in_nI (by have := i_nlt c1; have := i_rg c; have : (0 : Int32).toInt = 0 := rfl; have := i_eq ek2; have : (nI k2).toInt = ((k2 : Nat) : Int) := nI_toInt (by omega); have := i_nle c3; have : (24 : Int32).toInt = 24 := rfl; omega) (by omega))) ?_
                    refine WR_tI (congrArg (hI (sI (sI h (ad 0) 6 0) (ad 0) 6 (-12)) (ad 31)) ((nI_clamp (by have := i_nlt c1; have := i_rg c; have : (0 : Int32).toInt = 0 := rfl; have := i_eq ek2; have : (nI k2).toInt = ((k2 : Nat) : Int) := nI_toInt (by omega); have := i_nle c3; have : (24 : Int32).toInt = 24 := rfl; omega)) : _ = k2)) ?_
                    refine WR_tI (y := nI t7) (Eq.trans (I_ne (fx_ne fx (by decide))) (Eq.trans (I_ne (fx_ne fx (by decide))) v7)) ?_
                    refine r_istore (lv' := [some (.ref (ad 30)), some (.int c), some (.int i), some (.int d), some (.int j), some (.int m), some (.int (nI t7)), none, none, none, none]) rfl (Nat.le_of_ble_eq_true rfl) rfl ?_
                    refine r_aload rfl rfl ?_
                    refine r_getA (b := ad 31) rfl ⟨rfl, rfl, rfl⟩ (fx_t30 fx) (fx_r30_0 fx) ?_
                    refine r_iload rfl rfl ?_
                    refine WR_tI (y := nI k5) ek5 ?_
                    refine r_iaload rfl (.inl (fx_t31 fx)) (vp_ct (fx_n31 fx) (vp_in_nI (by have := i_nlt c4; have := i_rg d; have : (0 : Int32).toInt = 0 := rfl; have := i_eq ek5; have : (nI k5).toInt = ((k5 : Nat) : Int) := nI_toInt (by omega); have := i_nle c6; have : (24 : Int32).toInt = 24 := rfl; omega) (by omega))) ?_
                    refine WR_tI (congrArg (hI (sI (sI h (ad 0) 6 0) (ad 0) 6 (-12)) (ad 31)) ((nI_clamp (by have := i_nlt c4; have := i_rg d; have : (0 : Int32).toInt = 0 := rfl; have := i_eq ek5; have : (nI k5).toInt = ((k5 : Nat) : Int) := nI_toInt (by omega); have := i_nle c6; have : (24 : Int32).toInt = 24 := rfl; omega)) : _ = k5)) ?_
                    refine WR_tI (y := nI t10) (Eq.trans (I_ne (fx_ne fx (by decide))) (Eq.trans (I_ne (fx_ne fx (by decide))) v10)) ?_
                    refine r_istore (lv' := [some (.ref (ad 30)), some (.int c), some (.int i), some (.int d), some (.int j), some (.int m), some (.int (nI t7)), some (.int (nI t10)), none, none, none]) rfl (Nat.le_of_ble_eq_true rfl) rfl ?_
                    refine r_iload rfl rfl ?_
                    refine r_ic (x := (-1)) rfl rfl ?_
                    refine r_icmp_eq (tg := 49) rfl rfl (fun q => False.elim (by have : (nI t7).toInt = ((t7 : Nat) : Int) := nI_toInt (by omega); have : (-1 : Int32).toInt = -1 := rfl; have := i_eq q; omega)) (fun _ => ?_)
                    refine r_iload rfl rfl ?_
                    refine r_ic (x := (-1)) rfl rfl ?_
                    refine r_icmp_ne (tg := 55) rfl rfl (fun _ => ?_) (fun q => False.elim (by have : (nI t10).toInt = ((t10 : Nat) : Int) := nI_toInt (by omega); have : (-1 : Int32).toInt = -1 := rfl; have := i_eq q; omega))
                    refine r_iload rfl rfl ?_
                    refine r_ic (x := 1000) rfl rfl ?_
                    refine r_icmp_ge (tg := 112) rfl rfl (fun q => False.elim (by have : (nI t7).toInt = ((t7 : Nat) : Int) := nI_toInt (by omega); have : (1000 : Int32).toInt = 1000 := rfl; have := i_le q; omega)) (fun _ => ?_)
                    refine r_iload rfl rfl ?_
                    refine r_ic (x := 1000) rfl rfl ?_
                    refine r_icmp_ge (tg := 112) rfl rfl (fun q => False.elim (by have : (nI t10).toInt = ((t10 : Nat) : Int) := nI_toInt (by omega); have : (1000 : Int32).toInt = 1000 := rfl; have := i_le q; omega)) (fun _ => ?_)
                    refine r_aload rfl rfl ?_
                    refine r_getA (b := ad 33) rfl ⟨rfl, rfl, rfl⟩ (fx_t30 fx) (fx_r30_2 fx) ?_
                    refine r_iload rfl rfl ?_
                    refine r_iaload rfl (.inl (fx_t33 fx)) (vp_ct (fx_n33 fx) (vp_in_nI (by omega) (by omega))) ?_
                    refine WR_tI (congrArg (hI (sI (sI h (ad 0) 6 0) (ad 0) 6 (-12)) (ad 33)) ((nI_clamp (by omega)) : _ = t7)) ?_
                    refine WR_tI (y := nI ln7) (Eq.trans (I_ne (fx_ne fx (by decide))) (Eq.trans (I_ne (fx_ne fx (by decide))) l2_7)) ?_
                    refine r_aload rfl rfl ?_
                    refine r_getA (b := ad 33) rfl ⟨rfl, rfl, rfl⟩ (fx_t30 fx) (fx_r30_2 fx) ?_
                    refine r_iload rfl rfl ?_
                    refine r_iaload rfl (.inl (fx_t33 fx)) (vp_ct (fx_n33 fx) (vp_in_nI (by omega) (by omega))) ?_
                    refine WR_tI (congrArg (hI (sI (sI h (ad 0) 6 0) (ad 0) 6 (-12)) (ad 33)) ((nI_clamp (by omega)) : _ = t10)) ?_
                    refine WR_tI (y := nI ln10) (Eq.trans (I_ne (fx_ne fx (by decide))) (Eq.trans (I_ne (fx_ne fx (by decide))) l2_10)) ?_
                    refine r_icmp_eq (tg := 118) rfl rfl (fun _ => ?_) (fun q => False.elim (by have := i_eq c11; have : (nI ln10).toInt = ((ln10 : Nat) : Int) := nI_toInt (by omega); have : (nI ln7).toInt = ((ln7 : Nat) : Int) := nI_toInt (by omega); have := i_neq q; omega))
                    obtain ⟨k14, hk14, ek14⟩ := ix_of (x := i) (n := 2147483648) (by have := i_nlt c12; have := i_rg i; have : (0 : Int32).toInt = 0 := rfl; omega) (by have := i_nlt c12; have := i_rg i; have : (0 : Int32).toInt = 0 := rfl; omega)
                    refine r_iload rfl rfl ?_
                    refine WR_tI (y := nI k14) ek14 ?_
                    refine r_if_lt (tg := 169) rfl rfl (fun q => False.elim (by have := i_nlt c12; have := i_rg i; have : (0 : Int32).toInt = 0 := rfl; have := i_eq ek14; have : (nI k14).toInt = ((k14 : Nat) : Int) := nI_toInt (by omega); have := i_lt q; omega)) (fun _ => ?_)
                    refine r_iload rfl rfl ?_
                    refine r_if_lt (tg := 169) rfl rfl (fun c15 => ?_) (fun c15 => ?_)
                    · refine r_aload rfl rfl ?_
                      refine r_ic (x := 2) rfl rfl ?_
                      refine r_cv (y := 156) (ra := [.int 2]) (rest := []) rfl ⟨⟨rfl, rfl⟩, rfl, by decide⟩ (fx_t30 fx) rfl rfl (Nat.le_of_ble_eq_true rfl) ?_
                      refine in_156 (Nat.le_of_ble_eq_true rfl) ?_
                      show WR _ cd_156 0 [some (.ref (ad 30)), some (.int 2)] [] (sI (sI h (ad 0) 6 0) (ad 0) 6 (-12)) _
                      refine r_aload rfl rfl ?_
                      refine r_ic (x := (-10)) rfl rfl ?_
                      refine r_iload rfl rfl ?_
                      refine r_isub rfl ?_
                      refine WR_tI (y := (-12)) rfl ?_
                      refine r_cv (y := 154) (ra := [.int (-12)]) (rest := []) rfl ⟨⟨rfl, rfl⟩, rfl, by decide⟩ (fx_t30 fx) rfl rfl (Nat.le_of_ble_eq_true rfl) ?_
                      refine in_154 (Nat.le_of_ble_eq_true rfl) ?_
                      show WR _ cd_154 0 [some (.ref (ad 30)), some (.int (-12))] [] (sI (sI h (ad 0) 6 0) (ad 0) 6 (-12)) _
                      refine r_aload rfl rfl ?_
                      refine r_iload rfl rfl ?_
                      refine r_ic (x := (-1)) rfl rfl ?_
                      refine r_icmp_ge (tg := 10) rfl rfl (fun q => absurd q (by decide)) (fun _ => ?_)
                      refine r_iload rfl rfl ?_
                      refine r_goto (tg := 11) rfl rfl ?_
                      refine r_putI rfl ⟨rfl, rfl, rfl⟩ (fx_t30 fx) ?_
                      have fx : FX n ad sa z0 (sI (sI (sI h (ad 0) 6 0) (ad 0) 6 (-12)) (ad 30) 11 (-12)) := (FX.sI fx)
                      refine r_iload rfl rfl ?_
                      refine r_iret rfl ?_
                      show WR _ cd_156 8 [some (.ref (ad 30)), some (.int 2)] [.int (-12)] (sI (sI (sI h (ad 0) 6 0) (ad 0) 6 (-12)) (ad 30) 11 (-12)) _
                      refine r_iret rfl ?_
                      show WR _ cd_179 174 [some (.ref (ad 30)), some (.int c), some (.int i), some (.int d), some (.int j), some (.int m), some (.int (nI t7)), some (.int (nI t10)), none, none, none] [.int (-12)] (sI (sI (sI h (ad 0) 6 0) (ad 0) 6 (-12)) (ad 30) 11 (-12)) _
                      refine r_iret rfl ?_
                      exact ⟨rfl, Rel.why r (((Chg.rf.sI (fx_j fx) (.inl (by decide))).sI (fx_j fx) (.inl (by decide))).sI (fx_j fx) (.inl (by decide))) ⟨rfl, by decide⟩ (Eq.trans (Eq.trans (I_ne (fx_ne fx (by decide))) I_eq) (Eq.symm I_eq)), (by (try simp only [hZ_sI, hZ_sL, hZ_sD, hZ_sR]); omega), (by (try simp only [hU_sI, hU_sL, hU_sD, hU_sR]); omega)⟩
                    · refine r_iload rfl rfl ?_
                      refine r_if_lt (tg := 169) rfl rfl (fun _ => ?_) (fun q => False.elim (by have := i_lt c13; have := i_rg m; have : (0 : Int32).toInt = 0 := rfl; have := i_nlt q; omega))
                      refine r_aload rfl rfl ?_
                      refine r_ic (x := 2) rfl rfl ?_
                      refine r_cv (y := 156) (ra := [.int 2]) (rest := []) rfl ⟨⟨rfl, rfl⟩, rfl, by decide⟩ (fx_t30 fx) rfl rfl (Nat.le_of_ble_eq_true rfl) ?_
                      refine in_156 (Nat.le_of_ble_eq_true rfl) ?_
                      show WR _ cd_156 0 [some (.ref (ad 30)), some (.int 2)] [] (sI (sI h (ad 0) 6 0) (ad 0) 6 (-12)) _
                      refine r_aload rfl rfl ?_
                      refine r_ic (x := (-10)) rfl rfl ?_
                      refine r_iload rfl rfl ?_
                      refine r_isub rfl ?_
                      refine WR_tI (y := (-12)) rfl ?_
                      refine r_cv (y := 154) (ra := [.int (-12)]) (rest := []) rfl ⟨⟨rfl, rfl⟩, rfl, by decide⟩ (fx_t30 fx) rfl rfl (Nat.le_of_ble_eq_true rfl) ?_
                      refine in_154 (Nat.le_of_ble_eq_true rfl) ?_
                      show WR _ cd_154 0 [some (.ref (ad 30)), some (.int (-12))] [] (sI (sI h (ad 0) 6 0) (ad 0) 6 (-12)) _
                      refine r_aload rfl rfl ?_
                      refine r_iload rfl rfl ?_
                      refine r_ic (x := (-1)) rfl rfl ?_
                      refine r_icmp_ge (tg := 10) rfl rfl (fun q => absurd q (by decide)) (fun _ => ?_)
                      refine r_iload rfl rfl ?_
                      refine r_goto (tg := 11) rfl rfl ?_
                      refine r_putI rfl ⟨rfl, rfl, rfl⟩ (fx_t30 fx) ?_
                      have fx : FX n ad sa z0 (sI (sI (sI h (ad 0) 6 0) (ad 0) 6 (-12)) (ad 30) 11 (-12)) := (FX.sI fx)
                      refine r_iload rfl rfl ?_
                      refine r_iret rfl ?_
                      show WR _ cd_156 8 [some (.ref (ad 30)), some (.int 2)] [.int (-12)] (sI (sI (sI h (ad 0) 6 0) (ad 0) 6 (-12)) (ad 30) 11 (-12)) _
                      refine r_iret rfl ?_
                      show WR _ cd_179 174 [some (.ref (ad 30)), some (.int c), some (.int i), some (.int d), some (.int j), some (.int m), some (.int (nI t7)), some (.int (nI t10)), none, none, none] [.int (-12)] (sI (sI (sI h (ad 0) 6 0) (ad 0) 6 (-12)) (ad 30) 11 (-12)) _
                      refine r_iret rfl ?_
                      exact ⟨rfl, Rel.why r (((Chg.rf.sI (fx_j fx) (.inl (by decide))).sI (fx_j fx) (.inl (by decide))).sI (fx_j fx) (.inl (by decide))) ⟨rfl, by decide⟩ (Eq.trans (Eq.trans (I_ne (fx_ne fx (by decide))) I_eq) (Eq.symm I_eq)), (by (try simp only [hZ_sI, hZ_sL, hZ_sD, hZ_sR]); omega), (by (try simp only [hU_sI, hU_sL, hU_sD, hU_sR]); omega)⟩
                  · obtain ⟨k16, hk16, ek16⟩ := ix_of (x := m) (n := 2147483648) (by have := i_nlt c13; have := i_rg m; have : (0 : Int32).toInt = 0 := rfl; omega) (by have := i_nlt c13; have := i_rg m; have : (0 : Int32).toInt = 0 := rfl; omega)
                    refine r_iload rfl rfl ?_
                    refine WR_tI (y := nI k16) ek16 ?_
                    refine r_aload rfl rfl ?_
                    refine r_cw (y := 34) (ra := []) (rest := [.int (nI k16)]) rfl ⟨rfl, rfl⟩ (by rw [show hT (sI h (ad 0) 6 0) (mid t7) = 5 from tg7]; rfl) rfl rfl (Nat.le_of_ble_eq_true rfl) ?_
                    refine in_34 (Nat.le_of_ble_eq_true rfl) ?_
                    show WR _ cd_34 0 [some (.ref (mid t7))] [] (sI h (ad 0) 6 0) _
                    refine r_aload rfl rfl ?_
                    refine r_getA (b := mid t7 + 1) rfl ⟨rfl, rfl, rfl⟩ tg7 (Eq.trans R_oI r_7) ?_
                    refine r_alen rfl (isA_of tg2_7 (by decide)) ?_
                    refine WR_tI (y := nI sz7) (congrArg nI n_7) ?_
                    refine r_iret rfl ?_
                    show WR _ cd_32 13 [some (.ref (mid t7)), some (.int i), some (.int m)] [.int (nI sz7), .int (nI k16)] (sI h (ad 0) 6 0) _
                    obtain ⟨k17, hk17, ek17⟩ := ix_of (x := i) (n := 2147483648) (by have := i_nlt c12; have := i_rg i; have : (0 : Int32).toInt = 0 := rfl; omega) (by have := i_nlt c12; have := i_rg i; have : (0 : Int32).toInt = 0 := rfl; omega)
                    refine r_iload rfl rfl ?_
                    refine WR_tI (y := nI k17) ek17 ?_
                    refine r_isub rfl ?_
                    refine r_icmp_gt (tg := 22) rfl rfl (fun c18 => ?_) (fun c18 => ?_)
                    · refine r_ic (x := 0) rfl rfl ?_
                      refine r_zret rfl (.inl rfl) ?_
                      show WR _ cd_51 84 [some (.ref (ad 0)), some (.int c), some (.int i), some (.int d), some (.int j), some (.int m), some (.ref (mid t7)), some (.ref (mid t10)), none] [.int 0] (sI h (ad 0) 6 0) _
                      refine r_if_eq (tg := 99) rfl rfl (fun _ => ?_) (fun q => absurd q (by decide))
                      refine r_aload rfl rfl ?_
                      refine r_ic (x := (-12)) rfl rfl ?_
                      refine r_cv (y := 13) (ra := [.int (-12)]) (rest := []) rfl ⟨⟨rfl, rfl⟩, rfl, by decide⟩ (fx_t0 fx) rfl rfl (Nat.le_of_ble_eq_true rfl) ?_
                      refine in_13 (Nat.le_of_ble_eq_true rfl) ?_
                      show WR _ cd_13 0 [some (.ref (ad 0)), some (.int (-12))] [] (sI h (ad 0) 6 0) _
                      refine r_aload rfl rfl ?_
                      refine r_iload rfl rfl ?_
                      refine r_putI rfl ⟨rfl, rfl, rfl⟩ (fx_t0 fx) ?_
                      have fx : FX n ad sa z0 (sI (sI h (ad 0) 6 0) (ad 0) 6 (-12)) := (FX.sI fx)
                      refine r_iload rfl rfl ?_
                      refine r_iret rfl ?_
                      show WR _ cd_51 105 [some (.ref (ad 0)), some (.int c), some (.int i), some (.int d), some (.int j), some (.int m), some (.ref (mid t7)), some (.ref (mid t10)), none] [.int (-12)] (sI (sI h (ad 0) 6 0) (ad 0) 6 (-12)) _
                      refine r_iret rfl ?_
                      show EV _ 179 [.ref (ad 30), .int c, .int i, .int d, .int j, .int m] (sI (sI h (ad 0) 6 0) (ad 0) 6 (-12)) _
                      refine in_179 (Nat.le_of_ble_eq_true rfl) ?_
                      show WR _ cd_179 0 [some (.ref (ad 30)), some (.int c), some (.int i), some (.int d), some (.int j), some (.int m), none, none, none, none, none] [] (sI (sI h (ad 0) 6 0) (ad 0) 6 (-12)) _
                      refine r_iload rfl rfl ?_
                      refine WR_tI (y := nI k2) ek2 ?_
                      refine r_cs (y := 153) (ra := [.int (nI k2)]) (rest := []) rfl ⟨⟨rfl, rfl⟩, by decide⟩ rfl rfl (Nat.le_of_ble_eq_true rfl) ?_
                      refine in_153 (Nat.le_of_ble_eq_true rfl) ?_
                      show WR _ cd_153 0 [some (.int (nI k2))] [] (sI (sI h (ad 0) 6 0) (ad 0) 6 (-12)) _
                      refine r_iload rfl rfl ?_
                      refine r_if_lt (tg := 14) rfl rfl (fun q => False.elim (by have := i_nlt c1; have := i_rg c; have : (0 : Int32).toInt = 0 := rfl; have := i_eq ek2; have : (nI k2).toInt = ((k2 : Nat) : Int) := nI_toInt (by omega); have := i_nle c3; have : (24 : Int32).toInt = 24 := rfl; have := i_lt q; omega)) (fun _ => ?_)
                      refine r_iload rfl rfl ?_
                      refine r_ic (x := 24) rfl rfl ?_
                      refine r_icmp_ge (tg := 14) rfl rfl (fun q => False.elim (by have := i_nlt c1; have := i_rg c; have : (0 : Int32).toInt = 0 := rfl; have := i_eq ek2; have : (nI k2).toInt = ((k2 : Nat) : Int) := nI_toInt (by omega); have := i_nle c3; have : (24 : Int32).toInt = 24 := rfl; have := i_le q; omega)) (fun _ => ?_)
                      refine r_ic (x := 1) rfl rfl ?_
                      refine r_goto (tg := 15) rfl rfl ?_
                      refine r_zret rfl (.inr rfl) ?_
                      show WR _ cd_179 4 [some (.ref (ad 30)), some (.int c), some (.int i), some (.int d), some (.int j), some (.int m), none, none, none, none, none] [.int 1] (sI (sI h (ad 0) 6 0) (ad 0) 6 (-12)) _
                      refine r_if_eq (tg := 14) rfl rfl (fun q => absurd q (by decide)) (fun _ => ?_)
                      refine r_iload rfl rfl ?_
                      refine WR_tI (y := nI k5) ek5 ?_
                      refine r_cs (y := 153) (ra := [.int (nI k5)]) (rest := []) rfl ⟨⟨rfl, rfl⟩, by decide⟩ rfl rfl (Nat.le_of_ble_eq_true rfl) ?_
                      refine in_153 (Nat.le_of_ble_eq_true rfl) ?_
                      show WR _ cd_153 0 [some (.int (nI k5))] [] (sI (sI h (ad 0) 6 0) (ad 0) 6 (-12)) _
                      refine r_iload rfl rfl ?_
                      refine r_if_lt (tg := 14) rfl rfl (fun q => False.elim (by have := i_nlt c4; have := i_rg d; have : (0 : Int32).toInt = 0 := rfl; have := i_eq ek5; have : (nI k5).toInt = ((k5 : Nat) : Int) := nI_toInt (by omega); have := i_nle c6; have : (24 : Int32).toInt = 24 := rfl; have := i_lt q; omega)) (fun _ => ?_)
                      refine r_iload rfl rfl ?_
                      refine r_ic (x := 24) rfl rfl ?_
                      refine r_icmp_ge (tg := 14) rfl rfl (fun q => False.elim (by have := i_nlt c4; have := i_rg d; have : (0 : Int32).toInt = 0 := rfl; have := i_eq ek5; have : (nI k5).toInt = ((k5 : Nat) : Int) := nI_toInt (by omega); have := i_nle c6; have : (24 : Int32).toInt = 24 := rfl; have := i_le q; omega)) (fun _ => ?_)
                      refine r_ic (x := 1) rfl rfl ?_
                      refine r_goto (tg := 15) rfl rfl ?_
                      refine r_zret rfl (.inr rfl) ?_
                      show WR _ cd_179 11 [some (.ref (ad 30)), some (.int c), some (.int i), some (.int d), some (.int j), some (.int m), none, none, none, none, none] [.int 1] (sI (sI h (ad 0) 6 0) (ad 0) 6 (-12)) _
                      refine r_if_ne (tg := 21) rfl rfl (fun _ => ?_) (fun q => absurd q (by decide))
                      refine r_aload rfl rfl ?_
                      refine r_getA (b := ad 31) rfl ⟨rfl, rfl, rfl⟩ (fx_t30 fx) (fx_r30_0 fx) ?_
                      refine r_iload rfl rfl ?_
                      refine WR_tI (y := nI k2) ek2 ?_
                      refine r_iaload rfl (.inl (fx_t31 fx)) (vp_ct (fx_n31 fx) (vp_in_nI (by have := i_nlt c1; have := i_rg c; have : (0 : Int32).toInt = 0 := rfl; have := i_eq ek2; have : (nI k2).toInt = ((k2 : Nat) : Int) := nI_toInt (by omega); have := i_nle c3; have : (24 : Int32).toInt = 24 := rfl; omega) (by omega))) ?_
                      refine WR_tI (congrArg (hI (sI (sI h (ad 0) 6 0) (ad 0) 6 (-12)) (ad 31)) ((nI_clamp (by have := i_nlt c1; have := i_rg c; have : (0 : Int32).toInt = 0 := rfl; have := i_eq ek2; have : (nI k2).toInt = ((k2 : Nat) : Int) := nI_toInt (by omega); have := i_nle c3; have : (24 : Int32).toInt = 24 := rfl; omega)) : _ = k2)) ?_
                      refine WR_tI (y := nI t7) (Eq.trans (I_ne (fx_ne fx (by decide))) (Eq.trans (I_ne (fx_ne fx (by decide))) v7)) ?_
                      refine r_istore (lv' := [some (.ref (ad 30)), some (.int c), some (.int i), some (.int d), some (.int j), some (.int m), some (.int (nI t7)), none, none, none, none]) rfl (Nat.le_of_ble_eq_true rfl) rfl ?_
                      refine r_aload rfl rfl ?_
                      refine r_getA (b := ad 31) rfl ⟨rfl, rfl, rfl⟩ (fx_t30 fx) (fx_r30_0 fx) ?_
                      refine r_iload rfl rfl ?_
                      refine WR_tI (y := nI k5) ek5 ?_
                      refine r_iaload rfl (.inl (fx_t31 fx)) (vp_ct (fx_n31 fx) (vp_in_nI (by have := i_nlt c4; have := i_rg d; have : (0 : Int32).toInt = 0 := rfl; have := i_eq ek5; have : (nI k5).toInt = ((k5 : Nat) : Int) := nI_toInt (by omega); have := i_nle c6; have : (24 : Int32).toInt = 24 := rfl; omega) (by omega))) ?_
                      refine WR_tI (congrArg (hI (sI (sI h (ad 0) 6 0) (ad 0) 6 (-12)) (ad 31)) ((nI_clamp (by have := i_nlt c4; have := i_rg d; have : (0 : Int32).toInt = 0 := rfl; have := i_eq ek5; have : (nI k5).toInt = ((k5 : Nat) : Int) := nI_toInt (by omega); have := i_nle c6; have : (24 : Int32).toInt = 24 := rfl; omega)) : _ = k5)) ?_
                      refine WR_tI (y := nI t10) (Eq.trans (I_ne (fx_ne fx (by decide))) (Eq.trans (I_ne (fx_ne fx (by decide))) v10)) ?_
                      refine r_istore (lv' := [some (.ref (ad 30)), some (.int c), some (.int i), some (.int d), some (.int j), some (.int m), some (.int (nI t7)), some (.int (nI t10)), none, none, none]) rfl (Nat.le_of_ble_eq_true rfl) rfl ?_
                      refine r_iload rfl rfl ?_
                      refine r_ic (x := (-1)) rfl rfl ?_
                      refine r_icmp_eq (tg := 49) rfl rfl (fun q => False.elim (by have : (nI t7).toInt = ((t7 : Nat) : Int) := nI_toInt (by omega); have : (-1 : Int32).toInt = -1 := rfl; have := i_eq q; omega)) (fun _ => ?_)
                      refine r_iload rfl rfl ?_
                      refine r_ic (x := (-1)) rfl rfl ?_
                      refine r_icmp_ne (tg := 55) rfl rfl (fun _ => ?_) (fun q => False.elim (by have : (nI t10).toInt = ((t10 : Nat) : Int) := nI_toInt (by omega); have : (-1 : Int32).toInt = -1 := rfl; have := i_eq q; omega))
                      refine r_iload rfl rfl ?_
                      refine r_ic (x := 1000) rfl rfl ?_
                      refine r_icmp_ge (tg := 112) rfl rfl (fun q => False.elim (by have : (nI t7).toInt = ((t7 : Nat) : Int) := nI_toInt (by omega); have : (1000 : Int32).toInt = 1000 := rfl; have := i_le q; omega)) (fun _ => ?_)
                      refine r_iload rfl rfl ?_
                      refine r_ic (x := 1000) rfl rfl ?_
                      refine r_icmp_ge (tg := 112) rfl rfl (fun q => False.elim (by have : (nI t10).toInt = ((t10 : Nat) : Int) := nI_toInt (by omega); have : (1000 : Int32).toInt = 1000 := rfl; have := i_le q; omega)) (fun _ => ?_)
                      refine r_aload rfl rfl ?_
                      refine r_getA (b := ad 33) rfl ⟨rfl, rfl, rfl⟩ (fx_t30 fx) (fx_r30_2 fx) ?_
                      refine r_iload rfl rfl ?_
                      refine r_iaload rfl (.inl (fx_t33 fx)) (vp_ct (fx_n33 fx) (vp_in_nI (by omega) (by omega))) ?_
                      refine WR_tI (congrArg (hI (sI (sI h (ad 0) 6 0) (ad 0) 6 (-12)) (ad 33)) ((nI_clamp (by omega)) : _ = t7)) ?_
                      refine WR_tI (y := nI ln7) (Eq.trans (I_ne (fx_ne fx (by decide))) (Eq.trans (I_ne (fx_ne fx (by decide))) l2_7)) ?_
                      refine r_aload rfl rfl ?_
                      refine r_getA (b := ad 33) rfl ⟨rfl, rfl, rfl⟩ (fx_t30 fx) (fx_r30_2 fx) ?_
                      refine r_iload rfl rfl ?_
                      refine r_iaload rfl (.inl (fx_t33 fx)) (vp_ct (fx_n33 fx) (vp_in_nI (by omega) (by omega))) ?_
                      refine WR_tI (congrArg (hI (sI (sI h (ad 0) 6 0) (ad 0) 6 (-12)) (ad 33)) ((nI_clamp (by omega)) : _ = t10)) ?_
                      refine WR_tI (y := nI ln10) (Eq.trans (I_ne (fx_ne fx (by decide))) (Eq.trans (I_ne (fx_ne fx (by decide))) l2_10)) ?_
                      refine r_icmp_eq (tg := 118) rfl rfl (fun _ => ?_) (fun q => False.elim (by have := i_eq c11; have : (nI ln10).toInt = ((ln10 : Nat) : Int) := nI_toInt (by omega); have : (nI ln7).toInt = ((ln7 : Nat) : Int) := nI_toInt (by omega); have := i_neq q; omega))
                      refine r_iload rfl rfl ?_
                      refine WR_tI (y := nI k17) ek17 ?_
                      refine r_if_lt (tg := 169) rfl rfl (fun q => False.elim (by have := i_nlt c12; have := i_rg i; have : (0 : Int32).toInt = 0 := rfl; have := i_nlt c13; have := i_rg m; have := i_eq ek16; have : (nI k16).toInt = ((k16 : Nat) : Int) := nI_toInt (by omega); have := i_eq ek17; have : (nI k17).toInt = ((k17 : Nat) : Int) := nI_toInt (by omega); have := i_lt c18; have : (nI sz7).toInt = ((sz7 : Nat) : Int) := nI_toInt (by omega); have := sub_t (x := nI sz7) (y := nI k17) (by have := i_nlt c12; have := i_rg i; have : (0 : Int32).toInt = 0 := rfl; have := i_eq ek17; have : (nI k17).toInt = ((k17 : Nat) : Int) := nI_toInt (by omega); have : (nI sz7).toInt = ((sz7 : Nat) : Int) := nI_toInt (by omega); omega) (by have := i_nlt c12; have := i_rg i; have : (0 : Int32).toInt = 0 := rfl; have := i_eq ek17; have : (nI k17).toInt = ((k17 : Nat) : Int) := nI_toInt (by omega); have : (nI sz7).toInt = ((sz7 : Nat) : Int) := nI_toInt (by omega); omega); have := i_lt q; omega)) (fun _ => ?_)
                      refine r_iload rfl rfl ?_
                      refine r_if_lt (tg := 169) rfl rfl (fun c19 => ?_) (fun c19 => ?_)
                      · refine r_aload rfl rfl ?_
                        refine r_ic (x := 2) rfl rfl ?_
                        refine r_cv (y := 156) (ra := [.int 2]) (rest := []) rfl ⟨⟨rfl, rfl⟩, rfl, by decide⟩ (fx_t30 fx) rfl rfl (Nat.le_of_ble_eq_true rfl) ?_
                        refine in_156 (Nat.le_of_ble_eq_true rfl) ?_
                        show WR _ cd_156 0 [some (.ref (ad 30)), some (.int 2)] [] (sI (sI h (ad 0) 6 0) (ad 0) 6 (-12)) _
                        refine r_aload rfl rfl ?_
                        refine r_ic (x := (-10)) rfl rfl ?_
                        refine r_iload rfl rfl ?_
                        refine r_isub rfl ?_
                        refine WR_tI (y := (-12)) rfl ?_
                        refine r_cv (y := 154) (ra := [.int (-12)]) (rest := []) rfl ⟨⟨rfl, rfl⟩, rfl, by decide⟩ (fx_t30 fx) rfl rfl (Nat.le_of_ble_eq_true rfl) ?_
                        refine in_154 (Nat.le_of_ble_eq_true rfl) ?_
                        show WR _ cd_154 0 [some (.ref (ad 30)), some (.int (-12))] [] (sI (sI h (ad 0) 6 0) (ad 0) 6 (-12)) _
                        refine r_aload rfl rfl ?_
                        refine r_iload rfl rfl ?_
                        refine r_ic (x := (-1)) rfl rfl ?_
                        refine r_icmp_ge (tg := 10) rfl rfl (fun q => absurd q (by decide)) (fun _ => ?_)
                        refine r_iload rfl rfl ?_
                        refine r_goto (tg := 11) rfl rfl ?_
                        refine r_putI rfl ⟨rfl, rfl, rfl⟩ (fx_t30 fx) ?_
                        have fx : FX n ad sa z0 (sI (sI (sI h (ad 0) 6 0) (ad 0) 6 (-12)) (ad 30) 11 (-12)) := (FX.sI fx)
                        refine r_iload rfl rfl ?_
                        refine r_iret rfl ?_
                        show WR _ cd_156 8 [some (.ref (ad 30)), some (.int 2)] [.int (-12)] (sI (sI (sI h (ad 0) 6 0) (ad 0) 6 (-12)) (ad 30) 11 (-12)) _
                        refine r_iret rfl ?_
                        show WR _ cd_179 174 [some (.ref (ad 30)), some (.int c), some (.int i), some (.int d), some (.int j), some (.int m), some (.int (nI t7)), some (.int (nI t10)), none, none, none] [.int (-12)] (sI (sI (sI h (ad 0) 6 0) (ad 0) 6 (-12)) (ad 30) 11 (-12)) _
                        refine r_iret rfl ?_
                        exact ⟨rfl, Rel.why r (((Chg.rf.sI (fx_j fx) (.inl (by decide))).sI (fx_j fx) (.inl (by decide))).sI (fx_j fx) (.inl (by decide))) ⟨rfl, by decide⟩ (Eq.trans (Eq.trans (I_ne (fx_ne fx (by decide))) I_eq) (Eq.symm I_eq)), (by (try simp only [hZ_sI, hZ_sL, hZ_sD, hZ_sR]); omega), (by (try simp only [hU_sI, hU_sL, hU_sD, hU_sR]); omega)⟩
                      · refine r_iload rfl rfl ?_
                        refine WR_tI (y := nI k16) ek16 ?_
                        refine r_if_lt (tg := 169) rfl rfl (fun q => False.elim (by have := i_nlt c12; have := i_rg i; have : (0 : Int32).toInt = 0 := rfl; have := i_nlt c13; have := i_rg m; have := i_eq ek16; have : (nI k16).toInt = ((k16 : Nat) : Int) := nI_toInt (by omega); have := i_eq ek17; have : (nI k17).toInt = ((k17 : Nat) : Int) := nI_toInt (by omega); have := i_lt c18; have : (nI sz7).toInt = ((sz7 : Nat) : Int) := nI_toInt (by omega); have := sub_t (x := nI sz7) (y := nI k17) (by have := i_nlt c12; have := i_rg i; have : (0 : Int32).toInt = 0 := rfl; have := i_eq ek17; have : (nI k17).toInt = ((k17 : Nat) : Int) := nI_toInt (by omega); have : (nI sz7).toInt = ((sz7 : Nat) : Int) := nI_toInt (by omega); omega) (by have := i_nlt c12; have := i_rg i; have : (0 : Int32).toInt = 0 := rfl; have := i_eq ek17; have : (nI k17).toInt = ((k17 : Nat) : Int) := nI_toInt (by omega); have : (nI sz7).toInt = ((sz7 : Nat) : Int) := nI_toInt (by omega); omega); have := i_lt q; omega)) (fun _ => ?_)
                        refine r_iload rfl rfl ?_
                        refine WR_tI (y := nI k17) ek17 ?_
                        refine r_i2l rfl ?_
                        refine WR_tL (y := lN k17) (nI_l (by have := i_nlt c12; have := i_rg i; have : (0 : Int32).toInt = 0 := rfl; have := i_nlt c13; have := i_rg m; have := i_eq ek16; have : (nI k16).toInt = ((k16 : Nat) : Int) := nI_toInt (by omega); have := i_eq ek17; have : (nI k17).toInt = ((k17 : Nat) : Int) := nI_toInt (by omega); have := i_lt c18; have : (nI sz7).toInt = ((sz7 : Nat) : Int) := nI_toInt (by omega); have := sub_t (x := nI sz7) (y := nI k17) (by have := i_nlt c12; have := i_rg i; have : (0 : Int32).toInt = 0 := rfl; have := i_eq ek17; have : (nI k17).toInt = ((k17 : Nat) : Int) := nI_toInt (by omega); have : (nI sz7).toInt = ((sz7 : Nat) : Int) := nI_toInt (by omega); omega) (by have := i_nlt c12; have := i_rg i; have : (0 : Int32).toInt = 0 := rfl; have := i_eq ek17; have : (nI k17).toInt = ((k17 : Nat) : Int) := nI_toInt (by omega); have : (nI sz7).toInt = ((sz7 : Nat) : Int) := nI_toInt (by omega); omega); omega)) ?_
                        refine r_iload rfl rfl ?_
                        refine WR_tI (y := nI k16) ek16 ?_
                        refine r_i2l rfl ?_
                        refine WR_tL (y := lN k16) (nI_l (by have := i_nlt c12; have := i_rg i; have : (0 : Int32).toInt = 0 := rfl; have := i_nlt c13; have := i_rg m; have := i_eq ek16; have : (nI k16).toInt = ((k16 : Nat) : Int) := nI_toInt (by omega); have := i_eq ek17; have : (nI k17).toInt = ((k17 : Nat) : Int) := nI_toInt (by omega); have := i_lt c18; have : (nI sz7).toInt = ((sz7 : Nat) : Int) := nI_toInt (by omega); have := sub_t (x := nI sz7) (y := nI k17) (by have := i_nlt c12; have := i_rg i; have : (0 : Int32).toInt = 0 := rfl; have := i_eq ek17; have : (nI k17).toInt = ((k17 : Nat) : Int) := nI_toInt (by omega); have : (nI sz7).toInt = ((sz7 : Nat) : Int) := nI_toInt (by omega); omega) (by have := i_nlt c12; have := i_rg i; have : (0 : Int32).toInt = 0 := rfl; have := i_eq ek17; have : (nI k17).toInt = ((k17 : Nat) : Int) := nI_toInt (by omega); have : (nI sz7).toInt = ((sz7 : Nat) : Int) := nI_toInt (by omega); omega); omega)) ?_
                        refine r_ladd rfl ?_
                        refine WR_tL (y := lN (k16 + k17)) (Eq.trans (lN_add k17 k16) (congrArg lN (by omega))) ?_
                        refine r_aload rfl rfl ?_
                        refine r_getA (b := ad 35) rfl ⟨rfl, rfl, rfl⟩ (fx_t30 fx) (fx_r30_4 fx) ?_
                        refine r_iload rfl rfl ?_
                        refine r_iaload rfl (.inl (fx_t35 fx)) (vp_ct (fx_n35 fx) (vp_in_nI (by omega) (by omega))) ?_
                        refine WR_tI (congrArg (hI (sI (sI h (ad 0) 6 0) (ad 0) 6 (-12)) (ad 35)) ((nI_clamp (by omega)) : _ = t7)) ?_
                        refine WR_tI (y := nI sz7) (Eq.trans (I_ne (fx_ne fx (by decide))) (Eq.trans (I_ne (fx_ne fx (by decide))) sz_7)) ?_
                        refine r_i2l rfl ?_
                        refine WR_tL (y := lN sz7) (nI_l (by have := i_nlt c12; have := i_rg i; have : (0 : Int32).toInt = 0 := rfl; have := i_nlt c13; have := i_rg m; have := i_eq ek16; have : (nI k16).toInt = ((k16 : Nat) : Int) := nI_toInt (by omega); have := i_eq ek17; have : (nI k17).toInt = ((k17 : Nat) : Int) := nI_toInt (by omega); have := i_lt c18; have : (nI sz7).toInt = ((sz7 : Nat) : Int) := nI_toInt (by omega); have := sub_t (x := nI sz7) (y := nI k17) (by have := i_nlt c12; have := i_rg i; have : (0 : Int32).toInt = 0 := rfl; have := i_eq ek17; have : (nI k17).toInt = ((k17 : Nat) : Int) := nI_toInt (by omega); have : (nI sz7).toInt = ((sz7 : Nat) : Int) := nI_toInt (by omega); omega) (by have := i_nlt c12; have := i_rg i; have : (0 : Int32).toInt = 0 := rfl; have := i_eq ek17; have : (nI k17).toInt = ((k17 : Nat) : Int) := nI_toInt (by omega); have : (nI sz7).toInt = ((sz7 : Nat) : Int) := nI_toInt (by omega); omega); omega)) ?_
                        refine r_lif_gt (tg := 169) rfl rfl rfl (fun _ => ?_) (fun q => False.elim (by have := i_nlt c12; have := i_rg i; have : (0 : Int32).toInt = 0 := rfl; have := i_nlt c13; have := i_rg m; have := i_eq ek16; have : (nI k16).toInt = ((k16 : Nat) : Int) := nI_toInt (by omega); have := i_eq ek17; have : (nI k17).toInt = ((k17 : Nat) : Int) := nI_toInt (by omega); have := i_lt c18; have : (nI sz7).toInt = ((sz7 : Nat) : Int) := nI_toInt (by omega); have := sub_t (x := nI sz7) (y := nI k17) (by have := i_nlt c12; have := i_rg i; have : (0 : Int32).toInt = 0 := rfl; have := i_eq ek17; have : (nI k17).toInt = ((k17 : Nat) : Int) := nI_toInt (by omega); have : (nI sz7).toInt = ((sz7 : Nat) : Int) := nI_toInt (by omega); omega) (by have := i_nlt c12; have := i_rg i; have : (0 : Int32).toInt = 0 := rfl; have := i_eq ek17; have : (nI k17).toInt = ((k17 : Nat) : Int) := nI_toInt (by omega); have : (nI sz7).toInt = ((sz7 : Nat) : Int) := nI_toInt (by omega); omega); have : (lN (k16 + k17)).toInt = ((k16 + k17 : Nat) : Int) := pk_lT (by omega); have : (lN sz7).toInt = ((sz7 : Nat) : Int) := lN_toInt (by omega); have := l_nlt q; omega))
                        refine r_aload rfl rfl ?_
                        refine r_ic (x := 2) rfl rfl ?_
                        refine r_cv (y := 156) (ra := [.int 2]) (rest := []) rfl ⟨⟨rfl, rfl⟩, rfl, by decide⟩ (fx_t30 fx) rfl rfl (Nat.le_of_ble_eq_true rfl) ?_
                        refine in_156 (Nat.le_of_ble_eq_true rfl) ?_
                        show WR _ cd_156 0 [some (.ref (ad 30)), some (.int 2)] [] (sI (sI h (ad 0) 6 0) (ad 0) 6 (-12)) _
                        refine r_aload rfl rfl ?_
                        refine r_ic (x := (-10)) rfl rfl ?_
                        refine r_iload rfl rfl ?_
                        refine r_isub rfl ?_
                        refine WR_tI (y := (-12)) rfl ?_
                        refine r_cv (y := 154) (ra := [.int (-12)]) (rest := []) rfl ⟨⟨rfl, rfl⟩, rfl, by decide⟩ (fx_t30 fx) rfl rfl (Nat.le_of_ble_eq_true rfl) ?_
                        refine in_154 (Nat.le_of_ble_eq_true rfl) ?_
                        show WR _ cd_154 0 [some (.ref (ad 30)), some (.int (-12))] [] (sI (sI h (ad 0) 6 0) (ad 0) 6 (-12)) _
                        refine r_aload rfl rfl ?_
                        refine r_iload rfl rfl ?_
                        refine r_ic (x := (-1)) rfl rfl ?_
                        refine r_icmp_ge (tg := 10) rfl rfl (fun q => absurd q (by decide)) (fun _ => ?_)
                        refine r_iload rfl rfl ?_
                        refine r_goto (tg := 11) rfl rfl ?_
                        refine r_putI rfl ⟨rfl, rfl, rfl⟩ (fx_t30 fx) ?_
                        have fx : FX n ad sa z0 (sI (sI (sI h (ad 0) 6 0) (ad 0) 6 (-12)) (ad 30) 11 (-12)) := (FX.sI fx)
                        refine r_iload rfl rfl ?_
                        refine r_iret rfl ?_
                        show WR _ cd_156 8 [some (.ref (ad 30)), some (.int 2)] [.int (-12)] (sI (sI (sI h (ad 0) 6 0) (ad 0) 6 (-12)) (ad 30) 11 (-12)) _
                        refine r_iret rfl ?_
                        show WR _ cd_179 174 [some (.ref (ad 30)), some (.int c), some (.int i), some (.int d), some (.int j), some (.int m), some (.int (nI t7)), some (.int (nI t10)), none, none, none] [.int (-12)] (sI (sI (sI h (ad 0) 6 0) (ad 0) 6 (-12)) (ad 30) 11 (-12)) _
                        refine r_iret rfl ?_
                        exact ⟨rfl, Rel.why r (((Chg.rf.sI (fx_j fx) (.inl (by decide))).sI (fx_j fx) (.inl (by decide))).sI (fx_j fx) (.inl (by decide))) ⟨rfl, by decide⟩ (Eq.trans (Eq.trans (I_ne (fx_ne fx (by decide))) I_eq) (Eq.symm I_eq)), (by (try simp only [hZ_sI, hZ_sL, hZ_sD, hZ_sR]); omega), (by (try simp only [hU_sI, hU_sL, hU_sD, hU_sR]); omega)⟩
                    · refine r_ic (x := 1) rfl rfl ?_
                      refine r_goto (tg := 23) rfl rfl ?_
                      refine r_zret rfl (.inr rfl) ?_
                      show WR _ cd_51 84 [some (.ref (ad 0)), some (.int c), some (.int i), some (.int d), some (.int j), some (.int m), some (.ref (mid t7)), some (.ref (mid t10)), none] [.int 1] (sI h (ad 0) 6 0) _
                      refine r_if_eq (tg := 99) rfl rfl (fun q => absurd q (by decide)) (fun _ => ?_)
                      refine r_aload rfl rfl ?_
                      refine r_iload rfl rfl ?_
                      refine r_iload rfl rfl ?_
                      refine WR_tI (y := nI k16) ek16 ?_
                      refine r_cw (y := 32) (ra := [.int (nI k16), .int j]) (rest := []) rfl ⟨rfl, rfl⟩ (by rw [show hT (sI h (ad 0) 6 0) (mid t10) = 5 from tg10]; rfl) rfl rfl (Nat.le_of_ble_eq_true rfl) ?_
                      refine in_32 (Nat.le_of_ble_eq_true rfl) ?_
                      show WR _ cd_32 0 [some (.ref (mid t10)), some (.int j), some (.int (nI k16))] [] (sI h (ad 0) 6 0) _
                      refine r_iload rfl rfl ?_
                      refine r_if_lt (tg := 22) rfl rfl (fun c20 => ?_) (fun c20 => ?_)
                      · refine r_ic (x := 0) rfl rfl ?_
                        refine r_zret rfl (.inl rfl) ?_
                        show WR _ cd_51 96 [some (.ref (ad 0)), some (.int c), some (.int i), some (.int d), some (.int j), some (.int m), some (.ref (mid t7)), some (.ref (mid t10)), none] [.int 0] (sI h (ad 0) 6 0) _
                        refine r_if_ne (tg := 106) rfl rfl (fun q => absurd q (by decide)) (fun _ => ?_)
                        refine r_aload rfl rfl ?_
                        refine r_ic (x := (-12)) rfl rfl ?_
                        refine r_cv (y := 13) (ra := [.int (-12)]) (rest := []) rfl ⟨⟨rfl, rfl⟩, rfl, by decide⟩ (fx_t0 fx) rfl rfl (Nat.le_of_ble_eq_true rfl) ?_
                        refine in_13 (Nat.le_of_ble_eq_true rfl) ?_
                        show WR _ cd_13 0 [some (.ref (ad 0)), some (.int (-12))] [] (sI h (ad 0) 6 0) _
                        refine r_aload rfl rfl ?_
                        refine r_iload rfl rfl ?_
                        refine r_putI rfl ⟨rfl, rfl, rfl⟩ (fx_t0 fx) ?_
                        have fx : FX n ad sa z0 (sI (sI h (ad 0) 6 0) (ad 0) 6 (-12)) := (FX.sI fx)
                        refine r_iload rfl rfl ?_
                        refine r_iret rfl ?_
                        show WR _ cd_51 105 [some (.ref (ad 0)), some (.int c), some (.int i), some (.int d), some (.int j), some (.int m), some (.ref (mid t7)), some (.ref (mid t10)), none] [.int (-12)] (sI (sI h (ad 0) 6 0) (ad 0) 6 (-12)) _
                        refine r_iret rfl ?_
                        show EV _ 179 [.ref (ad 30), .int c, .int i, .int d, .int j, .int m] (sI (sI h (ad 0) 6 0) (ad 0) 6 (-12)) _
                        refine in_179 (Nat.le_of_ble_eq_true rfl) ?_
                        show WR _ cd_179 0 [some (.ref (ad 30)), some (.int c), some (.int i), some (.int d), some (.int j), some (.int m), none, none, none, none, none] [] (sI (sI h (ad 0) 6 0) (ad 0) 6 (-12)) _
                        refine r_iload rfl rfl ?_
                        refine WR_tI (y := nI k2) ek2 ?_
                        refine r_cs (y := 153) (ra := [.int (nI k2)]) (rest := []) rfl ⟨⟨rfl, rfl⟩, by decide⟩ rfl rfl (Nat.le_of_ble_eq_true rfl) ?_
                        refine in_153 (Nat.le_of_ble_eq_true rfl) ?_
                        show WR _ cd_153 0 [some (.int (nI k2))] [] (sI (sI h (ad 0) 6 0) (ad 0) 6 (-12)) _
                        refine r_iload rfl rfl ?_
                        refine r_if_lt (tg := 14) rfl rfl (fun q => False.elim (by have := i_nlt c1; have := i_rg c; have : (0 : Int32).toInt = 0 := rfl; have := i_eq ek2; have : (nI k2).toInt = ((k2 : Nat) : Int) := nI_toInt (by omega); have := i_nle c3; have : (24 : Int32).toInt = 24 := rfl; have := i_lt q; omega)) (fun _ => ?_)
                        refine r_iload rfl rfl ?_
                        refine r_ic (x := 24) rfl rfl ?_
                        refine r_icmp_ge (tg := 14) rfl rfl (fun q => False.elim (by have := i_nlt c1; have := i_rg c; have : (0 : Int32).toInt = 0 := rfl; have := i_eq ek2; have : (nI k2).toInt = ((k2 : Nat) : Int) := nI_toInt (by omega); have := i_nle c3; have : (24 : Int32).toInt = 24 := rfl; have := i_le q; omega)) (fun _ => ?_)
                        refine r_ic (x := 1) rfl rfl ?_
                        refine r_goto (tg := 15) rfl rfl ?_
                        refine r_zret rfl (.inr rfl) ?_
                        show WR _ cd_179 4 [some (.ref (ad 30)), some (.int c), some (.int i), some (.int d), some (.int j), some (.int m), none, none, none, none, none] [.int 1] (sI (sI h (ad 0) 6 0) (ad 0) 6 (-12)) _
                        refine r_if_eq (tg := 14) rfl rfl (fun q => absurd q (by decide)) (fun _ => ?_)
                        refine r_iload rfl rfl ?_
                        refine WR_tI (y := nI k5) ek5 ?_
                        refine r_cs (y := 153) (ra := [.int (nI k5)]) (rest := []) rfl ⟨⟨rfl, rfl⟩, by decide⟩ rfl rfl (Nat.le_of_ble_eq_true rfl) ?_
                        refine in_153 (Nat.le_of_ble_eq_true rfl) ?_
                        show WR _ cd_153 0 [some (.int (nI k5))] [] (sI (sI h (ad 0) 6 0) (ad 0) 6 (-12)) _
                        refine r_iload rfl rfl ?_
                        refine r_if_lt (tg := 14) rfl rfl (fun q => False.elim (by have := i_nlt c4; have := i_rg d; have : (0 : Int32).toInt = 0 := rfl; have := i_eq ek5; have : (nI k5).toInt = ((k5 : Nat) : Int) := nI_toInt (by omega); have := i_nle c6; have : (24 : Int32).toInt = 24 := rfl; have := i_lt q; omega)) (fun _ => ?_)
                        refine r_iload rfl rfl ?_
                        refine r_ic (x := 24) rfl rfl ?_
                        refine r_icmp_ge (tg := 14) rfl rfl (fun q => False.elim (by have := i_nlt c4; have := i_rg d; have : (0 : Int32).toInt = 0 := rfl; have := i_eq ek5; have : (nI k5).toInt = ((k5 : Nat) : Int) := nI_toInt (by omega); have := i_nle c6; have : (24 : Int32).toInt = 24 := rfl; have := i_le q; omega)) (fun _ => ?_)
                        refine r_ic (x := 1) rfl rfl ?_
                        refine r_goto (tg := 15) rfl rfl ?_
                        refine r_zret rfl (.inr rfl) ?_
                        show WR _ cd_179 11 [some (.ref (ad 30)), some (.int c), some (.int i), some (.int d), some (.int j), some (.int m), none, none, none, none, none] [.int 1] (sI (sI h (ad 0) 6 0) (ad 0) 6 (-12)) _
                        refine r_if_ne (tg := 21) rfl rfl (fun _ => ?_) (fun q => absurd q (by decide))
                        refine r_aload rfl rfl ?_
                        refine r_getA (b := ad 31) rfl ⟨rfl, rfl, rfl⟩ (fx_t30 fx) (fx_r30_0 fx) ?_
                        refine r_iload rfl rfl ?_
                        refine WR_tI (y := nI k2) ek2 ?_
                        refine r_iaload rfl (.inl (fx_t31 fx)) (vp_ct (fx_n31 fx) (vp_in_nI (by have := i_nlt c1; have := i_rg c; have : (0 : Int32).toInt = 0 := rfl; have := i_eq ek2; have : (nI k2).toInt = ((k2 : Nat) : Int) := nI_toInt (by omega); have := i_nle c3; have : (24 : Int32).toInt = 24 := rfl; omega) (by omega))) ?_
                        refine WR_tI (congrArg (hI (sI (sI h (ad 0) 6 0) (ad 0) 6 (-12)) (ad 31)) ((nI_clamp (by have := i_nlt c1; have := i_rg c; have : (0 : Int32).toInt = 0 := rfl; have := i_eq ek2; have : (nI k2).toInt = ((k2 : Nat) : Int) := nI_toInt (by omega); have := i_nle c3; have : (24 : Int32).toInt = 24 := rfl; omega)) : _ = k2)) ?_
                        refine WR_tI (y := nI t7) (Eq.trans (I_ne (fx_ne fx (by decide))) (Eq.trans (I_ne (fx_ne fx (by decide))) v7)) ?_
                        refine r_istore (lv' := [some (.ref (ad 30)), some (.int c), some (.int i), some (.int d), some (.int j), some (.int m), some (.int (nI t7)), none, none, none, none]) rfl (Nat.le_of_ble_eq_true rfl) rfl ?_
                        refine r_aload rfl rfl ?_
                        refine r_getA (b := ad 31) rfl ⟨rfl, rfl, rfl⟩ (fx_t30 fx) (fx_r30_0 fx) ?_
                        refine r_iload rfl rfl ?_
                        refine WR_tI (y := nI k5) ek5 ?_
                        refine r_iaload rfl (.inl (fx_t31 fx)) (vp_ct (fx_n31 fx) (vp_in_nI (by have := i_nlt c4; have := i_rg d; have : (0 : Int32).toInt = 0 := rfl; have := i_eq ek5; have : (nI k5).toInt = ((k5 : Nat) : Int) := nI_toInt (by omega); have := i_nle c6; have : (24 : Int32).toInt = 24 := rfl; omega) (by omega))) ?_
                        refine WR_tI (congrArg (hI (sI (sI h (ad 0) 6 0) (ad 0) 6 (-12)) (ad 31)) ((nI_clamp (by have := i_nlt c4; have := i_rg d; have : (0 : Int32).toInt = 0 := rfl; have := i_eq ek5; have : (nI k5).toInt = ((k5 : Nat) : Int) := nI_toInt (by omega); have := i_nle c6; have : (24 : Int32).toInt = 24 := rfl; omega)) : _ = k5)) ?_
                        refine WR_tI (y := nI t10) (Eq.trans (I_ne (fx_ne fx (by decide))) (Eq.trans (I_ne (fx_ne fx (by decide))) v10)) ?_
                        refine r_istore (lv' := [some (.ref (ad 30)), some (.int c), some (.int i), some (.int d), some (.int j), some (.int m), some (.int (nI t7)), some (.int (nI t10)), none, none, none]) rfl (Nat.le_of_ble_eq_true rfl) rfl ?_
                        refine r_iload rfl rfl ?_
                        refine r_ic (x := (-1)) rfl rfl ?_
                        refine r_icmp_eq (tg := 49) rfl rfl (fun q => False.elim (by have : (nI t7).toInt = ((t7 : Nat) : Int) := nI_toInt (by omega); have : (-1 : Int32).toInt = -1 := rfl; have := i_eq q; omega)) (fun _ => ?_)
                        refine r_iload rfl rfl ?_
                        refine r_ic (x := (-1)) rfl rfl ?_
                        refine r_icmp_ne (tg := 55) rfl rfl (fun _ => ?_) (fun q => False.elim (by have : (nI t10).toInt = ((t10 : Nat) : Int) := nI_toInt (by omega); have : (-1 : Int32).toInt = -1 := rfl; have := i_eq q; omega))
                        refine r_iload rfl rfl ?_
                        refine r_ic (x := 1000) rfl rfl ?_
                        refine r_icmp_ge (tg := 112) rfl rfl (fun q => False.elim (by have : (nI t7).toInt = ((t7 : Nat) : Int) := nI_toInt (by omega); have : (1000 : Int32).toInt = 1000 := rfl; have := i_le q; omega)) (fun _ => ?_)
                        refine r_iload rfl rfl ?_
                        refine r_ic (x := 1000) rfl rfl ?_
                        refine r_icmp_ge (tg := 112) rfl rfl (fun q => False.elim (by have : (nI t10).toInt = ((t10 : Nat) : Int) := nI_toInt (by omega); have : (1000 : Int32).toInt = 1000 := rfl; have := i_le q; omega)) (fun _ => ?_)
                        refine r_aload rfl rfl ?_
                        refine r_getA (b := ad 33) rfl ⟨rfl, rfl, rfl⟩ (fx_t30 fx) (fx_r30_2 fx) ?_
                        refine r_iload rfl rfl ?_
                        refine r_iaload rfl (.inl (fx_t33 fx)) (vp_ct (fx_n33 fx) (vp_in_nI (by omega) (by omega))) ?_
                        refine WR_tI (congrArg (hI (sI (sI h (ad 0) 6 0) (ad 0) 6 (-12)) (ad 33)) ((nI_clamp (by omega)) : _ = t7)) ?_
                        refine WR_tI (y := nI ln7) (Eq.trans (I_ne (fx_ne fx (by decide))) (Eq.trans (I_ne (fx_ne fx (by decide))) l2_7)) ?_
                        refine r_aload rfl rfl ?_
                        refine r_getA (b := ad 33) rfl ⟨rfl, rfl, rfl⟩ (fx_t30 fx) (fx_r30_2 fx) ?_
                        refine r_iload rfl rfl ?_
                        refine r_iaload rfl (.inl (fx_t33 fx)) (vp_ct (fx_n33 fx) (vp_in_nI (by omega) (by omega))) ?_
                        refine WR_tI (congrArg (hI (sI (sI h (ad 0) 6 0) (ad 0) 6 (-12)) (ad 33)) ((nI_clamp (by omega)) : _ = t10)) ?_
                        refine WR_tI (y := nI ln10) (Eq.trans (I_ne (fx_ne fx (by decide))) (Eq.trans (I_ne (fx_ne fx (by decide))) l2_10)) ?_
                        refine r_icmp_eq (tg := 118) rfl rfl (fun _ => ?_) (fun q => False.elim (by have := i_eq c11; have : (nI ln10).toInt = ((ln10 : Nat) : Int) := nI_toInt (by omega); have : (nI ln7).toInt = ((ln7 : Nat) : Int) := nI_toInt (by omega); have := i_neq q; omega))
                        refine r_iload rfl rfl ?_
                        refine WR_tI (y := nI k17) ek17 ?_
                        refine r_if_lt (tg := 169) rfl rfl (fun q => False.elim (by have := i_nlt c12; have := i_rg i; have : (0 : Int32).toInt = 0 := rfl; have := i_nlt c13; have := i_rg m; have := i_eq ek16; have : (nI k16).toInt = ((k16 : Nat) : Int) := nI_toInt (by omega); have := i_eq ek17; have : (nI k17).toInt = ((k17 : Nat) : Int) := nI_toInt (by omega); have := i_nlt c18; have : (nI sz7).toInt = ((sz7 : Nat) : Int) := nI_toInt (by omega); have := sub_t (x := nI sz7) (y := nI k17) (by have := i_nlt c12; have := i_rg i; have : (0 : Int32).toInt = 0 := rfl; have := i_eq ek17; have : (nI k17).toInt = ((k17 : Nat) : Int) := nI_toInt (by omega); have : (nI sz7).toInt = ((sz7 : Nat) : Int) := nI_toInt (by omega); omega) (by have := i_nlt c12; have := i_rg i; have : (0 : Int32).toInt = 0 := rfl; have := i_eq ek17; have : (nI k17).toInt = ((k17 : Nat) : Int) := nI_toInt (by omega); have : (nI sz7).toInt = ((sz7 : Nat) : Int) := nI_toInt (by omega); omega); have := i_lt q; omega)) (fun _ => ?_)
                        refine r_iload rfl rfl ?_
                        refine r_if_lt (tg := 169) rfl rfl (fun _ => ?_) (fun q => False.elim (by have := i_lt c20; have := i_rg j; have : (0 : Int32).toInt = 0 := rfl; have := i_nlt q; omega))
                        refine r_aload rfl rfl ?_
                        refine r_ic (x := 2) rfl rfl ?_
                        refine r_cv (y := 156) (ra := [.int 2]) (rest := []) rfl ⟨⟨rfl, rfl⟩, rfl, by decide⟩ (fx_t30 fx) rfl rfl (Nat.le_of_ble_eq_true rfl) ?_
                        refine in_156 (Nat.le_of_ble_eq_true rfl) ?_
                        show WR _ cd_156 0 [some (.ref (ad 30)), some (.int 2)] [] (sI (sI h (ad 0) 6 0) (ad 0) 6 (-12)) _
                        refine r_aload rfl rfl ?_
                        refine r_ic (x := (-10)) rfl rfl ?_
                        refine r_iload rfl rfl ?_
                        refine r_isub rfl ?_
                        refine WR_tI (y := (-12)) rfl ?_
                        refine r_cv (y := 154) (ra := [.int (-12)]) (rest := []) rfl ⟨⟨rfl, rfl⟩, rfl, by decide⟩ (fx_t30 fx) rfl rfl (Nat.le_of_ble_eq_true rfl) ?_
                        refine in_154 (Nat.le_of_ble_eq_true rfl) ?_
                        show WR _ cd_154 0 [some (.ref (ad 30)), some (.int (-12))] [] (sI (sI h (ad 0) 6 0) (ad 0) 6 (-12)) _
                        refine r_aload rfl rfl ?_
                        refine r_iload rfl rfl ?_
                        refine r_ic (x := (-1)) rfl rfl ?_
                        refine r_icmp_ge (tg := 10) rfl rfl (fun q => absurd q (by decide)) (fun _ => ?_)
                        refine r_iload rfl rfl ?_
                        refine r_goto (tg := 11) rfl rfl ?_
                        refine r_putI rfl ⟨rfl, rfl, rfl⟩ (fx_t30 fx) ?_
                        have fx : FX n ad sa z0 (sI (sI (sI h (ad 0) 6 0) (ad 0) 6 (-12)) (ad 30) 11 (-12)) := (FX.sI fx)
                        refine r_iload rfl rfl ?_
                        refine r_iret rfl ?_
                        show WR _ cd_156 8 [some (.ref (ad 30)), some (.int 2)] [.int (-12)] (sI (sI (sI h (ad 0) 6 0) (ad 0) 6 (-12)) (ad 30) 11 (-12)) _
                        refine r_iret rfl ?_
                        show WR _ cd_179 174 [some (.ref (ad 30)), some (.int c), some (.int i), some (.int d), some (.int j), some (.int m), some (.int (nI t7)), some (.int (nI t10)), none, none, none] [.int (-12)] (sI (sI (sI h (ad 0) 6 0) (ad 0) 6 (-12)) (ad 30) 11 (-12)) _
                        refine r_iret rfl ?_
                        exact ⟨rfl, Rel.why r (((Chg.rf.sI (fx_j fx) (.inl (by decide))).sI (fx_j fx) (.inl (by decide))).sI (fx_j fx) (.inl (by decide))) ⟨rfl, by decide⟩ (Eq.trans (Eq.trans (I_ne (fx_ne fx (by decide))) I_eq) (Eq.symm I_eq)), (by (try simp only [hZ_sI, hZ_sL, hZ_sD, hZ_sR]); omega), (by (try simp only [hU_sI, hU_sL, hU_sD, hU_sR]); omega)⟩
                      · refine r_iload rfl rfl ?_
                        refine r_if_lt (tg := 22) rfl rfl (fun q => False.elim (by have := i_nlt c12; have := i_rg i; have : (0 : Int32).toInt = 0 := rfl; have := i_nlt c13; have := i_rg m; have := i_eq ek16; have : (nI k16).toInt = ((k16 : Nat) : Int) := nI_toInt (by omega); have := i_eq ek17; have : (nI k17).toInt = ((k17 : Nat) : Int) := nI_toInt (by omega); have := i_nlt c18; have : (nI sz7).toInt = ((sz7 : Nat) : Int) := nI_toInt (by omega); have := sub_t (x := nI sz7) (y := nI k17) (by have := i_nlt c12; have := i_rg i; have : (0 : Int32).toInt = 0 := rfl; have := i_eq ek17; have : (nI k17).toInt = ((k17 : Nat) : Int) := nI_toInt (by omega); have : (nI sz7).toInt = ((sz7 : Nat) : Int) := nI_toInt (by omega); omega) (by have := i_nlt c12; have := i_rg i; have : (0 : Int32).toInt = 0 := rfl; have := i_eq ek17; have : (nI k17).toInt = ((k17 : Nat) : Int) := nI_toInt (by omega); have : (nI sz7).toInt = ((sz7 : Nat) : Int) := nI_toInt (by omega); omega); have := i_lt q; omega)) (fun _ => ?_)
                        refine r_iload rfl rfl ?_
                        refine r_aload rfl rfl ?_
                        refine r_cw (y := 34) (ra := []) (rest := [.int (nI k16)]) rfl ⟨rfl, rfl⟩ (by rw [show hT (sI h (ad 0) 6 0) (mid t10) = 5 from tg10]; rfl) rfl rfl (Nat.le_of_ble_eq_true rfl) ?_
                        refine in_34 (Nat.le_of_ble_eq_true rfl) ?_
                        show WR _ cd_34 0 [some (.ref (mid t10))] [] (sI h (ad 0) 6 0) _
                        refine r_aload rfl rfl ?_
                        refine r_getA (b := mid t10 + 1) rfl ⟨rfl, rfl, rfl⟩ tg10 (Eq.trans R_oI r_10) ?_
                        refine r_alen rfl (isA_of tg2_10 (by decide)) ?_
                        refine WR_tI (y := nI sz10) (congrArg nI n_10) ?_
                        refine r_iret rfl ?_
                        show WR _ cd_32 13 [some (.ref (mid t10)), some (.int j), some (.int (nI k16))] [.int (nI sz10), .int (nI k16)] (sI h (ad 0) 6 0) _
                        obtain ⟨k21, hk21, ek21⟩ := ix_of (x := j) (n := 2147483648) (by have := i_nlt c20; have := i_rg j; have : (0 : Int32).toInt = 0 := rfl; omega) (by have := i_nlt c20; have := i_rg j; have : (0 : Int32).toInt = 0 := rfl; omega)
                        refine r_iload rfl rfl ?_
                        refine WR_tI (y := nI k21) ek21 ?_
                        refine r_isub rfl ?_
                        refine r_icmp_gt (tg := 22) rfl rfl (fun c22 => ?_) (fun c22 => ?_)
                        · refine r_ic (x := 0) rfl rfl ?_
                          refine r_zret rfl (.inl rfl) ?_
                          show WR _ cd_51 96 [some (.ref (ad 0)), some (.int c), some (.int i), some (.int d), some (.int j), some (.int m), some (.ref (mid t7)), some (.ref (mid t10)), none] [.int 0] (sI h (ad 0) 6 0) _
                          refine r_if_ne (tg := 106) rfl rfl (fun q => absurd q (by decide)) (fun _ => ?_)
                          refine r_aload rfl rfl ?_
                          refine r_ic (x := (-12)) rfl rfl ?_
                          refine r_cv (y := 13) (ra := [.int (-12)]) (rest := []) rfl ⟨⟨rfl, rfl⟩, rfl, by decide⟩ (fx_t0 fx) rfl rfl (Nat.le_of_ble_eq_true rfl) ?_
                          refine in_13 (Nat.le_of_ble_eq_true rfl) ?_
                          show WR _ cd_13 0 [some (.ref (ad 0)), some (.int (-12))] [] (sI h (ad 0) 6 0) _
                          refine r_aload rfl rfl ?_
                          refine r_iload rfl rfl ?_
                          refine r_putI rfl ⟨rfl, rfl, rfl⟩ (fx_t0 fx) ?_
                          have fx : FX n ad sa z0 (sI (sI h (ad 0) 6 0) (ad 0) 6 (-12)) := (FX.sI fx)
                          refine r_iload rfl rfl ?_
                          refine r_iret rfl ?_
                          show WR _ cd_51 105 [some (.ref (ad 0)), some (.int c), some (.int i), some (.int d), some (.int j), some (.int m), some (.ref (mid t7)), some (.ref (mid t10)), none] [.int (-12)] (sI (sI h (ad 0) 6 0) (ad 0) 6 (-12)) _
                          refine r_iret rfl ?_
                          show EV _ 179 [.ref (ad 30), .int c, .int i, .int d, .int j, .int m] (sI (sI h (ad 0) 6 0) (ad 0) 6 (-12)) _
                          refine in_179 (Nat.le_of_ble_eq_true rfl) ?_
                          show WR _ cd_179 0 [some (.ref (ad 30)), some (.int c), some (.int i), some (.int d), some (.int j), some (.int m), none, none, none, none, none] [] (sI (sI h (ad 0) 6 0) (ad 0) 6 (-12)) _
                          refine r_iload rfl rfl ?_
                          refine WR_tI (y := nI k2) ek2 ?_
                          refine r_cs (y := 153) (ra := [.int (nI k2)]) (rest := []) rfl ⟨⟨rfl, rfl⟩, by decide⟩ rfl rfl (Nat.le_of_ble_eq_true rfl) ?_
                          refine in_153 (Nat.le_of_ble_eq_true rfl) ?_
                          show WR _ cd_153 0 [some (.int (nI k2))] [] (sI (sI h (ad 0) 6 0) (ad 0) 6 (-12)) _
                          refine r_iload rfl rfl ?_
                          refine r_if_lt (tg := 14) rfl rfl (fun q => False.elim (by have := i_nlt c1; have := i_rg c; have : (0 : Int32).toInt = 0 := rfl; have := i_eq ek2; have : (nI k2).toInt = ((k2 : Nat) : Int) := nI_toInt (by omega); have := i_nle c3; have : (24 : Int32).toInt = 24 := rfl; have := i_lt q; omega)) (fun _ => ?_)
                          refine r_iload rfl rfl ?_
                          refine r_ic (x := 24) rfl rfl ?_
                          refine r_icmp_ge (tg := 14) rfl rfl (fun q => False.elim (by have := i_nlt c1; have := i_rg c; have : (0 : Int32).toInt = 0 := rfl; have := i_eq ek2; have : (nI k2).toInt = ((k2 : Nat) : Int) := nI_toInt (by omega); have := i_nle c3; have : (24 : Int32).toInt = 24 := rfl; have := i_le q; omega)) (fun _ => ?_)
                          refine r_ic (x := 1) rfl rfl ?_
                          refine r_goto (tg := 15) rfl rfl ?_
                          refine r_zret rfl (.inr rfl) ?_
                          show WR _ cd_179 4 [some (.ref (ad 30)), some (.int c), some (.int i), some (.int d), some (.int j), some (.int m), none, none, none, none, none] [.int 1] (sI (sI h (ad 0) 6 0) (ad 0) 6 (-12)) _
                          refine r_if_eq (tg := 14) rfl rfl (fun q => absurd q (by decide)) (fun _ => ?_)
                          refine r_iload rfl rfl ?_
                          refine WR_tI (y := nI k5) ek5 ?_
                          refine r_cs (y := 153) (ra := [.int (nI k5)]) (rest := []) rfl ⟨⟨rfl, rfl⟩, by decide⟩ rfl rfl (Nat.le_of_ble_eq_true rfl) ?_
                          refine in_153 (Nat.le_of_ble_eq_true rfl) ?_
                          show WR _ cd_153 0 [some (.int (nI k5))] [] (sI (sI h (ad 0) 6 0) (ad 0) 6 (-12)) _
                          refine r_iload rfl rfl ?_
                          refine r_if_lt (tg := 14) rfl rfl (fun q => False.elim (by have := i_nlt c4; have := i_rg d; have : (0 : Int32).toInt = 0 := rfl; have := i_eq ek5; have : (nI k5).toInt = ((k5 : Nat) : Int) := nI_toInt (by omega); have := i_nle c6; have : (24 : Int32).toInt = 24 := rfl; have := i_lt q; omega)) (fun _ => ?_)
                          refine r_iload rfl rfl ?_
                          refine r_ic (x := 24) rfl rfl ?_
                          refine r_icmp_ge (tg := 14) rfl rfl (fun q => False.elim (by have := i_nlt c4; have := i_rg d; have : (0 : Int32).toInt = 0 := rfl; have := i_eq ek5; have : (nI k5).toInt = ((k5 : Nat) : Int) := nI_toInt (by omega); have := i_nle c6; have : (24 : Int32).toInt = 24 := rfl; have := i_le q; omega)) (fun _ => ?_)
                          refine r_ic (x := 1) rfl rfl ?_
                          refine r_goto (tg := 15) rfl rfl ?_
                          refine r_zret rfl (.inr rfl) ?_
                          show WR _ cd_179 11 [some (.ref (ad 30)), some (.int c), some (.int i), some (.int d), some (.int j), some (.int m), none, none, none, none, none] [.int 1] (sI (sI h (ad 0) 6 0) (ad 0) 6 (-12)) _
                          refine r_if_ne (tg := 21) rfl rfl (fun _ => ?_) (fun q => absurd q (by decide))
                          refine r_aload rfl rfl ?_
                          refine r_getA (b := ad 31) rfl ⟨rfl, rfl, rfl⟩ (fx_t30 fx) (fx_r30_0 fx) ?_
                          refine r_iload rfl rfl ?_
                          refine WR_tI (y := nI k2) ek2 ?_
                          refine r_iaload rfl (.inl (fx_t31 fx)) (vp_ct (fx_n31 fx) (vp_in_nI (by have := i_nlt c1; have := i_rg c; have : (0 : Int32).toInt = 0 := rfl; have := i_eq ek2; have : (nI k2).toInt = ((k2 : Nat) : Int) := nI_toInt (by omega); have := i_nle c3; have : (24 : Int32).toInt = 24 := rfl; omega) (by omega))) ?_
                          refine WR_tI (congrArg (hI (sI (sI h (ad 0) 6 0) (ad 0) 6 (-12)) (ad 31)) ((nI_clamp (by have := i_nlt c1; have := i_rg c; have : (0 : Int32).toInt = 0 := rfl; have := i_eq ek2; have : (nI k2).toInt = ((k2 : Nat) : Int) := nI_toInt (by omega); have := i_nle c3; have : (24 : Int32).toInt = 24 := rfl; omega)) : _ = k2)) ?_
                          refine WR_tI (y := nI t7) (Eq.trans (I_ne (fx_ne fx (by decide))) (Eq.trans (I_ne (fx_ne fx (by decide))) v7)) ?_
                          refine r_istore (lv' := [some (.ref (ad 30)), some (.int c), some (.int i), some (.int d), some (.int j), some (.int m), some (.int (nI t7)), none, none, none, none]) rfl (Nat.le_of_ble_eq_true rfl) rfl ?_
                          refine r_aload rfl rfl ?_
                          refine r_getA (b := ad 31) rfl ⟨rfl, rfl, rfl⟩ (fx_t30 fx) (fx_r30_0 fx) ?_
                          refine r_iload rfl rfl ?_
                          refine WR_tI (y := nI k5) ek5 ?_
                          refine r_iaload rfl (.inl (fx_t31 fx)) (vp_ct (fx_n31 fx) (vp_in_nI (by have := i_nlt c4; have := i_rg d; have : (0 : Int32).toInt = 0 := rfl; have := i_eq ek5; have : (nI k5).toInt = ((k5 : Nat) : Int) := nI_toInt (by omega); have := i_nle c6; have : (24 : Int32).toInt = 24 := rfl; omega) (by omega))) ?_
                          refine WR_tI (congrArg (hI (sI (sI h (ad 0) 6 0) (ad 0) 6 (-12)) (ad 31)) ((nI_clamp (by have := i_nlt c4; have := i_rg d; have : (0 : Int32).toInt = 0 := rfl; have := i_eq ek5; have : (nI k5).toInt = ((k5 : Nat) : Int) := nI_toInt (by omega); have := i_nle c6; have : (24 : Int32).toInt = 24 := rfl; omega)) : _ = k5)) ?_
                          refine WR_tI (y := nI t10) (Eq.trans (I_ne (fx_ne fx (by decide))) (Eq.trans (I_ne (fx_ne fx (by decide))) v10)) ?_
                          refine r_istore (lv' := [some (.ref (ad 30)), some (.int c), some (.int i), some (.int d), some (.int j), some (.int m), some (.int (nI t7)), some (.int (nI t10)), none, none, none]) rfl (Nat.le_of_ble_eq_true rfl) rfl ?_
                          refine r_iload rfl rfl ?_
                          refine r_ic (x := (-1)) rfl rfl ?_
                          refine r_icmp_eq (tg := 49) rfl rfl (fun q => False.elim (by have : (nI t7).toInt = ((t7 : Nat) : Int) := nI_toInt (by omega); have : (-1 : Int32).toInt = -1 := rfl; have := i_eq q; omega)) (fun _ => ?_)
                          refine r_iload rfl rfl ?_
                          refine r_ic (x := (-1)) rfl rfl ?_
                          refine r_icmp_ne (tg := 55) rfl rfl (fun _ => ?_) (fun q => False.elim (by have : (nI t10).toInt = ((t10 : Nat) : Int) := nI_toInt (by omega); have : (-1 : Int32).toInt = -1 := rfl; have := i_eq q; omega))
                          refine r_iload rfl rfl ?_
                          refine r_ic (x := 1000) rfl rfl ?_
                          refine r_icmp_ge (tg := 112) rfl rfl (fun q => False.elim (by have : (nI t7).toInt = ((t7 : Nat) : Int) := nI_toInt (by omega); have : (1000 : Int32).toInt = 1000 := rfl; have := i_le q; omega)) (fun _ => ?_)
                          refine r_iload rfl rfl ?_
                          refine r_ic (x := 1000) rfl rfl ?_
                          refine r_icmp_ge (tg := 112) rfl rfl (fun q => False.elim (by have : (nI t10).toInt = ((t10 : Nat) : Int) := nI_toInt (by omega); have : (1000 : Int32).toInt = 1000 := rfl; have := i_le q; omega)) (fun _ => ?_)
                          refine r_aload rfl rfl ?_
                          refine r_getA (b := ad 33) rfl ⟨rfl, rfl, rfl⟩ (fx_t30 fx) (fx_r30_2 fx) ?_
                          refine r_iload rfl rfl ?_
                          refine r_iaload rfl (.inl (fx_t33 fx)) (vp_ct (fx_n33 fx) (vp_in_nI (by omega) (by omega))) ?_
                          refine WR_tI (congrArg (hI (sI (sI h (ad 0) 6 0) (ad 0) 6 (-12)) (ad 33)) ((nI_clamp (by omega)) : _ = t7)) ?_
                          refine WR_tI (y := nI ln7) (Eq.trans (I_ne (fx_ne fx (by decide))) (Eq.trans (I_ne (fx_ne fx (by decide))) l2_7)) ?_
                          refine r_aload rfl rfl ?_
                          refine r_getA (b := ad 33) rfl ⟨rfl, rfl, rfl⟩ (fx_t30 fx) (fx_r30_2 fx) ?_
                          refine r_iload rfl rfl ?_
                          refine r_iaload rfl (.inl (fx_t33 fx)) (vp_ct (fx_n33 fx) (vp_in_nI (by omega) (by omega))) ?_
                          refine WR_tI (congrArg (hI (sI (sI h (ad 0) 6 0) (ad 0) 6 (-12)) (ad 33)) ((nI_clamp (by omega)) : _ = t10)) ?_
                          refine WR_tI (y := nI ln10) (Eq.trans (I_ne (fx_ne fx (by decide))) (Eq.trans (I_ne (fx_ne fx (by decide))) l2_10)) ?_
                          refine r_icmp_eq (tg := 118) rfl rfl (fun _ => ?_) (fun q => False.elim (by have := i_eq c11; have : (nI ln10).toInt = ((ln10 : Nat) : Int) := nI_toInt (by omega); have : (nI ln7).toInt = ((ln7 : Nat) : Int) := nI_toInt (by omega); have := i_neq q; omega))
                          refine r_iload rfl rfl ?_
                          refine WR_tI (y := nI k17) ek17 ?_
                          refine r_if_lt (tg := 169) rfl rfl (fun q => False.elim (by have := i_nlt c12; have := i_rg i; have : (0 : Int32).toInt = 0 := rfl; have := i_nlt c13; have := i_rg m; have := i_eq ek16; have : (nI k16).toInt = ((k16 : Nat) : Int) := nI_toInt (by omega); have := i_eq ek17; have : (nI k17).toInt = ((k17 : Nat) : Int) := nI_toInt (by omega); have := i_nlt c18; have : (nI sz7).toInt = ((sz7 : Nat) : Int) := nI_toInt (by omega); have := sub_t (x := nI sz7) (y := nI k17) (by have := i_nlt c12; have := i_rg i; have : (0 : Int32).toInt = 0 := rfl; have := i_eq ek17; have : (nI k17).toInt = ((k17 : Nat) : Int) := nI_toInt (by omega); have : (nI sz7).toInt = ((sz7 : Nat) : Int) := nI_toInt (by omega); omega) (by have := i_nlt c12; have := i_rg i; have : (0 : Int32).toInt = 0 := rfl; have := i_eq ek17; have : (nI k17).toInt = ((k17 : Nat) : Int) := nI_toInt (by omega); have : (nI sz7).toInt = ((sz7 : Nat) : Int) := nI_toInt (by omega); omega); have := i_nlt c20; have := i_rg j; have := i_eq ek21; have : (nI k21).toInt = ((k21 : Nat) : Int) := nI_toInt (by omega); have := i_lt c22; have : (nI sz10).toInt = ((sz10 : Nat) : Int) := nI_toInt (by omega); have := sub_t (x := nI sz10) (y := nI k21) (by have := i_nlt c20; have := i_rg j; have : (0 : Int32).toInt = 0 := rfl; have := i_eq ek21; have : (nI k21).toInt = ((k21 : Nat) : Int) := nI_toInt (by omega); have : (nI sz10).toInt = ((sz10 : Nat) : Int) := nI_toInt (by omega); omega) (by have := i_nlt c20; have := i_rg j; have : (0 : Int32).toInt = 0 := rfl; have := i_eq ek21; have : (nI k21).toInt = ((k21 : Nat) : Int) := nI_toInt (by omega); have : (nI sz10).toInt = ((sz10 : Nat) : Int) := nI_toInt (by omega); omega); have := i_lt q; omega)) (fun _ => ?_)
                          refine r_iload rfl rfl ?_
                          refine WR_tI (y := nI k21) ek21 ?_
                          refine r_if_lt (tg := 169) rfl rfl (fun q => False.elim (by have := i_nlt c12; have := i_rg i; have : (0 : Int32).toInt = 0 := rfl; have := i_nlt c13; have := i_rg m; have := i_eq ek16; have : (nI k16).toInt = ((k16 : Nat) : Int) := nI_toInt (by omega); have := i_eq ek17; have : (nI k17).toInt = ((k17 : Nat) : Int) := nI_toInt (by omega); have := i_nlt c18; have : (nI sz7).toInt = ((sz7 : Nat) : Int) := nI_toInt (by omega); have := sub_t (x := nI sz7) (y := nI k17) (by have := i_nlt c12; have := i_rg i; have : (0 : Int32).toInt = 0 := rfl; have := i_eq ek17; have : (nI k17).toInt = ((k17 : Nat) : Int) := nI_toInt (by omega); have : (nI sz7).toInt = ((sz7 : Nat) : Int) := nI_toInt (by omega); omega) (by have := i_nlt c12; have := i_rg i; have : (0 : Int32).toInt = 0 := rfl; have := i_eq ek17; have : (nI k17).toInt = ((k17 : Nat) : Int) := nI_toInt (by omega); have : (nI sz7).toInt = ((sz7 : Nat) : Int) := nI_toInt (by omega); omega); have := i_nlt c20; have := i_rg j; have := i_eq ek21; have : (nI k21).toInt = ((k21 : Nat) : Int) := nI_toInt (by omega); have := i_lt c22; have : (nI sz10).toInt = ((sz10 : Nat) : Int) := nI_toInt (by omega); have := sub_t (x := nI sz10) (y := nI k21) (by have := i_nlt c20; have := i_rg j; have : (0 : Int32).toInt = 0 := rfl; have := i_eq ek21; have : (nI k21).toInt = ((k21 : Nat) : Int) := nI_toInt (by omega); have : (nI sz10).toInt = ((sz10 : Nat) : Int) := nI_toInt (by omega); omega) (by have := i_nlt c20; have := i_rg j; have : (0 : Int32).toInt = 0 := rfl; have := i_eq ek21; have : (nI k21).toInt = ((k21 : Nat) : Int) := nI_toInt (by omega); have : (nI sz10).toInt = ((sz10 : Nat) : Int) := nI_toInt (by omega); omega); have := i_lt q; omega)) (fun _ => ?_)
                          refine r_iload rfl rfl ?_
                          refine WR_tI (y := nI k16) ek16 ?_
                          refine r_if_lt (tg := 169) rfl rfl (fun q => False.elim (by have := i_nlt c12; have := i_rg i; have : (0 : Int32).toInt = 0 := rfl; have := i_nlt c13; have := i_rg m; have := i_eq ek16; have : (nI k16).toInt = ((k16 : Nat) : Int) := nI_toInt (by omega); have := i_eq ek17; have : (nI k17).toInt = ((k17 : Nat) : Int) := nI_toInt (by omega); have := i_nlt c18; have : (nI sz7).toInt = ((sz7 : Nat) : Int) := nI_toInt (by omega); have := sub_t (x := nI sz7) (y := nI k17) (by have := i_nlt c12; have := i_rg i; have : (0 : Int32).toInt = 0 := rfl; have := i_eq ek17; have : (nI k17).toInt = ((k17 : Nat) : Int) := nI_toInt (by omega); have : (nI sz7).toInt = ((sz7 : Nat) : Int) := nI_toInt (by omega); omega) (by have := i_nlt c12; have := i_rg i; have : (0 : Int32).toInt = 0 := rfl; have := i_eq ek17; have : (nI k17).toInt = ((k17 : Nat) : Int) := nI_toInt (by omega); have : (nI sz7).toInt = ((sz7 : Nat) : Int) := nI_toInt (by omega); omega); have := i_nlt c20; have := i_rg j; have := i_eq ek21; have : (nI k21).toInt = ((k21 : Nat) : Int) := nI_toInt (by omega); have := i_lt c22; have : (nI sz10).toInt = ((sz10 : Nat) : Int) := nI_toInt (by omega); have := sub_t (x := nI sz10) (y := nI k21) (by have := i_nlt c20; have := i_rg j; have : (0 : Int32).toInt = 0 := rfl; have := i_eq ek21; have : (nI k21).toInt = ((k21 : Nat) : Int) := nI_toInt (by omega); have : (nI sz10).toInt = ((sz10 : Nat) : Int) := nI_toInt (by omega); omega) (by have := i_nlt c20; have := i_rg j; have : (0 : Int32).toInt = 0 := rfl; have := i_eq ek21; have : (nI k21).toInt = ((k21 : Nat) : Int) := nI_toInt (by omega); have : (nI sz10).toInt = ((sz10 : Nat) : Int) := nI_toInt (by omega); omega); have := i_lt q; omega)) (fun _ => ?_)
                          refine r_iload rfl rfl ?_
                          refine WR_tI (y := nI k17) ek17 ?_
                          refine r_i2l rfl ?_
                          refine WR_tL (y := lN k17) (nI_l (by have := i_nlt c12; have := i_rg i; have : (0 : Int32).toInt = 0 := rfl; have := i_nlt c13; have := i_rg m; have := i_eq ek16; have : (nI k16).toInt = ((k16 : Nat) : Int) := nI_toInt (by omega); have := i_eq ek17; have : (nI k17).toInt = ((k17 : Nat) : Int) := nI_toInt (by omega); have := i_nlt c18; have : (nI sz7).toInt = ((sz7 : Nat) : Int) := nI_toInt (by omega); have := sub_t (x := nI sz7) (y := nI k17) (by have := i_nlt c12; have := i_rg i; have : (0 : Int32).toInt = 0 := rfl; have := i_eq ek17; have : (nI k17).toInt = ((k17 : Nat) : Int) := nI_toInt (by omega); have : (nI sz7).toInt = ((sz7 : Nat) : Int) := nI_toInt (by omega); omega) (by have := i_nlt c12; have := i_rg i; have : (0 : Int32).toInt = 0 := rfl; have := i_eq ek17; have : (nI k17).toInt = ((k17 : Nat) : Int) := nI_toInt (by omega); have : (nI sz7).toInt = ((sz7 : Nat) : Int) := nI_toInt (by omega); omega); have := i_nlt c20; have := i_rg j; have := i_eq ek21; have : (nI k21).toInt = ((k21 : Nat) : Int) := nI_toInt (by omega); have := i_lt c22; have : (nI sz10).toInt = ((sz10 : Nat) : Int) := nI_toInt (by omega); have := sub_t (x := nI sz10) (y := nI k21) (by have := i_nlt c20; have := i_rg j; have : (0 : Int32).toInt = 0 := rfl; have := i_eq ek21; have : (nI k21).toInt = ((k21 : Nat) : Int) := nI_toInt (by omega); have : (nI sz10).toInt = ((sz10 : Nat) : Int) := nI_toInt (by omega); omega) (by have := i_nlt c20; have := i_rg j; have : (0 : Int32).toInt = 0 := rfl; have := i_eq ek21; have : (nI k21).toInt = ((k21 : Nat) : Int) := nI_toInt (by omega); have : (nI sz10).toInt = ((sz10 : Nat) : Int) := nI_toInt (by omega); omega); omega)) ?_
                          refine r_iload rfl rfl ?_
                          refine WR_tI (y := nI k16) ek16 ?_
                          refine r_i2l rfl ?_
                          refine WR_tL (y := lN k16) (nI_l (by have := i_nlt c12; have := i_rg i; have : (0 : Int32).toInt = 0 := rfl; have := i_nlt c13; have := i_rg m; have := i_eq ek16; have : (nI k16).toInt = ((k16 : Nat) : Int) := nI_toInt (by omega); have := i_eq ek17; have : (nI k17).toInt = ((k17 : Nat) : Int) := nI_toInt (by omega); have := i_nlt c18; have : (nI sz7).toInt = ((sz7 : Nat) : Int) := nI_toInt (by omega); have := sub_t (x := nI sz7) (y := nI k17) (by have := i_nlt c12; have := i_rg i; have : (0 : Int32).toInt = 0 := rfl; have := i_eq ek17; have : (nI k17).toInt = ((k17 : Nat) : Int) := nI_toInt (by omega); have : (nI sz7).toInt = ((sz7 : Nat) : Int) := nI_toInt (by omega); omega) (by have := i_nlt c12; have := i_rg i; have : (0 : Int32).toInt = 0 := rfl; have := i_eq ek17; have : (nI k17).toInt = ((k17 : Nat) : Int) := nI_toInt (by omega); have : (nI sz7).toInt = ((sz7 : Nat) : Int) := nI_toInt (by omega); omega); have := i_nlt c20; have := i_rg j; have := i_eq ek21; have : (nI k21).toInt = ((k21 : Nat) : Int) := nI_toInt (by omega); have := i_lt c22; have : (nI sz10).toInt = ((sz10 : Nat) : Int) := nI_toInt (by omega); have := sub_t (x := nI sz10) (y := nI k21) (by have := i_nlt c20; have := i_rg j; have : (0 : Int32).toInt = 0 := rfl; have := i_eq ek21; have : (nI k21).toInt = ((k21 : Nat) : Int) := nI_toInt (by omega); have : (nI sz10).toInt = ((sz10 : Nat) : Int) := nI_toInt (by omega); omega) (by have := i_nlt c20; have := i_rg j; have : (0 : Int32).toInt = 0 := rfl; have := i_eq ek21; have : (nI k21).toInt = ((k21 : Nat) : Int) := nI_toInt (by omega); have : (nI sz10).toInt = ((sz10 : Nat) : Int) := nI_toInt (by omega); omega); omega)) ?_
                          refine r_ladd rfl ?_
                          refine WR_tL (y := lN (k16 + k17)) (Eq.trans (lN_add k17 k16) (congrArg lN (by omega))) ?_
                          refine r_aload rfl rfl ?_
                          refine r_getA (b := ad 35) rfl ⟨rfl, rfl, rfl⟩ (fx_t30 fx) (fx_r30_4 fx) ?_
                          refine r_iload rfl rfl ?_
                          refine r_iaload rfl (.inl (fx_t35 fx)) (vp_ct (fx_n35 fx) (vp_in_nI (by omega) (by omega))) ?_
                          refine WR_tI (congrArg (hI (sI (sI h (ad 0) 6 0) (ad 0) 6 (-12)) (ad 35)) ((nI_clamp (by omega)) : _ = t7)) ?_
                          refine WR_tI (y := nI sz7) (Eq.trans (I_ne (fx_ne fx (by decide))) (Eq.trans (I_ne (fx_ne fx (by decide))) sz_7)) ?_
                          refine r_i2l rfl ?_
                          refine WR_tL (y := lN sz7) (nI_l (by have := i_nlt c12; have := i_rg i; have : (0 : Int32).toInt = 0 := rfl; have := i_nlt c13; have := i_rg m; have := i_eq ek16; have : (nI k16).toInt = ((k16 : Nat) : Int) := nI_toInt (by omega); have := i_eq ek17; have : (nI k17).toInt = ((k17 : Nat) : Int) := nI_toInt (by omega); have := i_nlt c18; have : (nI sz7).toInt = ((sz7 : Nat) : Int) := nI_toInt (by omega); have := sub_t (x := nI sz7) (y := nI k17) (by have := i_nlt c12; have := i_rg i; have : (0 : Int32).toInt = 0 := rfl; have := i_eq ek17; have : (nI k17).toInt = ((k17 : Nat) : Int) := nI_toInt (by omega); have : (nI sz7).toInt = ((sz7 : Nat) : Int) := nI_toInt (by omega); omega) (by have := i_nlt c12; have := i_rg i; have : (0 : Int32).toInt = 0 := rfl; have := i_eq ek17; have : (nI k17).toInt = ((k17 : Nat) : Int) := nI_toInt (by omega); have : (nI sz7).toInt = ((sz7 : Nat) : Int) := nI_toInt (by omega); omega); have := i_nlt c20; have := i_rg j; have := i_eq ek21; have : (nI k21).toInt = ((k21 : Nat) : Int) := nI_toInt (by omega); have := i_lt c22; have : (nI sz10).toInt = ((sz10 : Nat) : Int) := nI_toInt (by omega); have := sub_t (x := nI sz10) (y := nI k21) (by have := i_nlt c20; have := i_rg j; have : (0 : Int32).toInt = 0 := rfl; have := i_eq ek21; have : (nI k21).toInt = ((k21 : Nat) : Int) := nI_toInt (by omega); have : (nI sz10).toInt = ((sz10 : Nat) : Int) := nI_toInt (by omega); omega) (by have := i_nlt c20; have := i_rg j; have : (0 : Int32).toInt = 0 := rfl; have := i_eq ek21; have : (nI k21).toInt = ((k21 : Nat) : Int) := nI_toInt (by omega); have : (nI sz10).toInt = ((sz10 : Nat) : Int) := nI_toInt (by omega); omega); omega)) ?_
                          refine r_lif_gt (tg := 169) rfl rfl rfl (fun q => False.elim (by have := i_nlt c12; have := i_rg i; have : (0 : Int32).toInt = 0 := rfl; have := i_nlt c13; have := i_rg m; have := i_eq ek16; have : (nI k16).toInt = ((k16 : Nat) : Int) := nI_toInt (by omega); have := i_eq ek17; have : (nI k17).toInt = ((k17 : Nat) : Int) := nI_toInt (by omega); have := i_nlt c18; have : (nI sz7).toInt = ((sz7 : Nat) : Int) := nI_toInt (by omega); have := sub_t (x := nI sz7) (y := nI k17) (by have := i_nlt c12; have := i_rg i; have : (0 : Int32).toInt = 0 := rfl; have := i_eq ek17; have : (nI k17).toInt = ((k17 : Nat) : Int) := nI_toInt (by omega); have : (nI sz7).toInt = ((sz7 : Nat) : Int) := nI_toInt (by omega); omega) (by have := i_nlt c12; have := i_rg i; have : (0 : Int32).toInt = 0 := rfl; have := i_eq ek17; have : (nI k17).toInt = ((k17 : Nat) : Int) := nI_toInt (by omega); have : (nI sz7).toInt = ((sz7 : Nat) : Int) := nI_toInt (by omega); omega); have := i_nlt c20; have := i_rg j; have := i_eq ek21; have : (nI k21).toInt = ((k21 : Nat) : Int) := nI_toInt (by omega); have := i_lt c22; have : (nI sz10).toInt = ((sz10 : Nat) : Int) := nI_toInt (by omega); have := sub_t (x := nI sz10) (y := nI k21) (by have := i_nlt c20; have := i_rg j; have : (0 : Int32).toInt = 0 := rfl; have := i_eq ek21; have : (nI k21).toInt = ((k21 : Nat) : Int) := nI_toInt (by omega); have : (nI sz10).toInt = ((sz10 : Nat) : Int) := nI_toInt (by omega); omega) (by have := i_nlt c20; have := i_rg j; have : (0 : Int32).toInt = 0 := rfl; have := i_eq ek21; have : (nI k21).toInt = ((k21 : Nat) : Int) := nI_toInt (by omega); have : (nI sz10).toInt = ((sz10 : Nat) : Int) := nI_toInt (by omega); omega); have : (lN (k16 + k17)).toInt = ((k16 + k17 : Nat) : Int) := pk_lT (by omega); have : (lN sz7).toInt = ((sz7 : Nat) : Int) := lN_toInt (by omega); have := l_lt q; omega)) (fun _ => ?_)
                          refine r_iload rfl rfl ?_
                          refine WR_tI (y := nI k21) ek21 ?_
                          refine r_i2l rfl ?_
                          refine WR_tL (y := lN k21) (nI_l (by have := i_nlt c12; have := i_rg i; have : (0 : Int32).toInt = 0 := rfl; have := i_nlt c13; have := i_rg m; have := i_eq ek16; have : (nI k16).toInt = ((k16 : Nat) : Int) := nI_toInt (by omega); have := i_eq ek17; have : (nI k17).toInt = ((k17 : Nat) : Int) := nI_toInt (by omega); have := i_nlt c18; have : (nI sz7).toInt = ((sz7 : Nat) : Int) := nI_toInt (by omega); have := sub_t (x := nI sz7) (y := nI k17) (by have := i_nlt c12; have := i_rg i; have : (0 : Int32).toInt = 0 := rfl; have := i_eq ek17; have : (nI k17).toInt = ((k17 : Nat) : Int) := nI_toInt (by omega); have : (nI sz7).toInt = ((sz7 : Nat) : Int) := nI_toInt (by omega); omega) (by have := i_nlt c12; have := i_rg i; have : (0 : Int32).toInt = 0 := rfl; have := i_eq ek17; have : (nI k17).toInt = ((k17 : Nat) : Int) := nI_toInt (by omega); have : (nI sz7).toInt = ((sz7 : Nat) : Int) := nI_toInt (by omega); omega); have := i_nlt c20; have := i_rg j; have := i_eq ek21; have : (nI k21).toInt = ((k21 : Nat) : Int) := nI_toInt (by omega); have := i_lt c22; have : (nI sz10).toInt = ((sz10 : Nat) : Int) := nI_toInt (by omega); have := sub_t (x := nI sz10) (y := nI k21) (by have := i_nlt c20; have := i_rg j; have : (0 : Int32).toInt = 0 := rfl; have := i_eq ek21; have : (nI k21).toInt = ((k21 : Nat) : Int) := nI_toInt (by omega); have : (nI sz10).toInt = ((sz10 : Nat) : Int) := nI_toInt (by omega); omega) (by have := i_nlt c20; have := i_rg j; have : (0 : Int32).toInt = 0 := rfl; have := i_eq ek21; have : (nI k21).toInt = ((k21 : Nat) : Int) := nI_toInt (by omega); have : (nI sz10).toInt = ((sz10 : Nat) : Int) := nI_toInt (by omega); omega); omega)) ?_
                          refine r_iload rfl rfl ?_
                          refine WR_tI (y := nI k16) ek16 ?_
                          refine r_i2l rfl ?_
                          refine WR_tL (y := lN k16) (nI_l (by have := i_nlt c12; have := i_rg i; have : (0 : Int32).toInt = 0 := rfl; have := i_nlt c13; have := i_rg m; have := i_eq ek16; have : (nI k16).toInt = ((k16 : Nat) : Int) := nI_toInt (by omega); have := i_eq ek17; have : (nI k17).toInt = ((k17 : Nat) : Int) := nI_toInt (by omega); have := i_nlt c18; have : (nI sz7).toInt = ((sz7 : Nat) : Int) := nI_toInt (by omega); have := sub_t (x := nI sz7) (y := nI k17) (by have := i_nlt c12; have := i_rg i; have : (0 : Int32).toInt = 0 := rfl; have := i_eq ek17; have : (nI k17).toInt = ((k17 : Nat) : Int) := nI_toInt (by omega); have : (nI sz7).toInt = ((sz7 : Nat) : Int) := nI_toInt (by omega); omega) (by have := i_nlt c12; have := i_rg i; have : (0 : Int32).toInt = 0 := rfl; have := i_eq ek17; have : (nI k17).toInt = ((k17 : Nat) : Int) := nI_toInt (by omega); have : (nI sz7).toInt = ((sz7 : Nat) : Int) := nI_toInt (by omega); omega); have := i_nlt c20; have := i_rg j; have := i_eq ek21; have : (nI k21).toInt = ((k21 : Nat) : Int) := nI_toInt (by omega); have := i_lt c22; have : (nI sz10).toInt = ((sz10 : Nat) : Int) := nI_toInt (by omega); have := sub_t (x := nI sz10) (y := nI k21) (by have := i_nlt c20; have := i_rg j; have : (0 : Int32).toInt = 0 := rfl; have := i_eq ek21; have : (nI k21).toInt = ((k21 : Nat) : Int) := nI_toInt (by omega); have : (nI sz10).toInt = ((sz10 : Nat) : Int) := nI_toInt (by omega); omega) (by have := i_nlt c20; have := i_rg j; have : (0 : Int32).toInt = 0 := rfl; have := i_eq ek21; have : (nI k21).toInt = ((k21 : Nat) : Int) := nI_toInt (by omega); have : (nI sz10).toInt = ((sz10 : Nat) : Int) := nI_toInt (by omega); omega); omega)) ?_
                          refine r_ladd rfl ?_
                          refine WR_tL (y := lN (k16 + k21)) (Eq.trans (lN_add k21 k16) (congrArg lN (by omega))) ?_
                          refine r_aload rfl rfl ?_
                          refine r_getA (b := ad 35) rfl ⟨rfl, rfl, rfl⟩ (fx_t30 fx) (fx_r30_4 fx) ?_
                          refine r_iload rfl rfl ?_
                          refine r_iaload rfl (.inl (fx_t35 fx)) (vp_ct (fx_n35 fx) (vp_in_nI (by omega) (by omega))) ?_
                          refine WR_tI (congrArg (hI (sI (sI h (ad 0) 6 0) (ad 0) 6 (-12)) (ad 35)) ((nI_clamp (by omega)) : _ = t10)) ?_
                          refine WR_tI (y := nI sz10) (Eq.trans (I_ne (fx_ne fx (by decide))) (Eq.trans (I_ne (fx_ne fx (by decide))) sz_10)) ?_
                          refine r_i2l rfl ?_
                          refine WR_tL (y := lN sz10) (nI_l (by have := i_nlt c12; have := i_rg i; have : (0 : Int32).toInt = 0 := rfl; have := i_nlt c13; have := i_rg m; have := i_eq ek16; have : (nI k16).toInt = ((k16 : Nat) : Int) := nI_toInt (by omega); have := i_eq ek17; have : (nI k17).toInt = ((k17 : Nat) : Int) := nI_toInt (by omega); have := i_nlt c18; have : (nI sz7).toInt = ((sz7 : Nat) : Int) := nI_toInt (by omega); have := sub_t (x := nI sz7) (y := nI k17) (by have := i_nlt c12; have := i_rg i; have : (0 : Int32).toInt = 0 := rfl; have := i_eq ek17; have : (nI k17).toInt = ((k17 : Nat) : Int) := nI_toInt (by omega); have : (nI sz7).toInt = ((sz7 : Nat) : Int) := nI_toInt (by omega); omega) (by have := i_nlt c12; have := i_rg i; have : (0 : Int32).toInt = 0 := rfl; have := i_eq ek17; have : (nI k17).toInt = ((k17 : Nat) : Int) := nI_toInt (by omega); have : (nI sz7).toInt = ((sz7 : Nat) : Int) := nI_toInt (by omega); omega); have := i_nlt c20; have := i_rg j; have := i_eq ek21; have : (nI k21).toInt = ((k21 : Nat) : Int) := nI_toInt (by omega); have := i_lt c22; have : (nI sz10).toInt = ((sz10 : Nat) : Int) := nI_toInt (by omega); have := sub_t (x := nI sz10) (y := nI k21) (by have := i_nlt c20; have := i_rg j; have : (0 : Int32).toInt = 0 := rfl; have := i_eq ek21; have : (nI k21).toInt = ((k21 : Nat) : Int) := nI_toInt (by omega); have : (nI sz10).toInt = ((sz10 : Nat) : Int) := nI_toInt (by omega); omega) (by have := i_nlt c20; have := i_rg j; have : (0 : Int32).toInt = 0 := rfl; have := i_eq ek21; have : (nI k21).toInt = ((k21 : Nat) : Int) := nI_toInt (by omega); have : (nI sz10).toInt = ((sz10 : Nat) : Int) := nI_toInt (by omega); omega); omega)) ?_
                          refine r_lif_le (tg := 175) rfl rfl rfl (fun q => False.elim (by have := i_nlt c12; have := i_rg i; have : (0 : Int32).toInt = 0 := rfl; have := i_nlt c13; have := i_rg m; have := i_eq ek16; have : (nI k16).toInt = ((k16 : Nat) : Int) := nI_toInt (by omega); have := i_eq ek17; have : (nI k17).toInt = ((k17 : Nat) : Int) := nI_toInt (by omega); have := i_nlt c18; have : (nI sz7).toInt = ((sz7 : Nat) : Int) := nI_toInt (by omega); have := sub_t (x := nI sz7) (y := nI k17) (by have := i_nlt c12; have := i_rg i; have : (0 : Int32).toInt = 0 := rfl; have := i_eq ek17; have : (nI k17).toInt = ((k17 : Nat) : Int) := nI_toInt (by omega); have : (nI sz7).toInt = ((sz7 : Nat) : Int) := nI_toInt (by omega); omega) (by have := i_nlt c12; have := i_rg i; have : (0 : Int32).toInt = 0 := rfl; have := i_eq ek17; have : (nI k17).toInt = ((k17 : Nat) : Int) := nI_toInt (by omega); have : (nI sz7).toInt = ((sz7 : Nat) : Int) := nI_toInt (by omega); omega); have := i_nlt c20; have := i_rg j; have := i_eq ek21; have : (nI k21).toInt = ((k21 : Nat) : Int) := nI_toInt (by omega); have := i_lt c22; have : (nI sz10).toInt = ((sz10 : Nat) : Int) := nI_toInt (by omega); have := sub_t (x := nI sz10) (y := nI k21) (by have := i_nlt c20; have := i_rg j; have : (0 : Int32).toInt = 0 := rfl; have := i_eq ek21; have : (nI k21).toInt = ((k21 : Nat) : Int) := nI_toInt (by omega); have : (nI sz10).toInt = ((sz10 : Nat) : Int) := nI_toInt (by omega); omega) (by have := i_nlt c20; have := i_rg j; have : (0 : Int32).toInt = 0 := rfl; have := i_eq ek21; have : (nI k21).toInt = ((k21 : Nat) : Int) := nI_toInt (by omega); have : (nI sz10).toInt = ((sz10 : Nat) : Int) := nI_toInt (by omega); omega); have : (lN (k16 + k21)).toInt = ((k16 + k21 : Nat) : Int) := pk_lT (by omega); have : (lN sz10).toInt = ((sz10 : Nat) : Int) := lN_toInt (by omega); have := l_le q; omega)) (fun _ => ?_)
                          refine r_aload rfl rfl ?_
                          refine r_ic (x := 2) rfl rfl ?_
                          refine r_cv (y := 156) (ra := [.int 2]) (rest := []) rfl ⟨⟨rfl, rfl⟩, rfl, by decide⟩ (fx_t30 fx) rfl rfl (Nat.le_of_ble_eq_true rfl) ?_
                          refine in_156 (Nat.le_of_ble_eq_true rfl) ?_
                          show WR _ cd_156 0 [some (.ref (ad 30)), some (.int 2)] [] (sI (sI h (ad 0) 6 0) (ad 0) 6 (-12)) _
                          refine r_aload rfl rfl ?_
                          refine r_ic (x := (-10)) rfl rfl ?_
                          refine r_iload rfl rfl ?_
                          refine r_isub rfl ?_
                          refine WR_tI (y := (-12)) rfl ?_
                          refine r_cv (y := 154) (ra := [.int (-12)]) (rest := []) rfl ⟨⟨rfl, rfl⟩, rfl, by decide⟩ (fx_t30 fx) rfl rfl (Nat.le_of_ble_eq_true rfl) ?_
                          refine in_154 (Nat.le_of_ble_eq_true rfl) ?_
                          show WR _ cd_154 0 [some (.ref (ad 30)), some (.int (-12))] [] (sI (sI h (ad 0) 6 0) (ad 0) 6 (-12)) _
                          refine r_aload rfl rfl ?_
                          refine r_iload rfl rfl ?_
                          refine r_ic (x := (-1)) rfl rfl ?_
                          refine r_icmp_ge (tg := 10) rfl rfl (fun q => absurd q (by decide)) (fun _ => ?_)
                          refine r_iload rfl rfl ?_
                          refine r_goto (tg := 11) rfl rfl ?_
                          refine r_putI rfl ⟨rfl, rfl, rfl⟩ (fx_t30 fx) ?_
                          have fx : FX n ad sa z0 (sI (sI (sI h (ad 0) 6 0) (ad 0) 6 (-12)) (ad 30) 11 (-12)) := (FX.sI fx)
                          refine r_iload rfl rfl ?_
                          refine r_iret rfl ?_
                          show WR _ cd_156 8 [some (.ref (ad 30)), some (.int 2)] [.int (-12)] (sI (sI (sI h (ad 0) 6 0) (ad 0) 6 (-12)) (ad 30) 11 (-12)) _
                          refine r_iret rfl ?_
                          show WR _ cd_179 174 [some (.ref (ad 30)), some (.int c), some (.int i), some (.int d), some (.int j), some (.int m), some (.int (nI t7)), some (.int (nI t10)), none, none, none] [.int (-12)] (sI (sI (sI h (ad 0) 6 0) (ad 0) 6 (-12)) (ad 30) 11 (-12)) _
                          refine r_iret rfl ?_
                          exact ⟨rfl, Rel.why r (((Chg.rf.sI (fx_j fx) (.inl (by decide))).sI (fx_j fx) (.inl (by decide))).sI (fx_j fx) (.inl (by decide))) ⟨rfl, by decide⟩ (Eq.trans (Eq.trans (I_ne (fx_ne fx (by decide))) I_eq) (Eq.symm I_eq)), (by (try simp only [hZ_sI, hZ_sL, hZ_sD, hZ_sR]); omega), (by (try simp only [hU_sI, hU_sL, hU_sD, hU_sR]); omega)⟩
                        · refine r_ic (x := 1) rfl rfl ?_
                          refine r_goto (tg := 23) rfl rfl ?_
                          refine r_zret rfl (.inr rfl) ?_
                          show WR _ cd_51 96 [some (.ref (ad 0)), some (.int c), some (.int i), some (.int d), some (.int j), some (.int m), some (.ref (mid t7)), some (.ref (mid t10)), none] [.int 1] (sI h (ad 0) 6 0) _
                          refine r_if_ne (tg := 106) rfl rfl (fun _ => ?_) (fun q => absurd q (by decide))
                          have b0 : k2 < 24 := (by have := i_nlt c1; have := i_rg c; have : (0 : Int32).toInt = 0 := rfl; have := i_eq ek2; have : (nI k2).toInt = ((k2 : Nat) : Int) := nI_toInt (by omega); have := i_nle c3; have : (24 : Int32).toInt = 24 := rfl; omega)
                          have b1 : k5 < 24 := (by have := i_nlt c4; have := i_rg d; have : (0 : Int32).toInt = 0 := rfl; have := i_eq ek5; have : (nI k5).toInt = ((k5 : Nat) : Int) := nI_toInt (by omega); have := i_nle c6; have : (24 : Int32).toInt = 24 := rfl; omega)
                          have b2 : k17 + k16 ≤ sz7 := (by have := i_nlt c12; have := i_rg i; have : (0 : Int32).toInt = 0 := rfl; have := i_nlt c13; have := i_rg m; have := i_eq ek16; have : (nI k16).toInt = ((k16 : Nat) : Int) := nI_toInt (by omega); have := i_eq ek17; have : (nI k17).toInt = ((k17 : Nat) : Int) := nI_toInt (by omega); have := i_nlt c18; have : (nI sz7).toInt = ((sz7 : Nat) : Int) := nI_toInt (by omega); have := sub_t (x := nI sz7) (y := nI k17) (by have := i_nlt c12; have := i_rg i; have : (0 : Int32).toInt = 0 := rfl; have := i_eq ek17; have : (nI k17).toInt = ((k17 : Nat) : Int) := nI_toInt (by omega); have : (nI sz7).toInt = ((sz7 : Nat) : Int) := nI_toInt (by omega); omega) (by have := i_nlt c12; have := i_rg i; have : (0 : Int32).toInt = 0 := rfl; have := i_eq ek17; have : (nI k17).toInt = ((k17 : Nat) : Int) := nI_toInt (by omega); have : (nI sz7).toInt = ((sz7 : Nat) : Int) := nI_toInt (by omega); omega); have := i_nlt c20; have := i_rg j; have := i_eq ek21; have : (nI k21).toInt = ((k21 : Nat) : Int) := nI_toInt (by omega); have := i_nlt c22; have : (nI sz10).toInt = ((sz10 : Nat) : Int) := nI_toInt (by omega); have := sub_t (x := nI sz10) (y := nI k21) (by have := i_nlt c20; have := i_rg j; have : (0 : Int32).toInt = 0 := rfl; have := i_eq ek21; have : (nI k21).toInt = ((k21 : Nat) : Int) := nI_toInt (by omega); have : (nI sz10).toInt = ((sz10 : Nat) : Int) := nI_toInt (by omega); omega) (by have := i_nlt c20; have := i_rg j; have : (0 : Int32).toInt = 0 := rfl; have := i_eq ek21; have : (nI k21).toInt = ((k21 : Nat) : Int) := nI_toInt (by omega); have : (nI sz10).toInt = ((sz10 : Nat) : Int) := nI_toInt (by omega); omega); omega)
                          have b3 : k21 + k16 ≤ sz10 := (by have := i_nlt c12; have := i_rg i; have : (0 : Int32).toInt = 0 := rfl; have := i_nlt c13; have := i_rg m; have := i_eq ek16; have : (nI k16).toInt = ((k16 : Nat) : Int) := nI_toInt (by omega); have := i_eq ek17; have : (nI k17).toInt = ((k17 : Nat) : Int) := nI_toInt (by omega); have := i_nlt c18; have : (nI sz7).toInt = ((sz7 : Nat) : Int) := nI_toInt (by omega); have := sub_t (x := nI sz7) (y := nI k17) (by have := i_nlt c12; have := i_rg i; have : (0 : Int32).toInt = 0 := rfl; have := i_eq ek17; have : (nI k17).toInt = ((k17 : Nat) : Int) := nI_toInt (by omega); have : (nI sz7).toInt = ((sz7 : Nat) : Int) := nI_toInt (by omega); omega) (by have := i_nlt c12; have := i_rg i; have : (0 : Int32).toInt = 0 := rfl; have := i_eq ek17; have : (nI k17).toInt = ((k17 : Nat) : Int) := nI_toInt (by omega); have : (nI sz7).toInt = ((sz7 : Nat) : Int) := nI_toInt (by omega); omega); have := i_nlt c20; have := i_rg j; have := i_eq ek21; have : (nI k21).toInt = ((k21 : Nat) : Int) := nI_toInt (by omega); have := i_nlt c22; have : (nI sz10).toInt = ((sz10 : Nat) : Int) := nI_toInt (by omega); have := sub_t (x := nI sz10) (y := nI k21) (by have := i_nlt c20; have := i_rg j; have : (0 : Int32).toInt = 0 := rfl; have := i_eq ek21; have : (nI k21).toInt = ((k21 : Nat) : Int) := nI_toInt (by omega); have : (nI sz10).toInt = ((sz10 : Nat) : Int) := nI_toInt (by omega); omega) (by have := i_nlt c20; have := i_rg j; have : (0 : Int32).toInt = 0 := rfl; have := i_eq ek21; have : (nI k21).toInt = ((k21 : Nat) : Int) := nI_toInt (by omega); have : (nI sz10).toInt = ((sz10 : Nat) : Int) := nI_toInt (by omega); omega); omega)
                          have b4 : ln10 = ln7 := (by have := i_eq c11; have : (nI ln10).toInt = ((ln10 : Nat) : Int) := nI_toInt (by omega); have : (nI ln7).toInt = ((ln7 : Nat) : Int) := nI_toInt (by omega); omega)
                          subst ek2; subst ek17; subst ek5; subst ek21; subst ek16
                          exact t_copyR fx0 rt ra rp rf rst ru rs b0 b1 ht7 ht10 v7 v10 rw7 (b4 ▸ rw10) sz_7 sz_10 b2 b3 hs_7 hs_10
            · refine r_aaloadA (b := mid t10) rfl (isQ_of (fx_t1 fx) (by decide)) (vp_ct (fx_n1 fx) (vp_in_nI (by have := i_nlt c4; have := i_rg d; have : (0 : Int32).toInt = 0 := rfl; have := i_eq ek5; have : (nI k5).toInt = ((k5 : Nat) : Int) := nI_toInt (by omega); have := i_nle c6; have : (24 : Int32).toInt = 24 := rfl; omega) (by omega))) (Eq.trans (congrArg (hR (sI h (ad 0) 6 0) (ad 1)) ((nI_clamp (by have := i_nlt c4; have := i_rg d; have : (0 : Int32).toInt = 0 := rfl; have := i_eq ek5; have : (nI k5).toInt = ((k5 : Nat) : Int) := nI_toInt (by omega); have := i_nle c6; have : (24 : Int32).toInt = 24 := rfl; omega)) : _ = k5)) (Eq.trans R_oI w10)) ?_
              refine r_astore (lv' := [some (.ref (ad 0)), some (.int c), some (.int i), some (.int d), some (.int j), some (.int m), some (.ref (mid t7)), some (.ref (mid t10)), none]) rfl (Nat.le_of_ble_eq_true rfl) rfl ?_
              refine r_aload rfl rfl ?_
              refine r_ifnullA (tg := 52) rfl rfl ?_
              refine r_aload rfl rfl ?_
              refine r_ifnonnullA (tg := 59) rfl rfl ?_
              refine r_aload rfl rfl ?_
              refine r_aload rfl rfl ?_
              refine r_cw (y := 53) (ra := [.ref (mid t10)]) (rest := []) rfl ⟨rfl, rfl⟩ (by rw [show hT (sI h (ad 0) 6 0) (mid t7) = 5 from tg7]; rfl) rfl rfl (Nat.le_of_ble_eq_true rfl) ?_
              refine in_53 (Nat.le_of_ble_eq_true rfl) ?_
              show WR _ cd_53 0 [some (.ref (mid t7)), some (.ref (mid t10))] [] (sI h (ad 0) 6 0) _
              refine r_aload rfl rfl ?_
              refine r_cw (y := 28) (ra := []) (rest := []) rfl ⟨rfl, rfl⟩ (by rw [show hT (sI h (ad 0) 6 0) (mid t10) = 6 from tg10]; rfl) rfl rfl (Nat.le_of_ble_eq_true rfl) ?_
              refine in_28 (Nat.le_of_ble_eq_true rfl) ?_
              show WR _ cd_28 0 [some (.ref (mid t10))] [] (sI h (ad 0) 6 0) _
              refine r_aload rfl rfl ?_
              refine r_getI rfl ⟨rfl, rfl, rfl⟩ tg10 ?_
              refine WR_tI (y := (-1)) (Eq.trans (I_ne (dy_ad fx (.inl (by decide)) dz10)) k1_10) ?_
              refine r_ic (x := (-1)) rfl rfl ?_
              refine r_icmp_ne (tg := 13) rfl rfl (fun q => absurd q (by decide)) (fun _ => ?_)
              refine r_ic (x := 8) rfl rfl ?_
              refine r_goto (tg := 15) rfl rfl ?_
              refine r_iret rfl ?_
              show WR _ cd_53 4 [some (.ref (mid t7)), some (.ref (mid t10))] [.int 8] (sI h (ad 0) 6 0) _
              refine r_aload rfl rfl ?_
              refine r_getI rfl ⟨rfl, rfl, rfl⟩ tg7 ?_
              refine WR_tI (y := nI ln7) (Eq.trans (I_ne (dy_ad fx (.inl (by decide)) dz7)) l1_7) ?_
              refine r_icmp_ne (tg := 15) rfl rfl (fun _ => ?_) (fun q => False.elim (by have : (8 : Int32).toInt = 8 := rfl; have : (nI ln7).toInt = ((ln7 : Nat) : Int) := nI_toInt (by omega); have := i_eq q; omega))
              refine r_ic (x := 0) rfl rfl ?_
              refine r_zret rfl (.inl rfl) ?_
              show WR _ cd_51 66 [some (.ref (ad 0)), some (.int c), some (.int i), some (.int d), some (.int j), some (.int m), some (.ref (mid t7)), some (.ref (mid t10)), none] [.int 0] (sI h (ad 0) 6 0) _
              refine r_if_ne (tg := 76) rfl rfl (fun q => absurd q (by decide)) (fun _ => ?_)
              refine r_aload rfl rfl ?_
              refine r_ic (x := (-15)) rfl rfl ?_
              refine r_cv (y := 13) (ra := [.int (-15)]) (rest := []) rfl ⟨⟨rfl, rfl⟩, rfl, by decide⟩ (fx_t0 fx) rfl rfl (Nat.le_of_ble_eq_true rfl) ?_
              refine in_13 (Nat.le_of_ble_eq_true rfl) ?_
              show WR _ cd_13 0 [some (.ref (ad 0)), some (.int (-15))] [] (sI h (ad 0) 6 0) _
              refine r_aload rfl rfl ?_
              refine r_iload rfl rfl ?_
              refine r_putI rfl ⟨rfl, rfl, rfl⟩ (fx_t0 fx) ?_
              have fx : FX n ad sa z0 (sI (sI h (ad 0) 6 0) (ad 0) 6 (-15)) := (FX.sI fx)
              refine r_iload rfl rfl ?_
              refine r_iret rfl ?_
              show WR _ cd_51 75 [some (.ref (ad 0)), some (.int c), some (.int i), some (.int d), some (.int j), some (.int m), some (.ref (mid t7)), some (.ref (mid t10)), none] [.int (-15)] (sI (sI h (ad 0) 6 0) (ad 0) 6 (-15)) _
              refine r_iret rfl ?_
              show EV _ 179 [.ref (ad 30), .int c, .int i, .int d, .int j, .int m] (sI (sI h (ad 0) 6 0) (ad 0) 6 (-15)) _
              refine in_179 (Nat.le_of_ble_eq_true rfl) ?_
              show WR _ cd_179 0 [some (.ref (ad 30)), some (.int c), some (.int i), some (.int d), some (.int j), some (.int m), none, none, none, none, none] [] (sI (sI h (ad 0) 6 0) (ad 0) 6 (-15)) _
              refine r_iload rfl rfl ?_
              refine WR_tI (y := nI k2) ek2 ?_
              refine r_cs (y := 153) (ra := [.int (nI k2)]) (rest := []) rfl ⟨⟨rfl, rfl⟩, by decide⟩ rfl rfl (Nat.le_of_ble_eq_true rfl) ?_
              refine in_153 (Nat.le_of_ble_eq_true rfl) ?_
              show WR _ cd_153 0 [some (.int (nI k2))] [] (sI (sI h (ad 0) 6 0) (ad 0) 6 (-15)) _
              refine r_iload rfl rfl ?_
              refine r_if_lt (tg := 14) rfl rfl (fun q => False.elim (by have := i_nlt c1; have := i_rg c; have : (0 : Int32).toInt = 0 := rfl; have := i_eq ek2; have : (nI k2).toInt = ((k2 : Nat) : Int) := nI_toInt (by omega); have := i_nle c3; have : (24 : Int32).toInt = 24 := rfl; have := i_lt q; omega)) (fun _ => ?_)
              refine r_iload rfl rfl ?_
              refine r_ic (x := 24) rfl rfl ?_
              refine r_icmp_ge (tg := 14) rfl rfl (fun q => False.elim (by have := i_nlt c1; have := i_rg c; have : (0 : Int32).toInt = 0 := rfl; have := i_eq ek2; have : (nI k2).toInt = ((k2 : Nat) : Int) := nI_toInt (by omega); have := i_nle c3; have : (24 : Int32).toInt = 24 := rfl; have := i_le q; omega)) (fun _ => ?_)
              refine r_ic (x := 1) rfl rfl ?_
              refine r_goto (tg := 15) rfl rfl ?_
              refine r_zret rfl (.inr rfl) ?_
              show WR _ cd_179 4 [some (.ref (ad 30)), some (.int c), some (.int i), some (.int d), some (.int j), some (.int m), none, none, none, none, none] [.int 1] (sI (sI h (ad 0) 6 0) (ad 0) 6 (-15)) _
              refine r_if_eq (tg := 14) rfl rfl (fun q => absurd q (by decide)) (fun _ => ?_)
              refine r_iload rfl rfl ?_
              refine WR_tI (y := nI k5) ek5 ?_
              refine r_cs (y := 153) (ra := [.int (nI k5)]) (rest := []) rfl ⟨⟨rfl, rfl⟩, by decide⟩ rfl rfl (Nat.le_of_ble_eq_true rfl) ?_
              refine in_153 (Nat.le_of_ble_eq_true rfl) ?_
              show WR _ cd_153 0 [some (.int (nI k5))] [] (sI (sI h (ad 0) 6 0) (ad 0) 6 (-15)) _
              refine r_iload rfl rfl ?_
              refine r_if_lt (tg := 14) rfl rfl (fun q => False.elim (by have := i_nlt c4; have := i_rg d; have : (0 : Int32).toInt = 0 := rfl; have := i_eq ek5; have : (nI k5).toInt = ((k5 : Nat) : Int) := nI_toInt (by omega); have := i_nle c6; have : (24 : Int32).toInt = 24 := rfl; have := i_lt q; omega)) (fun _ => ?_)
              refine r_iload rfl rfl ?_
              refine r_ic (x := 24) rfl rfl ?_
              refine r_icmp_ge (tg := 14) rfl rfl (fun q => False.elim (by have := i_nlt c4; have := i_rg d; have : (0 : Int32).toInt = 0 := rfl; have := i_eq ek5; have : (nI k5).toInt = ((k5 : Nat) : Int) := nI_toInt (by omega); have := i_nle c6; have : (24 : Int32).toInt = 24 := rfl; have := i_le q; omega)) (fun _ => ?_)
              refine r_ic (x := 1) rfl rfl ?_
              refine r_goto (tg := 15) rfl rfl ?_
              refine r_zret rfl (.inr rfl) ?_
              show WR _ cd_179 11 [some (.ref (ad 30)), some (.int c), some (.int i), some (.int d), some (.int j), some (.int m), none, none, none, none, none] [.int 1] (sI (sI h (ad 0) 6 0) (ad 0) 6 (-15)) _
              refine r_if_ne (tg := 21) rfl rfl (fun _ => ?_) (fun q => absurd q (by decide))
              refine r_aload rfl rfl ?_
              refine r_getA (b := ad 31) rfl ⟨rfl, rfl, rfl⟩ (fx_t30 fx) (fx_r30_0 fx) ?_
              refine r_iload rfl rfl ?_
              refine WR_tI (y := nI k2) ek2 ?_
              refine r_iaload rfl (.inl (fx_t31 fx)) (vp_ct (fx_n31 fx) (vp_in_nI (by have := i_nlt c1; have := i_rg c; have : (0 : Int32).toInt = 0 := rfl; have := i_eq ek2; have : (nI k2).toInt = ((k2 : Nat) : Int) := nI_toInt (by omega); have := i_nle c3; have : (24 : Int32).toInt = 24 := rfl; omega) (by omega))) ?_
              refine WR_tI (congrArg (hI (sI (sI h (ad 0) 6 0) (ad 0) 6 (-15)) (ad 31)) ((nI_clamp (by have := i_nlt c1; have := i_rg c; have : (0 : Int32).toInt = 0 := rfl; have := i_eq ek2; have : (nI k2).toInt = ((k2 : Nat) : Int) := nI_toInt (by omega); have := i_nle c3; have : (24 : Int32).toInt = 24 := rfl; omega)) : _ = k2)) ?_
              refine WR_tI (y := nI t7) (Eq.trans (I_ne (fx_ne fx (by decide))) (Eq.trans (I_ne (fx_ne fx (by decide))) v7)) ?_
              refine r_istore (lv' := [some (.ref (ad 30)), some (.int c), some (.int i), some (.int d), some (.int j), some (.int m), some (.int (nI t7)), none, none, none, none]) rfl (Nat.le_of_ble_eq_true rfl) rfl ?_
              refine r_aload rfl rfl ?_
              refine r_getA (b := ad 31) rfl ⟨rfl, rfl, rfl⟩ (fx_t30 fx) (fx_r30_0 fx) ?_
              refine r_iload rfl rfl ?_
              refine WR_tI (y := nI k5) ek5 ?_
              refine r_iaload rfl (.inl (fx_t31 fx)) (vp_ct (fx_n31 fx) (vp_in_nI (by have := i_nlt c4; have := i_rg d; have : (0 : Int32).toInt = 0 := rfl; have := i_eq ek5; have : (nI k5).toInt = ((k5 : Nat) : Int) := nI_toInt (by omega); have := i_nle c6; have : (24 : Int32).toInt = 24 := rfl; omega) (by omega))) ?_
              refine WR_tI (congrArg (hI (sI (sI h (ad 0) 6 0) (ad 0) 6 (-15)) (ad 31)) ((nI_clamp (by have := i_nlt c4; have := i_rg d; have : (0 : Int32).toInt = 0 := rfl; have := i_eq ek5; have : (nI k5).toInt = ((k5 : Nat) : Int) := nI_toInt (by omega); have := i_nle c6; have : (24 : Int32).toInt = 24 := rfl; omega)) : _ = k5)) ?_
              refine WR_tI (y := nI t10) (Eq.trans (I_ne (fx_ne fx (by decide))) (Eq.trans (I_ne (fx_ne fx (by decide))) v10)) ?_
              refine r_istore (lv' := [some (.ref (ad 30)), some (.int c), some (.int i), some (.int d), some (.int j), some (.int m), some (.int (nI t7)), some (.int (nI t10)), none, none, none]) rfl (Nat.le_of_ble_eq_true rfl) rfl ?_
              refine r_iload rfl rfl ?_
              refine r_ic (x := (-1)) rfl rfl ?_
              refine r_icmp_eq (tg := 49) rfl rfl (fun q => False.elim (by have : (nI t7).toInt = ((t7 : Nat) : Int) := nI_toInt (by omega); have : (-1 : Int32).toInt = -1 := rfl; have := i_eq q; omega)) (fun _ => ?_)
              refine r_iload rfl rfl ?_
              refine r_ic (x := (-1)) rfl rfl ?_
              refine r_icmp_ne (tg := 55) rfl rfl (fun _ => ?_) (fun q => False.elim (by have : (nI t10).toInt = ((t10 : Nat) : Int) := nI_toInt (by omega); have : (-1 : Int32).toInt = -1 := rfl; have := i_eq q; omega))
              refine r_iload rfl rfl ?_
              refine r_ic (x := 1000) rfl rfl ?_
              refine r_icmp_ge (tg := 112) rfl rfl (fun q => False.elim (by have : (nI t7).toInt = ((t7 : Nat) : Int) := nI_toInt (by omega); have : (1000 : Int32).toInt = 1000 := rfl; have := i_le q; omega)) (fun _ => ?_)
              refine r_iload rfl rfl ?_
              refine r_ic (x := 1000) rfl rfl ?_
              refine r_icmp_ge (tg := 112) rfl rfl (fun q => False.elim (by have : (nI t10).toInt = ((t10 : Nat) : Int) := nI_toInt (by omega); have : (1000 : Int32).toInt = 1000 := rfl; have := i_le q; omega)) (fun _ => ?_)
              refine r_aload rfl rfl ?_
              refine r_getA (b := ad 33) rfl ⟨rfl, rfl, rfl⟩ (fx_t30 fx) (fx_r30_2 fx) ?_
              refine r_iload rfl rfl ?_
              refine r_iaload rfl (.inl (fx_t33 fx)) (vp_ct (fx_n33 fx) (vp_in_nI (by omega) (by omega))) ?_
              refine WR_tI (congrArg (hI (sI (sI h (ad 0) 6 0) (ad 0) 6 (-15)) (ad 33)) ((nI_clamp (by omega)) : _ = t7)) ?_
              refine WR_tI (y := nI ln7) (Eq.trans (I_ne (fx_ne fx (by decide))) (Eq.trans (I_ne (fx_ne fx (by decide))) l2_7)) ?_
              refine r_aload rfl rfl ?_
              refine r_getA (b := ad 33) rfl ⟨rfl, rfl, rfl⟩ (fx_t30 fx) (fx_r30_2 fx) ?_
              refine r_iload rfl rfl ?_
              refine r_iaload rfl (.inl (fx_t33 fx)) (vp_ct (fx_n33 fx) (vp_in_nI (by omega) (by omega))) ?_
              refine WR_tI (congrArg (hI (sI (sI h (ad 0) 6 0) (ad 0) 6 (-15)) (ad 33)) ((nI_clamp (by omega)) : _ = t10)) ?_
              refine WR_tI (y := 8) (Eq.trans (I_ne (fx_ne fx (by decide))) (Eq.trans (I_ne (fx_ne fx (by decide))) l2_10)) ?_
              refine r_icmp_eq (tg := 118) rfl rfl (fun q => False.elim (by have : (nI ln7).toInt = ((ln7 : Nat) : Int) := nI_toInt (by omega); have : (8 : Int32).toInt = 8 := rfl; have := i_eq q; omega)) (fun _ => ?_)
              refine r_aload rfl rfl ?_
              refine r_getA (b := ad 33) rfl ⟨rfl, rfl, rfl⟩ (fx_t30 fx) (fx_r30_2 fx) ?_
              refine r_iload rfl rfl ?_
              refine r_iaload rfl (.inl (fx_t33 fx)) (vp_ct (fx_n33 fx) (vp_in_nI (by omega) (by omega))) ?_
              refine WR_tI (congrArg (hI (sI (sI h (ad 0) 6 0) (ad 0) 6 (-15)) (ad 33)) ((nI_clamp (by omega)) : _ = t7)) ?_
              refine WR_tI (y := nI ln7) (Eq.trans (I_ne (fx_ne fx (by decide))) (Eq.trans (I_ne (fx_ne fx (by decide))) l2_7)) ?_
              refine r_ic (x := 8) rfl rfl ?_
              refine r_icmp_lt (tg := 112) rfl rfl (fun _ => ?_) (fun q => False.elim (by have : (nI ln7).toInt = ((ln7 : Nat) : Int) := nI_toInt (by omega); have : (8 : Int32).toInt = 8 := rfl; have := i_nlt q; omega))
              refine r_aload rfl rfl ?_
              refine r_ic (x := 5) rfl rfl ?_
              refine r_cv (y := 156) (ra := [.int 5]) (rest := []) rfl ⟨⟨rfl, rfl⟩, rfl, by decide⟩ (fx_t30 fx) rfl rfl (Nat.le_of_ble_eq_true rfl) ?_
              refine in_156 (Nat.le_of_ble_eq_true rfl) ?_
              show WR _ cd_156 0 [some (.ref (ad 30)), some (.int 5)] [] (sI (sI h (ad 0) 6 0) (ad 0) 6 (-15)) _
              refine r_aload rfl rfl ?_
              refine r_ic (x := (-10)) rfl rfl ?_
              refine r_iload rfl rfl ?_
              refine r_isub rfl ?_
              refine WR_tI (y := (-15)) rfl ?_
              refine r_cv (y := 154) (ra := [.int (-15)]) (rest := []) rfl ⟨⟨rfl, rfl⟩, rfl, by decide⟩ (fx_t30 fx) rfl rfl (Nat.le_of_ble_eq_true rfl) ?_
              refine in_154 (Nat.le_of_ble_eq_true rfl) ?_
              show WR _ cd_154 0 [some (.ref (ad 30)), some (.int (-15))] [] (sI (sI h (ad 0) 6 0) (ad 0) 6 (-15)) _
              refine r_aload rfl rfl ?_
              refine r_iload rfl rfl ?_
              refine r_ic (x := (-1)) rfl rfl ?_
              refine r_icmp_ge (tg := 10) rfl rfl (fun q => absurd q (by decide)) (fun _ => ?_)
              refine r_iload rfl rfl ?_
              refine r_goto (tg := 11) rfl rfl ?_
              refine r_putI rfl ⟨rfl, rfl, rfl⟩ (fx_t30 fx) ?_
              have fx : FX n ad sa z0 (sI (sI (sI h (ad 0) 6 0) (ad 0) 6 (-15)) (ad 30) 11 (-15)) := (FX.sI fx)
              refine r_iload rfl rfl ?_
              refine r_iret rfl ?_
              show WR _ cd_156 8 [some (.ref (ad 30)), some (.int 5)] [.int (-15)] (sI (sI (sI h (ad 0) 6 0) (ad 0) 6 (-15)) (ad 30) 11 (-15)) _
              refine r_iret rfl ?_
              show WR _ cd_179 117 [some (.ref (ad 30)), some (.int c), some (.int i), some (.int d), some (.int j), some (.int m), some (.int (nI t7)), some (.int (nI t10)), none, none, none] [.int (-15)] (sI (sI (sI h (ad 0) 6 0) (ad 0) 6 (-15)) (ad 30) 11 (-15)) _
              refine r_iret rfl ?_
              exact ⟨rfl, Rel.why r (((Chg.rf.sI (fx_j fx) (.inl (by decide))).sI (fx_j fx) (.inl (by decide))).sI (fx_j fx) (.inl (by decide))) ⟨rfl, by decide⟩ (Eq.trans (Eq.trans (I_ne (fx_ne fx (by decide))) I_eq) (Eq.symm I_eq)), (by (try simp only [hZ_sI, hZ_sL, hZ_sD, hZ_sR]); omega), (by (try simp only [hU_sI, hU_sL, hU_sD, hU_sR]); omega)⟩
            · refine r_aaloadA (b := mid t10) rfl (isQ_of (fx_t1 fx) (by decide)) (vp_ct (fx_n1 fx) (vp_in_nI (by have := i_nlt c4; have := i_rg d; have : (0 : Int32).toInt = 0 := rfl; have := i_eq ek5; have : (nI k5).toInt = ((k5 : Nat) : Int) := nI_toInt (by omega); have := i_nle c6; have : (24 : Int32).toInt = 24 := rfl; omega) (by omega))) (Eq.trans (congrArg (hR (sI h (ad 0) 6 0) (ad 1)) ((nI_clamp (by have := i_nlt c4; have := i_rg d; have : (0 : Int32).toInt = 0 := rfl; have := i_eq ek5; have : (nI k5).toInt = ((k5 : Nat) : Int) := nI_toInt (by omega); have := i_nle c6; have : (24 : Int32).toInt = 24 := rfl; omega)) : _ = k5)) (Eq.trans R_oI w10)) ?_
              refine r_astore (lv' := [some (.ref (ad 0)), some (.int c), some (.int i), some (.int d), some (.int j), some (.int m), some (.ref (mid t7)), some (.ref (mid t10)), none]) rfl (Nat.le_of_ble_eq_true rfl) rfl ?_
              refine r_aload rfl rfl ?_
              refine r_ifnullA (tg := 52) rfl rfl ?_
              refine r_aload rfl rfl ?_
              refine r_ifnonnullA (tg := 59) rfl rfl ?_
              refine r_aload rfl rfl ?_
              refine r_aload rfl rfl ?_
              refine r_cw (y := 53) (ra := [.ref (mid t10)]) (rest := []) rfl ⟨rfl, rfl⟩ (by rw [show hT (sI h (ad 0) 6 0) (mid t7) = 5 from tg7]; rfl) rfl rfl (Nat.le_of_ble_eq_true rfl) ?_
              refine in_53 (Nat.le_of_ble_eq_true rfl) ?_
              show WR _ cd_53 0 [some (.ref (mid t7)), some (.ref (mid t10))] [] (sI h (ad 0) 6 0) _
              refine r_aload rfl rfl ?_
              refine r_cw (y := 28) (ra := []) (rest := []) rfl ⟨rfl, rfl⟩ (by rw [show hT (sI h (ad 0) 6 0) (mid t10) = 6 from tg10]; rfl) rfl rfl (Nat.le_of_ble_eq_true rfl) ?_
              refine in_28 (Nat.le_of_ble_eq_true rfl) ?_
              show WR _ cd_28 0 [some (.ref (mid t10))] [] (sI h (ad 0) 6 0) _
              refine r_aload rfl rfl ?_
              refine r_getI rfl ⟨rfl, rfl, rfl⟩ tg10 ?_
              refine WR_tI (y := nI kd10) (Eq.trans (I_ne (dy_ad fx (.inl (by decide)) dz10)) k1_10) ?_
              refine r_ic (x := (-1)) rfl rfl ?_
              refine r_icmp_ne (tg := 13) rfl rfl (fun _ => ?_) (fun q => False.elim (by have : (nI kd10).toInt = ((kd10 : Nat) : Int) := nI_toInt (by omega); have : (-1 : Int32).toInt = -1 := rfl; have := i_eq q; omega))
              refine r_ic (x := 9) rfl rfl ?_
              refine r_iret rfl ?_
              show WR _ cd_53 4 [some (.ref (mid t7)), some (.ref (mid t10))] [.int 9] (sI h (ad 0) 6 0) _
              refine r_aload rfl rfl ?_
              refine r_getI rfl ⟨rfl, rfl, rfl⟩ tg7 ?_
              refine WR_tI (y := nI ln7) (Eq.trans (I_ne (dy_ad fx (.inl (by decide)) dz7)) l1_7) ?_
              refine r_icmp_ne (tg := 15) rfl rfl (fun _ => ?_) (fun q => False.elim (by have : (9 : Int32).toInt = 9 := rfl; have : (nI ln7).toInt = ((ln7 : Nat) : Int) := nI_toInt (by omega); have := i_eq q; omega))
              refine r_ic (x := 0) rfl rfl ?_
              refine r_zret rfl (.inl rfl) ?_
              show WR _ cd_51 66 [some (.ref (ad 0)), some (.int c), some (.int i), some (.int d), some (.int j), some (.int m), some (.ref (mid t7)), some (.ref (mid t10)), none] [.int 0] (sI h (ad 0) 6 0) _
              refine r_if_ne (tg := 76) rfl rfl (fun q => absurd q (by decide)) (fun _ => ?_)
              refine r_aload rfl rfl ?_
              refine r_ic (x := (-15)) rfl rfl ?_
              refine r_cv (y := 13) (ra := [.int (-15)]) (rest := []) rfl ⟨⟨rfl, rfl⟩, rfl, by decide⟩ (fx_t0 fx) rfl rfl (Nat.le_of_ble_eq_true rfl) ?_
              refine in_13 (Nat.le_of_ble_eq_true rfl) ?_
              show WR _ cd_13 0 [some (.ref (ad 0)), some (.int (-15))] [] (sI h (ad 0) 6 0) _
              refine r_aload rfl rfl ?_
              refine r_iload rfl rfl ?_
              refine r_putI rfl ⟨rfl, rfl, rfl⟩ (fx_t0 fx) ?_
              have fx : FX n ad sa z0 (sI (sI h (ad 0) 6 0) (ad 0) 6 (-15)) := (FX.sI fx)
              refine r_iload rfl rfl ?_
              refine r_iret rfl ?_
              show WR _ cd_51 75 [some (.ref (ad 0)), some (.int c), some (.int i), some (.int d), some (.int j), some (.int m), some (.ref (mid t7)), some (.ref (mid t10)), none] [.int (-15)] (sI (sI h (ad 0) 6 0) (ad 0) 6 (-15)) _
              refine r_iret rfl ?_
              show EV _ 179 [.ref (ad 30), .int c, .int i, .int d, .int j, .int m] (sI (sI h (ad 0) 6 0) (ad 0) 6 (-15)) _
              refine in_179 (Nat.le_of_ble_eq_true rfl) ?_
              show WR _ cd_179 0 [some (.ref (ad 30)), some (.int c), some (.int i), some (.int d), some (.int j), some (.int m), none, none, none, none, none] [] (sI (sI h (ad 0) 6 0) (ad 0) 6 (-15)) _
              refine r_iload rfl rfl ?_
              refine WR_tI (y := nI k2) ek2 ?_
              refine r_cs (y := 153) (ra := [.int (nI k2)]) (rest := []) rfl ⟨⟨rfl, rfl⟩, by decide⟩ rfl rfl (Nat.le_of_ble_eq_true rfl) ?_
              refine in_153 (Nat.le_of_ble_eq_true rfl) ?_
              show WR _ cd_153 0 [some (.int (nI k2))] [] (sI (sI h (ad 0) 6 0) (ad 0) 6 (-15)) _
              refine r_iload rfl rfl ?_
              refine r_if_lt (tg := 14) rfl rfl (fun q => False.elim (by have := i_nlt c1; have := i_rg c; have : (0 : Int32).toInt = 0 := rfl; have := i_eq ek2; have : (nI k2).toInt = ((k2 : Nat) : Int) := nI_toInt (by omega); have := i_nle c3; have : (24 : Int32).toInt = 24 := rfl; have := i_lt q; omega)) (fun _ => ?_)
              refine r_iload rfl rfl ?_
              refine r_ic (x := 24) rfl rfl ?_
              refine r_icmp_ge (tg := 14) rfl rfl (fun q => False.elim (by have := i_nlt c1; have := i_rg c; have : (0 : Int32).toInt = 0 := rfl; have := i_eq ek2; have : (nI k2).toInt = ((k2 : Nat) : Int) := nI_toInt (by omega); have := i_nle c3; have : (24 : Int32).toInt = 24 := rfl; have := i_le q; omega)) (fun _ => ?_)
              refine r_ic (x := 1) rfl rfl ?_
              refine r_goto (tg := 15) rfl rfl ?_
              refine r_zret rfl (.inr rfl) ?_
              show WR _ cd_179 4 [some (.ref (ad 30)), some (.int c), some (.int i), some (.int d), some (.int j), some (.int m), none, none, none, none, none] [.int 1] (sI (sI h (ad 0) 6 0) (ad 0) 6 (-15)) _
              refine r_if_eq (tg := 14) rfl rfl (fun q => absurd q (by decide)) (fun _ => ?_)
              refine r_iload rfl rfl ?_
              refine WR_tI (y := nI k5) ek5 ?_
              refine r_cs (y := 153) (ra := [.int (nI k5)]) (rest := []) rfl ⟨⟨rfl, rfl⟩, by decide⟩ rfl rfl (Nat.le_of_ble_eq_true rfl) ?_
              refine in_153 (Nat.le_of_ble_eq_true rfl) ?_
              show WR _ cd_153 0 [some (.int (nI k5))] [] (sI (sI h (ad 0) 6 0) (ad 0) 6 (-15)) _
              refine r_iload rfl rfl ?_
              refine r_if_lt (tg := 14) rfl rfl (fun q => False.elim (by have := i_nlt c4; have := i_rg d; have : (0 : Int32).toInt = 0 := rfl; have := i_eq ek5; have : (nI k5).toInt = ((k5 : Nat) : Int) := nI_toInt (by omega); have := i_nle c6; have : (24 : Int32).toInt = 24 := rfl; have := i_lt q; omega)) (fun _ => ?_)
              refine r_iload rfl rfl ?_
              refine r_ic (x := 24) rfl rfl ?_
              refine r_icmp_ge (tg := 14) rfl rfl (fun q => False.elim (by have := i_nlt c4; have := i_rg d; have : (0 : Int32).toInt = 0 := rfl; have := i_eq ek5; have : (nI k5).toInt = ((k5 : Nat) : Int) := nI_toInt (by omega); have := i_nle c6; have : (24 : Int32).toInt = 24 := rfl; have := i_le q; omega)) (fun _ => ?_)
              refine r_ic (x := 1) rfl rfl ?_
              refine r_goto (tg := 15) rfl rfl ?_
              refine r_zret rfl (.inr rfl) ?_
              show WR _ cd_179 11 [some (.ref (ad 30)), some (.int c), some (.int i), some (.int d), some (.int j), some (.int m), none, none, none, none, none] [.int 1] (sI (sI h (ad 0) 6 0) (ad 0) 6 (-15)) _
              refine r_if_ne (tg := 21) rfl rfl (fun _ => ?_) (fun q => absurd q (by decide))
              refine r_aload rfl rfl ?_
              refine r_getA (b := ad 31) rfl ⟨rfl, rfl, rfl⟩ (fx_t30 fx) (fx_r30_0 fx) ?_
              refine r_iload rfl rfl ?_
              refine WR_tI (y := nI k2) ek2 ?_
              refine r_iaload rfl (.inl (fx_t31 fx)) (vp_ct (fx_n31 fx) (vp_in_nI (by have := i_nlt c1; have := i_rg c; have : (0 : Int32).toInt = 0 := rfl; have := i_eq ek2; have : (nI k2).toInt = ((k2 : Nat) : Int) := nI_toInt (by omega); have := i_nle c3; have : (24 : Int32).toInt = 24 := rfl; omega) (by omega))) ?_
              refine WR_tI (congrArg (hI (sI (sI h (ad 0) 6 0) (ad 0) 6 (-15)) (ad 31)) ((nI_clamp (by have := i_nlt c1; have := i_rg c; have : (0 : Int32).toInt = 0 := rfl; have := i_eq ek2; have : (nI k2).toInt = ((k2 : Nat) : Int) := nI_toInt (by omega); have := i_nle c3; have : (24 : Int32).toInt = 24 := rfl; omega)) : _ = k2)) ?_
              refine WR_tI (y := nI t7) (Eq.trans (I_ne (fx_ne fx (by decide))) (Eq.trans (I_ne (fx_ne fx (by decide))) v7)) ?_
              refine r_istore (lv' := [some (.ref (ad 30)), some (.int c), some (.int i), some (.int d), some (.int j), some (.int m), some (.int (nI t7)), none, none, none, none]) rfl (Nat.le_of_ble_eq_true rfl) rfl ?_
              refine r_aload rfl rfl ?_
              refine r_getA (b := ad 31) rfl ⟨rfl, rfl, rfl⟩ (fx_t30 fx) (fx_r30_0 fx) ?_
              refine r_iload rfl rfl ?_
              refine WR_tI (y := nI k5) ek5 ?_
              refine r_iaload rfl (.inl (fx_t31 fx)) (vp_ct (fx_n31 fx) (vp_in_nI (by have := i_nlt c4; have := i_rg d; have : (0 : Int32).toInt = 0 := rfl; have := i_eq ek5; have : (nI k5).toInt = ((k5 : Nat) : Int) := nI_toInt (by omega); have := i_nle c6; have : (24 : Int32).toInt = 24 := rfl; omega) (by omega))) ?_
              refine WR_tI (congrArg (hI (sI (sI h (ad 0) 6 0) (ad 0) 6 (-15)) (ad 31)) ((nI_clamp (by have := i_nlt c4; have := i_rg d; have : (0 : Int32).toInt = 0 := rfl; have := i_eq ek5; have : (nI k5).toInt = ((k5 : Nat) : Int) := nI_toInt (by omega); have := i_nle c6; have : (24 : Int32).toInt = 24 := rfl; omega)) : _ = k5)) ?_
              refine WR_tI (y := nI t10) (Eq.trans (I_ne (fx_ne fx (by decide))) (Eq.trans (I_ne (fx_ne fx (by decide))) v10)) ?_
              refine r_istore (lv' := [some (.ref (ad 30)), some (.int c), some (.int i), some (.int d), some (.int j), some (.int m), some (.int (nI t7)), some (.int (nI t10)), none, none, none]) rfl (Nat.le_of_ble_eq_true rfl) rfl ?_
              refine r_iload rfl rfl ?_
              refine r_ic (x := (-1)) rfl rfl ?_
              refine r_icmp_eq (tg := 49) rfl rfl (fun q => False.elim (by have : (nI t7).toInt = ((t7 : Nat) : Int) := nI_toInt (by omega); have : (-1 : Int32).toInt = -1 := rfl; have := i_eq q; omega)) (fun _ => ?_)
              refine r_iload rfl rfl ?_
              refine r_ic (x := (-1)) rfl rfl ?_
              refine r_icmp_ne (tg := 55) rfl rfl (fun _ => ?_) (fun q => False.elim (by have : (nI t10).toInt = ((t10 : Nat) : Int) := nI_toInt (by omega); have : (-1 : Int32).toInt = -1 := rfl; have := i_eq q; omega))
              refine r_iload rfl rfl ?_
              refine r_ic (x := 1000) rfl rfl ?_
              refine r_icmp_ge (tg := 112) rfl rfl (fun q => False.elim (by have : (nI t7).toInt = ((t7 : Nat) : Int) := nI_toInt (by omega); have : (1000 : Int32).toInt = 1000 := rfl; have := i_le q; omega)) (fun _ => ?_)
              refine r_iload rfl rfl ?_
              refine r_ic (x := 1000) rfl rfl ?_
              refine r_icmp_ge (tg := 112) rfl rfl (fun q => False.elim (by have : (nI t10).toInt = ((t10 : Nat) : Int) := nI_toInt (by omega); have : (1000 : Int32).toInt = 1000 := rfl; have := i_le q; omega)) (fun _ => ?_)
              refine r_aload rfl rfl ?_
              refine r_getA (b := ad 33) rfl ⟨rfl, rfl, rfl⟩ (fx_t30 fx) (fx_r30_2 fx) ?_
              refine r_iload rfl rfl ?_
              refine r_iaload rfl (.inl (fx_t33 fx)) (vp_ct (fx_n33 fx) (vp_in_nI (by omega) (by omega))) ?_
              refine WR_tI (congrArg (hI (sI (sI h (ad 0) 6 0) (ad 0) 6 (-15)) (ad 33)) ((nI_clamp (by omega)) : _ = t7)) ?_
              refine WR_tI (y := nI ln7) (Eq.trans (I_ne (fx_ne fx (by decide))) (Eq.trans (I_ne (fx_ne fx (by decide))) l2_7)) ?_
              refine r_aload rfl rfl ?_
              refine r_getA (b := ad 33) rfl ⟨rfl, rfl, rfl⟩ (fx_t30 fx) (fx_r30_2 fx) ?_
              refine r_iload rfl rfl ?_
              refine r_iaload rfl (.inl (fx_t33 fx)) (vp_ct (fx_n33 fx) (vp_in_nI (by omega) (by omega))) ?_
              refine WR_tI (congrArg (hI (sI (sI h (ad 0) 6 0) (ad 0) 6 (-15)) (ad 33)) ((nI_clamp (by omega)) : _ = t10)) ?_
              refine WR_tI (y := 9) (Eq.trans (I_ne (fx_ne fx (by decide))) (Eq.trans (I_ne (fx_ne fx (by decide))) l2_10)) ?_
              refine r_icmp_eq (tg := 118) rfl rfl (fun q => False.elim (by have : (nI ln7).toInt = ((ln7 : Nat) : Int) := nI_toInt (by omega); have : (9 : Int32).toInt = 9 := rfl; have := i_eq q; omega)) (fun _ => ?_)
              refine r_aload rfl rfl ?_
              refine r_getA (b := ad 33) rfl ⟨rfl, rfl, rfl⟩ (fx_t30 fx) (fx_r30_2 fx) ?_
              refine r_iload rfl rfl ?_
              refine r_iaload rfl (.inl (fx_t33 fx)) (vp_ct (fx_n33 fx) (vp_in_nI (by omega) (by omega))) ?_
              refine WR_tI (congrArg (hI (sI (sI h (ad 0) 6 0) (ad 0) 6 (-15)) (ad 33)) ((nI_clamp (by omega)) : _ = t7)) ?_
              refine WR_tI (y := nI ln7) (Eq.trans (I_ne (fx_ne fx (by decide))) (Eq.trans (I_ne (fx_ne fx (by decide))) l2_7)) ?_
              refine r_ic (x := 8) rfl rfl ?_
              refine r_icmp_lt (tg := 112) rfl rfl (fun _ => ?_) (fun q => False.elim (by have : (nI ln7).toInt = ((ln7 : Nat) : Int) := nI_toInt (by omega); have : (8 : Int32).toInt = 8 := rfl; have := i_nlt q; omega))
              refine r_aload rfl rfl ?_
              refine r_ic (x := 5) rfl rfl ?_
              refine r_cv (y := 156) (ra := [.int 5]) (rest := []) rfl ⟨⟨rfl, rfl⟩, rfl, by decide⟩ (fx_t30 fx) rfl rfl (Nat.le_of_ble_eq_true rfl) ?_
              refine in_156 (Nat.le_of_ble_eq_true rfl) ?_
              show WR _ cd_156 0 [some (.ref (ad 30)), some (.int 5)] [] (sI (sI h (ad 0) 6 0) (ad 0) 6 (-15)) _
              refine r_aload rfl rfl ?_
              refine r_ic (x := (-10)) rfl rfl ?_
              refine r_iload rfl rfl ?_
              refine r_isub rfl ?_
              refine WR_tI (y := (-15)) rfl ?_
              refine r_cv (y := 154) (ra := [.int (-15)]) (rest := []) rfl ⟨⟨rfl, rfl⟩, rfl, by decide⟩ (fx_t30 fx) rfl rfl (Nat.le_of_ble_eq_true rfl) ?_
              refine in_154 (Nat.le_of_ble_eq_true rfl) ?_
              show WR _ cd_154 0 [some (.ref (ad 30)), some (.int (-15))] [] (sI (sI h (ad 0) 6 0) (ad 0) 6 (-15)) _
              refine r_aload rfl rfl ?_
              refine r_iload rfl rfl ?_
              refine r_ic (x := (-1)) rfl rfl ?_
              refine r_icmp_ge (tg := 10) rfl rfl (fun q => absurd q (by decide)) (fun _ => ?_)
              refine r_iload rfl rfl ?_
              refine r_goto (tg := 11) rfl rfl ?_
              refine r_putI rfl ⟨rfl, rfl, rfl⟩ (fx_t30 fx) ?_
              have fx : FX n ad sa z0 (sI (sI (sI h (ad 0) 6 0) (ad 0) 6 (-15)) (ad 30) 11 (-15)) := (FX.sI fx)
              refine r_iload rfl rfl ?_
              refine r_iret rfl ?_
              show WR _ cd_156 8 [some (.ref (ad 30)), some (.int 5)] [.int (-15)] (sI (sI (sI h (ad 0) 6 0) (ad 0) 6 (-15)) (ad 30) 11 (-15)) _
              refine r_iret rfl ?_
              show WR _ cd_179 117 [some (.ref (ad 30)), some (.int c), some (.int i), some (.int d), some (.int j), some (.int m), some (.int (nI t7)), some (.int (nI t10)), none, none, none] [.int (-15)] (sI (sI (sI h (ad 0) 6 0) (ad 0) 6 (-15)) (ad 30) 11 (-15)) _
              refine r_iret rfl ?_
              exact ⟨rfl, Rel.why r (((Chg.rf.sI (fx_j fx) (.inl (by decide))).sI (fx_j fx) (.inl (by decide))).sI (fx_j fx) (.inl (by decide))) ⟨rfl, by decide⟩ (Eq.trans (Eq.trans (I_ne (fx_ne fx (by decide))) I_eq) (Eq.symm I_eq)), (by (try simp only [hZ_sI, hZ_sL, hZ_sD, hZ_sR]); omega), (by (try simp only [hU_sI, hU_sL, hU_sD, hU_sR]); omega)⟩
          · refine r_aaloadA (b := mid t7) rfl (isQ_of (fx_t1 fx) (by decide)) (vp_ct (fx_n1 fx) (vp_in_nI (by have := i_nlt c1; have := i_rg c; have : (0 : Int32).toInt = 0 := rfl; have := i_eq ek2; have : (nI k2).toInt = ((k2 : Nat) : Int) := nI_toInt (by omega); have := i_nle c3; have : (24 : Int32).toInt = 24 := rfl; omega) (by omega))) (Eq.trans (congrArg (hR (sI h (ad 0) 6 0) (ad 1)) ((nI_clamp (by have := i_nlt c1; have := i_rg c; have : (0 : Int32).toInt = 0 := rfl; have := i_eq ek2; have : (nI k2).toInt = ((k2 : Nat) : Int) := nI_toInt (by omega); have := i_nle c3; have : (24 : Int32).toInt = 24 := rfl; omega)) : _ = k2)) (Eq.trans R_oI w7)) ?_
            refine r_astore (lv' := [some (.ref (ad 0)), some (.int c), some (.int i), some (.int d), some (.int j), some (.int m), some (.ref (mid t7)), none, none]) rfl (Nat.le_of_ble_eq_true rfl) rfl ?_
            refine r_aload rfl rfl ?_
            refine r_getA (b := ad 1) rfl ⟨rfl, rfl, rfl⟩ (fx_t0 fx) (fx_r0_0 fx) ?_
            refine r_iload rfl rfl ?_
            refine WR_tI (y := nI k5) ek5 ?_
            rcases rs.cs (n := n) (sa := sa) (c := k5) (by have := i_nlt c4; have := i_rg d; have : (0 : Int32).toInt = 0 := rfl; have := i_eq ek5; have : (nI k5).toInt = ((k5 : Nat) : Int) := nI_toInt (by omega); have := i_nle c6; have : (24 : Int32).toInt = 24 := rfl; omega) with ⟨v23, w23⟩ | ⟨q23, kd23, hq23, hn23, v23, w23, dz23, tg23, s1_23, k1_23, k2_23, hk_23, we23⟩ | ⟨t23, ln23, sz23, ht23, v23, w23, dz23, tg23, r_23, tg2_23, l1_23, l2_23, hl_23, kd_23, n_23, sz_23, hs_23, al23, rw23⟩ | ⟨t23, sz23, ht23, v23, w23, dz23, tg23, r_23, tg2_23, k1_23, l2_23, k2_23, n_23, sz_23, hs_23, al23, rw23⟩ | ⟨t23, kd23, sz23, ht23, v23, w23, dz23, tg23, r_23, tg2_23, k1_23, l2_23, k2_23, hk_23, n_23, sz_23, hs_23, al23, rw23⟩
            · refine r_aaload0 rfl (isQ_of (fx_t1 fx) (by decide)) (vp_ct (fx_n1 fx) (vp_in_nI (by have := i_nlt c4; have := i_rg d; have : (0 : Int32).toInt = 0 := rfl; have := i_eq ek5; have : (nI k5).toInt = ((k5 : Nat) : Int) := nI_toInt (by omega); have := i_nle c6; have : (24 : Int32).toInt = 24 := rfl; omega) (by omega))) (Eq.trans (congrArg (hR (sI h (ad 0) 6 0) (ad 1)) ((nI_clamp (by have := i_nlt c4; have := i_rg d; have : (0 : Int32).toInt = 0 := rfl; have := i_eq ek5; have : (nI k5).toInt = ((k5 : Nat) : Int) := nI_toInt (by omega); have := i_nle c6; have : (24 : Int32).toInt = 24 := rfl; omega)) : _ = k5)) (Eq.trans R_oI w23)) ?_
              refine r_astore0 (lv' := [some (.ref (ad 0)), some (.int c), some (.int i), some (.int d), some (.int j), some (.int m), some (.ref (mid t7)), some (.null), none]) rfl (Nat.le_of_ble_eq_true rfl) rfl ?_
              refine r_aload rfl rfl ?_
              refine r_ifnullA (tg := 52) rfl rfl ?_
              refine r_aload0 rfl rfl ?_
              refine r_ifnonnullN (tg := 59) rfl rfl ?_
              refine r_aload rfl rfl ?_
              refine r_ic (x := (-11)) rfl rfl ?_
              refine r_cv (y := 13) (ra := [.int (-11)]) (rest := []) rfl ⟨⟨rfl, rfl⟩, rfl, by decide⟩ (fx_t0 fx) rfl rfl (Nat.le_of_ble_eq_true rfl) ?_
              refine in_13 (Nat.le_of_ble_eq_true rfl) ?_
              show WR _ cd_13 0 [some (.ref (ad 0)), some (.int (-11))] [] (sI h (ad 0) 6 0) _
              refine r_aload rfl rfl ?_
              refine r_iload rfl rfl ?_
              refine r_putI rfl ⟨rfl, rfl, rfl⟩ (fx_t0 fx) ?_
              have fx : FX n ad sa z0 (sI (sI h (ad 0) 6 0) (ad 0) 6 (-11)) := (FX.sI fx)
              refine r_iload rfl rfl ?_
              refine r_iret rfl ?_
              show WR _ cd_51 58 [some (.ref (ad 0)), some (.int c), some (.int i), some (.int d), some (.int j), some (.int m), some (.ref (mid t7)), some (.null), none] [.int (-11)] (sI (sI h (ad 0) 6 0) (ad 0) 6 (-11)) _
              refine r_iret rfl ?_
              show EV _ 179 [.ref (ad 30), .int c, .int i, .int d, .int j, .int m] (sI (sI h (ad 0) 6 0) (ad 0) 6 (-11)) _
              refine in_179 (Nat.le_of_ble_eq_true rfl) ?_
              show WR _ cd_179 0 [some (.ref (ad 30)), some (.int c), some (.int i), some (.int d), some (.int j), some (.int m), none, none, none, none, none] [] (sI (sI h (ad 0) 6 0) (ad 0) 6 (-11)) _
              refine r_iload rfl rfl ?_
              refine WR_tI (y := nI k2) ek2 ?_
              refine r_cs (y := 153) (ra := [.int (nI k2)]) (rest := []) rfl ⟨⟨rfl, rfl⟩, by decide⟩ rfl rfl (Nat.le_of_ble_eq_true rfl) ?_
              refine in_153 (Nat.le_of_ble_eq_true rfl) ?_
              show WR _ cd_153 0 [some (.int (nI k2))] [] (sI (sI h (ad 0) 6 0) (ad 0) 6 (-11)) _
              refine r_iload rfl rfl ?_
              refine r_if_lt (tg := 14) rfl rfl (fun q => False.elim (by have := i_nlt c1; have := i_rg c; have : (0 : Int32).toInt = 0 := rfl; have := i_eq ek2; have : (nI k2).toInt = ((k2 : Nat) : Int) := nI_toInt (by omega); have := i_nle c3; have : (24 : Int32).toInt = 24 := rfl; have := i_lt q; omega)) (fun _ => ?_)
              refine r_iload rfl rfl ?_
              refine r_ic (x := 24) rfl rfl ?_
              refine r_icmp_ge (tg := 14) rfl rfl (fun q => False.elim (by have := i_nlt c1; have := i_rg c; have : (0 : Int32).toInt = 0 := rfl; have := i_eq ek2; have : (nI k2).toInt = ((k2 : Nat) : Int) := nI_toInt (by omega); have := i_nle c3; have : (24 : Int32).toInt = 24 := rfl; have := i_le q; omega)) (fun _ => ?_)
              refine r_ic (x := 1) rfl rfl ?_
              refine r_goto (tg := 15) rfl rfl ?_
              refine r_zret rfl (.inr rfl) ?_
              show WR _ cd_179 4 [some (.ref (ad 30)), some (.int c), some (.int i), some (.int d), some (.int j), some (.int m), none, none, none, none, none] [.int 1] (sI (sI h (ad 0) 6 0) (ad 0) 6 (-11)) _
              refine r_if_eq (tg := 14) rfl rfl (fun q => absurd q (by decide)) (fun _ => ?_)
              refine r_iload rfl rfl ?_
              refine WR_tI (y := nI k5) ek5 ?_
              refine r_cs (y := 153) (ra := [.int (nI k5)]) (rest := []) rfl ⟨⟨rfl, rfl⟩, by decide⟩ rfl rfl (Nat.le_of_ble_eq_true rfl) ?_
              refine in_153 (Nat.le_of_ble_eq_true rfl) ?_
              show WR _ cd_153 0 [some (.int (nI k5))] [] (sI (sI h (ad 0) 6 0) (ad 0) 6 (-11)) _
              refine r_iload rfl rfl ?_
              refine r_if_lt (tg := 14) rfl rfl (fun q => False.elim (by have := i_nlt c4; have := i_rg d; have : (0 : Int32).toInt = 0 := rfl; have := i_eq ek5; have : (nI k5).toInt = ((k5 : Nat) : Int) := nI_toInt (by omega); have := i_nle c6; have : (24 : Int32).toInt = 24 := rfl; have := i_lt q; omega)) (fun _ => ?_)
              refine r_iload rfl rfl ?_
              refine r_ic (x := 24) rfl rfl ?_
              refine r_icmp_ge (tg := 14) rfl rfl (fun q => False.elim (by have := i_nlt c4; have := i_rg d; have : (0 : Int32).toInt = 0 := rfl; have := i_eq ek5; have : (nI k5).toInt = ((k5 : Nat) : Int) := nI_toInt (by omega); have := i_nle c6; have : (24 : Int32).toInt = 24 := rfl; have := i_le q; omega)) (fun _ => ?_)
              refine r_ic (x := 1) rfl rfl ?_
              refine r_goto (tg := 15) rfl rfl ?_
              refine r_zret rfl (.inr rfl) ?_
              show WR _ cd_179 11 [some (.ref (ad 30)), some (.int c), some (.int i), some (.int d), some (.int j), some (.int m), none, none, none, none, none] [.int 1] (sI (sI h (ad 0) 6 0) (ad 0) 6 (-11)) _
              refine r_if_ne (tg := 21) rfl rfl (fun _ => ?_) (fun q => absurd q (by decide))
              refine r_aload rfl rfl ?_
              refine r_getA (b := ad 31) rfl ⟨rfl, rfl, rfl⟩ (fx_t30 fx) (fx_r30_0 fx) ?_
              refine r_iload rfl rfl ?_
              refine WR_tI (y := nI k2) ek2 ?_
              refine r_iaload rfl (.inl (fx_t31 fx)) (vp_ct (fx_n31 fx) (vp_in_nI (by have := i_nlt c1; have := i_rg c; have : (0 : Int32).toInt = 0 := rfl; have := i_eq ek2; have : (nI k2).toInt = ((k2 : Nat) : Int) := nI_toInt (by omega); have := i_nle c3; have : (24 : Int32).toInt = 24 := rfl; omega) (by omega))) ?_
              refine WR_tI (congrArg (hI (sI (sI h (ad 0) 6 0) (ad 0) 6 (-11)) (ad 31)) ((nI_clamp (by have := i_nlt c1; have := i_rg c; have : (0 : Int32).toInt = 0 := rfl; have := i_eq ek2; have : (nI k2).toInt = ((k2 : Nat) : Int) := nI_toInt (by omega); have := i_nle c3; have : (24 : Int32).toInt = 24 := rfl; omega)) : _ = k2)) ?_
              refine WR_tI (y := nI t7) (Eq.trans (I_ne (fx_ne fx (by decide))) (Eq.trans (I_ne (fx_ne fx (by decide))) v7)) ?_
              refine r_istore (lv' := [some (.ref (ad 30)), some (.int c), some (.int i), some (.int d), some (.int j), some (.int m), some (.int (nI t7)), none, none, none, none]) rfl (Nat.le_of_ble_eq_true rfl) rfl ?_
              refine r_aload rfl rfl ?_
              refine r_getA (b := ad 31) rfl ⟨rfl, rfl, rfl⟩ (fx_t30 fx) (fx_r30_0 fx) ?_
              refine r_iload rfl rfl ?_
              refine WR_tI (y := nI k5) ek5 ?_
              refine r_iaload rfl (.inl (fx_t31 fx)) (vp_ct (fx_n31 fx) (vp_in_nI (by have := i_nlt c4; have := i_rg d; have : (0 : Int32).toInt = 0 := rfl; have := i_eq ek5; have : (nI k5).toInt = ((k5 : Nat) : Int) := nI_toInt (by omega); have := i_nle c6; have : (24 : Int32).toInt = 24 := rfl; omega) (by omega))) ?_
              refine WR_tI (congrArg (hI (sI (sI h (ad 0) 6 0) (ad 0) 6 (-11)) (ad 31)) ((nI_clamp (by have := i_nlt c4; have := i_rg d; have : (0 : Int32).toInt = 0 := rfl; have := i_eq ek5; have : (nI k5).toInt = ((k5 : Nat) : Int) := nI_toInt (by omega); have := i_nle c6; have : (24 : Int32).toInt = 24 := rfl; omega)) : _ = k5)) ?_
              refine WR_tI (y := (-1)) (Eq.trans (I_ne (fx_ne fx (by decide))) (Eq.trans (I_ne (fx_ne fx (by decide))) v23)) ?_
              refine r_istore (lv' := [some (.ref (ad 30)), some (.int c), some (.int i), some (.int d), some (.int j), some (.int m), some (.int (nI t7)), some (.int (-1)), none, none, none]) rfl (Nat.le_of_ble_eq_true rfl) rfl ?_
              refine r_iload rfl rfl ?_
              refine r_ic (x := (-1)) rfl rfl ?_
              refine r_icmp_eq (tg := 49) rfl rfl (fun q => False.elim (by have : (nI t7).toInt = ((t7 : Nat) : Int) := nI_toInt (by omega); have : (-1 : Int32).toInt = -1 := rfl; have := i_eq q; omega)) (fun _ => ?_)
              refine r_iload rfl rfl ?_
              refine r_ic (x := (-1)) rfl rfl ?_
              refine r_icmp_ne (tg := 55) rfl rfl (fun q => absurd q (by decide)) (fun _ => ?_)
              refine r_aload rfl rfl ?_
              refine r_ic (x := 1) rfl rfl ?_
              refine r_cv (y := 156) (ra := [.int 1]) (rest := []) rfl ⟨⟨rfl, rfl⟩, rfl, by decide⟩ (fx_t30 fx) rfl rfl (Nat.le_of_ble_eq_true rfl) ?_
              refine in_156 (Nat.le_of_ble_eq_true rfl) ?_
              show WR _ cd_156 0 [some (.ref (ad 30)), some (.int 1)] [] (sI (sI h (ad 0) 6 0) (ad 0) 6 (-11)) _
              refine r_aload rfl rfl ?_
              refine r_ic (x := (-10)) rfl rfl ?_
              refine r_iload rfl rfl ?_
              refine r_isub rfl ?_
              refine WR_tI (y := (-11)) rfl ?_
              refine r_cv (y := 154) (ra := [.int (-11)]) (rest := []) rfl ⟨⟨rfl, rfl⟩, rfl, by decide⟩ (fx_t30 fx) rfl rfl (Nat.le_of_ble_eq_true rfl) ?_
              refine in_154 (Nat.le_of_ble_eq_true rfl) ?_
              show WR _ cd_154 0 [some (.ref (ad 30)), some (.int (-11))] [] (sI (sI h (ad 0) 6 0) (ad 0) 6 (-11)) _
              refine r_aload rfl rfl ?_
              refine r_iload rfl rfl ?_
              refine r_ic (x := (-1)) rfl rfl ?_
              refine r_icmp_ge (tg := 10) rfl rfl (fun q => absurd q (by decide)) (fun _ => ?_)
              refine r_iload rfl rfl ?_
              refine r_goto (tg := 11) rfl rfl ?_
              refine r_putI rfl ⟨rfl, rfl, rfl⟩ (fx_t30 fx) ?_
              have fx : FX n ad sa z0 (sI (sI (sI h (ad 0) 6 0) (ad 0) 6 (-11)) (ad 30) 11 (-11)) := (FX.sI fx)
              refine r_iload rfl rfl ?_
              refine r_iret rfl ?_
              show WR _ cd_156 8 [some (.ref (ad 30)), some (.int 1)] [.int (-11)] (sI (sI (sI h (ad 0) 6 0) (ad 0) 6 (-11)) (ad 30) 11 (-11)) _
              refine r_iret rfl ?_
              show WR _ cd_179 54 [some (.ref (ad 30)), some (.int c), some (.int i), some (.int d), some (.int j), some (.int m), some (.int (nI t7)), some (.int (-1)), none, none, none] [.int (-11)] (sI (sI (sI h (ad 0) 6 0) (ad 0) 6 (-11)) (ad 30) 11 (-11)) _
              refine r_iret rfl ?_
              exact ⟨rfl, Rel.why r (((Chg.rf.sI (fx_j fx) (.inl (by decide))).sI (fx_j fx) (.inl (by decide))).sI (fx_j fx) (.inl (by decide))) ⟨rfl, by decide⟩ (Eq.trans (Eq.trans (I_ne (fx_ne fx (by decide))) I_eq) (Eq.symm I_eq)), (by (try simp only [hZ_sI, hZ_sL, hZ_sD, hZ_sR]); omega), (by (try simp only [hU_sI, hU_sL, hU_sD, hU_sR]); omega)⟩
            · refine r_aaloadA (b := pa q23) rfl (isQ_of (fx_t1 fx) (by decide)) (vp_ct (fx_n1 fx) (vp_in_nI (by have := i_nlt c4; have := i_rg d; have : (0 : Int32).toInt = 0 := rfl; have := i_eq ek5; have : (nI k5).toInt = ((k5 : Nat) : Int) := nI_toInt (by omega); have := i_nle c6; have : (24 : Int32).toInt = 24 := rfl; omega) (by omega))) (Eq.trans (congrArg (hR (sI h (ad 0) 6 0) (ad 1)) ((nI_clamp (by have := i_nlt c4; have := i_rg d; have : (0 : Int32).toInt = 0 := rfl; have := i_eq ek5; have : (nI k5).toInt = ((k5 : Nat) : Int) := nI_toInt (by omega); have := i_nle c6; have : (24 : Int32).toInt = 24 := rfl; omega)) : _ = k5)) (Eq.trans R_oI w23)) ?_
              refine r_astore (lv' := [some (.ref (ad 0)), some (.int c), some (.int i), some (.int d), some (.int j), some (.int m), some (.ref (mid t7)), some (.ref (pa q23)), none]) rfl (Nat.le_of_ble_eq_true rfl) rfl ?_
              refine r_aload rfl rfl ?_
              refine r_ifnullA (tg := 52) rfl rfl ?_
              refine r_aload rfl rfl ?_
              refine r_ifnonnullA (tg := 59) rfl rfl ?_
              refine r_aload rfl rfl ?_
              refine r_aload rfl rfl ?_
              refine r_cw (y := 54) (ra := [.ref (pa q23)]) (rest := []) rfl ⟨rfl, rfl⟩ (by rw [show hT (sI h (ad 0) 6 0) (mid t7) = 6 from tg7]; rfl) rfl rfl (Nat.le_of_ble_eq_true rfl) ?_
              refine in_54 (Nat.le_of_ble_eq_true rfl) ?_
              show WR _ cd_54 0 [some (.ref (mid t7)), some (.ref (pa q23))] [] (sI h (ad 0) 6 0) _
              refine r_aload rfl rfl ?_
              refine r_instW rfl (by decide) tg23 (by decide) ?_
              refine r_zret rfl (.inl rfl) ?_
              show WR _ cd_51 66 [some (.ref (ad 0)), some (.int c), some (.int i), some (.int d), some (.int j), some (.int m), some (.ref (mid t7)), some (.ref (pa q23)), none] [.int 0] (sI h (ad 0) 6 0) _
              refine r_if_ne (tg := 76) rfl rfl (fun q => absurd q (by decide)) (fun _ => ?_)
              refine r_aload rfl rfl ?_
              refine r_ic (x := (-15)) rfl rfl ?_
              refine r_cv (y := 13) (ra := [.int (-15)]) (rest := []) rfl ⟨⟨rfl, rfl⟩, rfl, by decide⟩ (fx_t0 fx) rfl rfl (Nat.le_of_ble_eq_true rfl) ?_
              refine in_13 (Nat.le_of_ble_eq_true rfl) ?_
              show WR _ cd_13 0 [some (.ref (ad 0)), some (.int (-15))] [] (sI h (ad 0) 6 0) _
              refine r_aload rfl rfl ?_
              refine r_iload rfl rfl ?_
              refine r_putI rfl ⟨rfl, rfl, rfl⟩ (fx_t0 fx) ?_
              have fx : FX n ad sa z0 (sI (sI h (ad 0) 6 0) (ad 0) 6 (-15)) := (FX.sI fx)
              refine r_iload rfl rfl ?_
              refine r_iret rfl ?_
              show WR _ cd_51 75 [some (.ref (ad 0)), some (.int c), some (.int i), some (.int d), some (.int j), some (.int m), some (.ref (mid t7)), some (.ref (pa q23)), none] [.int (-15)] (sI (sI h (ad 0) 6 0) (ad 0) 6 (-15)) _
              refine r_iret rfl ?_
              show EV _ 179 [.ref (ad 30), .int c, .int i, .int d, .int j, .int m] (sI (sI h (ad 0) 6 0) (ad 0) 6 (-15)) _
              refine in_179 (Nat.le_of_ble_eq_true rfl) ?_
              show WR _ cd_179 0 [some (.ref (ad 30)), some (.int c), some (.int i), some (.int d), some (.int j), some (.int m), none, none, none, none, none] [] (sI (sI h (ad 0) 6 0) (ad 0) 6 (-15)) _
              refine r_iload rfl rfl ?_
              refine WR_tI (y := nI k2) ek2 ?_
              refine r_cs (y := 153) (ra := [.int (nI k2)]) (rest := []) rfl ⟨⟨rfl, rfl⟩, by decide⟩ rfl rfl (Nat.le_of_ble_eq_true rfl) ?_
              refine in_153 (Nat.le_of_ble_eq_true rfl) ?_
              show WR _ cd_153 0 [some (.int (nI k2))] [] (sI (sI h (ad 0) 6 0) (ad 0) 6 (-15)) _
              refine r_iload rfl rfl ?_
              refine r_if_lt (tg := 14) rfl rfl (fun q => False.elim (by have := i_nlt c1; have := i_rg c; have : (0 : Int32).toInt = 0 := rfl; have := i_eq ek2; have : (nI k2).toInt = ((k2 : Nat) : Int) := nI_toInt (by omega); have := i_nle c3; have : (24 : Int32).toInt = 24 := rfl; have := i_lt q; omega)) (fun _ => ?_)
              refine r_iload rfl rfl ?_
              refine r_ic (x := 24) rfl rfl ?_
              refine r_icmp_ge (tg := 14) rfl rfl (fun q => False.elim (by have := i_nlt c1; have := i_rg c; have : (0 : Int32).toInt = 0 := rfl; have := i_eq ek2; have : (nI k2).toInt = ((k2 : Nat) : Int) := nI_toInt (by omega); have := i_nle c3; have : (24 : Int32).toInt = 24 := rfl; have := i_le q; omega)) (fun _ => ?_)
              refine r_ic (x := 1) rfl rfl ?_
              refine r_goto (tg := 15) rfl rfl ?_
              refine r_zret rfl (.inr rfl) ?_
              show WR _ cd_179 4 [some (.ref (ad 30)), some (.int c), some (.int i), some (.int d), some (.int j), some (.int m), none, none, none, none, none] [.int 1] (sI (sI h (ad 0) 6 0) (ad 0) 6 (-15)) _
              refine r_if_eq (tg := 14) rfl rfl (fun q => absurd q (by decide)) (fun _ => ?_)
              refine r_iload rfl rfl ?_
              refine WR_tI (y := nI k5) ek5 ?_
              refine r_cs (y := 153) (ra := [.int (nI k5)]) (rest := []) rfl ⟨⟨rfl, rfl⟩, by decide⟩ rfl rfl (Nat.le_of_ble_eq_true rfl) ?_
              refine in_153 (Nat.le_of_ble_eq_true rfl) ?_
              show WR _ cd_153 0 [some (.int (nI k5))] [] (sI (sI h (ad 0) 6 0) (ad 0) 6 (-15)) _
              refine r_iload rfl rfl ?_
              refine r_if_lt (tg := 14) rfl rfl (fun q => False.elim (by have := i_nlt c4; have := i_rg d; have : (0 : Int32).toInt = 0 := rfl; have := i_eq ek5; have : (nI k5).toInt = ((k5 : Nat) : Int) := nI_toInt (by omega); have := i_nle c6; have : (24 : Int32).toInt = 24 := rfl; have := i_lt q; omega)) (fun _ => ?_)
              refine r_iload rfl rfl ?_
              refine r_ic (x := 24) rfl rfl ?_
              refine r_icmp_ge (tg := 14) rfl rfl (fun q => False.elim (by have := i_nlt c4; have := i_rg d; have : (0 : Int32).toInt = 0 := rfl; have := i_eq ek5; have : (nI k5).toInt = ((k5 : Nat) : Int) := nI_toInt (by omega); have := i_nle c6; have : (24 : Int32).toInt = 24 := rfl; have := i_le q; omega)) (fun _ => ?_)
              refine r_ic (x := 1) rfl rfl ?_
              refine r_goto (tg := 15) rfl rfl ?_
              refine r_zret rfl (.inr rfl) ?_
              show WR _ cd_179 11 [some (.ref (ad 30)), some (.int c), some (.int i), some (.int d), some (.int j), some (.int m), none, none, none, none, none] [.int 1] (sI (sI h (ad 0) 6 0) (ad 0) 6 (-15)) _
              refine r_if_ne (tg := 21) rfl rfl (fun _ => ?_) (fun q => absurd q (by decide))
              refine r_aload rfl rfl ?_
              refine r_getA (b := ad 31) rfl ⟨rfl, rfl, rfl⟩ (fx_t30 fx) (fx_r30_0 fx) ?_
              refine r_iload rfl rfl ?_
              refine WR_tI (y := nI k2) ek2 ?_
              refine r_iaload rfl (.inl (fx_t31 fx)) (vp_ct (fx_n31 fx) (vp_in_nI (by have := i_nlt c1; have := i_rg c; have : (0 : Int32).toInt = 0 := rfl; have := i_eq ek2; have : (nI k2).toInt = ((k2 : Nat) : Int) := nI_toInt (by omega); have := i_nle c3; have : (24 : Int32).toInt = 24 := rfl; omega) (by omega))) ?_
              refine WR_tI (congrArg (hI (sI (sI h (ad 0) 6 0) (ad 0) 6 (-15)) (ad 31)) ((nI_clamp (by have := i_nlt c1; have := i_rg c; have : (0 : Int32).toInt = 0 := rfl; have := i_eq ek2; have : (nI k2).toInt = ((k2 : Nat) : Int) := nI_toInt (by omega); have := i_nle c3; have : (24 : Int32).toInt = 24 := rfl; omega)) : _ = k2)) ?_
              refine WR_tI (y := nI t7) (Eq.trans (I_ne (fx_ne fx (by decide))) (Eq.trans (I_ne (fx_ne fx (by decide))) v7)) ?_
              refine r_istore (lv' := [some (.ref (ad 30)), some (.int c), some (.int i), some (.int d), some (.int j), some (.int m), some (.int (nI t7)), none, none, none, none]) rfl (Nat.le_of_ble_eq_true rfl) rfl ?_
              refine r_aload rfl rfl ?_
              refine r_getA (b := ad 31) rfl ⟨rfl, rfl, rfl⟩ (fx_t30 fx) (fx_r30_0 fx) ?_
              refine r_iload rfl rfl ?_
              refine WR_tI (y := nI k5) ek5 ?_
              refine r_iaload rfl (.inl (fx_t31 fx)) (vp_ct (fx_n31 fx) (vp_in_nI (by have := i_nlt c4; have := i_rg d; have : (0 : Int32).toInt = 0 := rfl; have := i_eq ek5; have : (nI k5).toInt = ((k5 : Nat) : Int) := nI_toInt (by omega); have := i_nle c6; have : (24 : Int32).toInt = 24 := rfl; omega) (by omega))) ?_
              refine WR_tI (congrArg (hI (sI (sI h (ad 0) 6 0) (ad 0) 6 (-15)) (ad 31)) ((nI_clamp (by have := i_nlt c4; have := i_rg d; have : (0 : Int32).toInt = 0 := rfl; have := i_eq ek5; have : (nI k5).toInt = ((k5 : Nat) : Int) := nI_toInt (by omega); have := i_nle c6; have : (24 : Int32).toInt = 24 := rfl; omega)) : _ = k5)) ?_
              refine WR_tI (y := nI (q23 + 1000)) (Eq.trans (I_ne (fx_ne fx (by decide))) (Eq.trans (I_ne (fx_ne fx (by decide))) v23)) ?_
              refine r_istore (lv' := [some (.ref (ad 30)), some (.int c), some (.int i), some (.int d), some (.int j), some (.int m), some (.int (nI t7)), some (.int (nI (q23 + 1000))), none, none, none]) rfl (Nat.le_of_ble_eq_true rfl) rfl ?_
              refine r_iload rfl rfl ?_
              refine r_ic (x := (-1)) rfl rfl ?_
              refine r_icmp_eq (tg := 49) rfl rfl (fun q => False.elim (by have : (nI t7).toInt = ((t7 : Nat) : Int) := nI_toInt (by omega); have : (-1 : Int32).toInt = -1 := rfl; have := i_eq q; omega)) (fun _ => ?_)
              refine r_iload rfl rfl ?_
              refine r_ic (x := (-1)) rfl rfl ?_
              refine r_icmp_ne (tg := 55) rfl rfl (fun _ => ?_) (fun q => False.elim (by have : (nI (q23 + 1000)).toInt = ((q23 + 1000 : Nat) : Int) := nI_toInt (by omega); have : (-1 : Int32).toInt = -1 := rfl; have := i_eq q; omega))
              refine r_iload rfl rfl ?_
              refine r_ic (x := 1000) rfl rfl ?_
              refine r_icmp_ge (tg := 112) rfl rfl (fun q => False.elim (by have : (nI t7).toInt = ((t7 : Nat) : Int) := nI_toInt (by omega); have : (1000 : Int32).toInt = 1000 := rfl; have := i_le q; omega)) (fun _ => ?_)
              refine r_iload rfl rfl ?_
              refine r_ic (x := 1000) rfl rfl ?_
              refine r_icmp_ge (tg := 112) rfl rfl (fun _ => ?_) (fun q => False.elim (by have : (nI (q23 + 1000)).toInt = ((q23 + 1000 : Nat) : Int) := nI_toInt (by omega); have : (1000 : Int32).toInt = 1000 := rfl; have := i_nle q; omega))
              refine r_aload rfl rfl ?_
              refine r_ic (x := 5) rfl rfl ?_
              refine r_cv (y := 156) (ra := [.int 5]) (rest := []) rfl ⟨⟨rfl, rfl⟩, rfl, by decide⟩ (fx_t30 fx) rfl rfl (Nat.le_of_ble_eq_true rfl) ?_
              refine in_156 (Nat.le_of_ble_eq_true rfl) ?_
              show WR _ cd_156 0 [some (.ref (ad 30)), some (.int 5)] [] (sI (sI h (ad 0) 6 0) (ad 0) 6 (-15)) _
              refine r_aload rfl rfl ?_
              refine r_ic (x := (-10)) rfl rfl ?_
              refine r_iload rfl rfl ?_
              refine r_isub rfl ?_
              refine WR_tI (y := (-15)) rfl ?_
              refine r_cv (y := 154) (ra := [.int (-15)]) (rest := []) rfl ⟨⟨rfl, rfl⟩, rfl, by decide⟩ (fx_t30 fx) rfl rfl (Nat.le_of_ble_eq_true rfl) ?_
              refine in_154 (Nat.le_of_ble_eq_true rfl) ?_
              show WR _ cd_154 0 [some (.ref (ad 30)), some (.int (-15))] [] (sI (sI h (ad 0) 6 0) (ad 0) 6 (-15)) _
              refine r_aload rfl rfl ?_
              refine r_iload rfl rfl ?_
              refine r_ic (x := (-1)) rfl rfl ?_
              refine r_icmp_ge (tg := 10) rfl rfl (fun q => absurd q (by decide)) (fun _ => ?_)
              refine r_iload rfl rfl ?_
              refine r_goto (tg := 11) rfl rfl ?_
              refine r_putI rfl ⟨rfl, rfl, rfl⟩ (fx_t30 fx) ?_
              have fx : FX n ad sa z0 (sI (sI (sI h (ad 0) 6 0) (ad 0) 6 (-15)) (ad 30) 11 (-15)) := (FX.sI fx)
              refine r_iload rfl rfl ?_
              refine r_iret rfl ?_
              show WR _ cd_156 8 [some (.ref (ad 30)), some (.int 5)] [.int (-15)] (sI (sI (sI h (ad 0) 6 0) (ad 0) 6 (-15)) (ad 30) 11 (-15)) _
              refine r_iret rfl ?_
              show WR _ cd_179 117 [some (.ref (ad 30)), some (.int c), some (.int i), some (.int d), some (.int j), some (.int m), some (.int (nI t7)), some (.int (nI (q23 + 1000))), none, none, none] [.int (-15)] (sI (sI (sI h (ad 0) 6 0) (ad 0) 6 (-15)) (ad 30) 11 (-15)) _
              refine r_iret rfl ?_
              exact ⟨rfl, Rel.why r (((Chg.rf.sI (fx_j fx) (.inl (by decide))).sI (fx_j fx) (.inl (by decide))).sI (fx_j fx) (.inl (by decide))) ⟨rfl, by decide⟩ (Eq.trans (Eq.trans (I_ne (fx_ne fx (by decide))) I_eq) (Eq.symm I_eq)), (by (try simp only [hZ_sI, hZ_sL, hZ_sD, hZ_sR]); omega), (by (try simp only [hU_sI, hU_sL, hU_sD, hU_sR]); omega)⟩
            · refine r_aaloadA (b := mid t23) rfl (isQ_of (fx_t1 fx) (by decide)) (vp_ct (fx_n1 fx) (vp_in_nI (by have := i_nlt c4; have := i_rg d; have : (0 : Int32).toInt = 0 := rfl; have := i_eq ek5; have : (nI k5).toInt = ((k5 : Nat) : Int) := nI_toInt (by omega); have := i_nle c6; have : (24 : Int32).toInt = 24 := rfl; omega) (by omega))) (Eq.trans (congrArg (hR (sI h (ad 0) 6 0) (ad 1)) ((nI_clamp (by have := i_nlt c4; have := i_rg d; have : (0 : Int32).toInt = 0 := rfl; have := i_eq ek5; have : (nI k5).toInt = ((k5 : Nat) : Int) := nI_toInt (by omega); have := i_nle c6; have : (24 : Int32).toInt = 24 := rfl; omega)) : _ = k5)) (Eq.trans R_oI w23)) ?_
              refine r_astore (lv' := [some (.ref (ad 0)), some (.int c), some (.int i), some (.int d), some (.int j), some (.int m), some (.ref (mid t7)), some (.ref (mid t23)), none]) rfl (Nat.le_of_ble_eq_true rfl) rfl ?_
              refine r_aload rfl rfl ?_
              refine r_ifnullA (tg := 52) rfl rfl ?_
              refine r_aload rfl rfl ?_
              refine r_ifnonnullA (tg := 59) rfl rfl ?_
              refine r_aload rfl rfl ?_
              refine r_aload rfl rfl ?_
              refine r_cw (y := 54) (ra := [.ref (mid t23)]) (rest := []) rfl ⟨rfl, rfl⟩ (by rw [show hT (sI h (ad 0) 6 0) (mid t7) = 6 from tg7]; rfl) rfl rfl (Nat.le_of_ble_eq_true rfl) ?_
              refine in_54 (Nat.le_of_ble_eq_true rfl) ?_
              show WR _ cd_54 0 [some (.ref (mid t7)), some (.ref (mid t23))] [] (sI h (ad 0) 6 0) _
              refine r_aload rfl rfl ?_
              refine r_instW rfl (by decide) tg23 (by decide) ?_
              refine r_zret rfl (.inl rfl) ?_
              show WR _ cd_51 66 [some (.ref (ad 0)), some (.int c), some (.int i), some (.int d), some (.int j), some (.int m), some (.ref (mid t7)), some (.ref (mid t23)), none] [.int 0] (sI h (ad 0) 6 0) _
              refine r_if_ne (tg := 76) rfl rfl (fun q => absurd q (by decide)) (fun _ => ?_)
              refine r_aload rfl rfl ?_
              refine r_ic (x := (-15)) rfl rfl ?_
              refine r_cv (y := 13) (ra := [.int (-15)]) (rest := []) rfl ⟨⟨rfl, rfl⟩, rfl, by decide⟩ (fx_t0 fx) rfl rfl (Nat.le_of_ble_eq_true rfl) ?_
              refine in_13 (Nat.le_of_ble_eq_true rfl) ?_
              show WR _ cd_13 0 [some (.ref (ad 0)), some (.int (-15))] [] (sI h (ad 0) 6 0) _
              refine r_aload rfl rfl ?_
              refine r_iload rfl rfl ?_
              refine r_putI rfl ⟨rfl, rfl, rfl⟩ (fx_t0 fx) ?_
              have fx : FX n ad sa z0 (sI (sI h (ad 0) 6 0) (ad 0) 6 (-15)) := (FX.sI fx)
              refine r_iload rfl rfl ?_
              refine r_iret rfl ?_
              show WR _ cd_51 75 [some (.ref (ad 0)), some (.int c), some (.int i), some (.int d), some (.int j), some (.int m), some (.ref (mid t7)), some (.ref (mid t23)), none] [.int (-15)] (sI (sI h (ad 0) 6 0) (ad 0) 6 (-15)) _
              refine r_iret rfl ?_
              show EV _ 179 [.ref (ad 30), .int c, .int i, .int d, .int j, .int m] (sI (sI h (ad 0) 6 0) (ad 0) 6 (-15)) _
              refine in_179 (Nat.le_of_ble_eq_true rfl) ?_
              show WR _ cd_179 0 [some (.ref (ad 30)), some (.int c), some (.int i), some (.int d), some (.int j), some (.int m), none, none, none, none, none] [] (sI (sI h (ad 0) 6 0) (ad 0) 6 (-15)) _
              refine r_iload rfl rfl ?_
              refine WR_tI (y := nI k2) ek2 ?_
              refine r_cs (y := 153) (ra := [.int (nI k2)]) (rest := []) rfl ⟨⟨rfl, rfl⟩, by decide⟩ rfl rfl (Nat.le_of_ble_eq_true rfl) ?_
              refine in_153 (Nat.le_of_ble_eq_true rfl) ?_
              show WR _ cd_153 0 [some (.int (nI k2))] [] (sI (sI h (ad 0) 6 0) (ad 0) 6 (-15)) _
              refine r_iload rfl rfl ?_
              refine r_if_lt (tg := 14) rfl rfl (fun q => False.elim (by have := i_nlt c1; have := i_rg c; have : (0 : Int32).toInt = 0 := rfl; have := i_eq ek2; have : (nI k2).toInt = ((k2 : Nat) : Int) := nI_toInt (by omega); have := i_nle c3; have : (24 : Int32).toInt = 24 := rfl; have := i_lt q; omega)) (fun _ => ?_)
              refine r_iload rfl rfl ?_
              refine r_ic (x := 24) rfl rfl ?_
              refine r_icmp_ge (tg := 14) rfl rfl (fun q => False.elim (by have := i_nlt c1; have := i_rg c; have : (0 : Int32).toInt = 0 := rfl; have := i_eq ek2; have : (nI k2).toInt = ((k2 : Nat) : Int) := nI_toInt (by omega); have := i_nle c3; have : (24 : Int32).toInt = 24 := rfl; have := i_le q; omega)) (fun _ => ?_)
              refine r_ic (x := 1) rfl rfl ?_
              refine r_goto (tg := 15) rfl rfl ?_
              refine r_zret rfl (.inr rfl) ?_
              show WR _ cd_179 4 [some (.ref (ad 30)), some (.int c), some (.int i), some (.int d), some (.int j), some (.int m), none, none, none, none, none] [.int 1] (sI (sI h (ad 0) 6 0) (ad 0) 6 (-15)) _
              refine r_if_eq (tg := 14) rfl rfl (fun q => absurd q (by decide)) (fun _ => ?_)
              refine r_iload rfl rfl ?_
              refine WR_tI (y := nI k5) ek5 ?_
              refine r_cs (y := 153) (ra := [.int (nI k5)]) (rest := []) rfl ⟨⟨rfl, rfl⟩, by decide⟩ rfl rfl (Nat.le_of_ble_eq_true rfl) ?_
              refine in_153 (Nat.le_of_ble_eq_true rfl) ?_
              show WR _ cd_153 0 [some (.int (nI k5))] [] (sI (sI h (ad 0) 6 0) (ad 0) 6 (-15)) _
              refine r_iload rfl rfl ?_
              refine r_if_lt (tg := 14) rfl rfl (fun q => False.elim (by have := i_nlt c4; have := i_rg d; have : (0 : Int32).toInt = 0 := rfl; have := i_eq ek5; have : (nI k5).toInt = ((k5 : Nat) : Int) := nI_toInt (by omega); have := i_nle c6; have : (24 : Int32).toInt = 24 := rfl; have := i_lt q; omega)) (fun _ => ?_)
              refine r_iload rfl rfl ?_
              refine r_ic (x := 24) rfl rfl ?_
              refine r_icmp_ge (tg := 14) rfl rfl (fun q => False.elim (by have := i_nlt c4; have := i_rg d; have : (0 : Int32).toInt = 0 := rfl; have := i_eq ek5; have : (nI k5).toInt = ((k5 : Nat) : Int) := nI_toInt (by omega); have := i_nle c6; have : (24 : Int32).toInt = 24 := rfl; have := i_le q; omega)) (fun _ => ?_)
              refine r_ic (x := 1) rfl rfl ?_
              refine r_goto (tg := 15) rfl rfl ?_
              refine r_zret rfl (.inr rfl) ?_
              show WR _ cd_179 11 [some (.ref (ad 30)), some (.int c), some (.int i), some (.int d), some (.int j), some (.int m), none, none, none, none, none] [.int 1] (sI (sI h (ad 0) 6 0) (ad 0) 6 (-15)) _
              refine r_if_ne (tg := 21) rfl rfl (fun _ => ?_) (fun q => absurd q (by decide))
              refine r_aload rfl rfl ?_
              refine r_getA (b := ad 31) rfl ⟨rfl, rfl, rfl⟩ (fx_t30 fx) (fx_r30_0 fx) ?_
              refine r_iload rfl rfl ?_
              refine WR_tI (y := nI k2) ek2 ?_
              refine r_iaload rfl (.inl (fx_t31 fx)) (vp_ct (fx_n31 fx) (vp_in_nI (by have := i_nlt c1; have := i_rg c; have : (0 : Int32).toInt = 0 := rfl; have := i_eq ek2; have : (nI k2).toInt = ((k2 : Nat) : Int) := nI_toInt (by omega); have := i_nle c3; have : (24 : Int32).toInt = 24 := rfl; omega) (by omega))) ?_
              refine WR_tI (congrArg (hI (sI (sI h (ad 0) 6 0) (ad 0) 6 (-15)) (ad 31)) ((nI_clamp (by have := i_nlt c1; have := i_rg c; have : (0 : Int32).toInt = 0 := rfl; have := i_eq ek2; have : (nI k2).toInt = ((k2 : Nat) : Int) := nI_toInt (by omega); have := i_nle c3; have : (24 : Int32).toInt = 24 := rfl; omega)) : _ = k2)) ?_
              refine WR_tI (y := nI t7) (Eq.trans (I_ne (fx_ne fx (by decide))) (Eq.trans (I_ne (fx_ne fx (by decide))) v7)) ?_
              refine r_istore (lv' := [some (.ref (ad 30)), some (.int c), some (.int i), some (.int d), some (.int j), some (.int m), some (.int (nI t7)), none, none, none, none]) rfl (Nat.le_of_ble_eq_true rfl) rfl ?_
              refine r_aload rfl rfl ?_
              refine r_getA (b := ad 31) rfl ⟨rfl, rfl, rfl⟩ (fx_t30 fx) (fx_r30_0 fx) ?_
              refine r_iload rfl rfl ?_
              refine WR_tI (y := nI k5) ek5 ?_
              refine r_iaload rfl (.inl (fx_t31 fx)) (vp_ct (fx_n31 fx) (vp_in_nI (by have := i_nlt c4; have := i_rg d; have : (0 : Int32).toInt = 0 := rfl; have := i_eq ek5; have : (nI k5).toInt = ((k5 : Nat) : Int) := nI_toInt (by omega); have := i_nle c6; have : (24 : Int32).toInt = 24 := rfl; omega) (by omega))) ?_
              refine WR_tI (congrArg (hI (sI (sI h (ad 0) 6 0) (ad 0) 6 (-15)) (ad 31)) ((nI_clamp (by have := i_nlt c4; have := i_rg d; have : (0 : Int32).toInt = 0 := rfl; have := i_eq ek5; have : (nI k5).toInt = ((k5 : Nat) : Int) := nI_toInt (by omega); have := i_nle c6; have : (24 : Int32).toInt = 24 := rfl; omega)) : _ = k5)) ?_
              refine WR_tI (y := nI t23) (Eq.trans (I_ne (fx_ne fx (by decide))) (Eq.trans (I_ne (fx_ne fx (by decide))) v23)) ?_
              refine r_istore (lv' := [some (.ref (ad 30)), some (.int c), some (.int i), some (.int d), some (.int j), some (.int m), some (.int (nI t7)), some (.int (nI t23)), none, none, none]) rfl (Nat.le_of_ble_eq_true rfl) rfl ?_
              refine r_iload rfl rfl ?_
              refine r_ic (x := (-1)) rfl rfl ?_
              refine r_icmp_eq (tg := 49) rfl rfl (fun q => False.elim (by have : (nI t7).toInt = ((t7 : Nat) : Int) := nI_toInt (by omega); have : (-1 : Int32).toInt = -1 := rfl; have := i_eq q; omega)) (fun _ => ?_)
              refine r_iload rfl rfl ?_
              refine r_ic (x := (-1)) rfl rfl ?_
              refine r_icmp_ne (tg := 55) rfl rfl (fun _ => ?_) (fun q => False.elim (by have : (nI t23).toInt = ((t23 : Nat) : Int) := nI_toInt (by omega); have : (-1 : Int32).toInt = -1 := rfl; have := i_eq q; omega))
              refine r_iload rfl rfl ?_
              refine r_ic (x := 1000) rfl rfl ?_
              refine r_icmp_ge (tg := 112) rfl rfl (fun q => False.elim (by have : (nI t7).toInt = ((t7 : Nat) : Int) := nI_toInt (by omega); have : (1000 : Int32).toInt = 1000 := rfl; have := i_le q; omega)) (fun _ => ?_)
              refine r_iload rfl rfl ?_
              refine r_ic (x := 1000) rfl rfl ?_
              refine r_icmp_ge (tg := 112) rfl rfl (fun q => False.elim (by have : (nI t23).toInt = ((t23 : Nat) : Int) := nI_toInt (by omega); have : (1000 : Int32).toInt = 1000 := rfl; have := i_le q; omega)) (fun _ => ?_)
              refine r_aload rfl rfl ?_
              refine r_getA (b := ad 33) rfl ⟨rfl, rfl, rfl⟩ (fx_t30 fx) (fx_r30_2 fx) ?_
              refine r_iload rfl rfl ?_
              refine r_iaload rfl (.inl (fx_t33 fx)) (vp_ct (fx_n33 fx) (vp_in_nI (by omega) (by omega))) ?_
              refine WR_tI (congrArg (hI (sI (sI h (ad 0) 6 0) (ad 0) 6 (-15)) (ad 33)) ((nI_clamp (by omega)) : _ = t7)) ?_
              refine WR_tI (y := 8) (Eq.trans (I_ne (fx_ne fx (by decide))) (Eq.trans (I_ne (fx_ne fx (by decide))) l2_7)) ?_
              refine r_aload rfl rfl ?_
              refine r_getA (b := ad 33) rfl ⟨rfl, rfl, rfl⟩ (fx_t30 fx) (fx_r30_2 fx) ?_
              refine r_iload rfl rfl ?_
              refine r_iaload rfl (.inl (fx_t33 fx)) (vp_ct (fx_n33 fx) (vp_in_nI (by omega) (by omega))) ?_
              refine WR_tI (congrArg (hI (sI (sI h (ad 0) 6 0) (ad 0) 6 (-15)) (ad 33)) ((nI_clamp (by omega)) : _ = t23)) ?_
              refine WR_tI (y := nI ln23) (Eq.trans (I_ne (fx_ne fx (by decide))) (Eq.trans (I_ne (fx_ne fx (by decide))) l2_23)) ?_
              refine r_icmp_eq (tg := 118) rfl rfl (fun q => False.elim (by have : (8 : Int32).toInt = 8 := rfl; have : (nI ln23).toInt = ((ln23 : Nat) : Int) := nI_toInt (by omega); have := i_eq q; omega)) (fun _ => ?_)
              refine r_aload rfl rfl ?_
              refine r_getA (b := ad 33) rfl ⟨rfl, rfl, rfl⟩ (fx_t30 fx) (fx_r30_2 fx) ?_
              refine r_iload rfl rfl ?_
              refine r_iaload rfl (.inl (fx_t33 fx)) (vp_ct (fx_n33 fx) (vp_in_nI (by omega) (by omega))) ?_
              refine WR_tI (congrArg (hI (sI (sI h (ad 0) 6 0) (ad 0) 6 (-15)) (ad 33)) ((nI_clamp (by omega)) : _ = t7)) ?_
              refine WR_tI (y := 8) (Eq.trans (I_ne (fx_ne fx (by decide))) (Eq.trans (I_ne (fx_ne fx (by decide))) l2_7)) ?_
              refine r_ic (x := 8) rfl rfl ?_
              refine r_icmp_lt (tg := 112) rfl rfl (fun q => absurd q (by decide)) (fun _ => ?_)
              refine r_aload rfl rfl ?_
              refine r_getA (b := ad 33) rfl ⟨rfl, rfl, rfl⟩ (fx_t30 fx) (fx_r30_2 fx) ?_
              refine r_iload rfl rfl ?_
              refine r_iaload rfl (.inl (fx_t33 fx)) (vp_ct (fx_n33 fx) (vp_in_nI (by omega) (by omega))) ?_
              refine WR_tI (congrArg (hI (sI (sI h (ad 0) 6 0) (ad 0) 6 (-15)) (ad 33)) ((nI_clamp (by omega)) : _ = t23)) ?_
              refine WR_tI (y := nI ln23) (Eq.trans (I_ne (fx_ne fx (by decide))) (Eq.trans (I_ne (fx_ne fx (by decide))) l2_23)) ?_
              refine r_ic (x := 8) rfl rfl ?_
              refine r_icmp_ge (tg := 118) rfl rfl (fun q => False.elim (by have : (nI ln23).toInt = ((ln23 : Nat) : Int) := nI_toInt (by omega); have : (8 : Int32).toInt = 8 := rfl; have := i_le q; omega)) (fun _ => ?_)
              refine r_aload rfl rfl ?_
              refine r_ic (x := 5) rfl rfl ?_
              refine r_cv (y := 156) (ra := [.int 5]) (rest := []) rfl ⟨⟨rfl, rfl⟩, rfl, by decide⟩ (fx_t30 fx) rfl rfl (Nat.le_of_ble_eq_true rfl) ?_
              refine in_156 (Nat.le_of_ble_eq_true rfl) ?_
              show WR _ cd_156 0 [some (.ref (ad 30)), some (.int 5)] [] (sI (sI h (ad 0) 6 0) (ad 0) 6 (-15)) _
              refine r_aload rfl rfl ?_
              refine r_ic (x := (-10)) rfl rfl ?_
              refine r_iload rfl rfl ?_
              refine r_isub rfl ?_
              refine WR_tI (y := (-15)) rfl ?_
              refine r_cv (y := 154) (ra := [.int (-15)]) (rest := []) rfl ⟨⟨rfl, rfl⟩, rfl, by decide⟩ (fx_t30 fx) rfl rfl (Nat.le_of_ble_eq_true rfl) ?_
              refine in_154 (Nat.le_of_ble_eq_true rfl) ?_
              show WR _ cd_154 0 [some (.ref (ad 30)), some (.int (-15))] [] (sI (sI h (ad 0) 6 0) (ad 0) 6 (-15)) _
              refine r_aload rfl rfl ?_
              refine r_iload rfl rfl ?_
              refine r_ic (x := (-1)) rfl rfl ?_
              refine r_icmp_ge (tg := 10) rfl rfl (fun q => absurd q (by decide)) (fun _ => ?_)
              refine r_iload rfl rfl ?_
              refine r_goto (tg := 11) rfl rfl ?_
              refine r_putI rfl ⟨rfl, rfl, rfl⟩ (fx_t30 fx) ?_
              have fx : FX n ad sa z0 (sI (sI (sI h (ad 0) 6 0) (ad 0) 6 (-15)) (ad 30) 11 (-15)) := (FX.sI fx)
              refine r_iload rfl rfl ?_
              refine r_iret rfl ?_
              show WR _ cd_156 8 [some (.ref (ad 30)), some (.int 5)] [.int (-15)] (sI (sI (sI h (ad 0) 6 0) (ad 0) 6 (-15)) (ad 30) 11 (-15)) _
              refine r_iret rfl ?_
              show WR _ cd_179 117 [some (.ref (ad 30)), some (.int c), some (.int i), some (.int d), some (.int j), some (.int m), some (.int (nI t7)), some (.int (nI t23)), none, none, none] [.int (-15)] (sI (sI (sI h (ad 0) 6 0) (ad 0) 6 (-15)) (ad 30) 11 (-15)) _
              refine r_iret rfl ?_
              exact ⟨rfl, Rel.why r (((Chg.rf.sI (fx_j fx) (.inl (by decide))).sI (fx_j fx) (.inl (by decide))).sI (fx_j fx) (.inl (by decide))) ⟨rfl, by decide⟩ (Eq.trans (Eq.trans (I_ne (fx_ne fx (by decide))) I_eq) (Eq.symm I_eq)), (by (try simp only [hZ_sI, hZ_sL, hZ_sD, hZ_sR]); omega), (by (try simp only [hU_sI, hU_sL, hU_sD, hU_sR]); omega)⟩
            · refine r_aaloadA (b := mid t23) rfl (isQ_of (fx_t1 fx) (by decide)) (vp_ct (fx_n1 fx) (vp_in_nI (by have := i_nlt c4; have := i_rg d; have : (0 : Int32).toInt = 0 := rfl; have := i_eq ek5; have : (nI k5).toInt = ((k5 : Nat) : Int) := nI_toInt (by omega); have := i_nle c6; have : (24 : Int32).toInt = 24 := rfl; omega) (by omega))) (Eq.trans (congrArg (hR (sI h (ad 0) 6 0) (ad 1)) ((nI_clamp (by have := i_nlt c4; have := i_rg d; have : (0 : Int32).toInt = 0 := rfl; have := i_eq ek5; have : (nI k5).toInt = ((k5 : Nat) : Int) := nI_toInt (by omega); have := i_nle c6; have : (24 : Int32).toInt = 24 := rfl; omega)) : _ = k5)) (Eq.trans R_oI w23)) ?_
              refine r_astore (lv' := [some (.ref (ad 0)), some (.int c), some (.int i), some (.int d), some (.int j), some (.int m), some (.ref (mid t7)), some (.ref (mid t23)), none]) rfl (Nat.le_of_ble_eq_true rfl) rfl ?_
              refine r_aload rfl rfl ?_
              refine r_ifnullA (tg := 52) rfl rfl ?_
              refine r_aload rfl rfl ?_
              refine r_ifnonnullA (tg := 59) rfl rfl ?_
              refine r_aload rfl rfl ?_
              refine r_aload rfl rfl ?_
              refine r_cw (y := 54) (ra := [.ref (mid t23)]) (rest := []) rfl ⟨rfl, rfl⟩ (by rw [show hT (sI h (ad 0) 6 0) (mid t7) = 6 from tg7]; rfl) rfl rfl (Nat.le_of_ble_eq_true rfl) ?_
              refine in_54 (Nat.le_of_ble_eq_true rfl) ?_
              show WR _ cd_54 0 [some (.ref (mid t7)), some (.ref (mid t23))] [] (sI h (ad 0) 6 0) _
              refine r_aload rfl rfl ?_
              refine r_instY rfl (by decide) tg23 ?_
              refine r_zret rfl (.inr rfl) ?_
              show WR _ cd_51 66 [some (.ref (ad 0)), some (.int c), some (.int i), some (.int d), some (.int j), some (.int m), some (.ref (mid t7)), some (.ref (mid t23)), none] [.int 1] (sI h (ad 0) 6 0) _
              refine r_if_ne (tg := 76) rfl rfl (fun _ => ?_) (fun q => absurd q (by decide))
              refine r_aload rfl rfl ?_
              refine r_iload rfl rfl ?_
              refine r_iload rfl rfl ?_
              refine r_cw (y := 32) (ra := [.int m, .int i]) (rest := []) rfl ⟨rfl, rfl⟩ (by rw [show hT (sI h (ad 0) 6 0) (mid t7) = 6 from tg7]; rfl) rfl rfl (Nat.le_of_ble_eq_true rfl) ?_
              refine in_32 (Nat.le_of_ble_eq_true rfl) ?_
              show WR _ cd_32 0 [some (.ref (mid t7)), some (.int i), some (.int m)] [] (sI h (ad 0) 6 0) _
              refine r_iload rfl rfl ?_
              refine r_if_lt (tg := 22) rfl rfl (fun c24 => ?_) (fun c24 => ?_)
              · refine r_ic (x := 0) rfl rfl ?_
                refine r_zret rfl (.inl rfl) ?_
                show WR _ cd_51 84 [some (.ref (ad 0)), some (.int c), some (.int i), some (.int d), some (.int j), some (.int m), some (.ref (mid t7)), some (.ref (mid t23)), none] [.int 0] (sI h (ad 0) 6 0) _
                refine r_if_eq (tg := 99) rfl rfl (fun _ => ?_) (fun q => absurd q (by decide))
                refine r_aload rfl rfl ?_
                refine r_ic (x := (-12)) rfl rfl ?_
                refine r_cv (y := 13) (ra := [.int (-12)]) (rest := []) rfl ⟨⟨rfl, rfl⟩, rfl, by decide⟩ (fx_t0 fx) rfl rfl (Nat.le_of_ble_eq_true rfl) ?_
                refine in_13 (Nat.le_of_ble_eq_true rfl) ?_
                show WR _ cd_13 0 [some (.ref (ad 0)), some (.int (-12))] [] (sI h (ad 0) 6 0) _
                refine r_aload rfl rfl ?_
                refine r_iload rfl rfl ?_
                refine r_putI rfl ⟨rfl, rfl, rfl⟩ (fx_t0 fx) ?_
                have fx : FX n ad sa z0 (sI (sI h (ad 0) 6 0) (ad 0) 6 (-12)) := (FX.sI fx)
                refine r_iload rfl rfl ?_
                refine r_iret rfl ?_
                show WR _ cd_51 105 [some (.ref (ad 0)), some (.int c), some (.int i), some (.int d), some (.int j), some (.int m), some (.ref (mid t7)), some (.ref (mid t23)), none] [.int (-12)] (sI (sI h (ad 0) 6 0) (ad 0) 6 (-12)) _
                refine r_iret rfl ?_
                show EV _ 179 [.ref (ad 30), .int c, .int i, .int d, .int j, .int m] (sI (sI h (ad 0) 6 0) (ad 0) 6 (-12)) _
                refine in_179 (Nat.le_of_ble_eq_true rfl) ?_
                show WR _ cd_179 0 [some (.ref (ad 30)), some (.int c), some (.int i), some (.int d), some (.int j), some (.int m), none, none, none, none, none] [] (sI (sI h (ad 0) 6 0) (ad 0) 6 (-12)) _
                refine r_iload rfl rfl ?_
                refine WR_tI (y := nI k2) ek2 ?_
                refine r_cs (y := 153) (ra := [.int (nI k2)]) (rest := []) rfl ⟨⟨rfl, rfl⟩, by decide⟩ rfl rfl (Nat.le_of_ble_eq_true rfl) ?_
                refine in_153 (Nat.le_of_ble_eq_true rfl) ?_
                show WR _ cd_153 0 [some (.int (nI k2))] [] (sI (sI h (ad 0) 6 0) (ad 0) 6 (-12)) _
                refine r_iload rfl rfl ?_
                refine r_if_lt (tg := 14) rfl rfl (fun q => False.elim (by have := i_nlt c1; have := i_rg c; have : (0 : Int32).toInt = 0 := rfl; have := i_eq ek2; have : (nI k2).toInt = ((k2 : Nat) : Int) := nI_toInt (by omega); have := i_nle c3; have : (24 : Int32).toInt = 24 := rfl; have := i_lt q; omega)) (fun _ => ?_)
                refine r_iload rfl rfl ?_
                refine r_ic (x := 24) rfl rfl ?_
                refine r_icmp_ge (tg := 14) rfl rfl (fun q => False.elim (by have := i_nlt c1; have := i_rg c; have : (0 : Int32).toInt = 0 := rfl; have := i_eq ek2; have : (nI k2).toInt = ((k2 : Nat) : Int) := nI_toInt (by omega); have := i_nle c3; have : (24 : Int32).toInt = 24 := rfl; have := i_le q; omega)) (fun _ => ?_)
                refine r_ic (x := 1) rfl rfl ?_
                refine r_goto (tg := 15) rfl rfl ?_
                refine r_zret rfl (.inr rfl) ?_
                show WR _ cd_179 4 [some (.ref (ad 30)), some (.int c), some (.int i), some (.int d), some (.int j), some (.int m), none, none, none, none, none] [.int 1] (sI (sI h (ad 0) 6 0) (ad 0) 6 (-12)) _
                refine r_if_eq (tg := 14) rfl rfl (fun q => absurd q (by decide)) (fun _ => ?_)
                refine r_iload rfl rfl ?_
                refine WR_tI (y := nI k5) ek5 ?_
                refine r_cs (y := 153) (ra := [.int (nI k5)]) (rest := []) rfl ⟨⟨rfl, rfl⟩, by decide⟩ rfl rfl (Nat.le_of_ble_eq_true rfl) ?_
                refine in_153 (Nat.le_of_ble_eq_true rfl) ?_
                show WR _ cd_153 0 [some (.int (nI k5))] [] (sI (sI h (ad 0) 6 0) (ad 0) 6 (-12)) _
                refine r_iload rfl rfl ?_
                refine r_if_lt (tg := 14) rfl rfl (fun q => False.elim (by have := i_nlt c4; have := i_rg d; have : (0 : Int32).toInt = 0 := rfl; have := i_eq ek5; have : (nI k5).toInt = ((k5 : Nat) : Int) := nI_toInt (by omega); have := i_nle c6; have : (24 : Int32).toInt = 24 := rfl; have := i_lt q; omega)) (fun _ => ?_)
                refine r_iload rfl rfl ?_
                refine r_ic (x := 24) rfl rfl ?_
                refine r_icmp_ge (tg := 14) rfl rfl (fun q => False.elim (by have := i_nlt c4; have := i_rg d; have : (0 : Int32).toInt = 0 := rfl; have := i_eq ek5; have : (nI k5).toInt = ((k5 : Nat) : Int) := nI_toInt (by omega); have := i_nle c6; have : (24 : Int32).toInt = 24 := rfl; have := i_le q; omega)) (fun _ => ?_)
                refine r_ic (x := 1) rfl rfl ?_
                refine r_goto (tg := 15) rfl rfl ?_
                refine r_zret rfl (.inr rfl) ?_
                show WR _ cd_179 11 [some (.ref (ad 30)), some (.int c), some (.int i), some (.int d), some (.int j), some (.int m), none, none, none, none, none] [.int 1] (sI (sI h (ad 0) 6 0) (ad 0) 6 (-12)) _
                refine r_if_ne (tg := 21) rfl rfl (fun _ => ?_) (fun q => absurd q (by decide))
                refine r_aload rfl rfl ?_
                refine r_getA (b := ad 31) rfl ⟨rfl, rfl, rfl⟩ (fx_t30 fx) (fx_r30_0 fx) ?_
                refine r_iload rfl rfl ?_
                refine WR_tI (y := nI k2) ek2 ?_
                refine r_iaload rfl (.inl (fx_t31 fx)) (vp_ct (fx_n31 fx) (vp_in_nI (by have := i_nlt c1; have := i_rg c; have : (0 : Int32).toInt = 0 := rfl; have := i_eq ek2; have : (nI k2).toInt = ((k2 : Nat) : Int) := nI_toInt (by omega); have := i_nle c3; have : (24 : Int32).toInt = 24 := rfl; omega) (by omega))) ?_
                refine WR_tI (congrArg (hI (sI (sI h (ad 0) 6 0) (ad 0) 6 (-12)) (ad 31)) ((nI_clamp (by have := i_nlt c1; have := i_rg c; have : (0 : Int32).toInt = 0 := rfl; have := i_eq ek2; have : (nI k2).toInt = ((k2 : Nat) : Int) := nI_toInt (by omega); have := i_nle c3; have : (24 : Int32).toInt = 24 := rfl; omega)) : _ = k2)) ?_
                refine WR_tI (y := nI t7) (Eq.trans (I_ne (fx_ne fx (by decide))) (Eq.trans (I_ne (fx_ne fx (by decide))) v7)) ?_
                refine r_istore (lv' := [some (.ref (ad 30)), some (.int c), some (.int i), some (.int d), some (.int j), some (.int m), some (.int (nI t7)), none, none, none, none]) rfl (Nat.le_of_ble_eq_true rfl) rfl ?_
                refine r_aload rfl rfl ?_
                refine r_getA (b := ad 31) rfl ⟨rfl, rfl, rfl⟩ (fx_t30 fx) (fx_r30_0 fx) ?_
                refine r_iload rfl rfl ?_
                refine WR_tI (y := nI k5) ek5 ?_
                refine r_iaload rfl (.inl (fx_t31 fx)) (vp_ct (fx_n31 fx) (vp_in_nI (by have := i_nlt c4; have := i_rg d; have : (0 : Int32).toInt = 0 := rfl; have := i_eq ek5; have : (nI k5).toInt = ((k5 : Nat) : Int) := nI_toInt (by omega); have := i_nle c6; have : (24 : Int32).toInt = 24 := rfl; omega) (by omega))) ?_
                refine WR_tI (congrArg (hI (sI (sI h (ad 0) 6 0) (ad 0) 6 (-12)) (ad 31)) ((nI_clamp (by have := i_nlt c4; have := i_rg d; have : (0 : Int32).toInt = 0 := rfl; have := i_eq ek5; have : (nI k5).toInt = ((k5 : Nat) : Int) := nI_toInt (by omega); have := i_nle c6; have : (24 : Int32).toInt = 24 := rfl; omega)) : _ = k5)) ?_
                refine WR_tI (y := nI t23) (Eq.trans (I_ne (fx_ne fx (by decide))) (Eq.trans (I_ne (fx_ne fx (by decide))) v23)) ?_
                refine r_istore (lv' := [some (.ref (ad 30)), some (.int c), some (.int i), some (.int d), some (.int j), some (.int m), some (.int (nI t7)), some (.int (nI t23)), none, none, none]) rfl (Nat.le_of_ble_eq_true rfl) rfl ?_
                refine r_iload rfl rfl ?_
                refine r_ic (x := (-1)) rfl rfl ?_
                refine r_icmp_eq (tg := 49) rfl rfl (fun q => False.elim (by have : (nI t7).toInt = ((t7 : Nat) : Int) := nI_toInt (by omega); have : (-1 : Int32).toInt = -1 := rfl; have := i_eq q; omega)) (fun _ => ?_)
                refine r_iload rfl rfl ?_
                refine r_ic (x := (-1)) rfl rfl ?_
                refine r_icmp_ne (tg := 55) rfl rfl (fun _ => ?_) (fun q => False.elim (by have : (nI t23).toInt = ((t23 : Nat) : Int) := nI_toInt (by omega); have : (-1 : Int32).toInt = -1 := rfl; have := i_eq q; omega))
                refine r_iload rfl rfl ?_
                refine r_ic (x := 1000) rfl rfl ?_
                refine r_icmp_ge (tg := 112) rfl rfl (fun q => False.elim (by have : (nI t7).toInt = ((t7 : Nat) : Int) := nI_toInt (by omega); have : (1000 : Int32).toInt = 1000 := rfl; have := i_le q; omega)) (fun _ => ?_)
                refine r_iload rfl rfl ?_
                refine r_ic (x := 1000) rfl rfl ?_
                refine r_icmp_ge (tg := 112) rfl rfl (fun q => False.elim (by have : (nI t23).toInt = ((t23 : Nat) : Int) := nI_toInt (by omega); have : (1000 : Int32).toInt = 1000 := rfl; have := i_le q; omega)) (fun _ => ?_)
                refine r_aload rfl rfl ?_
                refine r_getA (b := ad 33) rfl ⟨rfl, rfl, rfl⟩ (fx_t30 fx) (fx_r30_2 fx) ?_
                refine r_iload rfl rfl ?_
                refine r_iaload rfl (.inl (fx_t33 fx)) (vp_ct (fx_n33 fx) (vp_in_nI (by omega) (by omega))) ?_
                refine WR_tI (congrArg (hI (sI (sI h (ad 0) 6 0) (ad 0) 6 (-12)) (ad 33)) ((nI_clamp (by omega)) : _ = t7)) ?_
                refine WR_tI (y := 8) (Eq.trans (I_ne (fx_ne fx (by decide))) (Eq.trans (I_ne (fx_ne fx (by decide))) l2_7)) ?_
                refine r_aload rfl rfl ?_
                refine r_getA (b := ad 33) rfl ⟨rfl, rfl, rfl⟩ (fx_t30 fx) (fx_r30_2 fx) ?_
                refine r_iload rfl rfl ?_
                refine r_iaload rfl (.inl (fx_t33 fx)) (vp_ct (fx_n33 fx) (vp_in_nI (by omega) (by omega))) ?_
                refine WR_tI (congrArg (hI (sI (sI h (ad 0) 6 0) (ad 0) 6 (-12)) (ad 33)) ((nI_clamp (by omega)) : _ = t23)) ?_
                refine WR_tI (y := 8) (Eq.trans (I_ne (fx_ne fx (by decide))) (Eq.trans (I_ne (fx_ne fx (by decide))) l2_23)) ?_
                refine r_icmp_eq (tg := 118) rfl rfl (fun _ => ?_) (fun q => absurd q (by decide))
                refine r_iload rfl rfl ?_
                refine r_if_lt (tg := 169) rfl rfl (fun _ => ?_) (fun q => False.elim (by have := i_lt c24; have := i_rg i; have : (0 : Int32).toInt = 0 := rfl; have := i_nlt q; omega))
                refine r_aload rfl rfl ?_
                refine r_ic (x := 2) rfl rfl ?_
                refine r_cv (y := 156) (ra := [.int 2]) (rest := []) rfl ⟨⟨rfl, rfl⟩, rfl, by decide⟩ (fx_t30 fx) rfl rfl (Nat.le_of_ble_eq_true rfl) ?_
                refine in_156 (Nat.le_of_ble_eq_true rfl) ?_
                show WR _ cd_156 0 [some (.ref (ad 30)), some (.int 2)] [] (sI (sI h (ad 0) 6 0) (ad 0) 6 (-12)) _
                refine r_aload rfl rfl ?_
                refine r_ic (x := (-10)) rfl rfl ?_
                refine r_iload rfl rfl ?_
                refine r_isub rfl ?_
                refine WR_tI (y := (-12)) rfl ?_
                refine r_cv (y := 154) (ra := [.int (-12)]) (rest := []) rfl ⟨⟨rfl, rfl⟩, rfl, by decide⟩ (fx_t30 fx) rfl rfl (Nat.le_of_ble_eq_true rfl) ?_
                refine in_154 (Nat.le_of_ble_eq_true rfl) ?_
                show WR _ cd_154 0 [some (.ref (ad 30)), some (.int (-12))] [] (sI (sI h (ad 0) 6 0) (ad 0) 6 (-12)) _
                refine r_aload rfl rfl ?_
                refine r_iload rfl rfl ?_
                refine r_ic (x := (-1)) rfl rfl ?_
                refine r_icmp_ge (tg := 10) rfl rfl (fun q => absurd q (by decide)) (fun _ => ?_)
                refine r_iload rfl rfl ?_
                refine r_goto (tg := 11) rfl rfl ?_
                refine r_putI rfl ⟨rfl, rfl, rfl⟩ (fx_t30 fx) ?_
                have fx : FX n ad sa z0 (sI (sI (sI h (ad 0) 6 0) (ad 0) 6 (-12)) (ad 30) 11 (-12)) := (FX.sI fx)
                refine r_iload rfl rfl ?_
                refine r_iret rfl ?_
                show WR _ cd_156 8 [some (.ref (ad 30)), some (.int 2)] [.int (-12)] (sI (sI (sI h (ad 0) 6 0) (ad 0) 6 (-12)) (ad 30) 11 (-12)) _
                refine r_iret rfl ?_
                show WR _ cd_179 174 [some (.ref (ad 30)), some (.int c), some (.int i), some (.int d), some (.int j), some (.int m), some (.int (nI t7)), some (.int (nI t23)), none, none, none] [.int (-12)] (sI (sI (sI h (ad 0) 6 0) (ad 0) 6 (-12)) (ad 30) 11 (-12)) _
                refine r_iret rfl ?_
                exact ⟨rfl, Rel.why r (((Chg.rf.sI (fx_j fx) (.inl (by decide))).sI (fx_j fx) (.inl (by decide))).sI (fx_j fx) (.inl (by decide))) ⟨rfl, by decide⟩ (Eq.trans (Eq.trans (I_ne (fx_ne fx (by decide))) I_eq) (Eq.symm I_eq)), (by (try simp only [hZ_sI, hZ_sL, hZ_sD, hZ_sR]); omega), (by (try simp only [hU_sI, hU_sL, hU_sD, hU_sR]); omega)⟩
              · refine r_iload rfl rfl ?_
                refine r_if_lt (tg := 22) rfl rfl (fun c25 => ?_) (fun c25 => ?_)
                · refine r_ic (x := 0) rfl rfl ?_
                  refine r_zret rfl (.inl rfl) ?_
                  show WR _ cd_51 84 [some (.ref (ad 0)), some (.int c), some (.int i), some (.int d), some (.int j), some (.int m), some (.ref (mid t7)), some (.ref (mid t23)), none] [.int 0] (sI h (ad 0) 6 0) _
                  refine r_if_eq (tg := 99) rfl rfl (fun _ => ?_) (fun q => absurd q (by decide))
                  refine r_aload rfl rfl ?_
                  refine r_ic (x := (-12)) rfl rfl ?_
                  refine r_cv (y := 13) (ra := [.int (-12)]) (rest := []) rfl ⟨⟨rfl, rfl⟩, rfl, by decide⟩ (fx_t0 fx) rfl rfl (Nat.le_of_ble_eq_true rfl) ?_
                  refine in_13 (Nat.le_of_ble_eq_true rfl) ?_
                  show WR _ cd_13 0 [some (.ref (ad 0)), some (.int (-12))] [] (sI h (ad 0) 6 0) _
                  refine r_aload rfl rfl ?_
                  refine r_iload rfl rfl ?_
                  refine r_putI rfl ⟨rfl, rfl, rfl⟩ (fx_t0 fx) ?_
                  have fx : FX n ad sa z0 (sI (sI h (ad 0) 6 0) (ad 0) 6 (-12)) := (FX.sI fx)
                  refine r_iload rfl rfl ?_
                  refine r_iret rfl ?_
                  show WR _ cd_51 105 [some (.ref (ad 0)), some (.int c), some (.int i), some (.int d), some (.int j), some (.int m), some (.ref (mid t7)), some (.ref (mid t23)), none] [.int (-12)] (sI (sI h (ad 0) 6 0) (ad 0) 6 (-12)) _
                  refine r_iret rfl ?_
                  show EV _ 179 [.ref (ad 30), .int c, .int i, .int d, .int j, .int m] (sI (sI h (ad 0) 6 0) (ad 0) 6 (-12)) _
                  refine in_179 (Nat.le_of_ble_eq_true rfl) ?_
                  show WR _ cd_179 0 [some (.ref (ad 30)), some (.int c), some (.int i), some (.int d), some (.int j), some (.int m), none, none, none, none, none] [] (sI (sI h (ad 0) 6 0) (ad 0) 6 (-12)) _
                  refine r_iload rfl rfl ?_
                  refine WR_tI (y := nI k2) ek2 ?_
                  refine r_cs (y := 153) (ra := [.int (nI k2)]) (rest := []) rfl ⟨⟨rfl, rfl⟩, by decide⟩ rfl rfl (Nat.le_of_ble_eq_true rfl) ?_
                  refine in_153 (Nat.le_of_ble_eq_true rfl) ?_
                  show WR _ cd_153 0 [some (.int (nI k2))] [] (sI (sI h (ad 0) 6 0) (ad 0) 6 (-12)) _
                  refine r_iload rfl rfl ?_
                  refine r_if_lt (tg := 14) rfl rfl (fun q => False.elim (by have := i_nlt c1; have := i_rg c; have : (0 : Int32).toInt = 0 := rfl; have := i_eq ek2; have : (nI k2).toInt = ((k2 : Nat) : Int) := nI_toInt (by omega); have := i_nle c3; have : (24 : Int32).toInt = 24 := rfl; have := i_lt q; omega)) (fun _ => ?_)
                  refine r_iload rfl rfl ?_
                  refine r_ic (x := 24) rfl rfl ?_
                  refine r_icmp_ge (tg := 14) rfl rfl (fun q => False.elim (by have := i_nlt c1; have := i_rg c; have : (0 : Int32).toInt = 0 := rfl; have := i_eq ek2; have : (nI k2).toInt = ((k2 : Nat) : Int) := nI_toInt (by omega); have := i_nle c3; have : (24 : Int32).toInt = 24 := rfl; have := i_le q; omega)) (fun _ => ?_)
                  refine r_ic (x := 1) rfl rfl ?_
                  refine r_goto (tg := 15) rfl rfl ?_
                  refine r_zret rfl (.inr rfl) ?_
                  show WR _ cd_179 4 [some (.ref (ad 30)), some (.int c), some (.int i), some (.int d), some (.int j), some (.int m), none, none, none, none, none] [.int 1] (sI (sI h (ad 0) 6 0) (ad 0) 6 (-12)) _
                  refine r_if_eq (tg := 14) rfl rfl (fun q => absurd q (by decide)) (fun _ => ?_)
                  refine r_iload rfl rfl ?_
                  refine WR_tI (y := nI k5) ek5 ?_
                  refine r_cs (y := 153) (ra := [.int (nI k5)]) (rest := []) rfl ⟨⟨rfl, rfl⟩, by decide⟩ rfl rfl (Nat.le_of_ble_eq_true rfl) ?_
                  refine in_153 (Nat.le_of_ble_eq_true rfl) ?_
                  show WR _ cd_153 0 [some (.int (nI k5))] [] (sI (sI h (ad 0) 6 0) (ad 0) 6 (-12)) _
                  refine r_iload rfl rfl ?_
                  refine r_if_lt (tg := 14) rfl rfl (fun q => False.elim (by have := i_nlt c4; have := i_rg d; have : (0 : Int32).toInt = 0 := rfl; have := i_eq ek5; have : (nI k5).toInt = ((k5 : Nat) : Int) := nI_toInt (by omega); have := i_nle c6; have : (24 : Int32).toInt = 24 := rfl; have := i_lt q; omega)) (fun _ => ?_)
                  refine r_iload rfl rfl ?_
                  refine r_ic (x := 24) rfl rfl ?_
                  refine r_icmp_ge (tg := 14) rfl rfl (fun q => False.elim (by have := i_nlt c4; have := i_rg d; have : (0 : Int32).toInt = 0 := rfl; have := i_eq ek5; have : (nI k5).toInt = ((k5 : Nat) : Int) := nI_toInt (by omega); have := i_nle c6; have : (24 : Int32).toInt = 24 := rfl; have := i_le q; omega)) (fun _ => ?_)
                  refine r_ic (x := 1) rfl rfl ?_
                  refine r_goto (tg := 15) rfl rfl ?_
                  refine r_zret rfl (.inr rfl) ?_
                  show WR _ cd_179 11 [some (.ref (ad 30)), some (.int c), some (.int i), some (.int d), some (.int j), some (.int m), none, none, none, none, none] [.int 1] (sI (sI h (ad 0) 6 0) (ad 0) 6 (-12)) _
                  refine r_if_ne (tg := 21) rfl rfl (fun _ => ?_) (fun q => absurd q (by decide))
                  refine r_aload rfl rfl ?_
                  refine r_getA (b := ad 31) rfl ⟨rfl, rfl, rfl⟩ (fx_t30 fx) (fx_r30_0 fx) ?_
                  refine r_iload rfl rfl ?_
                  refine WR_tI (y := nI k2) ek2 ?_
                  refine r_iaload rfl (.inl (fx_t31 fx)) (vp_ct (fx_n31 fx) (vp_in_nI (by have := i_nlt c1; have := i_rg c; have : (0 : Int32).toInt = 0 := rfl; have := i_eq ek2; have : (nI k2).toInt = ((k2 : Nat) : Int) := nI_toInt (by omega); have := i_nle c3; have : (24 : Int32).toInt = 24 := rfl; omega) (by omega))) ?_
                  refine WR_tI (congrArg (hI (sI (sI h (ad 0) 6 0) (ad 0) 6 (-12)) (ad 31)) ((nI_clamp (by have := i_nlt c1; have := i_rg c; have : (0 : Int32).toInt = 0 := rfl; have := i_eq ek2; have : (nI k2).toInt = ((k2 : Nat) : Int) := nI_toInt (by omega); have := i_nle c3; have : (24 : Int32).toInt = 24 := rfl; omega)) : _ = k2)) ?_
                  refine WR_tI (y := nI t7) (Eq.trans (I_ne (fx_ne fx (by decide))) (Eq.trans (I_ne (fx_ne fx (by decide))) v7)) ?_
                  refine r_istore (lv' := [some (.ref (ad 30)), some (.int c), some (.int i), some (.int d), some (.int j), some (.int m), some (.int (nI t7)), none, none, none, none]) rfl (Nat.le_of_ble_eq_true rfl) rfl ?_
                  refine r_aload rfl rfl ?_
                  refine r_getA (b := ad 31) rfl ⟨rfl, rfl, rfl⟩ (fx_t30 fx) (fx_r30_0 fx) ?_
                  refine r_iload rfl rfl ?_
                  refine WR_tI (y := nI k5) ek5 ?_
                  refine r_iaload rfl (.inl (fx_t31 fx)) (vp_ct (fx_n31 fx) (vp_in_nI (by have := i_nlt c4; have := i_rg d; have : (0 : Int32).toInt = 0 := rfl; have := i_eq ek5; have : (nI k5).toInt = ((k5 : Nat) : Int) := nI_toInt (by omega); have := i_nle c6; have : (24 : Int32).toInt = 24 := rfl; omega) (by omega))) ?_
                  refine WR_tI (congrArg (hI (sI (sI h (ad 0) 6 0) (ad 0) 6 (-12)) (ad 31)) ((nI_clamp (by have := i_nlt c4; have := i_rg d; have : (0 : Int32).toInt = 0 := rfl; have := i_eq ek5; have : (nI k5).toInt = ((k5 : Nat) : Int) := nI_toInt (by omega); have := i_nle c6; have : (24 : Int32).toInt = 24 := rfl; omega)) : _ = k5)) ?_
                  refine WR_tI (y := nI t23) (Eq.trans (I_ne (fx_ne fx (by decide))) (Eq.trans (I_ne (fx_ne fx (by decide))) v23)) ?_
                  refine r_istore (lv' := [some (.ref (ad 30)), some (.int c), some (.int i), some (.int d), some (.int j), some (.int m), some (.int (nI t7)), some (.int (nI t23)), none, none, none]) rfl (Nat.le_of_ble_eq_true rfl) rfl ?_
                  refine r_iload rfl rfl ?_
                  refine r_ic (x := (-1)) rfl rfl ?_
                  refine r_icmp_eq (tg := 49) rfl rfl (fun q => False.elim (by have : (nI t7).toInt = ((t7 : Nat) : Int) := nI_toInt (by omega); have : (-1 : Int32).toInt = -1 := rfl; have := i_eq q; omega)) (fun _ => ?_)
                  refine r_iload rfl rfl ?_
                  refine r_ic (x := (-1)) rfl rfl ?_
                  refine r_icmp_ne (tg := 55) rfl rfl (fun _ => ?_) (fun q => False.elim (by have : (nI t23).toInt = ((t23 : Nat) : Int) := nI_toInt (by omega); have : (-1 : Int32).toInt = -1 := rfl; have := i_eq q; omega))
                  refine r_iload rfl rfl ?_
                  refine r_ic (x := 1000) rfl rfl ?_
                  refine r_icmp_ge (tg := 112) rfl rfl (fun q => False.elim (by have : (nI t7).toInt = ((t7 : Nat) : Int) := nI_toInt (by omega); have : (1000 : Int32).toInt = 1000 := rfl; have := i_le q; omega)) (fun _ => ?_)
                  refine r_iload rfl rfl ?_
                  refine r_ic (x := 1000) rfl rfl ?_
                  refine r_icmp_ge (tg := 112) rfl rfl (fun q => False.elim (by have : (nI t23).toInt = ((t23 : Nat) : Int) := nI_toInt (by omega); have : (1000 : Int32).toInt = 1000 := rfl; have := i_le q; omega)) (fun _ => ?_)
                  refine r_aload rfl rfl ?_
                  refine r_getA (b := ad 33) rfl ⟨rfl, rfl, rfl⟩ (fx_t30 fx) (fx_r30_2 fx) ?_
                  refine r_iload rfl rfl ?_
                  refine r_iaload rfl (.inl (fx_t33 fx)) (vp_ct (fx_n33 fx) (vp_in_nI (by omega) (by omega))) ?_
                  refine WR_tI (congrArg (hI (sI (sI h (ad 0) 6 0) (ad 0) 6 (-12)) (ad 33)) ((nI_clamp (by omega)) : _ = t7)) ?_
                  refine WR_tI (y := 8) (Eq.trans (I_ne (fx_ne fx (by decide))) (Eq.trans (I_ne (fx_ne fx (by decide))) l2_7)) ?_
                  refine r_aload rfl rfl ?_
                  refine r_getA (b := ad 33) rfl ⟨rfl, rfl, rfl⟩ (fx_t30 fx) (fx_r30_2 fx) ?_
                  refine r_iload rfl rfl ?_
                  refine r_iaload rfl (.inl (fx_t33 fx)) (vp_ct (fx_n33 fx) (vp_in_nI (by omega) (by omega))) ?_
                  refine WR_tI (congrArg (hI (sI (sI h (ad 0) 6 0) (ad 0) 6 (-12)) (ad 33)) ((nI_clamp (by omega)) : _ = t23)) ?_
                  refine WR_tI (y := 8) (Eq.trans (I_ne (fx_ne fx (by decide))) (Eq.trans (I_ne (fx_ne fx (by decide))) l2_23)) ?_
                  refine r_icmp_eq (tg := 118) rfl rfl (fun _ => ?_) (fun q => absurd q (by decide))
                  obtain ⟨k26, hk26, ek26⟩ := ix_of (x := i) (n := 2147483648) (by have := i_nlt c24; have := i_rg i; have : (0 : Int32).toInt = 0 := rfl; omega) (by have := i_nlt c24; have := i_rg i; have : (0 : Int32).toInt = 0 := rfl; omega)
                  refine r_iload rfl rfl ?_
                  refine WR_tI (y := nI k26) ek26 ?_
                  refine r_if_lt (tg := 169) rfl rfl (fun q => False.elim (by have := i_nlt c24; have := i_rg i; have : (0 : Int32).toInt = 0 := rfl; have := i_eq ek26; have : (nI k26).toInt = ((k26 : Nat) : Int) := nI_toInt (by omega); have := i_lt q; omega)) (fun _ => ?_)
                  refine r_iload rfl rfl ?_
                  refine r_if_lt (tg := 169) rfl rfl (fun c27 => ?_) (fun c27 => ?_)
                  · refine r_aload rfl rfl ?_
                    refine r_ic (x := 2) rfl rfl ?_
                    refine r_cv (y := 156) (ra := [.int 2]) (rest := []) rfl ⟨⟨rfl, rfl⟩, rfl, by decide⟩ (fx_t30 fx) rfl rfl (Nat.le_of_ble_eq_true rfl) ?_
                    refine in_156 (Nat.le_of_ble_eq_true rfl) ?_
                    show WR _ cd_156 0 [some (.ref (ad 30)), some (.int 2)] [] (sI (sI h (ad 0) 6 0) (ad 0) 6 (-12)) _
                    refine r_aload rfl rfl ?_
                    refine r_ic (x := (-10)) rfl rfl ?_
                    refine r_iload rfl rfl ?_
                    refine r_isub rfl ?_
                    refine WR_tI (y := (-12)) rfl ?_
                    refine r_cv (y := 154) (ra := [.int (-12)]) (rest := []) rfl ⟨⟨rfl, rfl⟩, rfl, by decide⟩ (fx_t30 fx) rfl rfl (Nat.le_of_ble_eq_true rfl) ?_
                    refine in_154 (Nat.le_of_ble_eq_true rfl) ?_
                    show WR _ cd_154 0 [some (.ref (ad 30)), some (.int (-12))] [] (sI (sI h (ad 0) 6 0) (ad 0) 6 (-12)) _
                    refine r_aload rfl rfl ?_
                    refine r_iload rfl rfl ?_
                    refine r_ic (x := (-1)) rfl rfl ?_
                    refine r_icmp_ge (tg := 10) rfl rfl (fun q => absurd q (by decide)) (fun _ => ?_)
                    refine r_iload rfl rfl ?_
                    refine r_goto (tg := 11) rfl rfl ?_
                    refine r_putI rfl ⟨rfl, rfl, rfl⟩ (fx_t30 fx) ?_
                    have fx : FX n ad sa z0 (sI (sI (sI h (ad 0) 6 0) (ad 0) 6 (-12)) (ad 30) 11 (-12)) := (FX.sI fx)
                    refine r_iload rfl rfl ?_
                    refine r_iret rfl ?_
                    show WR _ cd_156 8 [some (.ref (ad 30)), some (.int 2)] [.int (-12)] (sI (sI (sI h (ad 0) 6 0) (ad 0) 6 (-12)) (ad 30) 11 (-12)) _
                    refine r_iret rfl ?_
                    show WR _ cd_179 174 [some (.ref (ad 30)), some (.int c), some (.int i), some (.int d), some (.int j), some (.int m), some (.int (nI t7)), some (.int (nI t23)), none, none, none] [.int (-12)] (sI (sI (sI h (ad 0) 6 0) (ad 0) 6 (-12)) (ad 30) 11 (-12)) _
                    refine r_iret rfl ?_
                    exact ⟨rfl, Rel.why r (((Chg.rf.sI (fx_j fx) (.inl (by decide))).sI (fx_j fx) (.inl (by decide))).sI (fx_j fx) (.inl (by decide))) ⟨rfl, by decide⟩ (Eq.trans (Eq.trans (I_ne (fx_ne fx (by decide))) I_eq) (Eq.symm I_eq)), (by (try simp only [hZ_sI, hZ_sL, hZ_sD, hZ_sR]); omega), (by (try simp only [hU_sI, hU_sL, hU_sD, hU_sR]); omega)⟩
                  · refine r_iload rfl rfl ?_
                    refine r_if_lt (tg := 169) rfl rfl (fun _ => ?_) (fun q => False.elim (by have := i_lt c25; have := i_rg m; have : (0 : Int32).toInt = 0 := rfl; have := i_nlt q; omega))
                    refine r_aload rfl rfl ?_
                    refine r_ic (x := 2) rfl rfl ?_
                    refine r_cv (y := 156) (ra := [.int 2]) (rest := []) rfl ⟨⟨rfl, rfl⟩, rfl, by decide⟩ (fx_t30 fx) rfl rfl (Nat.le_of_ble_eq_true rfl) ?_
                    refine in_156 (Nat.le_of_ble_eq_true rfl) ?_
                    show WR _ cd_156 0 [some (.ref (ad 30)), some (.int 2)] [] (sI (sI h (ad 0) 6 0) (ad 0) 6 (-12)) _
                    refine r_aload rfl rfl ?_
                    refine r_ic (x := (-10)) rfl rfl ?_
                    refine r_iload rfl rfl ?_
                    refine r_isub rfl ?_
                    refine WR_tI (y := (-12)) rfl ?_
                    refine r_cv (y := 154) (ra := [.int (-12)]) (rest := []) rfl ⟨⟨rfl, rfl⟩, rfl, by decide⟩ (fx_t30 fx) rfl rfl (Nat.le_of_ble_eq_true rfl) ?_
                    refine in_154 (Nat.le_of_ble_eq_true rfl) ?_
                    show WR _ cd_154 0 [some (.ref (ad 30)), some (.int (-12))] [] (sI (sI h (ad 0) 6 0) (ad 0) 6 (-12)) _
                    refine r_aload rfl rfl ?_
                    refine r_iload rfl rfl ?_
                    refine r_ic (x := (-1)) rfl rfl ?_
                    refine r_icmp_ge (tg := 10) rfl rfl (fun q => absurd q (by decide)) (fun _ => ?_)
                    refine r_iload rfl rfl ?_
                    refine r_goto (tg := 11) rfl rfl ?_
                    refine r_putI rfl ⟨rfl, rfl, rfl⟩ (fx_t30 fx) ?_
                    have fx : FX n ad sa z0 (sI (sI (sI h (ad 0) 6 0) (ad 0) 6 (-12)) (ad 30) 11 (-12)) := (FX.sI fx)
                    refine r_iload rfl rfl ?_
                    refine r_iret rfl ?_
                    show WR _ cd_156 8 [some (.ref (ad 30)), some (.int 2)] [.int (-12)] (sI (sI (sI h (ad 0) 6 0) (ad 0) 6 (-12)) (ad 30) 11 (-12)) _
                    refine r_iret rfl ?_
                    show WR _ cd_179 174 [some (.ref (ad 30)), some (.int c), some (.int i), some (.int d), some (.int j), some (.int m), some (.int (nI t7)), some (.int (nI t23)), none, none, none] [.int (-12)] (sI (sI (sI h (ad 0) 6 0) (ad 0) 6 (-12)) (ad 30) 11 (-12)) _
                    refine r_iret rfl ?_
                    exact ⟨rfl, Rel.why r (((Chg.rf.sI (fx_j fx) (.inl (by decide))).sI (fx_j fx) (.inl (by decide))).sI (fx_j fx) (.inl (by decide))) ⟨rfl, by decide⟩ (Eq.trans (Eq.trans (I_ne (fx_ne fx (by decide))) I_eq) (Eq.symm I_eq)), (by (try simp only [hZ_sI, hZ_sL, hZ_sD, hZ_sR]); omega), (by (try simp only [hU_sI, hU_sL, hU_sD, hU_sR]); omega)⟩
                · obtain ⟨k28, hk28, ek28⟩ := ix_of (x := m) (n := 2147483648) (by have := i_nlt c25; have := i_rg m; have : (0 : Int32).toInt = 0 := rfl; omega) (by have := i_nlt c25; have := i_rg m; have : (0 : Int32).toInt = 0 := rfl; omega)
                  refine r_iload rfl rfl ?_
                  refine WR_tI (y := nI k28) ek28 ?_
                  refine r_aload rfl rfl ?_
                  refine r_cw (y := 35) (ra := []) (rest := [.int (nI k28)]) rfl ⟨rfl, rfl⟩ (by rw [show hT (sI h (ad 0) 6 0) (mid t7) = 6 from tg7]; rfl) rfl rfl (Nat.le_of_ble_eq_true rfl) ?_
                  refine in_35 (Nat.le_of_ble_eq_true rfl) ?_
                  show WR _ cd_35 0 [some (.ref (mid t7))] [] (sI h (ad 0) 6 0) _
                  refine r_aload rfl rfl ?_
                  refine r_getA (b := mid t7 + 1) rfl ⟨rfl, rfl, rfl⟩ tg7 (Eq.trans R_oI r_7) ?_
                  refine r_alen rfl (isA_of tg2_7 (by decide)) ?_
                  refine WR_tI (y := nI sz7) (congrArg nI n_7) ?_
                  refine r_iret rfl ?_
                  show WR _ cd_32 13 [some (.ref (mid t7)), some (.int i), some (.int m)] [.int (nI sz7), .int (nI k28)] (sI h (ad 0) 6 0) _
                  obtain ⟨k29, hk29, ek29⟩ := ix_of (x := i) (n := 2147483648) (by have := i_nlt c24; have := i_rg i; have : (0 : Int32).toInt = 0 := rfl; omega) (by have := i_nlt c24; have := i_rg i; have : (0 : Int32).toInt = 0 := rfl; omega)
                  refine r_iload rfl rfl ?_
                  refine WR_tI (y := nI k29) ek29 ?_
                  refine r_isub rfl ?_
                  refine r_icmp_gt (tg := 22) rfl rfl (fun c30 => ?_) (fun c30 => ?_)
                  · refine r_ic (x := 0) rfl rfl ?_
                    refine r_zret rfl (.inl rfl) ?_
                    show WR _ cd_51 84 [some (.ref (ad 0)), some (.int c), some (.int i), some (.int d), some (.int j), some (.int m), some (.ref (mid t7)), some (.ref (mid t23)), none] [.int 0] (sI h (ad 0) 6 0) _
                    refine r_if_eq (tg := 99) rfl rfl (fun _ => ?_) (fun q => absurd q (by decide))
                    refine r_aload rfl rfl ?_
                    refine r_ic (x := (-12)) rfl rfl ?_
                    refine r_cv (y := 13) (ra := [.int (-12)]) (rest := []) rfl ⟨⟨rfl, rfl⟩, rfl, by decide⟩ (fx_t0 fx) rfl rfl (Nat.le_of_ble_eq_true rfl) ?_
                    refine in_13 (Nat.le_of_ble_eq_true rfl) ?_
                    show WR _ cd_13 0 [some (.ref (ad 0)), some (.int (-12))] [] (sI h (ad 0) 6 0) _
                    refine r_aload rfl rfl ?_
                    refine r_iload rfl rfl ?_
                    refine r_putI rfl ⟨rfl, rfl, rfl⟩ (fx_t0 fx) ?_
                    have fx : FX n ad sa z0 (sI (sI h (ad 0) 6 0) (ad 0) 6 (-12)) := (FX.sI fx)
                    refine r_iload rfl rfl ?_
                    refine r_iret rfl ?_
                    show WR _ cd_51 105 [some (.ref (ad 0)), some (.int c), some (.int i), some (.int d), some (.int j), some (.int m), some (.ref (mid t7)), some (.ref (mid t23)), none] [.int (-12)] (sI (sI h (ad 0) 6 0) (ad 0) 6 (-12)) _
                    refine r_iret rfl ?_
                    show EV _ 179 [.ref (ad 30), .int c, .int i, .int d, .int j, .int m] (sI (sI h (ad 0) 6 0) (ad 0) 6 (-12)) _
                    refine in_179 (Nat.le_of_ble_eq_true rfl) ?_
                    show WR _ cd_179 0 [some (.ref (ad 30)), some (.int c), some (.int i), some (.int d), some (.int j), some (.int m), none, none, none, none, none] [] (sI (sI h (ad 0) 6 0) (ad 0) 6 (-12)) _
                    refine r_iload rfl rfl ?_
                    refine WR_tI (y := nI k2) ek2 ?_
                    refine r_cs (y := 153) (ra := [.int (nI k2)]) (rest := []) rfl ⟨⟨rfl, rfl⟩, by decide⟩ rfl rfl (Nat.le_of_ble_eq_true rfl) ?_
                    refine in_153 (Nat.le_of_ble_eq_true rfl) ?_
                    show WR _ cd_153 0 [some (.int (nI k2))] [] (sI (sI h (ad 0) 6 0) (ad 0) 6 (-12)) _
                    refine r_iload rfl rfl ?_
                    refine r_if_lt (tg := 14) rfl rfl (fun q => False.elim (by have := i_nlt c1; have := i_rg c; have : (0 : Int32).toInt = 0 := rfl; have := i_eq ek2; have : (nI k2).toInt = ((k2 : Nat) : Int) := nI_toInt (by omega); have := i_nle c3; have : (24 : Int32).toInt = 24 := rfl; have := i_lt q; omega)) (fun _ => ?_)
                    refine r_iload rfl rfl ?_
                    refine r_ic (x := 24) rfl rfl ?_
                    refine r_icmp_ge (tg := 14) rfl rfl (fun q => False.elim (by have := i_nlt c1; have := i_rg c; have : (0 : Int32).toInt = 0 := rfl; have := i_eq ek2; have : (nI k2).toInt = ((k2 : Nat) : Int) := nI_toInt (by omega); have := i_nle c3; have : (24 : Int32).toInt = 24 := rfl; have := i_le q; omega)) (fun _ => ?_)
                    refine r_ic (x := 1) rfl rfl ?_
                    refine r_goto (tg := 15) rfl rfl ?_
                    refine r_zret rfl (.inr rfl) ?_
                    show WR _ cd_179 4 [some (.ref (ad 30)), some (.int c), some (.int i), some (.int d), some (.int j), some (.int m), none, none, none, none, none] [.int 1] (sI (sI h (ad 0) 6 0) (ad 0) 6 (-12)) _
                    refine r_if_eq (tg := 14) rfl rfl (fun q => absurd q (by decide)) (fun _ => ?_)
                    refine r_iload rfl rfl ?_
                    refine WR_tI (y := nI k5) ek5 ?_
                    refine r_cs (y := 153) (ra := [.int (nI k5)]) (rest := []) rfl ⟨⟨rfl, rfl⟩, by decide⟩ rfl rfl (Nat.le_of_ble_eq_true rfl) ?_
                    refine in_153 (Nat.le_of_ble_eq_true rfl) ?_
                    show WR _ cd_153 0 [some (.int (nI k5))] [] (sI (sI h (ad 0) 6 0) (ad 0) 6 (-12)) _
                    refine r_iload rfl rfl ?_
                    refine r_if_lt (tg := 14) rfl rfl (fun q => False.elim (by have := i_nlt c4; have := i_rg d; have : (0 : Int32).toInt = 0 := rfl; have := i_eq ek5; have : (nI k5).toInt = ((k5 : Nat) : Int) := nI_toInt (by omega); have := i_nle c6; have : (24 : Int32).toInt = 24 := rfl; have := i_lt q; omega)) (fun _ => ?_)
                    refine r_iload rfl rfl ?_
                    refine r_ic (x := 24) rfl rfl ?_
                    refine r_icmp_ge (tg := 14) rfl rfl (fun q => False.elim (by have := i_nlt c4; have := i_rg d; have : (0 : Int32).toInt = 0 := rfl; have := i_eq ek5; have : (nI k5).toInt = ((k5 : Nat) : Int) := nI_toInt (by omega); have := i_nle c6; have : (24 : Int32).toInt = 24 := rfl; have := i_le q; omega)) (fun _ => ?_)
                    refine r_ic (x := 1) rfl rfl ?_
                    refine r_goto (tg := 15) rfl rfl ?_
                    refine r_zret rfl (.inr rfl) ?_
                    show WR _ cd_179 11 [some (.ref (ad 30)), some (.int c), some (.int i), some (.int d), some (.int j), some (.int m), none, none, none, none, none] [.int 1] (sI (sI h (ad 0) 6 0) (ad 0) 6 (-12)) _
                    refine r_if_ne (tg := 21) rfl rfl (fun _ => ?_) (fun q => absurd q (by decide))
                    refine r_aload rfl rfl ?_
                    refine r_getA (b := ad 31) rfl ⟨rfl, rfl, rfl⟩ (fx_t30 fx) (fx_r30_0 fx) ?_
                    refine r_iload rfl rfl ?_
                    refine WR_tI (y := nI k2) ek2 ?_
                    refine r_iaload rfl (.inl (fx_t31 fx)) (vp_ct (fx_n31 fx) (vp_in_nI (by have := i_nlt c1; have := i_rg c; have : (0 : Int32).toInt = 0 := rfl; have := i_eq ek2; have : (nI k2).toInt = ((k2 : Nat) : Int) := nI_toInt (by omega); have := i_nle c3; have : (24 : Int32).toInt = 24 := rfl; omega) (by omega))) ?_
                    refine WR_tI (congrArg (hI (sI (sI h (ad 0) 6 0) (ad 0) 6 (-12)) (ad 31)) ((nI_clamp (by have := i_nlt c1; have := i_rg c; have : (0 : Int32).toInt = 0 := rfl; have := i_eq ek2; have : (nI k2).toInt = ((k2 : Nat) : Int) := nI_toInt (by omega); have := i_nle c3; have : (24 : Int32).toInt = 24 := rfl; omega)) : _ = k2)) ?_
                    refine WR_tI (y := nI t7) (Eq.trans (I_ne (fx_ne fx (by decide))) (Eq.trans (I_ne (fx_ne fx (by decide))) v7)) ?_
                    refine r_istore (lv' := [some (.ref (ad 30)), some (.int c), some (.int i), some (.int d), some (.int j), some (.int m), some (.int (nI t7)), none, none, none, none]) rfl (Nat.le_of_ble_eq_true rfl) rfl ?_
                    refine r_aload rfl rfl ?_
                    refine r_getA (b := ad 31) rfl ⟨rfl, rfl, rfl⟩ (fx_t30 fx) (fx_r30_0 fx) ?_
                    refine r_iload rfl rfl ?_
                    refine WR_tI (y := nI k5) ek5 ?_
                    refine r_iaload rfl (.inl (fx_t31 fx)) (vp_ct (fx_n31 fx) (vp_in_nI (by have := i_nlt c4; have := i_rg d; have : (0 : Int32).toInt = 0 := rfl; have := i_eq ek5; have : (nI k5).toInt = ((k5 : Nat) : Int) := nI_toInt (by omega); have := i_nle c6; have : (24 : Int32).toInt = 24 := rfl; omega) (by omega))) ?_
                    refine WR_tI (congrArg (hI (sI (sI h (ad 0) 6 0) (ad 0) 6 (-12)) (ad 31)) ((nI_clamp (by have := i_nlt c4; have := i_rg d; have : (0 : Int32).toInt = 0 := rfl; have := i_eq ek5; have : (nI k5).toInt = ((k5 : Nat) : Int) := nI_toInt (by omega); have := i_nle c6; have : (24 : Int32).toInt = 24 := rfl; omega)) : _ = k5)) ?_
                    refine WR_tI (y := nI t23) (Eq.trans (I_ne (fx_ne fx (by decide))) (Eq.trans (I_ne (fx_ne fx (by decide))) v23)) ?_
                    refine r_istore (lv' := [some (.ref (ad 30)), some (.int c), some (.int i), some (.int d), some (.int j), some (.int m), some (.int (nI t7)), some (.int (nI t23)), none, none, none]) rfl (Nat.le_of_ble_eq_true rfl) rfl ?_
                    refine r_iload rfl rfl ?_
                    refine r_ic (x := (-1)) rfl rfl ?_
                    refine r_icmp_eq (tg := 49) rfl rfl (fun q => False.elim (by have : (nI t7).toInt = ((t7 : Nat) : Int) := nI_toInt (by omega); have : (-1 : Int32).toInt = -1 := rfl; have := i_eq q; omega)) (fun _ => ?_)
                    refine r_iload rfl rfl ?_
                    refine r_ic (x := (-1)) rfl rfl ?_
                    refine r_icmp_ne (tg := 55) rfl rfl (fun _ => ?_) (fun q => False.elim (by have : (nI t23).toInt = ((t23 : Nat) : Int) := nI_toInt (by omega); have : (-1 : Int32).toInt = -1 := rfl; have := i_eq q; omega))
                    refine r_iload rfl rfl ?_
                    refine r_ic (x := 1000) rfl rfl ?_
                    refine r_icmp_ge (tg := 112) rfl rfl (fun q => False.elim (by have : (nI t7).toInt = ((t7 : Nat) : Int) := nI_toInt (by omega); have : (1000 : Int32).toInt = 1000 := rfl; have := i_le q; omega)) (fun _ => ?_)
                    refine r_iload rfl rfl ?_
                    refine r_ic (x := 1000) rfl rfl ?_
                    refine r_icmp_ge (tg := 112) rfl rfl (fun q => False.elim (by have : (nI t23).toInt = ((t23 : Nat) : Int) := nI_toInt (by omega); have : (1000 : Int32).toInt = 1000 := rfl; have := i_le q; omega)) (fun _ => ?_)
                    refine r_aload rfl rfl ?_
                    refine r_getA (b := ad 33) rfl ⟨rfl, rfl, rfl⟩ (fx_t30 fx) (fx_r30_2 fx) ?_
                    refine r_iload rfl rfl ?_
                    refine r_iaload rfl (.inl (fx_t33 fx)) (vp_ct (fx_n33 fx) (vp_in_nI (by omega) (by omega))) ?_
                    refine WR_tI (congrArg (hI (sI (sI h (ad 0) 6 0) (ad 0) 6 (-12)) (ad 33)) ((nI_clamp (by omega)) : _ = t7)) ?_
                    refine WR_tI (y := 8) (Eq.trans (I_ne (fx_ne fx (by decide))) (Eq.trans (I_ne (fx_ne fx (by decide))) l2_7)) ?_
                    refine r_aload rfl rfl ?_
                    refine r_getA (b := ad 33) rfl ⟨rfl, rfl, rfl⟩ (fx_t30 fx) (fx_r30_2 fx) ?_
                    refine r_iload rfl rfl ?_
                    refine r_iaload rfl (.inl (fx_t33 fx)) (vp_ct (fx_n33 fx) (vp_in_nI (by omega) (by omega))) ?_
                    refine WR_tI (congrArg (hI (sI (sI h (ad 0) 6 0) (ad 0) 6 (-12)) (ad 33)) ((nI_clamp (by omega)) : _ = t23)) ?_
                    refine WR_tI (y := 8) (Eq.trans (I_ne (fx_ne fx (by decide))) (Eq.trans (I_ne (fx_ne fx (by decide))) l2_23)) ?_
                    refine r_icmp_eq (tg := 118) rfl rfl (fun _ => ?_) (fun q => absurd q (by decide))
                    refine r_iload rfl rfl ?_
                    refine WR_tI (y := nI k29) ek29 ?_
                    refine r_if_lt (tg := 169) rfl rfl (fun q => False.elim (by have := i_nlt c24; have := i_rg i; have : (0 : Int32).toInt = 0 := rfl; have := i_nlt c25; have := i_rg m; have := i_eq ek28; have : (nI k28).toInt = ((k28 : Nat) : Int) := nI_toInt (by omega); have := i_eq ek29; have : (nI k29).toInt = ((k29 : Nat) : Int) := nI_toInt (by omega); have := i_lt c30; have : (nI sz7).toInt = ((sz7 : Nat) : Int) := nI_toInt (by omega); have := sub_t (x := nI sz7) (y := nI k29) (by have := i_nlt c24; have := i_rg i; have : (0 : Int32).toInt = 0 := rfl; have := i_eq ek29; have : (nI k29).toInt = ((k29 : Nat) : Int) := nI_toInt (by omega); have : (nI sz7).toInt = ((sz7 : Nat) : Int) := nI_toInt (by omega); omega) (by have := i_nlt c24; have := i_rg i; have : (0 : Int32).toInt = 0 := rfl; have := i_eq ek29; have : (nI k29).toInt = ((k29 : Nat) : Int) := nI_toInt (by omega); have : (nI sz7).toInt = ((sz7 : Nat) : Int) := nI_toInt (by omega); omega); have := i_lt q; omega)) (fun _ => ?_)
                    refine r_iload rfl rfl ?_
                    refine r_if_lt (tg := 169) rfl rfl (fun c31 => ?_) (fun c31 => ?_)
                    · refine r_aload rfl rfl ?_
                      refine r_ic (x := 2) rfl rfl ?_
                      refine r_cv (y := 156) (ra := [.int 2]) (rest := []) rfl ⟨⟨rfl, rfl⟩, rfl, by decide⟩ (fx_t30 fx) rfl rfl (Nat.le_of_ble_eq_true rfl) ?_
                      refine in_156 (Nat.le_of_ble_eq_true rfl) ?_
                      show WR _ cd_156 0 [some (.ref (ad 30)), some (.int 2)] [] (sI (sI h (ad 0) 6 0) (ad 0) 6 (-12)) _
                      refine r_aload rfl rfl ?_
                      refine r_ic (x := (-10)) rfl rfl ?_
                      refine r_iload rfl rfl ?_
                      refine r_isub rfl ?_
                      refine WR_tI (y := (-12)) rfl ?_
                      refine r_cv (y := 154) (ra := [.int (-12)]) (rest := []) rfl ⟨⟨rfl, rfl⟩, rfl, by decide⟩ (fx_t30 fx) rfl rfl (Nat.le_of_ble_eq_true rfl) ?_
                      refine in_154 (Nat.le_of_ble_eq_true rfl) ?_
                      show WR _ cd_154 0 [some (.ref (ad 30)), some (.int (-12))] [] (sI (sI h (ad 0) 6 0) (ad 0) 6 (-12)) _
                      refine r_aload rfl rfl ?_
                      refine r_iload rfl rfl ?_
                      refine r_ic (x := (-1)) rfl rfl ?_
                      refine r_icmp_ge (tg := 10) rfl rfl (fun q => absurd q (by decide)) (fun _ => ?_)
                      refine r_iload rfl rfl ?_
                      refine r_goto (tg := 11) rfl rfl ?_
                      refine r_putI rfl ⟨rfl, rfl, rfl⟩ (fx_t30 fx) ?_
                      have fx : FX n ad sa z0 (sI (sI (sI h (ad 0) 6 0) (ad 0) 6 (-12)) (ad 30) 11 (-12)) := (FX.sI fx)
                      refine r_iload rfl rfl ?_
                      refine r_iret rfl ?_
                      show WR _ cd_156 8 [some (.ref (ad 30)), some (.int 2)] [.int (-12)] (sI (sI (sI h (ad 0) 6 0) (ad 0) 6 (-12)) (ad 30) 11 (-12)) _
                      refine r_iret rfl ?_
                      show WR _ cd_179 174 [some (.ref (ad 30)), some (.int c), some (.int i), some (.int d), some (.int j), some (.int m), some (.int (nI t7)), some (.int (nI t23)), none, none, none] [.int (-12)] (sI (sI (sI h (ad 0) 6 0) (ad 0) 6 (-12)) (ad 30) 11 (-12)) _
                      refine r_iret rfl ?_
                      exact ⟨rfl, Rel.why r (((Chg.rf.sI (fx_j fx) (.inl (by decide))).sI (fx_j fx) (.inl (by decide))).sI (fx_j fx) (.inl (by decide))) ⟨rfl, by decide⟩ (Eq.trans (Eq.trans (I_ne (fx_ne fx (by decide))) I_eq) (Eq.symm I_eq)), (by (try simp only [hZ_sI, hZ_sL, hZ_sD, hZ_sR]); omega), (by (try simp only [hU_sI, hU_sL, hU_sD, hU_sR]); omega)⟩
                    · refine r_iload rfl rfl ?_
                      refine WR_tI (y := nI k28) ek28 ?_
                      refine r_if_lt (tg := 169) rfl rfl (fun q => False.elim (by have := i_nlt c24; have := i_rg i; have : (0 : Int32).toInt = 0 := rfl; have := i_nlt c25; have := i_rg m; have := i_eq ek28; have : (nI k28).toInt = ((k28 : Nat) : Int) := nI_toInt (by omega); have := i_eq ek29; have : (nI k29).toInt = ((k29 : Nat) : Int) := nI_toInt (by omega); have := i_lt c30; have : (nI sz7).toInt = ((sz7 : Nat) : Int) := nI_toInt (by omega); have := sub_t (x := nI sz7) (y := nI k29) (by have := i_nlt c24; have := i_rg i; have : (0 : Int32).toInt = 0 := rfl; have := i_eq ek29; have : (nI k29).toInt = ((k29 : Nat) : Int) := nI_toInt (by omega); have : (nI sz7).toInt = ((sz7 : Nat) : Int) := nI_toInt (by omega); omega) (by have := i_nlt c24; have := i_rg i; have : (0 : Int32).toInt = 0 := rfl; have := i_eq ek29; have : (nI k29).toInt = ((k29 : Nat) : Int) := nI_toInt (by omega); have : (nI sz7).toInt = ((sz7 : Nat) : Int) := nI_toInt (by omega); omega); have := i_lt q; omega)) (fun _ => ?_)
                      refine r_iload rfl rfl ?_
                      refine WR_tI (y := nI k29) ek29 ?_
                      refine r_i2l rfl ?_
                      refine WR_tL (y := lN k29) (nI_l (by have := i_nlt c24; have := i_rg i; have : (0 : Int32).toInt = 0 := rfl; have := i_nlt c25; have := i_rg m; have := i_eq ek28; have : (nI k28).toInt = ((k28 : Nat) : Int) := nI_toInt (by omega); have := i_eq ek29; have : (nI k29).toInt = ((k29 : Nat) : Int) := nI_toInt (by omega); have := i_lt c30; have : (nI sz7).toInt = ((sz7 : Nat) : Int) := nI_toInt (by omega); have := sub_t (x := nI sz7) (y := nI k29) (by have := i_nlt c24; have := i_rg i; have : (0 : Int32).toInt = 0 := rfl; have := i_eq ek29; have : (nI k29).toInt = ((k29 : Nat) : Int) := nI_toInt (by omega); have : (nI sz7).toInt = ((sz7 : Nat) : Int) := nI_toInt (by omega); omega) (by have := i_nlt c24; have := i_rg i; have : (0 : Int32).toInt = 0 := rfl; have := i_eq ek29; have : (nI k29).toInt = ((k29 : Nat) : Int) := nI_toInt (by omega); have : (nI sz7).toInt = ((sz7 : Nat) : Int) := nI_toInt (by omega); omega); omega)) ?_
                      refine r_iload rfl rfl ?_
                      refine WR_tI (y := nI k28) ek28 ?_
                      refine r_i2l rfl ?_
                      refine WR_tL (y := lN k28) (nI_l (by have := i_nlt c24; have := i_rg i; have : (0 : Int32).toInt = 0 := rfl; have := i_nlt c25; have := i_rg m; have := i_eq ek28; have : (nI k28).toInt = ((k28 : Nat) : Int) := nI_toInt (by omega); have := i_eq ek29; have : (nI k29).toInt = ((k29 : Nat) : Int) := nI_toInt (by omega); have := i_lt c30; have : (nI sz7).toInt = ((sz7 : Nat) : Int) := nI_toInt (by omega); have := sub_t (x := nI sz7) (y := nI k29) (by have := i_nlt c24; have := i_rg i; have : (0 : Int32).toInt = 0 := rfl; have := i_eq ek29; have : (nI k29).toInt = ((k29 : Nat) : Int) := nI_toInt (by omega); have : (nI sz7).toInt = ((sz7 : Nat) : Int) := nI_toInt (by omega); omega) (by have := i_nlt c24; have := i_rg i; have : (0 : Int32).toInt = 0 := rfl; have := i_eq ek29; have : (nI k29).toInt = ((k29 : Nat) : Int) := nI_toInt (by omega); have : (nI sz7).toInt = ((sz7 : Nat) : Int) := nI_toInt (by omega); omega); omega)) ?_
                      refine r_ladd rfl ?_
                      refine WR_tL (y := lN (k28 + k29)) (Eq.trans (lN_add k29 k28) (congrArg lN (by omega))) ?_
                      refine r_aload rfl rfl ?_
                      refine r_getA (b := ad 35) rfl ⟨rfl, rfl, rfl⟩ (fx_t30 fx) (fx_r30_4 fx) ?_
                      refine r_iload rfl rfl ?_
                      refine r_iaload rfl (.inl (fx_t35 fx)) (vp_ct (fx_n35 fx) (vp_in_nI (by omega) (by omega))) ?_
                      refine WR_tI (congrArg (hI (sI (sI h (ad 0) 6 0) (ad 0) 6 (-12)) (ad 35)) ((nI_clamp (by omega)) : _ = t7)) ?_
                      refine WR_tI (y := nI sz7) (Eq.trans (I_ne (fx_ne fx (by decide))) (Eq.trans (I_ne (fx_ne fx (by decide))) sz_7)) ?_
                      refine r_i2l rfl ?_
                      refine WR_tL (y := lN sz7) (nI_l (by have := i_nlt c24; have := i_rg i; have : (0 : Int32).toInt = 0 := rfl; have := i_nlt c25; have := i_rg m; have := i_eq ek28; have : (nI k28).toInt = ((k28 : Nat) : Int) := nI_toInt (by omega); have := i_eq ek29; have : (nI k29).toInt = ((k29 : Nat) : Int) := nI_toInt (by omega); have := i_lt c30; have : (nI sz7).toInt = ((sz7 : Nat) : Int) := nI_toInt (by omega); have := sub_t (x := nI sz7) (y := nI k29) (by have := i_nlt c24; have := i_rg i; have : (0 : Int32).toInt = 0 := rfl; have := i_eq ek29; have : (nI k29).toInt = ((k29 : Nat) : Int) := nI_toInt (by omega); have : (nI sz7).toInt = ((sz7 : Nat) : Int) := nI_toInt (by omega); omega) (by have := i_nlt c24; have := i_rg i; have : (0 : Int32).toInt = 0 := rfl; have := i_eq ek29; have : (nI k29).toInt = ((k29 : Nat) : Int) := nI_toInt (by omega); have : (nI sz7).toInt = ((sz7 : Nat) : Int) := nI_toInt (by omega); omega); omega)) ?_
                      refine r_lif_gt (tg := 169) rfl rfl rfl (fun _ => ?_) (fun q => False.elim (by have := i_nlt c24; have := i_rg i; have : (0 : Int32).toInt = 0 := rfl; have := i_nlt c25; have := i_rg m; have := i_eq ek28; have : (nI k28).toInt = ((k28 : Nat) : Int) := nI_toInt (by omega); have := i_eq ek29; have : (nI k29).toInt = ((k29 : Nat) : Int) := nI_toInt (by omega); have := i_lt c30; have : (nI sz7).toInt = ((sz7 : Nat) : Int) := nI_toInt (by omega); have := sub_t (x := nI sz7) (y := nI k29) (by have := i_nlt c24; have := i_rg i; have : (0 : Int32).toInt = 0 := rfl; have := i_eq ek29; have : (nI k29).toInt = ((k29 : Nat) : Int) := nI_toInt (by omega); have : (nI sz7).toInt = ((sz7 : Nat) : Int) := nI_toInt (by omega); omega) (by have := i_nlt c24; have := i_rg i; have : (0 : Int32).toInt = 0 := rfl; have := i_eq ek29; have : (nI k29).toInt = ((k29 : Nat) : Int) := nI_toInt (by omega); have : (nI sz7).toInt = ((sz7 : Nat) : Int) := nI_toInt (by omega); omega); have : (lN (k28 + k29)).toInt = ((k28 + k29 : Nat) : Int) := pk_lT (by omega); have : (lN sz7).toInt = ((sz7 : Nat) : Int) := lN_toInt (by omega); have := l_nlt q; omega))
                      refine r_aload rfl rfl ?_
                      refine r_ic (x := 2) rfl rfl ?_
                      refine r_cv (y := 156) (ra := [.int 2]) (rest := []) rfl ⟨⟨rfl, rfl⟩, rfl, by decide⟩ (fx_t30 fx) rfl rfl (Nat.le_of_ble_eq_true rfl) ?_
                      refine in_156 (Nat.le_of_ble_eq_true rfl) ?_
                      show WR _ cd_156 0 [some (.ref (ad 30)), some (.int 2)] [] (sI (sI h (ad 0) 6 0) (ad 0) 6 (-12)) _
                      refine r_aload rfl rfl ?_
                      refine r_ic (x := (-10)) rfl rfl ?_
                      refine r_iload rfl rfl ?_
                      refine r_isub rfl ?_
                      refine WR_tI (y := (-12)) rfl ?_
                      refine r_cv (y := 154) (ra := [.int (-12)]) (rest := []) rfl ⟨⟨rfl, rfl⟩, rfl, by decide⟩ (fx_t30 fx) rfl rfl (Nat.le_of_ble_eq_true rfl) ?_
                      refine in_154 (Nat.le_of_ble_eq_true rfl) ?_
                      show WR _ cd_154 0 [some (.ref (ad 30)), some (.int (-12))] [] (sI (sI h (ad 0) 6 0) (ad 0) 6 (-12)) _
                      refine r_aload rfl rfl ?_
                      refine r_iload rfl rfl ?_
                      refine r_ic (x := (-1)) rfl rfl ?_
                      refine r_icmp_ge (tg := 10) rfl rfl (fun q => absurd q (by decide)) (fun _ => ?_)
                      refine r_iload rfl rfl ?_
                      refine r_goto (tg := 11) rfl rfl ?_
                      refine r_putI rfl ⟨rfl, rfl, rfl⟩ (fx_t30 fx) ?_
                      have fx : FX n ad sa z0 (sI (sI (sI h (ad 0) 6 0) (ad 0) 6 (-12)) (ad 30) 11 (-12)) := (FX.sI fx)
                      refine r_iload rfl rfl ?_
                      refine r_iret rfl ?_
                      show WR _ cd_156 8 [some (.ref (ad 30)), some (.int 2)] [.int (-12)] (sI (sI (sI h (ad 0) 6 0) (ad 0) 6 (-12)) (ad 30) 11 (-12)) _
                      refine r_iret rfl ?_
                      show WR _ cd_179 174 [some (.ref (ad 30)), some (.int c), some (.int i), some (.int d), some (.int j), some (.int m), some (.int (nI t7)), some (.int (nI t23)), none, none, none] [.int (-12)] (sI (sI (sI h (ad 0) 6 0) (ad 0) 6 (-12)) (ad 30) 11 (-12)) _
                      refine r_iret rfl ?_
                      exact ⟨rfl, Rel.why r (((Chg.rf.sI (fx_j fx) (.inl (by decide))).sI (fx_j fx) (.inl (by decide))).sI (fx_j fx) (.inl (by decide))) ⟨rfl, by decide⟩ (Eq.trans (Eq.trans (I_ne (fx_ne fx (by decide))) I_eq) (Eq.symm I_eq)), (by (try simp only [hZ_sI, hZ_sL, hZ_sD, hZ_sR]); omega), (by (try simp only [hU_sI, hU_sL, hU_sD, hU_sR]); omega)⟩
                  · refine r_ic (x := 1) rfl rfl ?_
                    refine r_goto (tg := 23) rfl rfl ?_
                    refine r_zret rfl (.inr rfl) ?_
                    show WR _ cd_51 84 [some (.ref (ad 0)), some (.int c), some (.int i), some (.int d), some (.int j), some (.int m), some (.ref (mid t7)), some (.ref (mid t23)), none] [.int 1] (sI h (ad 0) 6 0) _
                    refine r_if_eq (tg := 99) rfl rfl (fun q => absurd q (by decide)) (fun _ => ?_)
                    refine r_aload rfl rfl ?_
                    refine r_iload rfl rfl ?_
                    refine r_iload rfl rfl ?_
                    refine WR_tI (y := nI k28) ek28 ?_
                    refine r_cw (y := 32) (ra := [.int (nI k28), .int j]) (rest := []) rfl ⟨rfl, rfl⟩ (by rw [show hT (sI h (ad 0) 6 0) (mid t23) = 6 from tg23]; rfl) rfl rfl (Nat.le_of_ble_eq_true rfl) ?_
                    refine in_32 (Nat.le_of_ble_eq_true rfl) ?_
                    show WR _ cd_32 0 [some (.ref (mid t23)), some (.int j), some (.int (nI k28))] [] (sI h (ad 0) 6 0) _
                    refine r_iload rfl rfl ?_
                    refine r_if_lt (tg := 22) rfl rfl (fun c32 => ?_) (fun c32 => ?_)
                    · refine r_ic (x := 0) rfl rfl ?_
                      refine r_zret rfl (.inl rfl) ?_
                      show WR _ cd_51 96 [some (.ref (ad 0)), some (.int c), some (.int i), some (.int d), some (.int j), some (.int m), some (.ref (mid t7)), some (.ref (mid t23)), none] [.int 0] (sI h (ad 0) 6 0) _
                      refine r_if_ne (tg := 106) rfl rfl (fun q => absurd q (by decide)) (fun _ => ?_)
                      refine r_aload rfl rfl ?_
                      refine r_ic (x := (-12)) rfl rfl ?_
                      refine r_cv (y := 13) (ra := [.int (-12)]) (rest := []) rfl ⟨⟨rfl, rfl⟩, rfl, by decide⟩ (fx_t0 fx) rfl rfl (Nat.le_of_ble_eq_true rfl) ?_
                      refine in_13 (Nat.le_of_ble_eq_true rfl) ?_
                      show WR _ cd_13 0 [some (.ref (ad 0)), some (.int (-12))] [] (sI h (ad 0) 6 0) _
                      refine r_aload rfl rfl ?_
                      refine r_iload rfl rfl ?_
                      refine r_putI rfl ⟨rfl, rfl, rfl⟩ (fx_t0 fx) ?_
                      have fx : FX n ad sa z0 (sI (sI h (ad 0) 6 0) (ad 0) 6 (-12)) := (FX.sI fx)
                      refine r_iload rfl rfl ?_
                      refine r_iret rfl ?_
                      show WR _ cd_51 105 [some (.ref (ad 0)), some (.int c), some (.int i), some (.int d), some (.int j), some (.int m), some (.ref (mid t7)), some (.ref (mid t23)), none] [.int (-12)] (sI (sI h (ad 0) 6 0) (ad 0) 6 (-12)) _
                      refine r_iret rfl ?_
                      show EV _ 179 [.ref (ad 30), .int c, .int i, .int d, .int j, .int m] (sI (sI h (ad 0) 6 0) (ad 0) 6 (-12)) _
                      refine in_179 (Nat.le_of_ble_eq_true rfl) ?_
                      show WR _ cd_179 0 [some (.ref (ad 30)), some (.int c), some (.int i), some (.int d), some (.int j), some (.int m), none, none, none, none, none] [] (sI (sI h (ad 0) 6 0) (ad 0) 6 (-12)) _
                      refine r_iload rfl rfl ?_
                      refine WR_tI (y := nI k2) ek2 ?_
                      refine r_cs (y := 153) (ra := [.int (nI k2)]) (rest := []) rfl ⟨⟨rfl, rfl⟩, by decide⟩ rfl rfl (Nat.le_of_ble_eq_true rfl) ?_
                      refine in_153 (Nat.le_of_ble_eq_true rfl) ?_
                      show WR _ cd_153 0 [some (.int (nI k2))] [] (sI (sI h (ad 0) 6 0) (ad 0) 6 (-12)) _
                      refine r_iload rfl rfl ?_
                      refine r_if_lt (tg := 14) rfl rfl (fun q => False.elim (by have := i_nlt c1; have := i_rg c; have : (0 : Int32).toInt = 0 := rfl; have := i_eq ek2; have : (nI k2).toInt = ((k2 : Nat) : Int) := nI_toInt (by omega); have := i_nle c3; have : (24 : Int32).toInt = 24 := rfl; have := i_lt q; omega)) (fun _ => ?_)
                      refine r_iload rfl rfl ?_
                      refine r_ic (x := 24) rfl rfl ?_
                      refine r_icmp_ge (tg := 14) rfl rfl (fun q => False.elim (by have := i_nlt c1; have := i_rg c; have : (0 : Int32).toInt = 0 := rfl; have := i_eq ek2; have : (nI k2).toInt = ((k2 : Nat) : Int) := nI_toInt (by omega); have := i_nle c3; have : (24 : Int32).toInt = 24 := rfl; have := i_le q; omega)) (fun _ => ?_)
                      refine r_ic (x := 1) rfl rfl ?_
                      refine r_goto (tg := 15) rfl rfl ?_
                      refine r_zret rfl (.inr rfl) ?_
                      show WR _ cd_179 4 [some (.ref (ad 30)), some (.int c), some (.int i), some (.int d), some (.int j), some (.int m), none, none, none, none, none] [.int 1] (sI (sI h (ad 0) 6 0) (ad 0) 6 (-12)) _
                      refine r_if_eq (tg := 14) rfl rfl (fun q => absurd q (by decide)) (fun _ => ?_)
                      refine r_iload rfl rfl ?_
                      refine WR_tI (y := nI k5) ek5 ?_
                      refine r_cs (y := 153) (ra := [.int (nI k5)]) (rest := []) rfl ⟨⟨rfl, rfl⟩, by decide⟩ rfl rfl (Nat.le_of_ble_eq_true rfl) ?_
                      refine in_153 (Nat.le_of_ble_eq_true rfl) ?_
                      show WR _ cd_153 0 [some (.int (nI k5))] [] (sI (sI h (ad 0) 6 0) (ad 0) 6 (-12)) _
                      refine r_iload rfl rfl ?_
                      refine r_if_lt (tg := 14) rfl rfl (fun q => False.elim (by have := i_nlt c4; have := i_rg d; have : (0 : Int32).toInt = 0 := rfl; have := i_eq ek5; have : (nI k5).toInt = ((k5 : Nat) : Int) := nI_toInt (by omega); have := i_nle c6; have : (24 : Int32).toInt = 24 := rfl; have := i_lt q; omega)) (fun _ => ?_)
                      refine r_iload rfl rfl ?_
                      refine r_ic (x := 24) rfl rfl ?_
                      refine r_icmp_ge (tg := 14) rfl rfl (fun q => False.elim (by have := i_nlt c4; have := i_rg d; have : (0 : Int32).toInt = 0 := rfl; have := i_eq ek5; have : (nI k5).toInt = ((k5 : Nat) : Int) := nI_toInt (by omega); have := i_nle c6; have : (24 : Int32).toInt = 24 := rfl; have := i_le q; omega)) (fun _ => ?_)
                      refine r_ic (x := 1) rfl rfl ?_
                      refine r_goto (tg := 15) rfl rfl ?_
                      refine r_zret rfl (.inr rfl) ?_
                      show WR _ cd_179 11 [some (.ref (ad 30)), some (.int c), some (.int i), some (.int d), some (.int j), some (.int m), none, none, none, none, none] [.int 1] (sI (sI h (ad 0) 6 0) (ad 0) 6 (-12)) _
                      refine r_if_ne (tg := 21) rfl rfl (fun _ => ?_) (fun q => absurd q (by decide))
                      refine r_aload rfl rfl ?_
                      refine r_getA (b := ad 31) rfl ⟨rfl, rfl, rfl⟩ (fx_t30 fx) (fx_r30_0 fx) ?_
                      refine r_iload rfl rfl ?_
                      refine WR_tI (y := nI k2) ek2 ?_
                      refine r_iaload rfl (.inl (fx_t31 fx)) (vp_ct (fx_n31 fx) (vp_in_nI (by have := i_nlt c1; have := i_rg c; have : (0 : Int32).toInt = 0 := rfl; have := i_eq ek2; have : (nI k2).toInt = ((k2 : Nat) : Int) := nI_toInt (by omega); have := i_nle c3; have : (24 : Int32).toInt = 24 := rfl; omega) (by omega))) ?_
                      refine WR_tI (congrArg (hI (sI (sI h (ad 0) 6 0) (ad 0) 6 (-12)) (ad 31)) ((nI_clamp (by have := i_nlt c1; have := i_rg c; have : (0 : Int32).toInt = 0 := rfl; have := i_eq ek2; have : (nI k2).toInt = ((k2 : Nat) : Int) := nI_toInt (by omega); have := i_nle c3; have : (24 : Int32).toInt = 24 := rfl; omega)) : _ = k2)) ?_
                      refine WR_tI (y := nI t7) (Eq.trans (I_ne (fx_ne fx (by decide))) (Eq.trans (I_ne (fx_ne fx (by decide))) v7)) ?_
                      refine r_istore (lv' := [some (.ref (ad 30)), some (.int c), some (.int i), some (.int d), some (.int j), some (.int m), some (.int (nI t7)), none, none, none, none]) rfl (Nat.le_of_ble_eq_true rfl) rfl ?_
                      refine r_aload rfl rfl ?_
                      refine r_getA (b := ad 31) rfl ⟨rfl, rfl, rfl⟩ (fx_t30 fx) (fx_r30_0 fx) ?_
                      refine r_iload rfl rfl ?_
                      refine WR_tI (y := nI k5) ek5 ?_
                      refine r_iaload rfl (.inl (fx_t31 fx)) (vp_ct (fx_n31 fx) (vp_in_nI (by have := i_nlt c4; have := i_rg d; have : (0 : Int32).toInt = 0 := rfl; have := i_eq ek5; have : (nI k5).toInt = ((k5 : Nat) : Int) := nI_toInt (by omega); have := i_nle c6; have : (24 : Int32).toInt = 24 := rfl; omega) (by omega))) ?_
                      refine WR_tI (congrArg (hI (sI (sI h (ad 0) 6 0) (ad 0) 6 (-12)) (ad 31)) ((nI_clamp (by have := i_nlt c4; have := i_rg d; have : (0 : Int32).toInt = 0 := rfl; have := i_eq ek5; have : (nI k5).toInt = ((k5 : Nat) : Int) := nI_toInt (by omega); have := i_nle c6; have : (24 : Int32).toInt = 24 := rfl; omega)) : _ = k5)) ?_
                      refine WR_tI (y := nI t23) (Eq.trans (I_ne (fx_ne fx (by decide))) (Eq.trans (I_ne (fx_ne fx (by decide))) v23)) ?_
                      refine r_istore (lv' := [some (.ref (ad 30)), some (.int c), some (.int i), some (.int d), some (.int j), some (.int m), some (.int (nI t7)), some (.int (nI t23)), none, none, none]) rfl (Nat.le_of_ble_eq_true rfl) rfl ?_
                      refine r_iload rfl rfl ?_
                      refine r_ic (x := (-1)) rfl rfl ?_
                      refine r_icmp_eq (tg := 49) rfl rfl (fun q => False.elim (by have : (nI t7).toInt = ((t7 : Nat) : Int) := nI_toInt (by omega); have : (-1 : Int32).toInt = -1 := rfl; have := i_eq q; omega)) (fun _ => ?_)
                      refine r_iload rfl rfl ?_
                      refine r_ic (x := (-1)) rfl rfl ?_
                      refine r_icmp_ne (tg := 55) rfl rfl (fun _ => ?_) (fun q => False.elim (by have : (nI t23).toInt = ((t23 : Nat) : Int) := nI_toInt (by omega); have : (-1 : Int32).toInt = -1 := rfl; have := i_eq q; omega))
                      refine r_iload rfl rfl ?_
                      refine r_ic (x := 1000) rfl rfl ?_
                      refine r_icmp_ge (tg := 112) rfl rfl (fun q => False.elim (by have : (nI t7).toInt = ((t7 : Nat) : Int) := nI_toInt (by omega); have : (1000 : Int32).toInt = 1000 := rfl; have := i_le q; omega)) (fun _ => ?_)
                      refine r_iload rfl rfl ?_
                      refine r_ic (x := 1000) rfl rfl ?_
                      refine r_icmp_ge (tg := 112) rfl rfl (fun q => False.elim (by have : (nI t23).toInt = ((t23 : Nat) : Int) := nI_toInt (by omega); have : (1000 : Int32).toInt = 1000 := rfl; have := i_le q; omega)) (fun _ => ?_)
                      refine r_aload rfl rfl ?_
                      refine r_getA (b := ad 33) rfl ⟨rfl, rfl, rfl⟩ (fx_t30 fx) (fx_r30_2 fx) ?_
                      refine r_iload rfl rfl ?_
                      refine r_iaload rfl (.inl (fx_t33 fx)) (vp_ct (fx_n33 fx) (vp_in_nI (by omega) (by omega))) ?_
                      refine WR_tI (congrArg (hI (sI (sI h (ad 0) 6 0) (ad 0) 6 (-12)) (ad 33)) ((nI_clamp (by omega)) : _ = t7)) ?_
                      refine WR_tI (y := 8) (Eq.trans (I_ne (fx_ne fx (by decide))) (Eq.trans (I_ne (fx_ne fx (by decide))) l2_7)) ?_
                      refine r_aload rfl rfl ?_
                      refine r_getA (b := ad 33) rfl ⟨rfl, rfl, rfl⟩ (fx_t30 fx) (fx_r30_2 fx) ?_
                      refine r_iload rfl rfl ?_
                      refine r_iaload rfl (.inl (fx_t33 fx)) (vp_ct (fx_n33 fx) (vp_in_nI (by omega) (by omega))) ?_
                      refine WR_tI (congrArg (hI (sI (sI h (ad 0) 6 0) (ad 0) 6 (-12)) (ad 33)) ((nI_clamp (by omega)) : _ = t23)) ?_
                      refine WR_tI (y := 8) (Eq.trans (I_ne (fx_ne fx (by decide))) (Eq.trans (I_ne (fx_ne fx (by decide))) l2_23)) ?_
                      refine r_icmp_eq (tg := 118) rfl rfl (fun _ => ?_) (fun q => absurd q (by decide))
                      refine r_iload rfl rfl ?_
                      refine WR_tI (y := nI k29) ek29 ?_
                      refine r_if_lt (tg := 169) rfl rfl (fun q => False.elim (by have := i_nlt c24; have := i_rg i; have : (0 : Int32).toInt = 0 := rfl; have := i_nlt c25; have := i_rg m; have := i_eq ek28; have : (nI k28).toInt = ((k28 : Nat) : Int) := nI_toInt (by omega); have := i_eq ek29; have : (nI k29).toInt = ((k29 : Nat) : Int) := nI_toInt (by omega); have := i_nlt c30; have : (nI sz7).toInt = ((sz7 : Nat) : Int) := nI_toInt (by omega); have := sub_t (x := nI sz7) (y := nI k29) (by have := i_nlt c24; have := i_rg i; have : (0 : Int32).toInt = 0 := rfl; have := i_eq ek29; have : (nI k29).toInt = ((k29 : Nat) : Int) := nI_toInt (by omega); have : (nI sz7).toInt = ((sz7 : Nat) : Int) := nI_toInt (by omega); omega) (by have := i_nlt c24; have := i_rg i; have : (0 : Int32).toInt = 0 := rfl; have := i_eq ek29; have : (nI k29).toInt = ((k29 : Nat) : Int) := nI_toInt (by omega); have : (nI sz7).toInt = ((sz7 : Nat) : Int) := nI_toInt (by omega); omega); have := i_lt q; omega)) (fun _ => ?_)
                      refine r_iload rfl rfl ?_
                      refine r_if_lt (tg := 169) rfl rfl (fun _ => ?_) (fun q => False.elim (by have := i_lt c32; have := i_rg j; have : (0 : Int32).toInt = 0 := rfl; have := i_nlt q; omega))
                      refine r_aload rfl rfl ?_
                      refine r_ic (x := 2) rfl rfl ?_
                      refine r_cv (y := 156) (ra := [.int 2]) (rest := []) rfl ⟨⟨rfl, rfl⟩, rfl, by decide⟩ (fx_t30 fx) rfl rfl (Nat.le_of_ble_eq_true rfl) ?_
                      refine in_156 (Nat.le_of_ble_eq_true rfl) ?_
                      show WR _ cd_156 0 [some (.ref (ad 30)), some (.int 2)] [] (sI (sI h (ad 0) 6 0) (ad 0) 6 (-12)) _
                      refine r_aload rfl rfl ?_
                      refine r_ic (x := (-10)) rfl rfl ?_
                      refine r_iload rfl rfl ?_
                      refine r_isub rfl ?_
                      refine WR_tI (y := (-12)) rfl ?_
                      refine r_cv (y := 154) (ra := [.int (-12)]) (rest := []) rfl ⟨⟨rfl, rfl⟩, rfl, by decide⟩ (fx_t30 fx) rfl rfl (Nat.le_of_ble_eq_true rfl) ?_
                      refine in_154 (Nat.le_of_ble_eq_true rfl) ?_
                      show WR _ cd_154 0 [some (.ref (ad 30)), some (.int (-12))] [] (sI (sI h (ad 0) 6 0) (ad 0) 6 (-12)) _
                      refine r_aload rfl rfl ?_
                      refine r_iload rfl rfl ?_
                      refine r_ic (x := (-1)) rfl rfl ?_
                      refine r_icmp_ge (tg := 10) rfl rfl (fun q => absurd q (by decide)) (fun _ => ?_)
                      refine r_iload rfl rfl ?_
                      refine r_goto (tg := 11) rfl rfl ?_
                      refine r_putI rfl ⟨rfl, rfl, rfl⟩ (fx_t30 fx) ?_
                      have fx : FX n ad sa z0 (sI (sI (sI h (ad 0) 6 0) (ad 0) 6 (-12)) (ad 30) 11 (-12)) := (FX.sI fx)
                      refine r_iload rfl rfl ?_
                      refine r_iret rfl ?_
                      show WR _ cd_156 8 [some (.ref (ad 30)), some (.int 2)] [.int (-12)] (sI (sI (sI h (ad 0) 6 0) (ad 0) 6 (-12)) (ad 30) 11 (-12)) _
                      refine r_iret rfl ?_
                      show WR _ cd_179 174 [some (.ref (ad 30)), some (.int c), some (.int i), some (.int d), some (.int j), some (.int m), some (.int (nI t7)), some (.int (nI t23)), none, none, none] [.int (-12)] (sI (sI (sI h (ad 0) 6 0) (ad 0) 6 (-12)) (ad 30) 11 (-12)) _
                      refine r_iret rfl ?_
                      exact ⟨rfl, Rel.why r (((Chg.rf.sI (fx_j fx) (.inl (by decide))).sI (fx_j fx) (.inl (by decide))).sI (fx_j fx) (.inl (by decide))) ⟨rfl, by decide⟩ (Eq.trans (Eq.trans (I_ne (fx_ne fx (by decide))) I_eq) (Eq.symm I_eq)), (by (try simp only [hZ_sI, hZ_sL, hZ_sD, hZ_sR]); omega), (by (try simp only [hU_sI, hU_sL, hU_sD, hU_sR]); omega)⟩
                    · refine r_iload rfl rfl ?_
                      refine r_if_lt (tg := 22) rfl rfl (fun q => False.elim (by have := i_nlt c24; have := i_rg i; have : (0 : Int32).toInt = 0 := rfl; have := i_nlt c25; have := i_rg m; have := i_eq ek28; have : (nI k28).toInt = ((k28 : Nat) : Int) := nI_toInt (by omega); have := i_eq ek29; have : (nI k29).toInt = ((k29 : Nat) : Int) := nI_toInt (by omega); have := i_nlt c30; have : (nI sz7).toInt = ((sz7 : Nat) : Int) := nI_toInt (by omega); have := sub_t (x := nI sz7) (y := nI k29) (by have := i_nlt c24; have := i_rg i; have : (0 : Int32).toInt = 0 := rfl; have := i_eq ek29; have : (nI k29).toInt = ((k29 : Nat) : Int) := nI_toInt (by omega); have : (nI sz7).toInt = ((sz7 : Nat) : Int) := nI_toInt (by omega); omega) (by have := i_nlt c24; have := i_rg i; have : (0 : Int32).toInt = 0 := rfl; have := i_eq ek29; have : (nI k29).toInt = ((k29 : Nat) : Int) := nI_toInt (by omega); have : (nI sz7).toInt = ((sz7 : Nat) : Int) := nI_toInt (by omega); omega); have := i_lt q; omega)) (fun _ => ?_)
                      refine r_iload rfl rfl ?_
                      refine r_aload rfl rfl ?_
                      refine r_cw (y := 35) (ra := []) (rest := [.int (nI k28)]) rfl ⟨rfl, rfl⟩ (by rw [show hT (sI h (ad 0) 6 0) (mid t23) = 6 from tg23]; rfl) rfl rfl (Nat.le_of_ble_eq_true rfl) ?_
                      refine in_35 (Nat.le_of_ble_eq_true rfl) ?_
                      show WR _ cd_35 0 [some (.ref (mid t23))] [] (sI h (ad 0) 6 0) _
                      refine r_aload rfl rfl ?_
                      refine r_getA (b := mid t23 + 1) rfl ⟨rfl, rfl, rfl⟩ tg23 (Eq.trans R_oI r_23) ?_
                      refine r_alen rfl (isA_of tg2_23 (by decide)) ?_
                      refine WR_tI (y := nI sz23) (congrArg nI n_23) ?_
                      refine r_iret rfl ?_
                      show WR _ cd_32 13 [some (.ref (mid t23)), some (.int j), some (.int (nI k28))] [.int (nI sz23), .int (nI k28)] (sI h (ad 0) 6 0) _
                      obtain ⟨k33, hk33, ek33⟩ := ix_of (x := j) (n := 2147483648) (by have := i_nlt c32; have := i_rg j; have : (0 : Int32).toInt = 0 := rfl; omega) (by have := i_nlt c32; have := i_rg j; have : (0 : Int32).toInt = 0 := rfl; omega)
                      refine r_iload rfl rfl ?_
                      refine WR_tI (y := nI k33) ek33 ?_
                      refine r_isub rfl ?_
                      refine r_icmp_gt (tg := 22) rfl rfl (fun c34 => ?_) (fun c34 => ?_)
                      · refine r_ic (x := 0) rfl rfl ?_
                        refine r_zret rfl (.inl rfl) ?_
                        show WR _ cd_51 96 [some (.ref (ad 0)), some (.int c), some (.int i), some (.int d), some (.int j), some (.int m), some (.ref (mid t7)), some (.ref (mid t23)), none] [.int 0] (sI h (ad 0) 6 0) _
                        refine r_if_ne (tg := 106) rfl rfl (fun q => absurd q (by decide)) (fun _ => ?_)
                        refine r_aload rfl rfl ?_
                        refine r_ic (x := (-12)) rfl rfl ?_
                        refine r_cv (y := 13) (ra := [.int (-12)]) (rest := []) rfl ⟨⟨rfl, rfl⟩, rfl, by decide⟩ (fx_t0 fx) rfl rfl (Nat.le_of_ble_eq_true rfl) ?_
                        refine in_13 (Nat.le_of_ble_eq_true rfl) ?_
                        show WR _ cd_13 0 [some (.ref (ad 0)), some (.int (-12))] [] (sI h (ad 0) 6 0) _
                        refine r_aload rfl rfl ?_
                        refine r_iload rfl rfl ?_
                        refine r_putI rfl ⟨rfl, rfl, rfl⟩ (fx_t0 fx) ?_
                        have fx : FX n ad sa z0 (sI (sI h (ad 0) 6 0) (ad 0) 6 (-12)) := (FX.sI fx)
                        refine r_iload rfl rfl ?_
                        refine r_iret rfl ?_
                        show WR _ cd_51 105 [some (.ref (ad 0)), some (.int c), some (.int i), some (.int d), some (.int j), some (.int m), some (.ref (mid t7)), some (.ref (mid t23)), none] [.int (-12)] (sI (sI h (ad 0) 6 0) (ad 0) 6 (-12)) _
                        refine r_iret rfl ?_
                        show EV _ 179 [.ref (ad 30), .int c, .int i, .int d, .int j, .int m] (sI (sI h (ad 0) 6 0) (ad 0) 6 (-12)) _
                        refine in_179 (Nat.le_of_ble_eq_true rfl) ?_
                        show WR _ cd_179 0 [some (.ref (ad 30)), some (.int c), some (.int i), some (.int d), some (.int j), some (.int m), none, none, none, none, none] [] (sI (sI h (ad 0) 6 0) (ad 0) 6 (-12)) _
                        refine r_iload rfl rfl ?_
                        refine WR_tI (y := nI k2) ek2 ?_
                        refine r_cs (y := 153) (ra := [.int (nI k2)]) (rest := []) rfl ⟨⟨rfl, rfl⟩, by decide⟩ rfl rfl (Nat.le_of_ble_eq_true rfl) ?_
                        refine in_153 (Nat.le_of_ble_eq_true rfl) ?_
                        show WR _ cd_153 0 [some (.int (nI k2))] [] (sI (sI h (ad 0) 6 0) (ad 0) 6 (-12)) _
                        refine r_iload rfl rfl ?_
                        refine r_if_lt (tg := 14) rfl rfl (fun q => False.elim (by have := i_nlt c1; have := i_rg c; have : (0 : Int32).toInt = 0 := rfl; have := i_eq ek2; have : (nI k2).toInt = ((k2 : Nat) : Int) := nI_toInt (by omega); have := i_nle c3; have : (24 : Int32).toInt = 24 := rfl; have := i_lt q; omega)) (fun _ => ?_)
                        refine r_iload rfl rfl ?_
                        refine r_ic (x := 24) rfl rfl ?_
                        refine r_icmp_ge (tg := 14) rfl rfl (fun q => False.elim (by have := i_nlt c1; have := i_rg c; have : (0 : Int32).toInt = 0 := rfl; have := i_eq ek2; have : (nI k2).toInt = ((k2 : Nat) : Int) := nI_toInt (by omega); have := i_nle c3; have : (24 : Int32).toInt = 24 := rfl; have := i_le q; omega)) (fun _ => ?_)
                        refine r_ic (x := 1) rfl rfl ?_
                        refine r_goto (tg := 15) rfl rfl ?_
                        refine r_zret rfl (.inr rfl) ?_
                        show WR _ cd_179 4 [some (.ref (ad 30)), some (.int c), some (.int i), some (.int d), some (.int j), some (.int m), none, none, none, none, none] [.int 1] (sI (sI h (ad 0) 6 0) (ad 0) 6 (-12)) _
                        refine r_if_eq (tg := 14) rfl rfl (fun q => absurd q (by decide)) (fun _ => ?_)
                        refine r_iload rfl rfl ?_
                        refine WR_tI (y := nI k5) ek5 ?_
                        refine r_cs (y := 153) (ra := [.int (nI k5)]) (rest := []) rfl ⟨⟨rfl, rfl⟩, by decide⟩ rfl rfl (Nat.le_of_ble_eq_true rfl) ?_
                        refine in_153 (Nat.le_of_ble_eq_true rfl) ?_
                        show WR _ cd_153 0 [some (.int (nI k5))] [] (sI (sI h (ad 0) 6 0) (ad 0) 6 (-12)) _
                        refine r_iload rfl rfl ?_
                        refine r_if_lt (tg := 14) rfl rfl (fun q => False.elim (by have := i_nlt c4; have := i_rg d; have : (0 : Int32).toInt = 0 := rfl; have := i_eq ek5; have : (nI k5).toInt = ((k5 : Nat) : Int) := nI_toInt (by omega); have := i_nle c6; have : (24 : Int32).toInt = 24 := rfl; have := i_lt q; omega)) (fun _ => ?_)
                        refine r_iload rfl rfl ?_
                        refine r_ic (x := 24) rfl rfl ?_
                        refine r_icmp_ge (tg := 14) rfl rfl (fun q => False.elim (by have := i_nlt c4; have := i_rg d; have : (0 : Int32).toInt = 0 := rfl; have := i_eq ek5; have : (nI k5).toInt = ((k5 : Nat) : Int) := nI_toInt (by omega); have := i_nle c6; have : (24 : Int32).toInt = 24 := rfl; have := i_le q; omega)) (fun _ => ?_)
                        refine r_ic (x := 1) rfl rfl ?_
                        refine r_goto (tg := 15) rfl rfl ?_
                        refine r_zret rfl (.inr rfl) ?_
                        show WR _ cd_179 11 [some (.ref (ad 30)), some (.int c), some (.int i), some (.int d), some (.int j), some (.int m), none, none, none, none, none] [.int 1] (sI (sI h (ad 0) 6 0) (ad 0) 6 (-12)) _
                        refine r_if_ne (tg := 21) rfl rfl (fun _ => ?_) (fun q => absurd q (by decide))
                        refine r_aload rfl rfl ?_
                        refine r_getA (b := ad 31) rfl ⟨rfl, rfl, rfl⟩ (fx_t30 fx) (fx_r30_0 fx) ?_
                        refine r_iload rfl rfl ?_
                        refine WR_tI (y := nI k2) ek2 ?_
                        refine r_iaload rfl (.inl (fx_t31 fx)) (vp_ct (fx_n31 fx) (vp_in_nI (by have := i_nlt c1; have := i_rg c; have : (0 : Int32).toInt = 0 := rfl; have := i_eq ek2; have : (nI k2).toInt = ((k2 : Nat) : Int) := nI_toInt (by omega); have := i_nle c3; have : (24 : Int32).toInt = 24 := rfl; omega) (by omega))) ?_
                        refine WR_tI (congrArg (hI (sI (sI h (ad 0) 6 0) (ad 0) 6 (-12)) (ad 31)) ((nI_clamp (by have := i_nlt c1; have := i_rg c; have : (0 : Int32).toInt = 0 := rfl; have := i_eq ek2; have : (nI k2).toInt = ((k2 : Nat) : Int) := nI_toInt (by omega); have := i_nle c3; have : (24 : Int32).toInt = 24 := rfl; omega)) : _ = k2)) ?_
                        refine WR_tI (y := nI t7) (Eq.trans (I_ne (fx_ne fx (by decide))) (Eq.trans (I_ne (fx_ne fx (by decide))) v7)) ?_
                        refine r_istore (lv' := [some (.ref (ad 30)), some (.int c), some (.int i), some (.int d), some (.int j), some (.int m), some (.int (nI t7)), none, none, none, none]) rfl (Nat.le_of_ble_eq_true rfl) rfl ?_
                        refine r_aload rfl rfl ?_
                        refine r_getA (b := ad 31) rfl ⟨rfl, rfl, rfl⟩ (fx_t30 fx) (fx_r30_0 fx) ?_
                        refine r_iload rfl rfl ?_
                        refine WR_tI (y := nI k5) ek5 ?_
                        refine r_iaload rfl (.inl (fx_t31 fx)) (vp_ct (fx_n31 fx) (vp_in_nI (by have := i_nlt c4; have := i_rg d; have : (0 : Int32).toInt = 0 := rfl; have := i_eq ek5; have : (nI k5).toInt = ((k5 : Nat) : Int) := nI_toInt (by omega); have := i_nle c6; have : (24 : Int32).toInt = 24 := rfl; omega) (by omega))) ?_
                        refine WR_tI (congrArg (hI (sI (sI h (ad 0) 6 0) (ad 0) 6 (-12)) (ad 31)) ((nI_clamp (by have := i_nlt c4; have := i_rg d; have : (0 : Int32).toInt = 0 := rfl; have := i_eq ek5; have : (nI k5).toInt = ((k5 : Nat) : Int) := nI_toInt (by omega); have := i_nle c6; have : (24 : Int32).toInt = 24 := rfl; omega)) : _ = k5)) ?_
                        refine WR_tI (y := nI t23) (Eq.trans (I_ne (fx_ne fx (by decide))) (Eq.trans (I_ne (fx_ne fx (by decide))) v23)) ?_
                        refine r_istore (lv' := [some (.ref (ad 30)), some (.int c), some (.int i), some (.int d), some (.int j), some (.int m), some (.int (nI t7)), some (.int (nI t23)), none, none, none]) rfl (Nat.le_of_ble_eq_true rfl) rfl ?_
                        refine r_iload rfl rfl ?_
                        refine r_ic (x := (-1)) rfl rfl ?_
                        refine r_icmp_eq (tg := 49) rfl rfl (fun q => False.elim (by have : (nI t7).toInt = ((t7 : Nat) : Int) := nI_toInt (by omega); have : (-1 : Int32).toInt = -1 := rfl; have := i_eq q; omega)) (fun _ => ?_)
                        refine r_iload rfl rfl ?_
                        refine r_ic (x := (-1)) rfl rfl ?_
                        refine r_icmp_ne (tg := 55) rfl rfl (fun _ => ?_) (fun q => False.elim (by have : (nI t23).toInt = ((t23 : Nat) : Int) := nI_toInt (by omega); have : (-1 : Int32).toInt = -1 := rfl; have := i_eq q; omega))
                        refine r_iload rfl rfl ?_
                        refine r_ic (x := 1000) rfl rfl ?_
                        refine r_icmp_ge (tg := 112) rfl rfl (fun q => False.elim (by have : (nI t7).toInt = ((t7 : Nat) : Int) := nI_toInt (by omega); have : (1000 : Int32).toInt = 1000 := rfl; have := i_le q; omega)) (fun _ => ?_)
                        refine r_iload rfl rfl ?_
                        refine r_ic (x := 1000) rfl rfl ?_
                        refine r_icmp_ge (tg := 112) rfl rfl (fun q => False.elim (by have : (nI t23).toInt = ((t23 : Nat) : Int) := nI_toInt (by omega); have : (1000 : Int32).toInt = 1000 := rfl; have := i_le q; omega)) (fun _ => ?_)
                        refine r_aload rfl rfl ?_
                        refine r_getA (b := ad 33) rfl ⟨rfl, rfl, rfl⟩ (fx_t30 fx) (fx_r30_2 fx) ?_
                        refine r_iload rfl rfl ?_
                        refine r_iaload rfl (.inl (fx_t33 fx)) (vp_ct (fx_n33 fx) (vp_in_nI (by omega) (by omega))) ?_
                        refine WR_tI (congrArg (hI (sI (sI h (ad 0) 6 0) (ad 0) 6 (-12)) (ad 33)) ((nI_clamp (by omega)) : _ = t7)) ?_
                        refine WR_tI (y := 8) (Eq.trans (I_ne (fx_ne fx (by decide))) (Eq.trans (I_ne (fx_ne fx (by decide))) l2_7)) ?_
                        refine r_aload rfl rfl ?_
                        refine r_getA (b := ad 33) rfl ⟨rfl, rfl, rfl⟩ (fx_t30 fx) (fx_r30_2 fx) ?_
                        refine r_iload rfl rfl ?_
                        refine r_iaload rfl (.inl (fx_t33 fx)) (vp_ct (fx_n33 fx) (vp_in_nI (by omega) (by omega))) ?_
                        refine WR_tI (congrArg (hI (sI (sI h (ad 0) 6 0) (ad 0) 6 (-12)) (ad 33)) ((nI_clamp (by omega)) : _ = t23)) ?_
                        refine WR_tI (y := 8) (Eq.trans (I_ne (fx_ne fx (by decide))) (Eq.trans (I_ne (fx_ne fx (by decide))) l2_23)) ?_
                        refine r_icmp_eq (tg := 118) rfl rfl (fun _ => ?_) (fun q => absurd q (by decide))
                        refine r_iload rfl rfl ?_
                        refine WR_tI (y := nI k29) ek29 ?_
                        refine r_if_lt (tg := 169) rfl rfl (fun q => False.elim (by have := i_nlt c24; have := i_rg i; have : (0 : Int32).toInt = 0 := rfl; have := i_nlt c25; have := i_rg m; have := i_eq ek28; have : (nI k28).toInt = ((k28 : Nat) : Int) := nI_toInt (by omega); have := i_eq ek29; have : (nI k29).toInt = ((k29 : Nat) : Int) := nI_toInt (by omega); have := i_nlt c30; have : (nI sz7).toInt = ((sz7 : Nat) : Int) := nI_toInt (by omega); have := sub_t (x := nI sz7) (y := nI k29) (by have := i_nlt c24; have := i_rg i; have : (0 : Int32).toInt = 0 := rfl; have := i_eq ek29; have : (nI k29).toInt = ((k29 : Nat) : Int) := nI_toInt (by omega); have : (nI sz7).toInt = ((sz7 : Nat) : Int) := nI_toInt (by omega); omega) (by have := i_nlt c24; have := i_rg i; have : (0 : Int32).toInt = 0 := rfl; have := i_eq ek29; have : (nI k29).toInt = ((k29 : Nat) : Int) := nI_toInt (by omega); have : (nI sz7).toInt = ((sz7 : Nat) : Int) := nI_toInt (by omega); omega); have := i_nlt c32; have := i_rg j; have := i_eq ek33; have : (nI k33).toInt = ((k33 : Nat) : Int) := nI_toInt (by omega); have := i_lt c34; have : (nI sz23).toInt = ((sz23 : Nat) : Int) := nI_toInt (by omega); have := sub_t (x := nI sz23) (y := nI k33) (by have := i_nlt c32; have := i_rg j; have : (0 : Int32).toInt = 0 := rfl; have := i_eq ek33; have : (nI k33).toInt = ((k33 : Nat) : Int) := nI_toInt (by omega); have : (nI sz23).toInt = ((sz23 : Nat) : Int) := nI_toInt (by omega); omega) (by have := i_nlt c32; have := i_rg j; have : (0 : Int32).toInt = 0 := rfl; have := i_eq ek33; have : (nI k33).toInt = ((k33 : Nat) : Int) := nI_toInt (by omega); have : (nI sz23).toInt = ((sz23 : Nat) : Int) := nI_toInt (by omega); omega); have := i_lt q; omega)) (fun _ => ?_)
                        refine r_iload rfl rfl ?_
                        refine WR_tI (y := nI k33) ek33 ?_
                        refine r_if_lt (tg := 169) rfl rfl (fun q => False.elim (by have := i_nlt c24; have := i_rg i; have : (0 : Int32).toInt = 0 := rfl; have := i_nlt c25; have := i_rg m; have := i_eq ek28; have : (nI k28).toInt = ((k28 : Nat) : Int) := nI_toInt (by omega); have := i_eq ek29; have : (nI k29).toInt = ((k29 : Nat) : Int) := nI_toInt (by omega); have := i_nlt c30; have : (nI sz7).toInt = ((sz7 : Nat) : Int) := nI_toInt (by omega); have := sub_t (x := nI sz7) (y := nI k29) (by have := i_nlt c24; have := i_rg i; have : (0 : Int32).toInt = 0 := rfl; have := i_eq ek29; have : (nI k29).toInt = ((k29 : Nat) : Int) := nI_toInt (by omega); have : (nI sz7).toInt = ((sz7 : Nat) : Int) := nI_toInt (by omega); omega) (by have := i_nlt c24; have := i_rg i; have : (0 : Int32).toInt = 0 := rfl; have := i_eq ek29; have : (nI k29).toInt = ((k29 : Nat) : Int) := nI_toInt (by omega); have : (nI sz7).toInt = ((sz7 : Nat) : Int) := nI_toInt (by omega); omega); have := i_nlt c32; have := i_rg j; have := i_eq ek33; have : (nI k33).toInt = ((k33 : Nat) : Int) := nI_toInt (by omega); have := i_lt c34; have : (nI sz23).toInt = ((sz23 : Nat) : Int) := nI_toInt (by omega); have := sub_t (x := nI sz23) (y := nI k33) (by have := i_nlt c32; have := i_rg j; have : (0 : Int32).toInt = 0 := rfl; have := i_eq ek33; have : (nI k33).toInt = ((k33 : Nat) : Int) := nI_toInt (by omega); have : (nI sz23).toInt = ((sz23 : Nat) : Int) := nI_toInt (by omega); omega) (by have := i_nlt c32; have := i_rg j; have : (0 : Int32).toInt = 0 := rfl; have := i_eq ek33; have : (nI k33).toInt = ((k33 : Nat) : Int) := nI_toInt (by omega); have : (nI sz23).toInt = ((sz23 : Nat) : Int) := nI_toInt (by omega); omega); have := i_lt q; omega)) (fun _ => ?_)
                        refine r_iload rfl rfl ?_
                        refine WR_tI (y := nI k28) ek28 ?_
                        refine r_if_lt (tg := 169) rfl rfl (fun q => False.elim (by have := i_nlt c24; have := i_rg i; have : (0 : Int32).toInt = 0 := rfl; have := i_nlt c25; have := i_rg m; have := i_eq ek28; have : (nI k28).toInt = ((k28 : Nat) : Int) := nI_toInt (by omega); have := i_eq ek29; have : (nI k29).toInt = ((k29 : Nat) : Int) := nI_toInt (by omega); have := i_nlt c30; have : (nI sz7).toInt = ((sz7 : Nat) : Int) := nI_toInt (by omega); have := sub_t (x := nI sz7) (y := nI k29) (by have := i_nlt c24; have := i_rg i; have : (0 : Int32).toInt = 0 := rfl; have := i_eq ek29; have : (nI k29).toInt = ((k29 : Nat) : Int) := nI_toInt (by omega); have : (nI sz7).toInt = ((sz7 : Nat) : Int) := nI_toInt (by omega); omega) (by have := i_nlt c24; have := i_rg i; have : (0 : Int32).toInt = 0 := rfl; have := i_eq ek29; have : (nI k29).toInt = ((k29 : Nat) : Int) := nI_toInt (by omega); have : (nI sz7).toInt = ((sz7 : Nat) : Int) := nI_toInt (by omega); omega); have := i_nlt c32; have := i_rg j; have := i_eq ek33; have : (nI k33).toInt = ((k33 : Nat) : Int) := nI_toInt (by omega); have := i_lt c34; have : (nI sz23).toInt = ((sz23 : Nat) : Int) := nI_toInt (by omega); have := sub_t (x := nI sz23) (y := nI k33) (by have := i_nlt c32; have := i_rg j; have : (0 : Int32).toInt = 0 := rfl; have := i_eq ek33; have : (nI k33).toInt = ((k33 : Nat) : Int) := nI_toInt (by omega); have : (nI sz23).toInt = ((sz23 : Nat) : Int) := nI_toInt (by omega); omega) (by have := i_nlt c32; have := i_rg j; have : (0 : Int32).toInt = 0 := rfl; have := i_eq ek33; have : (nI k33).toInt = ((k33 : Nat) : Int) := nI_toInt (by omega); have : (nI sz23).toInt = ((sz23 : Nat) : Int) := nI_toInt (by omega); omega); have := i_lt q; omega)) (fun _ => ?_)
                        refine r_iload rfl rfl ?_
                        refine WR_tI (y := nI k29) ek29 ?_
                        refine r_i2l rfl ?_
                        refine WR_tL (y := lN k29) (nI_l (by have := i_nlt c24; have := i_rg i; have : (0 : Int32).toInt = 0 := rfl; have := i_nlt c25; have := i_rg m; have := i_eq ek28; have : (nI k28).toInt = ((k28 : Nat) : Int) := nI_toInt (by omega); have := i_eq ek29; have : (nI k29).toInt = ((k29 : Nat) : Int) := nI_toInt (by omega); have := i_nlt c30; have : (nI sz7).toInt = ((sz7 : Nat) : Int) := nI_toInt (by omega); have := sub_t (x := nI sz7) (y := nI k29) (by have := i_nlt c24; have := i_rg i; have : (0 : Int32).toInt = 0 := rfl; have := i_eq ek29; have : (nI k29).toInt = ((k29 : Nat) : Int) := nI_toInt (by omega); have : (nI sz7).toInt = ((sz7 : Nat) : Int) := nI_toInt (by omega); omega) (by have := i_nlt c24; have := i_rg i; have : (0 : Int32).toInt = 0 := rfl; have := i_eq ek29; have : (nI k29).toInt = ((k29 : Nat) : Int) := nI_toInt (by omega); have : (nI sz7).toInt = ((sz7 : Nat) : Int) := nI_toInt (by omega); omega); have := i_nlt c32; have := i_rg j; have := i_eq ek33; have : (nI k33).toInt = ((k33 : Nat) : Int) := nI_toInt (by omega); have := i_lt c34; have : (nI sz23).toInt = ((sz23 : Nat) : Int) := nI_toInt (by omega); have := sub_t (x := nI sz23) (y := nI k33) (by have := i_nlt c32; have := i_rg j; have : (0 : Int32).toInt = 0 := rfl; have := i_eq ek33; have : (nI k33).toInt = ((k33 : Nat) : Int) := nI_toInt (by omega); have : (nI sz23).toInt = ((sz23 : Nat) : Int) := nI_toInt (by omega); omega) (by have := i_nlt c32; have := i_rg j; have : (0 : Int32).toInt = 0 := rfl; have := i_eq ek33; have : (nI k33).toInt = ((k33 : Nat) : Int) := nI_toInt (by omega); have : (nI sz23).toInt = ((sz23 : Nat) : Int) := nI_toInt (by omega); omega); omega)) ?_
                        refine r_iload rfl rfl ?_
                        refine WR_tI (y := nI k28) ek28 ?_
                        refine r_i2l rfl ?_
                        refine WR_tL (y := lN k28) (nI_l (by have := i_nlt c24; have := i_rg i; have : (0 : Int32).toInt = 0 := rfl; have := i_nlt c25; have := i_rg m; have := i_eq ek28; have : (nI k28).toInt = ((k28 : Nat) : Int) := nI_toInt (by omega); have := i_eq ek29; have : (nI k29).toInt = ((k29 : Nat) : Int) := nI_toInt (by omega); have := i_nlt c30; have : (nI sz7).toInt = ((sz7 : Nat) : Int) := nI_toInt (by omega); have := sub_t (x := nI sz7) (y := nI k29) (by have := i_nlt c24; have := i_rg i; have : (0 : Int32).toInt = 0 := rfl; have := i_eq ek29; have : (nI k29).toInt = ((k29 : Nat) : Int) := nI_toInt (by omega); have : (nI sz7).toInt = ((sz7 : Nat) : Int) := nI_toInt (by omega); omega) (by have := i_nlt c24; have := i_rg i; have : (0 : Int32).toInt = 0 := rfl; have := i_eq ek29; have : (nI k29).toInt = ((k29 : Nat) : Int) := nI_toInt (by omega); have : (nI sz7).toInt = ((sz7 : Nat) : Int) := nI_toInt (by omega); omega); have := i_nlt c32; have := i_rg j; have := i_eq ek33; have : (nI k33).toInt = ((k33 : Nat) : Int) := nI_toInt (by omega); have := i_lt c34; have : (nI sz23).toInt = ((sz23 : Nat) : Int) := nI_toInt (by omega); have := sub_t (x := nI sz23) (y := nI k33) (by have := i_nlt c32; have := i_rg j; have : (0 : Int32).toInt = 0 := rfl; have := i_eq ek33; have : (nI k33).toInt = ((k33 : Nat) : Int) := nI_toInt (by omega); have : (nI sz23).toInt = ((sz23 : Nat) : Int) := nI_toInt (by omega); omega) (by have := i_nlt c32; have := i_rg j; have : (0 : Int32).toInt = 0 := rfl; have := i_eq ek33; have : (nI k33).toInt = ((k33 : Nat) : Int) := nI_toInt (by omega); have : (nI sz23).toInt = ((sz23 : Nat) : Int) := nI_toInt (by omega); omega); omega)) ?_
                        refine r_ladd rfl ?_
                        refine WR_tL (y := lN (k28 + k29)) (Eq.trans (lN_add k29 k28) (congrArg lN (by omega))) ?_
                        refine r_aload rfl rfl ?_
                        refine r_getA (b := ad 35) rfl ⟨rfl, rfl, rfl⟩ (fx_t30 fx) (fx_r30_4 fx) ?_
                        refine r_iload rfl rfl ?_
                        refine r_iaload rfl (.inl (fx_t35 fx)) (vp_ct (fx_n35 fx) (vp_in_nI (by omega) (by omega))) ?_
                        refine WR_tI (congrArg (hI (sI (sI h (ad 0) 6 0) (ad 0) 6 (-12)) (ad 35)) ((nI_clamp (by omega)) : _ = t7)) ?_
                        refine WR_tI (y := nI sz7) (Eq.trans (I_ne (fx_ne fx (by decide))) (Eq.trans (I_ne (fx_ne fx (by decide))) sz_7)) ?_
                        refine r_i2l rfl ?_
                        refine WR_tL (y := lN sz7) (nI_l (by have := i_nlt c24; have := i_rg i; have : (0 : Int32).toInt = 0 := rfl; have := i_nlt c25; have := i_rg m; have := i_eq ek28; have : (nI k28).toInt = ((k28 : Nat) : Int) := nI_toInt (by omega); have := i_eq ek29; have : (nI k29).toInt = ((k29 : Nat) : Int) := nI_toInt (by omega); have := i_nlt c30; have : (nI sz7).toInt = ((sz7 : Nat) : Int) := nI_toInt (by omega); have := sub_t (x := nI sz7) (y := nI k29) (by have := i_nlt c24; have := i_rg i; have : (0 : Int32).toInt = 0 := rfl; have := i_eq ek29; have : (nI k29).toInt = ((k29 : Nat) : Int) := nI_toInt (by omega); have : (nI sz7).toInt = ((sz7 : Nat) : Int) := nI_toInt (by omega); omega) (by have := i_nlt c24; have := i_rg i; have : (0 : Int32).toInt = 0 := rfl; have := i_eq ek29; have : (nI k29).toInt = ((k29 : Nat) : Int) := nI_toInt (by omega); have : (nI sz7).toInt = ((sz7 : Nat) : Int) := nI_toInt (by omega); omega); have := i_nlt c32; have := i_rg j; have := i_eq ek33; have : (nI k33).toInt = ((k33 : Nat) : Int) := nI_toInt (by omega); have := i_lt c34; have : (nI sz23).toInt = ((sz23 : Nat) : Int) := nI_toInt (by omega); have := sub_t (x := nI sz23) (y := nI k33) (by have := i_nlt c32; have := i_rg j; have : (0 : Int32).toInt = 0 := rfl; have := i_eq ek33; have : (nI k33).toInt = ((k33 : Nat) : Int) := nI_toInt (by omega); have : (nI sz23).toInt = ((sz23 : Nat) : Int) := nI_toInt (by omega); omega) (by have := i_nlt c32; have := i_rg j; have : (0 : Int32).toInt = 0 := rfl; have := i_eq ek33; have : (nI k33).toInt = ((k33 : Nat) : Int) := nI_toInt (by omega); have : (nI sz23).toInt = ((sz23 : Nat) : Int) := nI_toInt (by omega); omega); omega)) ?_
                        refine r_lif_gt (tg := 169) rfl rfl rfl (fun q => False.elim (by have := i_nlt c24; have := i_rg i; have : (0 : Int32).toInt = 0 := rfl; have := i_nlt c25; have := i_rg m; have := i_eq ek28; have : (nI k28).toInt = ((k28 : Nat) : Int) := nI_toInt (by omega); have := i_eq ek29; have : (nI k29).toInt = ((k29 : Nat) : Int) := nI_toInt (by omega); have := i_nlt c30; have : (nI sz7).toInt = ((sz7 : Nat) : Int) := nI_toInt (by omega); have := sub_t (x := nI sz7) (y := nI k29) (by have := i_nlt c24; have := i_rg i; have : (0 : Int32).toInt = 0 := rfl; have := i_eq ek29; have : (nI k29).toInt = ((k29 : Nat) : Int) := nI_toInt (by omega); have : (nI sz7).toInt = ((sz7 : Nat) : Int) := nI_toInt (by omega); omega) (by have := i_nlt c24; have := i_rg i; have : (0 : Int32).toInt = 0 := rfl; have := i_eq ek29; have : (nI k29).toInt = ((k29 : Nat) : Int) := nI_toInt (by omega); have : (nI sz7).toInt = ((sz7 : Nat) : Int) := nI_toInt (by omega); omega); have := i_nlt c32; have := i_rg j; have := i_eq ek33; have : (nI k33).toInt = ((k33 : Nat) : Int) := nI_toInt (by omega); have := i_lt c34; have : (nI sz23).toInt = ((sz23 : Nat) : Int) := nI_toInt (by omega); have := sub_t (x := nI sz23) (y := nI k33) (by have := i_nlt c32; have := i_rg j; have : (0 : Int32).toInt = 0 := rfl; have := i_eq ek33; have : (nI k33).toInt = ((k33 : Nat) : Int) := nI_toInt (by omega); have : (nI sz23).toInt = ((sz23 : Nat) : Int) := nI_toInt (by omega); omega) (by have := i_nlt c32; have := i_rg j; have : (0 : Int32).toInt = 0 := rfl; have := i_eq ek33; have : (nI k33).toInt = ((k33 : Nat) : Int) := nI_toInt (by omega); have : (nI sz23).toInt = ((sz23 : Nat) : Int) := nI_toInt (by omega); omega); have : (lN (k28 + k29)).toInt = ((k28 + k29 : Nat) : Int) := pk_lT (by omega); have : (lN sz7).toInt = ((sz7 : Nat) : Int) := lN_toInt (by omega); have := l_lt q; omega)) (fun _ => ?_)
                        refine r_iload rfl rfl ?_
                        refine WR_tI (y := nI k33) ek33 ?_
                        refine r_i2l rfl ?_
                        refine WR_tL (y := lN k33) (nI_l (by have := i_nlt c24; have := i_rg i; have : (0 : Int32).toInt = 0 := rfl; have := i_nlt c25; have := i_rg m; have := i_eq ek28; have : (nI k28).toInt = ((k28 : Nat) : Int) := nI_toInt (by omega); have := i_eq ek29; have : (nI k29).toInt = ((k29 : Nat) : Int) := nI_toInt (by omega); have := i_nlt c30; have : (nI sz7).toInt = ((sz7 : Nat) : Int) := nI_toInt (by omega); have := sub_t (x := nI sz7) (y := nI k29) (by have := i_nlt c24; have := i_rg i; have : (0 : Int32).toInt = 0 := rfl; have := i_eq ek29; have : (nI k29).toInt = ((k29 : Nat) : Int) := nI_toInt (by omega); have : (nI sz7).toInt = ((sz7 : Nat) : Int) := nI_toInt (by omega); omega) (by have := i_nlt c24; have := i_rg i; have : (0 : Int32).toInt = 0 := rfl; have := i_eq ek29; have : (nI k29).toInt = ((k29 : Nat) : Int) := nI_toInt (by omega); have : (nI sz7).toInt = ((sz7 : Nat) : Int) := nI_toInt (by omega); omega); have := i_nlt c32; have := i_rg j; have := i_eq ek33; have : (nI k33).toInt = ((k33 : Nat) : Int) := nI_toInt (by omega); have := i_lt c34; have : (nI sz23).toInt = ((sz23 : Nat) : Int) := nI_toInt (by omega); have := sub_t (x := nI sz23) (y := nI k33) (by have := i_nlt c32; have := i_rg j; have : (0 : Int32).toInt = 0 := rfl; have := i_eq ek33; have : (nI k33).toInt = ((k33 : Nat) : Int) := nI_toInt (by omega); have : (nI sz23).toInt = ((sz23 : Nat) : Int) := nI_toInt (by omega); omega) (by have := i_nlt c32; have := i_rg j; have : (0 : Int32).toInt = 0 := rfl; have := i_eq ek33; have : (nI k33).toInt = ((k33 : Nat) : Int) := nI_toInt (by omega); have : (nI sz23).toInt = ((sz23 : Nat) : Int) := nI_toInt (by omega); omega); omega)) ?_
                        refine r_iload rfl rfl ?_
                        refine WR_tI (y := nI k28) ek28 ?_
                        refine r_i2l rfl ?_
                        refine WR_tL (y := lN k28) (nI_l (by have := i_nlt c24; have := i_rg i; have : (0 : Int32).toInt = 0 := rfl; have := i_nlt c25; have := i_rg m; have := i_eq ek28; have : (nI k28).toInt = ((k28 : Nat) : Int) := nI_toInt (by omega); have := i_eq ek29; have : (nI k29).toInt = ((k29 : Nat) : Int) := nI_toInt (by omega); have := i_nlt c30; have : (nI sz7).toInt = ((sz7 : Nat) : Int) := nI_toInt (by omega); have := sub_t (x := nI sz7) (y := nI k29) (by have := i_nlt c24; have := i_rg i; have : (0 : Int32).toInt = 0 := rfl; have := i_eq ek29; have : (nI k29).toInt = ((k29 : Nat) : Int) := nI_toInt (by omega); have : (nI sz7).toInt = ((sz7 : Nat) : Int) := nI_toInt (by omega); omega) (by have := i_nlt c24; have := i_rg i; have : (0 : Int32).toInt = 0 := rfl; have := i_eq ek29; have : (nI k29).toInt = ((k29 : Nat) : Int) := nI_toInt (by omega); have : (nI sz7).toInt = ((sz7 : Nat) : Int) := nI_toInt (by omega); omega); have := i_nlt c32; have := i_rg j; have := i_eq ek33; have : (nI k33).toInt = ((k33 : Nat) : Int) := nI_toInt (by omega); have := i_lt c34; have : (nI sz23).toInt = ((sz23 : Nat) : Int) := nI_toInt (by omega); have := sub_t (x := nI sz23) (y := nI k33) (by have := i_nlt c32; have := i_rg j; have : (0 : Int32).toInt = 0 := rfl; have := i_eq ek33; have : (nI k33).toInt = ((k33 : Nat) : Int) := nI_toInt (by omega); have : (nI sz23).toInt = ((sz23 : Nat) : Int) := nI_toInt (by omega); omega) (by have := i_nlt c32; have := i_rg j; have : (0 : Int32).toInt = 0 := rfl; have := i_eq ek33; have : (nI k33).toInt = ((k33 : Nat) : Int) := nI_toInt (by omega); have : (nI sz23).toInt = ((sz23 : Nat) : Int) := nI_toInt (by omega); omega); omega)) ?_
                        refine r_ladd rfl ?_
                        refine WR_tL (y := lN (k28 + k33)) (Eq.trans (lN_add k33 k28) (congrArg lN (by omega))) ?_
                        refine r_aload rfl rfl ?_
                        refine r_getA (b := ad 35) rfl ⟨rfl, rfl, rfl⟩ (fx_t30 fx) (fx_r30_4 fx) ?_
                        refine r_iload rfl rfl ?_
                        refine r_iaload rfl (.inl (fx_t35 fx)) (vp_ct (fx_n35 fx) (vp_in_nI (by omega) (by omega))) ?_
                        refine WR_tI (congrArg (hI (sI (sI h (ad 0) 6 0) (ad 0) 6 (-12)) (ad 35)) ((nI_clamp (by omega)) : _ = t23)) ?_
                        refine WR_tI (y := nI sz23) (Eq.trans (I_ne (fx_ne fx (by decide))) (Eq.trans (I_ne (fx_ne fx (by decide))) sz_23)) ?_
                        refine r_i2l rfl ?_
                        refine WR_tL (y := lN sz23) (nI_l (by have := i_nlt c24; have := i_rg i; have : (0 : Int32).toInt = 0 := rfl; have := i_nlt c25; have := i_rg m; have := i_eq ek28; have : (nI k28).toInt = ((k28 : Nat) : Int) := nI_toInt (by omega); have := i_eq ek29; have : (nI k29).toInt = ((k29 : Nat) : Int) := nI_toInt (by omega); have := i_nlt c30; have : (nI sz7).toInt = ((sz7 : Nat) : Int) := nI_toInt (by omega); have := sub_t (x := nI sz7) (y := nI k29) (by have := i_nlt c24; have := i_rg i; have : (0 : Int32).toInt = 0 := rfl; have := i_eq ek29; have : (nI k29).toInt = ((k29 : Nat) : Int) := nI_toInt (by omega); have : (nI sz7).toInt = ((sz7 : Nat) : Int) := nI_toInt (by omega); omega) (by have := i_nlt c24; have := i_rg i; have : (0 : Int32).toInt = 0 := rfl; have := i_eq ek29; have : (nI k29).toInt = ((k29 : Nat) : Int) := nI_toInt (by omega); have : (nI sz7).toInt = ((sz7 : Nat) : Int) := nI_toInt (by omega); omega); have := i_nlt c32; have := i_rg j; have := i_eq ek33; have : (nI k33).toInt = ((k33 : Nat) : Int) := nI_toInt (by omega); have := i_lt c34; have : (nI sz23).toInt = ((sz23 : Nat) : Int) := nI_toInt (by omega); have := sub_t (x := nI sz23) (y := nI k33) (by have := i_nlt c32; have := i_rg j; have : (0 : Int32).toInt = 0 := rfl; have := i_eq ek33; have : (nI k33).toInt = ((k33 : Nat) : Int) := nI_toInt (by omega); have : (nI sz23).toInt = ((sz23 : Nat) : Int) := nI_toInt (by omega); omega) (by have := i_nlt c32; have := i_rg j; have : (0 : Int32).toInt = 0 := rfl; have := i_eq ek33; have : (nI k33).toInt = ((k33 : Nat) : Int) := nI_toInt (by omega); have : (nI sz23).toInt = ((sz23 : Nat) : Int) := nI_toInt (by omega); omega); omega)) ?_
                        refine r_lif_le (tg := 175) rfl rfl rfl (fun q => False.elim (by have := i_nlt c24; have := i_rg i; have : (0 : Int32).toInt = 0 := rfl; have := i_nlt c25; have := i_rg m; have := i_eq ek28; have : (nI k28).toInt = ((k28 : Nat) : Int) := nI_toInt (by omega); have := i_eq ek29; have : (nI k29).toInt = ((k29 : Nat) : Int) := nI_toInt (by omega); have := i_nlt c30; have : (nI sz7).toInt = ((sz7 : Nat) : Int) := nI_toInt (by omega); have := sub_t (x := nI sz7) (y := nI k29) (by have := i_nlt c24; have := i_rg i; have : (0 : Int32).toInt = 0 := rfl; have := i_eq ek29; have : (nI k29).toInt = ((k29 : Nat) : Int) := nI_toInt (by omega); have : (nI sz7).toInt = ((sz7 : Nat) : Int) := nI_toInt (by omega); omega) (by have := i_nlt c24; have := i_rg i; have : (0 : Int32).toInt = 0 := rfl; have := i_eq ek29; have : (nI k29).toInt = ((k29 : Nat) : Int) := nI_toInt (by omega); have : (nI sz7).toInt = ((sz7 : Nat) : Int) := nI_toInt (by omega); omega); have := i_nlt c32; have := i_rg j; have := i_eq ek33; have : (nI k33).toInt = ((k33 : Nat) : Int) := nI_toInt (by omega); have := i_lt c34; have : (nI sz23).toInt = ((sz23 : Nat) : Int) := nI_toInt (by omega); have := sub_t (x := nI sz23) (y := nI k33) (by have := i_nlt c32; have := i_rg j; have : (0 : Int32).toInt = 0 := rfl; have := i_eq ek33; have : (nI k33).toInt = ((k33 : Nat) : Int) := nI_toInt (by omega); have : (nI sz23).toInt = ((sz23 : Nat) : Int) := nI_toInt (by omega); omega) (by have := i_nlt c32; have := i_rg j; have : (0 : Int32).toInt = 0 := rfl; have := i_eq ek33; have : (nI k33).toInt = ((k33 : Nat) : Int) := nI_toInt (by omega); have : (nI sz23).toInt = ((sz23 : Nat) : Int) := nI_toInt (by omega); omega); have : (lN (k28 + k33)).toInt = ((k28 + k33 : Nat) : Int) := pk_lT (by omega); have : (lN sz23).toInt = ((sz23 : Nat) : Int) := lN_toInt (by omega); have := l_le q; omega)) (fun _ => ?_)
                        refine r_aload rfl rfl ?_
                        refine r_ic (x := 2) rfl rfl ?_
                        refine r_cv (y := 156) (ra := [.int 2]) (rest := []) rfl ⟨⟨rfl, rfl⟩, rfl, by decide⟩ (fx_t30 fx) rfl rfl (Nat.le_of_ble_eq_true rfl) ?_
                        refine in_156 (Nat.le_of_ble_eq_true rfl) ?_
                        show WR _ cd_156 0 [some (.ref (ad 30)), some (.int 2)] [] (sI (sI h (ad 0) 6 0) (ad 0) 6 (-12)) _
                        refine r_aload rfl rfl ?_
                        refine r_ic (x := (-10)) rfl rfl ?_
                        refine r_iload rfl rfl ?_
                        refine r_isub rfl ?_
                        refine WR_tI (y := (-12)) rfl ?_
                        refine r_cv (y := 154) (ra := [.int (-12)]) (rest := []) rfl ⟨⟨rfl, rfl⟩, rfl, by decide⟩ (fx_t30 fx) rfl rfl (Nat.le_of_ble_eq_true rfl) ?_
                        refine in_154 (Nat.le_of_ble_eq_true rfl) ?_
                        show WR _ cd_154 0 [some (.ref (ad 30)), some (.int (-12))] [] (sI (sI h (ad 0) 6 0) (ad 0) 6 (-12)) _
                        refine r_aload rfl rfl ?_
                        refine r_iload rfl rfl ?_
                        refine r_ic (x := (-1)) rfl rfl ?_
                        refine r_icmp_ge (tg := 10) rfl rfl (fun q => absurd q (by decide)) (fun _ => ?_)
                        refine r_iload rfl rfl ?_
                        refine r_goto (tg := 11) rfl rfl ?_
                        refine r_putI rfl ⟨rfl, rfl, rfl⟩ (fx_t30 fx) ?_
                        have fx : FX n ad sa z0 (sI (sI (sI h (ad 0) 6 0) (ad 0) 6 (-12)) (ad 30) 11 (-12)) := (FX.sI fx)
                        refine r_iload rfl rfl ?_
                        refine r_iret rfl ?_
                        show WR _ cd_156 8 [some (.ref (ad 30)), some (.int 2)] [.int (-12)] (sI (sI (sI h (ad 0) 6 0) (ad 0) 6 (-12)) (ad 30) 11 (-12)) _
                        refine r_iret rfl ?_
                        show WR _ cd_179 174 [some (.ref (ad 30)), some (.int c), some (.int i), some (.int d), some (.int j), some (.int m), some (.int (nI t7)), some (.int (nI t23)), none, none, none] [.int (-12)] (sI (sI (sI h (ad 0) 6 0) (ad 0) 6 (-12)) (ad 30) 11 (-12)) _
                        refine r_iret rfl ?_
                        exact ⟨rfl, Rel.why r (((Chg.rf.sI (fx_j fx) (.inl (by decide))).sI (fx_j fx) (.inl (by decide))).sI (fx_j fx) (.inl (by decide))) ⟨rfl, by decide⟩ (Eq.trans (Eq.trans (I_ne (fx_ne fx (by decide))) I_eq) (Eq.symm I_eq)), (by (try simp only [hZ_sI, hZ_sL, hZ_sD, hZ_sR]); omega), (by (try simp only [hU_sI, hU_sL, hU_sD, hU_sR]); omega)⟩
                      · refine r_ic (x := 1) rfl rfl ?_
                        refine r_goto (tg := 23) rfl rfl ?_
                        refine r_zret rfl (.inr rfl) ?_
                        show WR _ cd_51 96 [some (.ref (ad 0)), some (.int c), some (.int i), some (.int d), some (.int j), some (.int m), some (.ref (mid t7)), some (.ref (mid t23)), none] [.int 1] (sI h (ad 0) 6 0) _
                        refine r_if_ne (tg := 106) rfl rfl (fun _ => ?_) (fun q => absurd q (by decide))
                        have b0 : k2 < 24 := (by have := i_nlt c1; have := i_rg c; have : (0 : Int32).toInt = 0 := rfl; have := i_eq ek2; have : (nI k2).toInt = ((k2 : Nat) : Int) := nI_toInt (by omega); have := i_nle c3; have : (24 : Int32).toInt = 24 := rfl; omega)
                        have b1 : k5 < 24 := (by have := i_nlt c4; have := i_rg d; have : (0 : Int32).toInt = 0 := rfl; have := i_eq ek5; have : (nI k5).toInt = ((k5 : Nat) : Int) := nI_toInt (by omega); have := i_nle c6; have : (24 : Int32).toInt = 24 := rfl; omega)
                        have b2 : k29 + k28 ≤ sz7 := (by have := i_nlt c24; have := i_rg i; have : (0 : Int32).toInt = 0 := rfl; have := i_nlt c25; have := i_rg m; have := i_eq ek28; have : (nI k28).toInt = ((k28 : Nat) : Int) := nI_toInt (by omega); have := i_eq ek29; have : (nI k29).toInt = ((k29 : Nat) : Int) := nI_toInt (by omega); have := i_nlt c30; have : (nI sz7).toInt = ((sz7 : Nat) : Int) := nI_toInt (by omega); have := sub_t (x := nI sz7) (y := nI k29) (by have := i_nlt c24; have := i_rg i; have : (0 : Int32).toInt = 0 := rfl; have := i_eq ek29; have : (nI k29).toInt = ((k29 : Nat) : Int) := nI_toInt (by omega); have : (nI sz7).toInt = ((sz7 : Nat) : Int) := nI_toInt (by omega); omega) (by have := i_nlt c24; have := i_rg i; have : (0 : Int32).toInt = 0 := rfl; have := i_eq ek29; have : (nI k29).toInt = ((k29 : Nat) : Int) := nI_toInt (by omega); have : (nI sz7).toInt = ((sz7 : Nat) : Int) := nI_toInt (by omega); omega); have := i_nlt c32; have := i_rg j; have := i_eq ek33; have : (nI k33).toInt = ((k33 : Nat) : Int) := nI_toInt (by omega); have := i_nlt c34; have : (nI sz23).toInt = ((sz23 : Nat) : Int) := nI_toInt (by omega); have := sub_t (x := nI sz23) (y := nI k33) (by have := i_nlt c32; have := i_rg j; have : (0 : Int32).toInt = 0 := rfl; have := i_eq ek33; have : (nI k33).toInt = ((k33 : Nat) : Int) := nI_toInt (by omega); have : (nI sz23).toInt = ((sz23 : Nat) : Int) := nI_toInt (by omega); omega) (by have := i_nlt c32; have := i_rg j; have : (0 : Int32).toInt = 0 := rfl; have := i_eq ek33; have : (nI k33).toInt = ((k33 : Nat) : Int) := nI_toInt (by omega); have : (nI sz23).toInt = ((sz23 : Nat) : Int) := nI_toInt (by omega); omega); omega)
                        have b3 : k33 + k28 ≤ sz23 := (by have := i_nlt c24; have := i_rg i; have : (0 : Int32).toInt = 0 := rfl; have := i_nlt c25; have := i_rg m; have := i_eq ek28; have : (nI k28).toInt = ((k28 : Nat) : Int) := nI_toInt (by omega); have := i_eq ek29; have : (nI k29).toInt = ((k29 : Nat) : Int) := nI_toInt (by omega); have := i_nlt c30; have : (nI sz7).toInt = ((sz7 : Nat) : Int) := nI_toInt (by omega); have := sub_t (x := nI sz7) (y := nI k29) (by have := i_nlt c24; have := i_rg i; have : (0 : Int32).toInt = 0 := rfl; have := i_eq ek29; have : (nI k29).toInt = ((k29 : Nat) : Int) := nI_toInt (by omega); have : (nI sz7).toInt = ((sz7 : Nat) : Int) := nI_toInt (by omega); omega) (by have := i_nlt c24; have := i_rg i; have : (0 : Int32).toInt = 0 := rfl; have := i_eq ek29; have : (nI k29).toInt = ((k29 : Nat) : Int) := nI_toInt (by omega); have : (nI sz7).toInt = ((sz7 : Nat) : Int) := nI_toInt (by omega); omega); have := i_nlt c32; have := i_rg j; have := i_eq ek33; have : (nI k33).toInt = ((k33 : Nat) : Int) := nI_toInt (by omega); have := i_nlt c34; have : (nI sz23).toInt = ((sz23 : Nat) : Int) := nI_toInt (by omega); have := sub_t (x := nI sz23) (y := nI k33) (by have := i_nlt c32; have := i_rg j; have : (0 : Int32).toInt = 0 := rfl; have := i_eq ek33; have : (nI k33).toInt = ((k33 : Nat) : Int) := nI_toInt (by omega); have : (nI sz23).toInt = ((sz23 : Nat) : Int) := nI_toInt (by omega); omega) (by have := i_nlt c32; have := i_rg j; have : (0 : Int32).toInt = 0 := rfl; have := i_eq ek33; have : (nI k33).toInt = ((k33 : Nat) : Int) := nI_toInt (by omega); have : (nI sz23).toInt = ((sz23 : Nat) : Int) := nI_toInt (by omega); omega); omega)
                        subst ek2; subst ek29; subst ek5; subst ek33; subst ek28
                        exact t_cGG fx0 rt ra rp rf rst ru rs b0 b1 ht7 ht23 v7 v23 rw7 rw23 sz_7 sz_23 b2 b3 hs_7 hs_23
            · refine r_aaloadA (b := mid t23) rfl (isQ_of (fx_t1 fx) (by decide)) (vp_ct (fx_n1 fx) (vp_in_nI (by have := i_nlt c4; have := i_rg d; have : (0 : Int32).toInt = 0 := rfl; have := i_eq ek5; have : (nI k5).toInt = ((k5 : Nat) : Int) := nI_toInt (by omega); have := i_nle c6; have : (24 : Int32).toInt = 24 := rfl; omega) (by omega))) (Eq.trans (congrArg (hR (sI h (ad 0) 6 0) (ad 1)) ((nI_clamp (by have := i_nlt c4; have := i_rg d; have : (0 : Int32).toInt = 0 := rfl; have := i_eq ek5; have : (nI k5).toInt = ((k5 : Nat) : Int) := nI_toInt (by omega); have := i_nle c6; have : (24 : Int32).toInt = 24 := rfl; omega)) : _ = k5)) (Eq.trans R_oI w23)) ?_
              refine r_astore (lv' := [some (.ref (ad 0)), some (.int c), some (.int i), some (.int d), some (.int j), some (.int m), some (.ref (mid t7)), some (.ref (mid t23)), none]) rfl (Nat.le_of_ble_eq_true rfl) rfl ?_
              refine r_aload rfl rfl ?_
              refine r_ifnullA (tg := 52) rfl rfl ?_
              refine r_aload rfl rfl ?_
              refine r_ifnonnullA (tg := 59) rfl rfl ?_
              refine r_aload rfl rfl ?_
              refine r_aload rfl rfl ?_
              refine r_cw (y := 54) (ra := [.ref (mid t23)]) (rest := []) rfl ⟨rfl, rfl⟩ (by rw [show hT (sI h (ad 0) 6 0) (mid t7) = 6 from tg7]; rfl) rfl rfl (Nat.le_of_ble_eq_true rfl) ?_
              refine in_54 (Nat.le_of_ble_eq_true rfl) ?_
              show WR _ cd_54 0 [some (.ref (mid t7)), some (.ref (mid t23))] [] (sI h (ad 0) 6 0) _
              refine r_aload rfl rfl ?_
              refine r_instY rfl (by decide) tg23 ?_
              refine r_zret rfl (.inr rfl) ?_
              show WR _ cd_51 66 [some (.ref (ad 0)), some (.int c), some (.int i), some (.int d), some (.int j), some (.int m), some (.ref (mid t7)), some (.ref (mid t23)), none] [.int 1] (sI h (ad 0) 6 0) _
              refine r_if_ne (tg := 76) rfl rfl (fun _ => ?_) (fun q => absurd q (by decide))
              refine r_aload rfl rfl ?_
              refine r_iload rfl rfl ?_
              refine r_iload rfl rfl ?_
              refine r_cw (y := 32) (ra := [.int m, .int i]) (rest := []) rfl ⟨rfl, rfl⟩ (by rw [show hT (sI h (ad 0) 6 0) (mid t7) = 6 from tg7]; rfl) rfl rfl (Nat.le_of_ble_eq_true rfl) ?_
              refine in_32 (Nat.le_of_ble_eq_true rfl) ?_
              show WR _ cd_32 0 [some (.ref (mid t7)), some (.int i), some (.int m)] [] (sI h (ad 0) 6 0) _
              refine r_iload rfl rfl ?_
              refine r_if_lt (tg := 22) rfl rfl (fun c35 => ?_) (fun c35 => ?_)
              · refine r_ic (x := 0) rfl rfl ?_
                refine r_zret rfl (.inl rfl) ?_
                show WR _ cd_51 84 [some (.ref (ad 0)), some (.int c), some (.int i), some (.int d), some (.int j), some (.int m), some (.ref (mid t7)), some (.ref (mid t23)), none] [.int 0] (sI h (ad 0) 6 0) _
                refine r_if_eq (tg := 99) rfl rfl (fun _ => ?_) (fun q => absurd q (by decide))
                refine r_aload rfl rfl ?_
                refine r_ic (x := (-12)) rfl rfl ?_
                refine r_cv (y := 13) (ra := [.int (-12)]) (rest := []) rfl ⟨⟨rfl, rfl⟩, rfl, by decide⟩ (fx_t0 fx) rfl rfl (Nat.le_of_ble_eq_true rfl) ?_
                refine in_13 (Nat.le_of_ble_eq_true rfl) ?_
                show WR _ cd_13 0 [some (.ref (ad 0)), some (.int (-12))] [] (sI h (ad 0) 6 0) _
                refine r_aload rfl rfl ?_
                refine r_iload rfl rfl ?_
                refine r_putI rfl ⟨rfl, rfl, rfl⟩ (fx_t0 fx) ?_
                have fx : FX n ad sa z0 (sI (sI h (ad 0) 6 0) (ad 0) 6 (-12)) := (FX.sI fx)
                refine r_iload rfl rfl ?_
                refine r_iret rfl ?_
                show WR _ cd_51 105 [some (.ref (ad 0)), some (.int c), some (.int i), some (.int d), some (.int j), some (.int m), some (.ref (mid t7)), some (.ref (mid t23)), none] [.int (-12)] (sI (sI h (ad 0) 6 0) (ad 0) 6 (-12)) _
                refine r_iret rfl ?_
                show EV _ 179 [.ref (ad 30), .int c, .int i, .int d, .int j, .int m] (sI (sI h (ad 0) 6 0) (ad 0) 6 (-12)) _
                refine in_179 (Nat.le_of_ble_eq_true rfl) ?_
                show WR _ cd_179 0 [some (.ref (ad 30)), some (.int c), some (.int i), some (.int d), some (.int j), some (.int m), none, none, none, none, none] [] (sI (sI h (ad 0) 6 0) (ad 0) 6 (-12)) _
                refine r_iload rfl rfl ?_
                refine WR_tI (y := nI k2) ek2 ?_
                refine r_cs (y := 153) (ra := [.int (nI k2)]) (rest := []) rfl ⟨⟨rfl, rfl⟩, by decide⟩ rfl rfl (Nat.le_of_ble_eq_true rfl) ?_
                refine in_153 (Nat.le_of_ble_eq_true rfl) ?_
                show WR _ cd_153 0 [some (.int (nI k2))] [] (sI (sI h (ad 0) 6 0) (ad 0) 6 (-12)) _
                refine r_iload rfl rfl ?_
                refine r_if_lt (tg := 14) rfl rfl (fun q => False.elim (by have := i_nlt c1; have := i_rg c; have : (0 : Int32).toInt = 0 := rfl; have := i_eq ek2; have : (nI k2).toInt = ((k2 : Nat) : Int) := nI_toInt (by omega); have := i_nle c3; have : (24 : Int32).toInt = 24 := rfl; have := i_lt q; omega)) (fun _ => ?_)
                refine r_iload rfl rfl ?_
                refine r_ic (x := 24) rfl rfl ?_
                refine r_icmp_ge (tg := 14) rfl rfl (fun q => False.elim (by have := i_nlt c1; have := i_rg c; have : (0 : Int32).toInt = 0 := rfl; have := i_eq ek2; have : (nI k2).toInt = ((k2 : Nat) : Int) := nI_toInt (by omega); have := i_nle c3; have : (24 : Int32).toInt = 24 := rfl; have := i_le q; omega)) (fun _ => ?_)
                refine r_ic (x := 1) rfl rfl ?_
                refine r_goto (tg := 15) rfl rfl ?_
                refine r_zret rfl (.inr rfl) ?_
                show WR _ cd_179 4 [some (.ref (ad 30)), some (.int c), some (.int i), some (.int d), some (.int j), some (.int m), none, none, none, none, none] [.int 1] (sI (sI h (ad 0) 6 0) (ad 0) 6 (-12)) _
                refine r_if_eq (tg := 14) rfl rfl (fun q => absurd q (by decide)) (fun _ => ?_)
                refine r_iload rfl rfl ?_
                refine WR_tI (y := nI k5) ek5 ?_
                refine r_cs (y := 153) (ra := [.int (nI k5)]) (rest := []) rfl ⟨⟨rfl, rfl⟩, by decide⟩ rfl rfl (Nat.le_of_ble_eq_true rfl) ?_
                refine in_153 (Nat.le_of_ble_eq_true rfl) ?_
                show WR _ cd_153 0 [some (.int (nI k5))] [] (sI (sI h (ad 0) 6 0) (ad 0) 6 (-12)) _
                refine r_iload rfl rfl ?_
                refine r_if_lt (tg := 14) rfl rfl (fun q => False.elim (by have := i_nlt c4; have := i_rg d; have : (0 : Int32).toInt = 0 := rfl; have := i_eq ek5; have : (nI k5).toInt = ((k5 : Nat) : Int) := nI_toInt (by omega); have := i_nle c6; have : (24 : Int32).toInt = 24 := rfl; have := i_lt q; omega)) (fun _ => ?_)
                refine r_iload rfl rfl ?_
                refine r_ic (x := 24) rfl rfl ?_
                refine r_icmp_ge (tg := 14) rfl rfl (fun q => False.elim (by have := i_nlt c4; have := i_rg d; have : (0 : Int32).toInt = 0 := rfl; have := i_eq ek5; have : (nI k5).toInt = ((k5 : Nat) : Int) := nI_toInt (by omega); have := i_nle c6; have : (24 : Int32).toInt = 24 := rfl; have := i_le q; omega)) (fun _ => ?_)
                refine r_ic (x := 1) rfl rfl ?_
                refine r_goto (tg := 15) rfl rfl ?_
                refine r_zret rfl (.inr rfl) ?_
                show WR _ cd_179 11 [some (.ref (ad 30)), some (.int c), some (.int i), some (.int d), some (.int j), some (.int m), none, none, none, none, none] [.int 1] (sI (sI h (ad 0) 6 0) (ad 0) 6 (-12)) _
                refine r_if_ne (tg := 21) rfl rfl (fun _ => ?_) (fun q => absurd q (by decide))
                refine r_aload rfl rfl ?_
                refine r_getA (b := ad 31) rfl ⟨rfl, rfl, rfl⟩ (fx_t30 fx) (fx_r30_0 fx) ?_
                refine r_iload rfl rfl ?_
                refine WR_tI (y := nI k2) ek2 ?_
                refine r_iaload rfl (.inl (fx_t31 fx)) (vp_ct (fx_n31 fx) (vp_in_nI (by have := i_nlt c1; have := i_rg c; have : (0 : Int32).toInt = 0 := rfl; have := i_eq ek2; have : (nI k2).toInt = ((k2 : Nat) : Int) := nI_toInt (by omega); have := i_nle c3; have : (24 : Int32).toInt = 24 := rfl; omega) (by omega))) ?_
                refine WR_tI (congrArg (hI (sI (sI h (ad 0) 6 0) (ad 0) 6 (-12)) (ad 31)) ((nI_clamp (by have := i_nlt c1; have := i_rg c; have : (0 : Int32).toInt = 0 := rfl; have := i_eq ek2; have : (nI k2).toInt = ((k2 : Nat) : Int) := nI_toInt (by omega); have := i_nle c3; have : (24 : Int32).toInt = 24 := rfl; omega)) : _ = k2)) ?_
                refine WR_tI (y := nI t7) (Eq.trans (I_ne (fx_ne fx (by decide))) (Eq.trans (I_ne (fx_ne fx (by decide))) v7)) ?_
                refine r_istore (lv' := [some (.ref (ad 30)), some (.int c), some (.int i), some (.int d), some (.int j), some (.int m), some (.int (nI t7)), none, none, none, none]) rfl (Nat.le_of_ble_eq_true rfl) rfl ?_
                refine r_aload rfl rfl ?_
                refine r_getA (b := ad 31) rfl ⟨rfl, rfl, rfl⟩ (fx_t30 fx) (fx_r30_0 fx) ?_
                refine r_iload rfl rfl ?_
                refine WR_tI (y := nI k5) ek5 ?_
                refine r_iaload rfl (.inl (fx_t31 fx)) (vp_ct (fx_n31 fx) (vp_in_nI (by have := i_nlt c4; have := i_rg d; have : (0 : Int32).toInt = 0 := rfl; have := i_eq ek5; have : (nI k5).toInt = ((k5 : Nat) : Int) := nI_toInt (by omega); have := i_nle c6; have : (24 : Int32).toInt = 24 := rfl; omega) (by omega))) ?_
                refine WR_tI (congrArg (hI (sI (sI h (ad 0) 6 0) (ad 0) 6 (-12)) (ad 31)) ((nI_clamp (by have := i_nlt c4; have := i_rg d; have : (0 : Int32).toInt = 0 := rfl; have := i_eq ek5; have : (nI k5).toInt = ((k5 : Nat) : Int) := nI_toInt (by omega); have := i_nle c6; have : (24 : Int32).toInt = 24 := rfl; omega)) : _ = k5)) ?_
                refine WR_tI (y := nI t23) (Eq.trans (I_ne (fx_ne fx (by decide))) (Eq.trans (I_ne (fx_ne fx (by decide))) v23)) ?_
                refine r_istore (lv' := [some (.ref (ad 30)), some (.int c), some (.int i), some (.int d), some (.int j), some (.int m), some (.int (nI t7)), some (.int (nI t23)), none, none, none]) rfl (Nat.le_of_ble_eq_true rfl) rfl ?_
                refine r_iload rfl rfl ?_
                refine r_ic (x := (-1)) rfl rfl ?_
                refine r_icmp_eq (tg := 49) rfl rfl (fun q => False.elim (by have : (nI t7).toInt = ((t7 : Nat) : Int) := nI_toInt (by omega); have : (-1 : Int32).toInt = -1 := rfl; have := i_eq q; omega)) (fun _ => ?_)
                refine r_iload rfl rfl ?_
                refine r_ic (x := (-1)) rfl rfl ?_
                refine r_icmp_ne (tg := 55) rfl rfl (fun _ => ?_) (fun q => False.elim (by have : (nI t23).toInt = ((t23 : Nat) : Int) := nI_toInt (by omega); have : (-1 : Int32).toInt = -1 := rfl; have := i_eq q; omega))
                refine r_iload rfl rfl ?_
                refine r_ic (x := 1000) rfl rfl ?_
                refine r_icmp_ge (tg := 112) rfl rfl (fun q => False.elim (by have : (nI t7).toInt = ((t7 : Nat) : Int) := nI_toInt (by omega); have : (1000 : Int32).toInt = 1000 := rfl; have := i_le q; omega)) (fun _ => ?_)
                refine r_iload rfl rfl ?_
                refine r_ic (x := 1000) rfl rfl ?_
                refine r_icmp_ge (tg := 112) rfl rfl (fun q => False.elim (by have : (nI t23).toInt = ((t23 : Nat) : Int) := nI_toInt (by omega); have : (1000 : Int32).toInt = 1000 := rfl; have := i_le q; omega)) (fun _ => ?_)
                refine r_aload rfl rfl ?_
                refine r_getA (b := ad 33) rfl ⟨rfl, rfl, rfl⟩ (fx_t30 fx) (fx_r30_2 fx) ?_
                refine r_iload rfl rfl ?_
                refine r_iaload rfl (.inl (fx_t33 fx)) (vp_ct (fx_n33 fx) (vp_in_nI (by omega) (by omega))) ?_
                refine WR_tI (congrArg (hI (sI (sI h (ad 0) 6 0) (ad 0) 6 (-12)) (ad 33)) ((nI_clamp (by omega)) : _ = t7)) ?_
                refine WR_tI (y := 8) (Eq.trans (I_ne (fx_ne fx (by decide))) (Eq.trans (I_ne (fx_ne fx (by decide))) l2_7)) ?_
                refine r_aload rfl rfl ?_
                refine r_getA (b := ad 33) rfl ⟨rfl, rfl, rfl⟩ (fx_t30 fx) (fx_r30_2 fx) ?_
                refine r_iload rfl rfl ?_
                refine r_iaload rfl (.inl (fx_t33 fx)) (vp_ct (fx_n33 fx) (vp_in_nI (by omega) (by omega))) ?_
                refine WR_tI (congrArg (hI (sI (sI h (ad 0) 6 0) (ad 0) 6 (-12)) (ad 33)) ((nI_clamp (by omega)) : _ = t23)) ?_
                refine WR_tI (y := 9) (Eq.trans (I_ne (fx_ne fx (by decide))) (Eq.trans (I_ne (fx_ne fx (by decide))) l2_23)) ?_
                refine r_icmp_eq (tg := 118) rfl rfl (fun q => absurd q (by decide)) (fun _ => ?_)
                refine r_aload rfl rfl ?_
                refine r_getA (b := ad 33) rfl ⟨rfl, rfl, rfl⟩ (fx_t30 fx) (fx_r30_2 fx) ?_
                refine r_iload rfl rfl ?_
                refine r_iaload rfl (.inl (fx_t33 fx)) (vp_ct (fx_n33 fx) (vp_in_nI (by omega) (by omega))) ?_
                refine WR_tI (congrArg (hI (sI (sI h (ad 0) 6 0) (ad 0) 6 (-12)) (ad 33)) ((nI_clamp (by omega)) : _ = t7)) ?_
                refine WR_tI (y := 8) (Eq.trans (I_ne (fx_ne fx (by decide))) (Eq.trans (I_ne (fx_ne fx (by decide))) l2_7)) ?_
                refine r_ic (x := 8) rfl rfl ?_
                refine r_icmp_lt (tg := 112) rfl rfl (fun q => absurd q (by decide)) (fun _ => ?_)
                refine r_aload rfl rfl ?_
                refine r_getA (b := ad 33) rfl ⟨rfl, rfl, rfl⟩ (fx_t30 fx) (fx_r30_2 fx) ?_
                refine r_iload rfl rfl ?_
                refine r_iaload rfl (.inl (fx_t33 fx)) (vp_ct (fx_n33 fx) (vp_in_nI (by omega) (by omega))) ?_
                refine WR_tI (congrArg (hI (sI (sI h (ad 0) 6 0) (ad 0) 6 (-12)) (ad 33)) ((nI_clamp (by omega)) : _ = t23)) ?_
                refine WR_tI (y := 9) (Eq.trans (I_ne (fx_ne fx (by decide))) (Eq.trans (I_ne (fx_ne fx (by decide))) l2_23)) ?_
                refine r_ic (x := 8) rfl rfl ?_
                refine r_icmp_ge (tg := 118) rfl rfl (fun _ => ?_) (fun q => absurd q (by decide))
                refine r_iload rfl rfl ?_
                refine r_if_lt (tg := 169) rfl rfl (fun _ => ?_) (fun q => False.elim (by have := i_lt c35; have := i_rg i; have : (0 : Int32).toInt = 0 := rfl; have := i_nlt q; omega))
                refine r_aload rfl rfl ?_
                refine r_ic (x := 2) rfl rfl ?_
                refine r_cv (y := 156) (ra := [.int 2]) (rest := []) rfl ⟨⟨rfl, rfl⟩, rfl, by decide⟩ (fx_t30 fx) rfl rfl (Nat.le_of_ble_eq_true rfl) ?_
                refine in_156 (Nat.le_of_ble_eq_true rfl) ?_
                show WR _ cd_156 0 [some (.ref (ad 30)), some (.int 2)] [] (sI (sI h (ad 0) 6 0) (ad 0) 6 (-12)) _
                refine r_aload rfl rfl ?_
                refine r_ic (x := (-10)) rfl rfl ?_
                refine r_iload rfl rfl ?_
                refine r_isub rfl ?_
                refine WR_tI (y := (-12)) rfl ?_
                refine r_cv (y := 154) (ra := [.int (-12)]) (rest := []) rfl ⟨⟨rfl, rfl⟩, rfl, by decide⟩ (fx_t30 fx) rfl rfl (Nat.le_of_ble_eq_true rfl) ?_
                refine in_154 (Nat.le_of_ble_eq_true rfl) ?_
                show WR _ cd_154 0 [some (.ref (ad 30)), some (.int (-12))] [] (sI (sI h (ad 0) 6 0) (ad 0) 6 (-12)) _
                refine r_aload rfl rfl ?_
                refine r_iload rfl rfl ?_
                refine r_ic (x := (-1)) rfl rfl ?_
                refine r_icmp_ge (tg := 10) rfl rfl (fun q => absurd q (by decide)) (fun _ => ?_)
                refine r_iload rfl rfl ?_
                refine r_goto (tg := 11) rfl rfl ?_
                refine r_putI rfl ⟨rfl, rfl, rfl⟩ (fx_t30 fx) ?_
                have fx : FX n ad sa z0 (sI (sI (sI h (ad 0) 6 0) (ad 0) 6 (-12)) (ad 30) 11 (-12)) := (FX.sI fx)
                refine r_iload rfl rfl ?_
                refine r_iret rfl ?_
                show WR _ cd_156 8 [some (.ref (ad 30)), some (.int 2)] [.int (-12)] (sI (sI (sI h (ad 0) 6 0) (ad 0) 6 (-12)) (ad 30) 11 (-12)) _
                refine r_iret rfl ?_
                show WR _ cd_179 174 [some (.ref (ad 30)), some (.int c), some (.int i), some (.int d), some (.int j), some (.int m), some (.int (nI t7)), some (.int (nI t23)), none, none, none] [.int (-12)] (sI (sI (sI h (ad 0) 6 0) (ad 0) 6 (-12)) (ad 30) 11 (-12)) _
                refine r_iret rfl ?_
                exact ⟨rfl, Rel.why r (((Chg.rf.sI (fx_j fx) (.inl (by decide))).sI (fx_j fx) (.inl (by decide))).sI (fx_j fx) (.inl (by decide))) ⟨rfl, by decide⟩ (Eq.trans (Eq.trans (I_ne (fx_ne fx (by decide))) I_eq) (Eq.symm I_eq)), (by (try simp only [hZ_sI, hZ_sL, hZ_sD, hZ_sR]); omega), (by (try simp only [hU_sI, hU_sL, hU_sD, hU_sR]); omega)⟩
              · refine r_iload rfl rfl ?_
                refine r_if_lt (tg := 22) rfl rfl (fun c36 => ?_) (fun c36 => ?_)
                · refine r_ic (x := 0) rfl rfl ?_
                  refine r_zret rfl (.inl rfl) ?_
                  show WR _ cd_51 84 [some (.ref (ad 0)), some (.int c), some (.int i), some (.int d), some (.int j), some (.int m), some (.ref (mid t7)), some (.ref (mid t23)), none] [.int 0] (sI h (ad 0) 6 0) _
                  refine r_if_eq (tg := 99) rfl rfl (fun _ => ?_) (fun q => absurd q (by decide))
                  refine r_aload rfl rfl ?_
                  refine r_ic (x := (-12)) rfl rfl ?_
                  refine r_cv (y := 13) (ra := [.int (-12)]) (rest := []) rfl ⟨⟨rfl, rfl⟩, rfl, by decide⟩ (fx_t0 fx) rfl rfl (Nat.le_of_ble_eq_true rfl) ?_
                  refine in_13 (Nat.le_of_ble_eq_true rfl) ?_
                  show WR _ cd_13 0 [some (.ref (ad 0)), some (.int (-12))] [] (sI h (ad 0) 6 0) _
                  refine r_aload rfl rfl ?_
                  refine r_iload rfl rfl ?_
                  refine r_putI rfl ⟨rfl, rfl, rfl⟩ (fx_t0 fx) ?_
                  have fx : FX n ad sa z0 (sI (sI h (ad 0) 6 0) (ad 0) 6 (-12)) := (FX.sI fx)
                  refine r_iload rfl rfl ?_
                  refine r_iret rfl ?_
                  show WR _ cd_51 105 [some (.ref (ad 0)), some (.int c), some (.int i), some (.int d), some (.int j), some (.int m), some (.ref (mid t7)), some (.ref (mid t23)), none] [.int (-12)] (sI (sI h (ad 0) 6 0) (ad 0) 6 (-12)) _
                  refine r_iret rfl ?_
                  show EV _ 179 [.ref (ad 30), .int c, .int i, .int d, .int j, .int m] (sI (sI h (ad 0) 6 0) (ad 0) 6 (-12)) _
                  refine in_179 (Nat.le_of_ble_eq_true rfl) ?_
                  show WR _ cd_179 0 [some (.ref (ad 30)), some (.int c), some (.int i), some (.int d), some (.int j), some (.int m), none, none, none, none, none] [] (sI (sI h (ad 0) 6 0) (ad 0) 6 (-12)) _
                  refine r_iload rfl rfl ?_
                  refine WR_tI (y := nI k2) ek2 ?_
                  refine r_cs (y := 153) (ra := [.int (nI k2)]) (rest := []) rfl ⟨⟨rfl, rfl⟩, by decide⟩ rfl rfl (Nat.le_of_ble_eq_true rfl) ?_
                  refine in_153 (Nat.le_of_ble_eq_true rfl) ?_
                  show WR _ cd_153 0 [some (.int (nI k2))] [] (sI (sI h (ad 0) 6 0) (ad 0) 6 (-12)) _
                  refine r_iload rfl rfl ?_
                  refine r_if_lt (tg := 14) rfl rfl (fun q => False.elim (by have := i_nlt c1; have := i_rg c; have : (0 : Int32).toInt = 0 := rfl; have := i_eq ek2; have : (nI k2).toInt = ((k2 : Nat) : Int) := nI_toInt (by omega); have := i_nle c3; have : (24 : Int32).toInt = 24 := rfl; have := i_lt q; omega)) (fun _ => ?_)
                  refine r_iload rfl rfl ?_
                  refine r_ic (x := 24) rfl rfl ?_
                  refine r_icmp_ge (tg := 14) rfl rfl (fun q => False.elim (by have := i_nlt c1; have := i_rg c; have : (0 : Int32).toInt = 0 := rfl; have := i_eq ek2; have : (nI k2).toInt = ((k2 : Nat) : Int) := nI_toInt (by omega); have := i_nle c3; have : (24 : Int32).toInt = 24 := rfl; have := i_le q; omega)) (fun _ => ?_)
                  refine r_ic (x := 1) rfl rfl ?_
                  refine r_goto (tg := 15) rfl rfl ?_
                  refine r_zret rfl (.inr rfl) ?_
                  show WR _ cd_179 4 [some (.ref (ad 30)), some (.int c), some (.int i), some (.int d), some (.int j), some (.int m), none, none, none, none, none] [.int 1] (sI (sI h (ad 0) 6 0) (ad 0) 6 (-12)) _
                  refine r_if_eq (tg := 14) rfl rfl (fun q => absurd q (by decide)) (fun _ => ?_)
                  refine r_iload rfl rfl ?_
                  refine WR_tI (y := nI k5) ek5 ?_
                  refine r_cs (y := 153) (ra := [.int (nI k5)]) (rest := []) rfl ⟨⟨rfl, rfl⟩, by decide⟩ rfl rfl (Nat.le_of_ble_eq_true rfl) ?_
                  refine in_153 (Nat.le_of_ble_eq_true rfl) ?_
                  show WR _ cd_153 0 [some (.int (nI k5))] [] (sI (sI h (ad 0) 6 0) (ad 0) 6 (-12)) _
                  refine r_iload rfl rfl ?_
                  refine r_if_lt (tg := 14) rfl rfl (fun q => False.elim (by have := i_nlt c4; have := i_rg d; have : (0 : Int32).toInt = 0 := rfl; have := i_eq ek5; have : (nI k5).toInt = ((k5 : Nat) : Int) := nI_toInt (by omega); have := i_nle c6; have : (24 : Int32).toInt = 24 := rfl; have := i_lt q; omega)) (fun _ => ?_)
                  refine r_iload rfl rfl ?_
                  refine r_ic (x := 24) rfl rfl ?_
                  refine r_icmp_ge (tg := 14) rfl rfl (fun q => False.elim (by have := i_nlt c4; have := i_rg d; have : (0 : Int32).toInt = 0 := rfl; have := i_eq ek5; have : (nI k5).toInt = ((k5 : Nat) : Int) := nI_toInt (by omega); have := i_nle c6; have : (24 : Int32).toInt = 24 := rfl; have := i_le q; omega)) (fun _ => ?_)
                  refine r_ic (x := 1) rfl rfl ?_
                  refine r_goto (tg := 15) rfl rfl ?_
                  refine r_zret rfl (.inr rfl) ?_
                  show WR _ cd_179 11 [some (.ref (ad 30)), some (.int c), some (.int i), some (.int d), some (.int j), some (.int m), none, none, none, none, none] [.int 1] (sI (sI h (ad 0) 6 0) (ad 0) 6 (-12)) _
                  refine r_if_ne (tg := 21) rfl rfl (fun _ => ?_) (fun q => absurd q (by decide))
                  refine r_aload rfl rfl ?_
                  refine r_getA (b := ad 31) rfl ⟨rfl, rfl, rfl⟩ (fx_t30 fx) (fx_r30_0 fx) ?_
                  refine r_iload rfl rfl ?_
                  refine WR_tI (y := nI k2) ek2 ?_
                  refine r_iaload rfl (.inl (fx_t31 fx)) (vp_ct (fx_n31 fx) (vp_in_nI (by have := i_nlt c1; have := i_rg c; have : (0 : Int32).toInt = 0 := rfl; have := i_eq ek2; have : (nI k2).toInt = ((k2 : Nat) : Int) := nI_toInt (by omega); have := i_nle c3; have : (24 : Int32).toInt = 24 := rfl; omega) (by omega))) ?_
                  refine WR_tI (congrArg (hI (sI (sI h (ad 0) 6 0) (ad 0) 6 (-12)) (ad 31)) ((nI_clamp (by have := i_nlt c1; have := i_rg c; have : (0 : Int32).toInt = 0 := rfl; have := i_eq ek2; have : (nI k2).toInt = ((k2 : Nat) : Int) := nI_toInt (by omega); have := i_nle c3; have : (24 : Int32).toInt = 24 := rfl; omega)) : _ = k2)) ?_
                  refine WR_tI (y := nI t7) (Eq.trans (I_ne (fx_ne fx (by decide))) (Eq.trans (I_ne (fx_ne fx (by decide))) v7)) ?_
                  refine r_istore (lv' := [some (.ref (ad 30)), some (.int c), some (.int i), some (.int d), some (.int j), some (.int m), some (.int (nI t7)), none, none, none, none]) rfl (Nat.le_of_ble_eq_true rfl) rfl ?_
                  refine r_aload rfl rfl ?_
                  refine r_getA (b := ad 31) rfl ⟨rfl, rfl, rfl⟩ (fx_t30 fx) (fx_r30_0 fx) ?_
                  refine r_iload rfl rfl ?_
                  refine WR_tI (y := nI k5) ek5 ?_
                  refine r_iaload rfl (.inl (fx_t31 fx)) (vp_ct (fx_n31 fx) (vp_in_nI (by have := i_nlt c4; have := i_rg d; have : (0 : Int32).toInt = 0 := rfl; have := i_eq ek5; have : (nI k5).toInt = ((k5 : Nat) : Int) := nI_toInt (by omega); have := i_nle c6; have : (24 : Int32).toInt = 24 := rfl; omega) (by omega))) ?_
                  refine WR_tI (congrArg (hI (sI (sI h (ad 0) 6 0) (ad 0) 6 (-12)) (ad 31)) ((nI_clamp (by have := i_nlt c4; have := i_rg d; have : (0 : Int32).toInt = 0 := rfl; have := i_eq ek5; have : (nI k5).toInt = ((k5 : Nat) : Int) := nI_toInt (by omega); have := i_nle c6; have : (24 : Int32).toInt = 24 := rfl; omega)) : _ = k5)) ?_
                  refine WR_tI (y := nI t23) (Eq.trans (I_ne (fx_ne fx (by decide))) (Eq.trans (I_ne (fx_ne fx (by decide))) v23)) ?_
                  refine r_istore (lv' := [some (.ref (ad 30)), some (.int c), some (.int i), some (.int d), some (.int j), some (.int m), some (.int (nI t7)), some (.int (nI t23)), none, none, none]) rfl (Nat.le_of_ble_eq_true rfl) rfl ?_
                  refine r_iload rfl rfl ?_
                  refine r_ic (x := (-1)) rfl rfl ?_
                  refine r_icmp_eq (tg := 49) rfl rfl (fun q => False.elim (by have : (nI t7).toInt = ((t7 : Nat) : Int) := nI_toInt (by omega); have : (-1 : Int32).toInt = -1 := rfl; have := i_eq q; omega)) (fun _ => ?_)
                  refine r_iload rfl rfl ?_
                  refine r_ic (x := (-1)) rfl rfl ?_
                  refine r_icmp_ne (tg := 55) rfl rfl (fun _ => ?_) (fun q => False.elim (by have : (nI t23).toInt = ((t23 : Nat) : Int) := nI_toInt (by omega); have : (-1 : Int32).toInt = -1 := rfl; have := i_eq q; omega))
                  refine r_iload rfl rfl ?_
                  refine r_ic (x := 1000) rfl rfl ?_
                  refine r_icmp_ge (tg := 112) rfl rfl (fun q => False.elim (by have : (nI t7).toInt = ((t7 : Nat) : Int) := nI_toInt (by omega); have : (1000 : Int32).toInt = 1000 := rfl; have := i_le q; omega)) (fun _ => ?_)
                  refine r_iload rfl rfl ?_
                  refine r_ic (x := 1000) rfl rfl ?_
                  refine r_icmp_ge (tg := 112) rfl rfl (fun q => False.elim (by have : (nI t23).toInt = ((t23 : Nat) : Int) := nI_toInt (by omega); have : (1000 : Int32).toInt = 1000 := rfl; have := i_le q; omega)) (fun _ => ?_)
                  refine r_aload rfl rfl ?_
                  refine r_getA (b := ad 33) rfl ⟨rfl, rfl, rfl⟩ (fx_t30 fx) (fx_r30_2 fx) ?_
                  refine r_iload rfl rfl ?_
                  refine r_iaload rfl (.inl (fx_t33 fx)) (vp_ct (fx_n33 fx) (vp_in_nI (by omega) (by omega))) ?_
                  refine WR_tI (congrArg (hI (sI (sI h (ad 0) 6 0) (ad 0) 6 (-12)) (ad 33)) ((nI_clamp (by omega)) : _ = t7)) ?_
                  refine WR_tI (y := 8) (Eq.trans (I_ne (fx_ne fx (by decide))) (Eq.trans (I_ne (fx_ne fx (by decide))) l2_7)) ?_
                  refine r_aload rfl rfl ?_
                  refine r_getA (b := ad 33) rfl ⟨rfl, rfl, rfl⟩ (fx_t30 fx) (fx_r30_2 fx) ?_
                  refine r_iload rfl rfl ?_
                  refine r_iaload rfl (.inl (fx_t33 fx)) (vp_ct (fx_n33 fx) (vp_in_nI (by omega) (by omega))) ?_
                  refine WR_tI (congrArg (hI (sI (sI h (ad 0) 6 0) (ad 0) 6 (-12)) (ad 33)) ((nI_clamp (by omega)) : _ = t23)) ?_
                  refine WR_tI (y := 9) (Eq.trans (I_ne (fx_ne fx (by decide))) (Eq.trans (I_ne (fx_ne fx (by decide))) l2_23)) ?_
                  refine r_icmp_eq (tg := 118) rfl rfl (fun q => absurd q (by decide)) (fun _ => ?_)
                  refine r_aload rfl rfl ?_
                  refine r_getA (b := ad 33) rfl ⟨rfl, rfl, rfl⟩ (fx_t30 fx) (fx_r30_2 fx) ?_
                  refine r_iload rfl rfl ?_
                  refine r_iaload rfl (.inl (fx_t33 fx)) (vp_ct (fx_n33 fx) (vp_in_nI (by omega) (by omega))) ?_
                  refine WR_tI (congrArg (hI (sI (sI h (ad 0) 6 0) (ad 0) 6 (-12)) (ad 33)) ((nI_clamp (by omega)) : _ = t7)) ?_
                  refine WR_tI (y := 8) (Eq.trans (I_ne (fx_ne fx (by decide))) (Eq.trans (I_ne (fx_ne fx (by decide))) l2_7)) ?_
                  refine r_ic (x := 8) rfl rfl ?_
                  refine r_icmp_lt (tg := 112) rfl rfl (fun q => absurd q (by decide)) (fun _ => ?_)
                  refine r_aload rfl rfl ?_
                  refine r_getA (b := ad 33) rfl ⟨rfl, rfl, rfl⟩ (fx_t30 fx) (fx_r30_2 fx) ?_
                  refine r_iload rfl rfl ?_
                  refine r_iaload rfl (.inl (fx_t33 fx)) (vp_ct (fx_n33 fx) (vp_in_nI (by omega) (by omega))) ?_
                  refine WR_tI (congrArg (hI (sI (sI h (ad 0) 6 0) (ad 0) 6 (-12)) (ad 33)) ((nI_clamp (by omega)) : _ = t23)) ?_
                  refine WR_tI (y := 9) (Eq.trans (I_ne (fx_ne fx (by decide))) (Eq.trans (I_ne (fx_ne fx (by decide))) l2_23)) ?_
                  refine r_ic (x := 8) rfl rfl ?_
                  refine r_icmp_ge (tg := 118) rfl rfl (fun _ => ?_) (fun q => absurd q (by decide))
                  obtain ⟨k37, hk37, ek37⟩ := ix_of (x := i) (n := 2147483648) (by have := i_nlt c35; have := i_rg i; have : (0 : Int32).toInt = 0 := rfl; omega) (by have := i_nlt c35; have := i_rg i; have : (0 : Int32).toInt = 0 := rfl; omega)
                  refine r_iload rfl rfl ?_
                  refine WR_tI (y := nI k37) ek37 ?_
                  refine r_if_lt (tg := 169) rfl rfl (fun q => False.elim (by have := i_nlt c35; have := i_rg i; have : (0 : Int32).toInt = 0 := rfl; have := i_eq ek37; have : (nI k37).toInt = ((k37 : Nat) : Int) := nI_toInt (by omega); have := i_lt q; omega)) (fun _ => ?_)
                  refine r_iload rfl rfl ?_
                  refine r_if_lt (tg := 169) rfl rfl (fun c38 => ?_) (fun c38 => ?_)
                  · refine r_aload rfl rfl ?_
                    refine r_ic (x := 2) rfl rfl ?_
                    refine r_cv (y := 156) (ra := [.int 2]) (rest := []) rfl ⟨⟨rfl, rfl⟩, rfl, by decide⟩ (fx_t30 fx) rfl rfl (Nat.le_of_ble_eq_true rfl) ?_
                    refine in_156 (Nat.le_of_ble_eq_true rfl) ?_
                    show WR _ cd_156 0 [some (.ref (ad 30)), some (.int 2)] [] (sI (sI h (ad 0) 6 0) (ad 0) 6 (-12)) _
                    refine r_aload rfl rfl ?_
                    refine r_ic (x := (-10)) rfl rfl ?_
                    refine r_iload rfl rfl ?_
                    refine r_isub rfl ?_
                    refine WR_tI (y := (-12)) rfl ?_
                    refine r_cv (y := 154) (ra := [.int (-12)]) (rest := []) rfl ⟨⟨rfl, rfl⟩, rfl, by decide⟩ (fx_t30 fx) rfl rfl (Nat.le_of_ble_eq_true rfl) ?_
                    refine in_154 (Nat.le_of_ble_eq_true rfl) ?_
                    show WR _ cd_154 0 [some (.ref (ad 30)), some (.int (-12))] [] (sI (sI h (ad 0) 6 0) (ad 0) 6 (-12)) _
                    refine r_aload rfl rfl ?_
                    refine r_iload rfl rfl ?_
                    refine r_ic (x := (-1)) rfl rfl ?_
                    refine r_icmp_ge (tg := 10) rfl rfl (fun q => absurd q (by decide)) (fun _ => ?_)
                    refine r_iload rfl rfl ?_
                    refine r_goto (tg := 11) rfl rfl ?_
                    refine r_putI rfl ⟨rfl, rfl, rfl⟩ (fx_t30 fx) ?_
                    have fx : FX n ad sa z0 (sI (sI (sI h (ad 0) 6 0) (ad 0) 6 (-12)) (ad 30) 11 (-12)) := (FX.sI fx)
                    refine r_iload rfl rfl ?_
                    refine r_iret rfl ?_
                    show WR _ cd_156 8 [some (.ref (ad 30)), some (.int 2)] [.int (-12)] (sI (sI (sI h (ad 0) 6 0) (ad 0) 6 (-12)) (ad 30) 11 (-12)) _
                    refine r_iret rfl ?_
                    show WR _ cd_179 174 [some (.ref (ad 30)), some (.int c), some (.int i), some (.int d), some (.int j), some (.int m), some (.int (nI t7)), some (.int (nI t23)), none, none, none] [.int (-12)] (sI (sI (sI h (ad 0) 6 0) (ad 0) 6 (-12)) (ad 30) 11 (-12)) _
                    refine r_iret rfl ?_
                    exact ⟨rfl, Rel.why r (((Chg.rf.sI (fx_j fx) (.inl (by decide))).sI (fx_j fx) (.inl (by decide))).sI (fx_j fx) (.inl (by decide))) ⟨rfl, by decide⟩ (Eq.trans (Eq.trans (I_ne (fx_ne fx (by decide))) I_eq) (Eq.symm I_eq)), (by (try simp only [hZ_sI, hZ_sL, hZ_sD, hZ_sR]); omega), (by (try simp only [hU_sI, hU_sL, hU_sD, hU_sR]); omega)⟩
                  · refine r_iload rfl rfl ?_
                    refine r_if_lt (tg := 169) rfl rfl (fun _ => ?_) (fun q => False.elim (by have := i_lt c36; have := i_rg m; have : (0 : Int32).toInt = 0 := rfl; have := i_nlt q; omega))
                    refine r_aload rfl rfl ?_
                    refine r_ic (x := 2) rfl rfl ?_
                    refine r_cv (y := 156) (ra := [.int 2]) (rest := []) rfl ⟨⟨rfl, rfl⟩, rfl, by decide⟩ (fx_t30 fx) rfl rfl (Nat.le_of_ble_eq_true rfl) ?_
                    refine in_156 (Nat.le_of_ble_eq_true rfl) ?_
                    show WR _ cd_156 0 [some (.ref (ad 30)), some (.int 2)] [] (sI (sI h (ad 0) 6 0) (ad 0) 6 (-12)) _
                    refine r_aload rfl rfl ?_
                    refine r_ic (x := (-10)) rfl rfl ?_
                    refine r_iload rfl rfl ?_
                    refine r_isub rfl ?_
                    refine WR_tI (y := (-12)) rfl ?_
                    refine r_cv (y := 154) (ra := [.int (-12)]) (rest := []) rfl ⟨⟨rfl, rfl⟩, rfl, by decide⟩ (fx_t30 fx) rfl rfl (Nat.le_of_ble_eq_true rfl) ?_
                    refine in_154 (Nat.le_of_ble_eq_true rfl) ?_
                    show WR _ cd_154 0 [some (.ref (ad 30)), some (.int (-12))] [] (sI (sI h (ad 0) 6 0) (ad 0) 6 (-12)) _
                    refine r_aload rfl rfl ?_
                    refine r_iload rfl rfl ?_
                    refine r_ic (x := (-1)) rfl rfl ?_
                    refine r_icmp_ge (tg := 10) rfl rfl (fun q => absurd q (by decide)) (fun _ => ?_)
                    refine r_iload rfl rfl ?_
                    refine r_goto (tg := 11) rfl rfl ?_
                    refine r_putI rfl ⟨rfl, rfl, rfl⟩ (fx_t30 fx) ?_
                    have fx : FX n ad sa z0 (sI (sI (sI h (ad 0) 6 0) (ad 0) 6 (-12)) (ad 30) 11 (-12)) := (FX.sI fx)
                    refine r_iload rfl rfl ?_
                    refine r_iret rfl ?_
                    show WR _ cd_156 8 [some (.ref (ad 30)), some (.int 2)] [.int (-12)] (sI (sI (sI h (ad 0) 6 0) (ad 0) 6 (-12)) (ad 30) 11 (-12)) _
                    refine r_iret rfl ?_
                    show WR _ cd_179 174 [some (.ref (ad 30)), some (.int c), some (.int i), some (.int d), some (.int j), some (.int m), some (.int (nI t7)), some (.int (nI t23)), none, none, none] [.int (-12)] (sI (sI (sI h (ad 0) 6 0) (ad 0) 6 (-12)) (ad 30) 11 (-12)) _
                    refine r_iret rfl ?_
                    exact ⟨rfl, Rel.why r (((Chg.rf.sI (fx_j fx) (.inl (by decide))).sI (fx_j fx) (.inl (by decide))).sI (fx_j fx) (.inl (by decide))) ⟨rfl, by decide⟩ (Eq.trans (Eq.trans (I_ne (fx_ne fx (by decide))) I_eq) (Eq.symm I_eq)), (by (try simp only [hZ_sI, hZ_sL, hZ_sD, hZ_sR]); omega), (by (try simp only [hU_sI, hU_sL, hU_sD, hU_sR]); omega)⟩
                · obtain ⟨k39, hk39, ek39⟩ := ix_of (x := m) (n := 2147483648) (by have := i_nlt c36; have := i_rg m; have : (0 : Int32).toInt = 0 := rfl; omega) (by have := i_nlt c36; have := i_rg m; have : (0 : Int32).toInt = 0 := rfl; omega)
                  refine r_iload rfl rfl ?_
                  refine WR_tI (y := nI k39) ek39 ?_
                  refine r_aload rfl rfl ?_
                  refine r_cw (y := 35) (ra := []) (rest := [.int (nI k39)]) rfl ⟨rfl, rfl⟩ (by rw [show hT (sI h (ad 0) 6 0) (mid t7) = 6 from tg7]; rfl) rfl rfl (Nat.le_of_ble_eq_true rfl) ?_
                  refine in_35 (Nat.le_of_ble_eq_true rfl) ?_
                  show WR _ cd_35 0 [some (.ref (mid t7))] [] (sI h (ad 0) 6 0) _
                  refine r_aload rfl rfl ?_
                  refine r_getA (b := mid t7 + 1) rfl ⟨rfl, rfl, rfl⟩ tg7 (Eq.trans R_oI r_7) ?_
                  refine r_alen rfl (isA_of tg2_7 (by decide)) ?_
                  refine WR_tI (y := nI sz7) (congrArg nI n_7) ?_
                  refine r_iret rfl ?_
                  show WR _ cd_32 13 [some (.ref (mid t7)), some (.int i), some (.int m)] [.int (nI sz7), .int (nI k39)] (sI h (ad 0) 6 0) _
                  obtain ⟨k40, hk40, ek40⟩ := ix_of (x := i) (n := 2147483648) (by have := i_nlt c35; have := i_rg i; have : (0 : Int32).toInt = 0 := rfl; omega) (by have := i_nlt c35; have := i_rg i; have : (0 : Int32).toInt = 0 := rfl; omega)
                  refine r_iload rfl rfl ?_
                  refine WR_tI (y := nI k40) ek40 ?_
                  refine r_isub rfl ?_
                  refine r_icmp_gt (tg := 22) rfl rfl (fun c41 => ?_) (fun c41 => ?_)
                  · refine r_ic (x := 0) rfl rfl ?_
                    refine r_zret rfl (.inl rfl) ?_
                    show WR _ cd_51 84 [some (.ref (ad 0)), some (.int c), some (.int i), some (.int d), some (.int j), some (.int m), some (.ref (mid t7)), some (.ref (mid t23)), none] [.int 0] (sI h (ad 0) 6 0) _
                    refine r_if_eq (tg := 99) rfl rfl (fun _ => ?_) (fun q => absurd q (by decide))
                    refine r_aload rfl rfl ?_
                    refine r_ic (x := (-12)) rfl rfl ?_
                    refine r_cv (y := 13) (ra := [.int (-12)]) (rest := []) rfl ⟨⟨rfl, rfl⟩, rfl, by decide⟩ (fx_t0 fx) rfl rfl (Nat.le_of_ble_eq_true rfl) ?_
                    refine in_13 (Nat.le_of_ble_eq_true rfl) ?_
                    show WR _ cd_13 0 [some (.ref (ad 0)), some (.int (-12))] [] (sI h (ad 0) 6 0) _
                    refine r_aload rfl rfl ?_
                    refine r_iload rfl rfl ?_
                    refine r_putI rfl ⟨rfl, rfl, rfl⟩ (fx_t0 fx) ?_
                    have fx : FX n ad sa z0 (sI (sI h (ad 0) 6 0) (ad 0) 6 (-12)) := (FX.sI fx)
                    refine r_iload rfl rfl ?_
                    refine r_iret rfl ?_
                    show WR _ cd_51 105 [some (.ref (ad 0)), some (.int c), some (.int i), some (.int d), some (.int j), some (.int m), some (.ref (mid t7)), some (.ref (mid t23)), none] [.int (-12)] (sI (sI h (ad 0) 6 0) (ad 0) 6 (-12)) _
                    refine r_iret rfl ?_
                    show EV _ 179 [.ref (ad 30), .int c, .int i, .int d, .int j, .int m] (sI (sI h (ad 0) 6 0) (ad 0) 6 (-12)) _
                    refine in_179 (Nat.le_of_ble_eq_true rfl) ?_
                    show WR _ cd_179 0 [some (.ref (ad 30)), some (.int c), some (.int i), some (.int d), some (.int j), some (.int m), none, none, none, none, none] [] (sI (sI h (ad 0) 6 0) (ad 0) 6 (-12)) _
                    refine r_iload rfl rfl ?_
                    refine WR_tI (y := nI k2) ek2 ?_
                    refine r_cs (y := 153) (ra := [.int (nI k2)]) (rest := []) rfl ⟨⟨rfl, rfl⟩, by decide⟩ rfl rfl (Nat.le_of_ble_eq_true rfl) ?_
                    refine in_153 (Nat.le_of_ble_eq_true rfl) ?_
                    show WR _ cd_153 0 [some (.int (nI k2))] [] (sI (sI h (ad 0) 6 0) (ad 0) 6 (-12)) _
                    refine r_iload rfl rfl ?_
                    refine r_if_lt (tg := 14) rfl rfl (fun q => False.elim (by have := i_nlt c1; have := i_rg c; have : (0 : Int32).toInt = 0 := rfl; have := i_eq ek2; have : (nI k2).toInt = ((k2 : Nat) : Int) := nI_toInt (by omega); have := i_nle c3; have : (24 : Int32).toInt = 24 := rfl; have := i_lt q; omega)) (fun _ => ?_)
                    refine r_iload rfl rfl ?_
                    refine r_ic (x := 24) rfl rfl ?_
                    refine r_icmp_ge (tg := 14) rfl rfl (fun q => False.elim (by have := i_nlt c1; have := i_rg c; have : (0 : Int32).toInt = 0 := rfl; have := i_eq ek2; have : (nI k2).toInt = ((k2 : Nat) : Int) := nI_toInt (by omega); have := i_nle c3; have : (24 : Int32).toInt = 24 := rfl; have := i_le q; omega)) (fun _ => ?_)
                    refine r_ic (x := 1) rfl rfl ?_
                    refine r_goto (tg := 15) rfl rfl ?_
                    refine r_zret rfl (.inr rfl) ?_
                    show WR _ cd_179 4 [some (.ref (ad 30)), some (.int c), some (.int i), some (.int d), some (.int j), some (.int m), none, none, none, none, none] [.int 1] (sI (sI h (ad 0) 6 0) (ad 0) 6 (-12)) _
                    refine r_if_eq (tg := 14) rfl rfl (fun q => absurd q (by decide)) (fun _ => ?_)
                    refine r_iload rfl rfl ?_
                    refine WR_tI (y := nI k5) ek5 ?_
                    refine r_cs (y := 153) (ra := [.int (nI k5)]) (rest := []) rfl ⟨⟨rfl, rfl⟩, by decide⟩ rfl rfl (Nat.le_of_ble_eq_true rfl) ?_
                    refine in_153 (Nat.le_of_ble_eq_true rfl) ?_
                    show WR _ cd_153 0 [some (.int (nI k5))] [] (sI (sI h (ad 0) 6 0) (ad 0) 6 (-12)) _
                    refine r_iload rfl rfl ?_
                    refine r_if_lt (tg := 14) rfl rfl (fun q => False.elim (by have := i_nlt c4; have := i_rg d; have : (0 : Int32).toInt = 0 := rfl; have := i_eq ek5; have : (nI k5).toInt = ((k5 : Nat) : Int) := nI_toInt (by omega); have := i_nle c6; have : (24 : Int32).toInt = 24 := rfl; have := i_lt q; omega)) (fun _ => ?_)
                    refine r_iload rfl rfl ?_
                    refine r_ic (x := 24) rfl rfl ?_
                    refine r_icmp_ge (tg := 14) rfl rfl (fun q => False.elim (by have := i_nlt c4; have := i_rg d; have : (0 : Int32).toInt = 0 := rfl; have := i_eq ek5; have : (nI k5).toInt = ((k5 : Nat) : Int) := nI_toInt (by omega); have := i_nle c6; have : (24 : Int32).toInt = 24 := rfl; have := i_le q; omega)) (fun _ => ?_)
                    refine r_ic (x := 1) rfl rfl ?_
                    refine r_goto (tg := 15) rfl rfl ?_
                    refine r_zret rfl (.inr rfl) ?_
                    show WR _ cd_179 11 [some (.ref (ad 30)), some (.int c), some (.int i), some (.int d), some (.int j), some (.int m), none, none, none, none, none] [.int 1] (sI (sI h (ad 0) 6 0) (ad 0) 6 (-12)) _
                    refine r_if_ne (tg := 21) rfl rfl (fun _ => ?_) (fun q => absurd q (by decide))
                    refine r_aload rfl rfl ?_
                    refine r_getA (b := ad 31) rfl ⟨rfl, rfl, rfl⟩ (fx_t30 fx) (fx_r30_0 fx) ?_
                    refine r_iload rfl rfl ?_
                    refine WR_tI (y := nI k2) ek2 ?_
                    refine r_iaload rfl (.inl (fx_t31 fx)) (vp_ct (fx_n31 fx) (vp_in_nI (by have := i_nlt c1; have := i_rg c; have : (0 : Int32).toInt = 0 := rfl; have := i_eq ek2; have : (nI k2).toInt = ((k2 : Nat) : Int) := nI_toInt (by omega); have := i_nle c3; have : (24 : Int32).toInt = 24 := rfl; omega) (by omega))) ?_
                    refine WR_tI (congrArg (hI (sI (sI h (ad 0) 6 0) (ad 0) 6 (-12)) (ad 31)) ((nI_clamp (by have := i_nlt c1; have := i_rg c; have : (0 : Int32).toInt = 0 := rfl; have := i_eq ek2; have : (nI k2).toInt = ((k2 : Nat) : Int) := nI_toInt (by omega); have := i_nle c3; have : (24 : Int32).toInt = 24 := rfl; omega)) : _ = k2)) ?_
                    refine WR_tI (y := nI t7) (Eq.trans (I_ne (fx_ne fx (by decide))) (Eq.trans (I_ne (fx_ne fx (by decide))) v7)) ?_
                    refine r_istore (lv' := [some (.ref (ad 30)), some (.int c), some (.int i), some (.int d), some (.int j), some (.int m), some (.int (nI t7)), none, none, none, none]) rfl (Nat.le_of_ble_eq_true rfl) rfl ?_
                    refine r_aload rfl rfl ?_
                    refine r_getA (b := ad 31) rfl ⟨rfl, rfl, rfl⟩ (fx_t30 fx) (fx_r30_0 fx) ?_
                    refine r_iload rfl rfl ?_
                    refine WR_tI (y := nI k5) ek5 ?_
                    refine r_iaload rfl (.inl (fx_t31 fx)) (vp_ct (fx_n31 fx) (vp_in_nI (by have := i_nlt c4; have := i_rg d; have : (0 : Int32).toInt = 0 := rfl; have := i_eq ek5; have : (nI k5).toInt = ((k5 : Nat) : Int) := nI_toInt (by omega); have := i_nle c6; have : (24 : Int32).toInt = 24 := rfl; omega) (by omega))) ?_
                    refine WR_tI (congrArg (hI (sI (sI h (ad 0) 6 0) (ad 0) 6 (-12)) (ad 31)) ((nI_clamp (by have := i_nlt c4; have := i_rg d; have : (0 : Int32).toInt = 0 := rfl; have := i_eq ek5; have : (nI k5).toInt = ((k5 : Nat) : Int) := nI_toInt (by omega); have := i_nle c6; have : (24 : Int32).toInt = 24 := rfl; omega)) : _ = k5)) ?_
                    refine WR_tI (y := nI t23) (Eq.trans (I_ne (fx_ne fx (by decide))) (Eq.trans (I_ne (fx_ne fx (by decide))) v23)) ?_
                    refine r_istore (lv' := [some (.ref (ad 30)), some (.int c), some (.int i), some (.int d), some (.int j), some (.int m), some (.int (nI t7)), some (.int (nI t23)), none, none, none]) rfl (Nat.le_of_ble_eq_true rfl) rfl ?_
                    refine r_iload rfl rfl ?_
                    refine r_ic (x := (-1)) rfl rfl ?_
                    refine r_icmp_eq (tg := 49) rfl rfl (fun q => False.elim (by have : (nI t7).toInt = ((t7 : Nat) : Int) := nI_toInt (by omega); have : (-1 : Int32).toInt = -1 := rfl; have := i_eq q; omega)) (fun _ => ?_)
                    refine r_iload rfl rfl ?_
                    refine r_ic (x := (-1)) rfl rfl ?_
                    refine r_icmp_ne (tg := 55) rfl rfl (fun _ => ?_) (fun q => False.elim (by have : (nI t23).toInt = ((t23 : Nat) : Int) := nI_toInt (by omega); have : (-1 : Int32).toInt = -1 := rfl; have := i_eq q; omega))
                    refine r_iload rfl rfl ?_
                    refine r_ic (x := 1000) rfl rfl ?_
                    refine r_icmp_ge (tg := 112) rfl rfl (fun q => False.elim (by have : (nI t7).toInt = ((t7 : Nat) : Int) := nI_toInt (by omega); have : (1000 : Int32).toInt = 1000 := rfl; have := i_le q; omega)) (fun _ => ?_)
                    refine r_iload rfl rfl ?_
                    refine r_ic (x := 1000) rfl rfl ?_
                    refine r_icmp_ge (tg := 112) rfl rfl (fun q => False.elim (by have : (nI t23).toInt = ((t23 : Nat) : Int) := nI_toInt (by omega); have : (1000 : Int32).toInt = 1000 := rfl; have := i_le q; omega)) (fun _ => ?_)
                    refine r_aload rfl rfl ?_
                    refine r_getA (b := ad 33) rfl ⟨rfl, rfl, rfl⟩ (fx_t30 fx) (fx_r30_2 fx) ?_
                    refine r_iload rfl rfl ?_
                    refine r_iaload rfl (.inl (fx_t33 fx)) (vp_ct (fx_n33 fx) (vp_in_nI (by omega) (by omega))) ?_
                    refine WR_tI (congrArg (hI (sI (sI h (ad 0) 6 0) (ad 0) 6 (-12)) (ad 33)) ((nI_clamp (by omega)) : _ = t7)) ?_
                    refine WR_tI (y := 8) (Eq.trans (I_ne (fx_ne fx (by decide))) (Eq.trans (I_ne (fx_ne fx (by decide))) l2_7)) ?_
                    refine r_aload rfl rfl ?_
                    refine r_getA (b := ad 33) rfl ⟨rfl, rfl, rfl⟩ (fx_t30 fx) (fx_r30_2 fx) ?_
                    refine r_iload rfl rfl ?_
                    refine r_iaload rfl (.inl (fx_t33 fx)) (vp_ct (fx_n33 fx) (vp_in_nI (by omega) (by omega))) ?_
                    refine WR_tI (congrArg (hI (sI (sI h (ad 0) 6 0) (ad 0) 6 (-12)) (ad 33)) ((nI_clamp (by omega)) : _ = t23)) ?_
                    refine WR_tI (y := 9) (Eq.trans (I_ne (fx_ne fx (by decide))) (Eq.trans (I_ne (fx_ne fx (by decide))) l2_23)) ?_
                    refine r_icmp_eq (tg := 118) rfl rfl (fun q => absurd q (by decide)) (fun _ => ?_)
                    refine r_aload rfl rfl ?_
                    refine r_getA (b := ad 33) rfl ⟨rfl, rfl, rfl⟩ (fx_t30 fx) (fx_r30_2 fx) ?_
                    refine r_iload rfl rfl ?_
                    refine r_iaload rfl (.inl (fx_t33 fx)) (vp_ct (fx_n33 fx) (vp_in_nI (by omega) (by omega))) ?_
                    refine WR_tI (congrArg (hI (sI (sI h (ad 0) 6 0) (ad 0) 6 (-12)) (ad 33)) ((nI_clamp (by omega)) : _ = t7)) ?_
                    refine WR_tI (y := 8) (Eq.trans (I_ne (fx_ne fx (by decide))) (Eq.trans (I_ne (fx_ne fx (by decide))) l2_7)) ?_
                    refine r_ic (x := 8) rfl rfl ?_
                    refine r_icmp_lt (tg := 112) rfl rfl (fun q => absurd q (by decide)) (fun _ => ?_)
                    refine r_aload rfl rfl ?_
                    refine r_getA (b := ad 33) rfl ⟨rfl, rfl, rfl⟩ (fx_t30 fx) (fx_r30_2 fx) ?_
                    refine r_iload rfl rfl ?_
                    refine r_iaload rfl (.inl (fx_t33 fx)) (vp_ct (fx_n33 fx) (vp_in_nI (by omega) (by omega))) ?_
                    refine WR_tI (congrArg (hI (sI (sI h (ad 0) 6 0) (ad 0) 6 (-12)) (ad 33)) ((nI_clamp (by omega)) : _ = t23)) ?_
                    refine WR_tI (y := 9) (Eq.trans (I_ne (fx_ne fx (by decide))) (Eq.trans (I_ne (fx_ne fx (by decide))) l2_23)) ?_
                    refine r_ic (x := 8) rfl rfl ?_
                    refine r_icmp_ge (tg := 118) rfl rfl (fun _ => ?_) (fun q => absurd q (by decide))
                    refine r_iload rfl rfl ?_
                    refine WR_tI (y := nI k40) ek40 ?_
                    refine r_if_lt (tg := 169) rfl rfl (fun q => False.elim (by have := i_nlt c35; have := i_rg i; have : (0 : Int32).toInt = 0 := rfl; have := i_nlt c36; have := i_rg m; have := i_eq ek39; have : (nI k39).toInt = ((k39 : Nat) : Int) := nI_toInt (by omega); have := i_eq ek40; have : (nI k40).toInt = ((k40 : Nat) : Int) := nI_toInt (by omega); have := i_lt c41; have : (nI sz7).toInt = ((sz7 : Nat) : Int) := nI_toInt (by omega); have := sub_t (x := nI sz7) (y := nI k40) (by have := i_nlt c35; have := i_rg i; have : (0 : Int32).toInt = 0 := rfl; have := i_eq ek40; have : (nI k40).toInt = ((k40 : Nat) : Int) := nI_toInt (by omega); have : (nI sz7).toInt = ((sz7 : Nat) : Int) := nI_toInt (by omega); omega) (by have := i_nlt c35; have := i_rg i; have : (0 : Int32).toInt = 0 := rfl; have := i_eq ek40; have : (nI k40).toInt = ((k40 : Nat) : Int) := nI_toInt (by omega); have : (nI sz7).toInt = ((sz7 : Nat) : Int) := nI_toInt (by omega); omega); have := i_lt q; omega)) (fun _ => ?_)
                    refine r_iload rfl rfl ?_
                    refine r_if_lt (tg := 169) rfl rfl (fun c42 => ?_) (fun c42 => ?_)
                    · refine r_aload rfl rfl ?_
                      refine r_ic (x := 2) rfl rfl ?_
                      refine r_cv (y := 156) (ra := [.int 2]) (rest := []) rfl ⟨⟨rfl, rfl⟩, rfl, by decide⟩ (fx_t30 fx) rfl rfl (Nat.le_of_ble_eq_true rfl) ?_
                      refine in_156 (Nat.le_of_ble_eq_true rfl) ?_
                      show WR _ cd_156 0 [some (.ref (ad 30)), some (.int 2)] [] (sI (sI h (ad 0) 6 0) (ad 0) 6 (-12)) _
                      refine r_aload rfl rfl ?_
                      refine r_ic (x := (-10)) rfl rfl ?_
                      refine r_iload rfl rfl ?_
                      refine r_isub rfl ?_
                      refine WR_tI (y := (-12)) rfl ?_
                      refine r_cv (y := 154) (ra := [.int (-12)]) (rest := []) rfl ⟨⟨rfl, rfl⟩, rfl, by decide⟩ (fx_t30 fx) rfl rfl (Nat.le_of_ble_eq_true rfl) ?_
                      refine in_154 (Nat.le_of_ble_eq_true rfl) ?_
                      show WR _ cd_154 0 [some (.ref (ad 30)), some (.int (-12))] [] (sI (sI h (ad 0) 6 0) (ad 0) 6 (-12)) _
                      refine r_aload rfl rfl ?_
                      refine r_iload rfl rfl ?_
                      refine r_ic (x := (-1)) rfl rfl ?_
                      refine r_icmp_ge (tg := 10) rfl rfl (fun q => absurd q (by decide)) (fun _ => ?_)
                      refine r_iload rfl rfl ?_
                      refine r_goto (tg := 11) rfl rfl ?_
                      refine r_putI rfl ⟨rfl, rfl, rfl⟩ (fx_t30 fx) ?_
                      have fx : FX n ad sa z0 (sI (sI (sI h (ad 0) 6 0) (ad 0) 6 (-12)) (ad 30) 11 (-12)) := (FX.sI fx)
                      refine r_iload rfl rfl ?_
                      refine r_iret rfl ?_
                      show WR _ cd_156 8 [some (.ref (ad 30)), some (.int 2)] [.int (-12)] (sI (sI (sI h (ad 0) 6 0) (ad 0) 6 (-12)) (ad 30) 11 (-12)) _
                      refine r_iret rfl ?_
                      show WR _ cd_179 174 [some (.ref (ad 30)), some (.int c), some (.int i), some (.int d), some (.int j), some (.int m), some (.int (nI t7)), some (.int (nI t23)), none, none, none] [.int (-12)] (sI (sI (sI h (ad 0) 6 0) (ad 0) 6 (-12)) (ad 30) 11 (-12)) _
                      refine r_iret rfl ?_
                      exact ⟨rfl, Rel.why r (((Chg.rf.sI (fx_j fx) (.inl (by decide))).sI (fx_j fx) (.inl (by decide))).sI (fx_j fx) (.inl (by decide))) ⟨rfl, by decide⟩ (Eq.trans (Eq.trans (I_ne (fx_ne fx (by decide))) I_eq) (Eq.symm I_eq)), (by (try simp only [hZ_sI, hZ_sL, hZ_sD, hZ_sR]); omega), (by (try simp only [hU_sI, hU_sL, hU_sD, hU_sR]); omega)⟩
                    · refine r_iload rfl rfl ?_
                      refine WR_tI (y := nI k39) ek39 ?_
                      refine r_if_lt (tg := 169) rfl rfl (fun q => False.elim (by have := i_nlt c35; have := i_rg i; have : (0 : Int32).toInt = 0 := rfl; have := i_nlt c36; have := i_rg m; have := i_eq ek39; have : (nI k39).toInt = ((k39 : Nat) : Int) := nI_toInt (by omega); have := i_eq ek40; have : (nI k40).toInt = ((k40 : Nat) : Int) := nI_toInt (by omega); have := i_lt c41; have : (nI sz7).toInt = ((sz7 : Nat) : Int) := nI_toInt (by omega); have := sub_t (x := nI sz7) (y := nI k40) (by have := i_nlt c35; have := i_rg i; have : (0 : Int32).toInt = 0 := rfl; have := i_eq ek40; have : (nI k40).toInt = ((k40 : Nat) : Int) := nI_toInt (by omega); have : (nI sz7).toInt = ((sz7 : Nat) : Int) := nI_toInt (by omega); omega) (by have := i_nlt c35; have := i_rg i; have : (0 : Int32).toInt = 0 := rfl; have := i_eq ek40; have : (nI k40).toInt = ((k40 : Nat) : Int) := nI_toInt (by omega); have : (nI sz7).toInt = ((sz7 : Nat) : Int) := nI_toInt (by omega); omega); have := i_lt q; omega)) (fun _ => ?_)
                      refine r_iload rfl rfl ?_
                      refine WR_tI (y := nI k40) ek40 ?_
                      refine r_i2l rfl ?_
                      refine WR_tL (y := lN k40) (nI_l (by have := i_nlt c35; have := i_rg i; have : (0 : Int32).toInt = 0 := rfl; have := i_nlt c36; have := i_rg m; have := i_eq ek39; have : (nI k39).toInt = ((k39 : Nat) : Int) := nI_toInt (by omega); have := i_eq ek40; have : (nI k40).toInt = ((k40 : Nat) : Int) := nI_toInt (by omega); have := i_lt c41; have : (nI sz7).toInt = ((sz7 : Nat) : Int) := nI_toInt (by omega); have := sub_t (x := nI sz7) (y := nI k40) (by have := i_nlt c35; have := i_rg i; have : (0 : Int32).toInt = 0 := rfl; have := i_eq ek40; have : (nI k40).toInt = ((k40 : Nat) : Int) := nI_toInt (by omega); have : (nI sz7).toInt = ((sz7 : Nat) : Int) := nI_toInt (by omega); omega) (by have := i_nlt c35; have := i_rg i; have : (0 : Int32).toInt = 0 := rfl; have := i_eq ek40; have : (nI k40).toInt = ((k40 : Nat) : Int) := nI_toInt (by omega); have : (nI sz7).toInt = ((sz7 : Nat) : Int) := nI_toInt (by omega); omega); omega)) ?_
                      refine r_iload rfl rfl ?_
                      refine WR_tI (y := nI k39) ek39 ?_
                      refine r_i2l rfl ?_
                      refine WR_tL (y := lN k39) (nI_l (by have := i_nlt c35; have := i_rg i; have : (0 : Int32).toInt = 0 := rfl; have := i_nlt c36; have := i_rg m; have := i_eq ek39; have : (nI k39).toInt = ((k39 : Nat) : Int) := nI_toInt (by omega); have := i_eq ek40; have : (nI k40).toInt = ((k40 : Nat) : Int) := nI_toInt (by omega); have := i_lt c41; have : (nI sz7).toInt = ((sz7 : Nat) : Int) := nI_toInt (by omega); have := sub_t (x := nI sz7) (y := nI k40) (by have := i_nlt c35; have := i_rg i; have : (0 : Int32).toInt = 0 := rfl; have := i_eq ek40; have : (nI k40).toInt = ((k40 : Nat) : Int) := nI_toInt (by omega); have : (nI sz7).toInt = ((sz7 : Nat) : Int) := nI_toInt (by omega); omega) (by have := i_nlt c35; have := i_rg i; have : (0 : Int32).toInt = 0 := rfl; have := i_eq ek40; have : (nI k40).toInt = ((k40 : Nat) : Int) := nI_toInt (by omega); have : (nI sz7).toInt = ((sz7 : Nat) : Int) := nI_toInt (by omega); omega); omega)) ?_
                      refine r_ladd rfl ?_
                      refine WR_tL (y := lN (k39 + k40)) (Eq.trans (lN_add k40 k39) (congrArg lN (by omega))) ?_
                      refine r_aload rfl rfl ?_
                      refine r_getA (b := ad 35) rfl ⟨rfl, rfl, rfl⟩ (fx_t30 fx) (fx_r30_4 fx) ?_
                      refine r_iload rfl rfl ?_
                      refine r_iaload rfl (.inl (fx_t35 fx)) (vp_ct (fx_n35 fx) (vp_in_nI (by omega) (by omega))) ?_
                      refine WR_tI (congrArg (hI (sI (sI h (ad 0) 6 0) (ad 0) 6 (-12)) (ad 35)) ((nI_clamp (by omega)) : _ = t7)) ?_
                      refine WR_tI (y := nI sz7) (Eq.trans (I_ne (fx_ne fx (by decide))) (Eq.trans (I_ne (fx_ne fx (by decide))) sz_7)) ?_
                      refine r_i2l rfl ?_
                      refine WR_tL (y := lN sz7) (nI_l (by have := i_nlt c35; have := i_rg i; have : (0 : Int32).toInt = 0 := rfl; have := i_nlt c36; have := i_rg m; have := i_eq ek39; have : (nI k39).toInt = ((k39 : Nat) : Int) := nI_toInt (by omega); have := i_eq ek40; have : (nI k40).toInt = ((k40 : Nat) : Int) := nI_toInt (by omega); have := i_lt c41; have : (nI sz7).toInt = ((sz7 : Nat) : Int) := nI_toInt (by omega); have := sub_t (x := nI sz7) (y := nI k40) (by have := i_nlt c35; have := i_rg i; have : (0 : Int32).toInt = 0 := rfl; have := i_eq ek40; have : (nI k40).toInt = ((k40 : Nat) : Int) := nI_toInt (by omega); have : (nI sz7).toInt = ((sz7 : Nat) : Int) := nI_toInt (by omega); omega) (by have := i_nlt c35; have := i_rg i; have : (0 : Int32).toInt = 0 := rfl; have := i_eq ek40; have : (nI k40).toInt = ((k40 : Nat) : Int) := nI_toInt (by omega); have : (nI sz7).toInt = ((sz7 : Nat) : Int) := nI_toInt (by omega); omega); omega)) ?_
                      refine r_lif_gt (tg := 169) rfl rfl rfl (fun _ => ?_) (fun q => False.elim (by have := i_nlt c35; have := i_rg i; have : (0 : Int32).toInt = 0 := rfl; have := i_nlt c36; have := i_rg m; have := i_eq ek39; have : (nI k39).toInt = ((k39 : Nat) : Int) := nI_toInt (by omega); have := i_eq ek40; have : (nI k40).toInt = ((k40 : Nat) : Int) := nI_toInt (by omega); have := i_lt c41; have : (nI sz7).toInt = ((sz7 : Nat) : Int) := nI_toInt (by omega); have := sub_t (x := nI sz7) (y := nI k40) (by have := i_nlt c35; have := i_rg i; have : (0 : Int32).toInt = 0 := rfl; have := i_eq ek40; have : (nI k40).toInt = ((k40 : Nat) : Int) := nI_toInt (by omega); have : (nI sz7).toInt = ((sz7 : Nat) : Int) := nI_toInt (by omega); omega) (by have := i_nlt c35; have := i_rg i; have : (0 : Int32).toInt = 0 := rfl; have := i_eq ek40; have : (nI k40).toInt = ((k40 : Nat) : Int) := nI_toInt (by omega); have : (nI sz7).toInt = ((sz7 : Nat) : Int) := nI_toInt (by omega); omega); have : (lN (k39 + k40)).toInt = ((k39 + k40 : Nat) : Int) := pk_lT (by omega); have : (lN sz7).toInt = ((sz7 : Nat) : Int) := lN_toInt (by omega); have := l_nlt q; omega))
                      refine r_aload rfl rfl ?_
                      refine r_ic (x := 2) rfl rfl ?_
                      refine r_cv (y := 156) (ra := [.int 2]) (rest := []) rfl ⟨⟨rfl, rfl⟩, rfl, by decide⟩ (fx_t30 fx) rfl rfl (Nat.le_of_ble_eq_true rfl) ?_
                      refine in_156 (Nat.le_of_ble_eq_true rfl) ?_
                      show WR _ cd_156 0 [some (.ref (ad 30)), some (.int 2)] [] (sI (sI h (ad 0) 6 0) (ad 0) 6 (-12)) _
                      refine r_aload rfl rfl ?_
                      refine r_ic (x := (-10)) rfl rfl ?_
                      refine r_iload rfl rfl ?_
                      refine r_isub rfl ?_
                      refine WR_tI (y := (-12)) rfl ?_
                      refine r_cv (y := 154) (ra := [.int (-12)]) (rest := []) rfl ⟨⟨rfl, rfl⟩, rfl, by decide⟩ (fx_t30 fx) rfl rfl (Nat.le_of_ble_eq_true rfl) ?_
                      refine in_154 (Nat.le_of_ble_eq_true rfl) ?_
                      show WR _ cd_154 0 [some (.ref (ad 30)), some (.int (-12))] [] (sI (sI h (ad 0) 6 0) (ad 0) 6 (-12)) _
                      refine r_aload rfl rfl ?_
                      refine r_iload rfl rfl ?_
                      refine r_ic (x := (-1)) rfl rfl ?_
                      refine r_icmp_ge (tg := 10) rfl rfl (fun q => absurd q (by decide)) (fun _ => ?_)
                      refine r_iload rfl rfl ?_
                      refine r_goto (tg := 11) rfl rfl ?_
                      refine r_putI rfl ⟨rfl, rfl, rfl⟩ (fx_t30 fx) ?_
                      have fx : FX n ad sa z0 (sI (sI (sI h (ad 0) 6 0) (ad 0) 6 (-12)) (ad 30) 11 (-12)) := (FX.sI fx)
                      refine r_iload rfl rfl ?_
                      refine r_iret rfl ?_
                      show WR _ cd_156 8 [some (.ref (ad 30)), some (.int 2)] [.int (-12)] (sI (sI (sI h (ad 0) 6 0) (ad 0) 6 (-12)) (ad 30) 11 (-12)) _
                      refine r_iret rfl ?_
                      show WR _ cd_179 174 [some (.ref (ad 30)), some (.int c), some (.int i), some (.int d), some (.int j), some (.int m), some (.int (nI t7)), some (.int (nI t23)), none, none, none] [.int (-12)] (sI (sI (sI h (ad 0) 6 0) (ad 0) 6 (-12)) (ad 30) 11 (-12)) _
                      refine r_iret rfl ?_
                      exact ⟨rfl, Rel.why r (((Chg.rf.sI (fx_j fx) (.inl (by decide))).sI (fx_j fx) (.inl (by decide))).sI (fx_j fx) (.inl (by decide))) ⟨rfl, by decide⟩ (Eq.trans (Eq.trans (I_ne (fx_ne fx (by decide))) I_eq) (Eq.symm I_eq)), (by (try simp only [hZ_sI, hZ_sL, hZ_sD, hZ_sR]); omega), (by (try simp only [hU_sI, hU_sL, hU_sD, hU_sR]); omega)⟩
                  · refine r_ic (x := 1) rfl rfl ?_
                    refine r_goto (tg := 23) rfl rfl ?_
                    refine r_zret rfl (.inr rfl) ?_
                    show WR _ cd_51 84 [some (.ref (ad 0)), some (.int c), some (.int i), some (.int d), some (.int j), some (.int m), some (.ref (mid t7)), some (.ref (mid t23)), none] [.int 1] (sI h (ad 0) 6 0) _
                    refine r_if_eq (tg := 99) rfl rfl (fun q => absurd q (by decide)) (fun _ => ?_)
                    refine r_aload rfl rfl ?_
                    refine r_iload rfl rfl ?_
                    refine r_iload rfl rfl ?_
                    refine WR_tI (y := nI k39) ek39 ?_
                    refine r_cw (y := 32) (ra := [.int (nI k39), .int j]) (rest := []) rfl ⟨rfl, rfl⟩ (by rw [show hT (sI h (ad 0) 6 0) (mid t23) = 6 from tg23]; rfl) rfl rfl (Nat.le_of_ble_eq_true rfl) ?_
                    refine in_32 (Nat.le_of_ble_eq_true rfl) ?_
                    show WR _ cd_32 0 [some (.ref (mid t23)), some (.int j), some (.int (nI k39))] [] (sI h (ad 0) 6 0) _
                    refine r_iload rfl rfl ?_
                    refine r_if_lt (tg := 22) rfl rfl (fun c43 => ?_) (fun c43 => ?_)
                    · refine r_ic (x := 0) rfl rfl ?_
                      refine r_zret rfl (.inl rfl) ?_
                      show WR _ cd_51 96 [some (.ref (ad 0)), some (.int c), some (.int i), some (.int d), some (.int j), some (.int m), some (.ref (mid t7)), some (.ref (mid t23)), none] [.int 0] (sI h (ad 0) 6 0) _
                      refine r_if_ne (tg := 106) rfl rfl (fun q => absurd q (by decide)) (fun _ => ?_)
                      refine r_aload rfl rfl ?_
                      refine r_ic (x := (-12)) rfl rfl ?_
                      refine r_cv (y := 13) (ra := [.int (-12)]) (rest := []) rfl ⟨⟨rfl, rfl⟩, rfl, by decide⟩ (fx_t0 fx) rfl rfl (Nat.le_of_ble_eq_true rfl) ?_
                      refine in_13 (Nat.le_of_ble_eq_true rfl) ?_
                      show WR _ cd_13 0 [some (.ref (ad 0)), some (.int (-12))] [] (sI h (ad 0) 6 0) _
                      refine r_aload rfl rfl ?_
                      refine r_iload rfl rfl ?_
                      refine r_putI rfl ⟨rfl, rfl, rfl⟩ (fx_t0 fx) ?_
                      have fx : FX n ad sa z0 (sI (sI h (ad 0) 6 0) (ad 0) 6 (-12)) := (FX.sI fx)
                      refine r_iload rfl rfl ?_
                      refine r_iret rfl ?_
                      show WR _ cd_51 105 [some (.ref (ad 0)), some (.int c), some (.int i), some (.int d), some (.int j), some (.int m), some (.ref (mid t7)), some (.ref (mid t23)), none] [.int (-12)] (sI (sI h (ad 0) 6 0) (ad 0) 6 (-12)) _
                      refine r_iret rfl ?_
                      show EV _ 179 [.ref (ad 30), .int c, .int i, .int d, .int j, .int m] (sI (sI h (ad 0) 6 0) (ad 0) 6 (-12)) _
                      refine in_179 (Nat.le_of_ble_eq_true rfl) ?_
                      show WR _ cd_179 0 [some (.ref (ad 30)), some (.int c), some (.int i), some (.int d), some (.int j), some (.int m), none, none, none, none, none] [] (sI (sI h (ad 0) 6 0) (ad 0) 6 (-12)) _
                      refine r_iload rfl rfl ?_
                      refine WR_tI (y := nI k2) ek2 ?_
                      refine r_cs (y := 153) (ra := [.int (nI k2)]) (rest := []) rfl ⟨⟨rfl, rfl⟩, by decide⟩ rfl rfl (Nat.le_of_ble_eq_true rfl) ?_
                      refine in_153 (Nat.le_of_ble_eq_true rfl) ?_
                      show WR _ cd_153 0 [some (.int (nI k2))] [] (sI (sI h (ad 0) 6 0) (ad 0) 6 (-12)) _
                      refine r_iload rfl rfl ?_
                      refine r_if_lt (tg := 14) rfl rfl (fun q => False.elim (by have := i_nlt c1; have := i_rg c; have : (0 : Int32).toInt = 0 := rfl; have := i_eq ek2; have : (nI k2).toInt = ((k2 : Nat) : Int) := nI_toInt (by omega); have := i_nle c3; have : (24 : Int32).toInt = 24 := rfl; have := i_lt q; omega)) (fun _ => ?_)
                      refine r_iload rfl rfl ?_
                      refine r_ic (x := 24) rfl rfl ?_
                      refine r_icmp_ge (tg := 14) rfl rfl (fun q => False.elim (by have := i_nlt c1; have := i_rg c; have : (0 : Int32).toInt = 0 := rfl; have := i_eq ek2; have : (nI k2).toInt = ((k2 : Nat) : Int) := nI_toInt (by omega); have := i_nle c3; have : (24 : Int32).toInt = 24 := rfl; have := i_le q; omega)) (fun _ => ?_)
                      refine r_ic (x := 1) rfl rfl ?_
                      refine r_goto (tg := 15) rfl rfl ?_
                      refine r_zret rfl (.inr rfl) ?_
                      show WR _ cd_179 4 [some (.ref (ad 30)), some (.int c), some (.int i), some (.int d), some (.int j), some (.int m), none, none, none, none, none] [.int 1] (sI (sI h (ad 0) 6 0) (ad 0) 6 (-12)) _
                      refine r_if_eq (tg := 14) rfl rfl (fun q => absurd q (by decide)) (fun _ => ?_)
                      refine r_iload rfl rfl ?_
                      refine WR_tI (y := nI k5) ek5 ?_
                      refine r_cs (y := 153) (ra := [.int (nI k5)]) (rest := []) rfl ⟨⟨rfl, rfl⟩, by decide⟩ rfl rfl (Nat.le_of_ble_eq_true rfl) ?_
                      refine in_153 (Nat.le_of_ble_eq_true rfl) ?_
                      show WR _ cd_153 0 [some (.int (nI k5))] [] (sI (sI h (ad 0) 6 0) (ad 0) 6 (-12)) _
                      refine r_iload rfl rfl ?_
                      refine r_if_lt (tg := 14) rfl rfl (fun q => False.elim (by have := i_nlt c4; have := i_rg d; have : (0 : Int32).toInt = 0 := rfl; have := i_eq ek5; have : (nI k5).toInt = ((k5 : Nat) : Int) := nI_toInt (by omega); have := i_nle c6; have : (24 : Int32).toInt = 24 := rfl; have := i_lt q; omega)) (fun _ => ?_)
                      refine r_iload rfl rfl ?_
                      refine r_ic (x := 24) rfl rfl ?_
                      refine r_icmp_ge (tg := 14) rfl rfl (fun q => False.elim (by have := i_nlt c4; have := i_rg d; have : (0 : Int32).toInt = 0 := rfl; have := i_eq ek5; have : (nI k5).toInt = ((k5 : Nat) : Int) := nI_toInt (by omega); have := i_nle c6; have : (24 : Int32).toInt = 24 := rfl; have := i_le q; omega)) (fun _ => ?_)
                      refine r_ic (x := 1) rfl rfl ?_
                      refine r_goto (tg := 15) rfl rfl ?_
                      refine r_zret rfl (.inr rfl) ?_
                      show WR _ cd_179 11 [some (.ref (ad 30)), some (.int c), some (.int i), some (.int d), some (.int j), some (.int m), none, none, none, none, none] [.int 1] (sI (sI h (ad 0) 6 0) (ad 0) 6 (-12)) _
                      refine r_if_ne (tg := 21) rfl rfl (fun _ => ?_) (fun q => absurd q (by decide))
                      refine r_aload rfl rfl ?_
                      refine r_getA (b := ad 31) rfl ⟨rfl, rfl, rfl⟩ (fx_t30 fx) (fx_r30_0 fx) ?_
                      refine r_iload rfl rfl ?_
                      refine WR_tI (y := nI k2) ek2 ?_
                      refine r_iaload rfl (.inl (fx_t31 fx)) (vp_ct (fx_n31 fx) (vp_in_nI (by have := i_nlt c1; have := i_rg c; have : (0 : Int32).toInt = 0 := rfl; have := i_eq ek2; have : (nI k2).toInt = ((k2 : Nat) : Int) := nI_toInt (by omega); have := i_nle c3; have : (24 : Int32).toInt = 24 := rfl; omega) (by omega))) ?_
                      refine WR_tI (congrArg (hI (sI (sI h (ad 0) 6 0) (ad 0) 6 (-12)) (ad 31)) ((nI_clamp (by have := i_nlt c1; have := i_rg c; have : (0 : Int32).toInt = 0 := rfl; have := i_eq ek2; have : (nI k2).toInt = ((k2 : Nat) : Int) := nI_toInt (by omega); have := i_nle c3; have : (24 : Int32).toInt = 24 := rfl; omega)) : _ = k2)) ?_
                      refine WR_tI (y := nI t7) (Eq.trans (I_ne (fx_ne fx (by decide))) (Eq.trans (I_ne (fx_ne fx (by decide))) v7)) ?_
                      refine r_istore (lv' := [some (.ref (ad 30)), some (.int c), some (.int i), some (.int d), some (.int j), some (.int m), some (.int (nI t7)), none, none, none, none]) rfl (Nat.le_of_ble_eq_true rfl) rfl ?_
                      refine r_aload rfl rfl ?_
                      refine r_getA (b := ad 31) rfl ⟨rfl, rfl, rfl⟩ (fx_t30 fx) (fx_r30_0 fx) ?_
                      refine r_iload rfl rfl ?_
                      refine WR_tI (y := nI k5) ek5 ?_
                      refine r_iaload rfl (.inl (fx_t31 fx)) (vp_ct (fx_n31 fx) (vp_in_nI (by have := i_nlt c4; have := i_rg d; have : (0 : Int32).toInt = 0 := rfl; have := i_eq ek5; have : (nI k5).toInt = ((k5 : Nat) : Int) := nI_toInt (by omega); have := i_nle c6; have : (24 : Int32).toInt = 24 := rfl; omega) (by omega))) ?_
                      refine WR_tI (congrArg (hI (sI (sI h (ad 0) 6 0) (ad 0) 6 (-12)) (ad 31)) ((nI_clamp (by have := i_nlt c4; have := i_rg d; have : (0 : Int32).toInt = 0 := rfl; have := i_eq ek5; have : (nI k5).toInt = ((k5 : Nat) : Int) := nI_toInt (by omega); have := i_nle c6; have : (24 : Int32).toInt = 24 := rfl; omega)) : _ = k5)) ?_
                      refine WR_tI (y := nI t23) (Eq.trans (I_ne (fx_ne fx (by decide))) (Eq.trans (I_ne (fx_ne fx (by decide))) v23)) ?_
                      refine r_istore (lv' := [some (.ref (ad 30)), some (.int c), some (.int i), some (.int d), some (.int j), some (.int m), some (.int (nI t7)), some (.int (nI t23)), none, none, none]) rfl (Nat.le_of_ble_eq_true rfl) rfl ?_
                      refine r_iload rfl rfl ?_
                      refine r_ic (x := (-1)) rfl rfl ?_
                      refine r_icmp_eq (tg := 49) rfl rfl (fun q => False.elim (by have : (nI t7).toInt = ((t7 : Nat) : Int) := nI_toInt (by omega); have : (-1 : Int32).toInt = -1 := rfl; have := i_eq q; omega)) (fun _ => ?_)
                      refine r_iload rfl rfl ?_
                      refine r_ic (x := (-1)) rfl rfl ?_
                      refine r_icmp_ne (tg := 55) rfl rfl (fun _ => ?_) (fun q => False.elim (by have : (nI t23).toInt = ((t23 : Nat) : Int) := nI_toInt (by omega); have : (-1 : Int32).toInt = -1 := rfl; have := i_eq q; omega))
                      refine r_iload rfl rfl ?_
                      refine r_ic (x := 1000) rfl rfl ?_
                      refine r_icmp_ge (tg := 112) rfl rfl (fun q => False.elim (by have : (nI t7).toInt = ((t7 : Nat) : Int) := nI_toInt (by omega); have : (1000 : Int32).toInt = 1000 := rfl; have := i_le q; omega)) (fun _ => ?_)
                      refine r_iload rfl rfl ?_
                      refine r_ic (x := 1000) rfl rfl ?_
                      refine r_icmp_ge (tg := 112) rfl rfl (fun q => False.elim (by have : (nI t23).toInt = ((t23 : Nat) : Int) := nI_toInt (by omega); have : (1000 : Int32).toInt = 1000 := rfl; have := i_le q; omega)) (fun _ => ?_)
                      refine r_aload rfl rfl ?_
                      refine r_getA (b := ad 33) rfl ⟨rfl, rfl, rfl⟩ (fx_t30 fx) (fx_r30_2 fx) ?_
                      refine r_iload rfl rfl ?_
                      refine r_iaload rfl (.inl (fx_t33 fx)) (vp_ct (fx_n33 fx) (vp_in_nI (by omega) (by omega))) ?_
                      refine WR_tI (congrArg (hI (sI (sI h (ad 0) 6 0) (ad 0) 6 (-12)) (ad 33)) ((nI_clamp (by omega)) : _ = t7)) ?_
                      refine WR_tI (y := 8) (Eq.trans (I_ne (fx_ne fx (by decide))) (Eq.trans (I_ne (fx_ne fx (by decide))) l2_7)) ?_
                      refine r_aload rfl rfl ?_
                      refine r_getA (b := ad 33) rfl ⟨rfl, rfl, rfl⟩ (fx_t30 fx) (fx_r30_2 fx) ?_
                      refine r_iload rfl rfl ?_
                      refine r_iaload rfl (.inl (fx_t33 fx)) (vp_ct (fx_n33 fx) (vp_in_nI (by omega) (by omega))) ?_
                      refine WR_tI (congrArg (hI (sI (sI h (ad 0) 6 0) (ad 0) 6 (-12)) (ad 33)) ((nI_clamp (by omega)) : _ = t23)) ?_
                      refine WR_tI (y := 9) (Eq.trans (I_ne (fx_ne fx (by decide))) (Eq.trans (I_ne (fx_ne fx (by decide))) l2_23)) ?_
                      refine r_icmp_eq (tg := 118) rfl rfl (fun q => absurd q (by decide)) (fun _ => ?_)
                      refine r_aload rfl rfl ?_
                      refine r_getA (b := ad 33) rfl ⟨rfl, rfl, rfl⟩ (fx_t30 fx) (fx_r30_2 fx) ?_
                      refine r_iload rfl rfl ?_
                      refine r_iaload rfl (.inl (fx_t33 fx)) (vp_ct (fx_n33 fx) (vp_in_nI (by omega) (by omega))) ?_
                      refine WR_tI (congrArg (hI (sI (sI h (ad 0) 6 0) (ad 0) 6 (-12)) (ad 33)) ((nI_clamp (by omega)) : _ = t7)) ?_
                      refine WR_tI (y := 8) (Eq.trans (I_ne (fx_ne fx (by decide))) (Eq.trans (I_ne (fx_ne fx (by decide))) l2_7)) ?_
                      refine r_ic (x := 8) rfl rfl ?_
                      refine r_icmp_lt (tg := 112) rfl rfl (fun q => absurd q (by decide)) (fun _ => ?_)
                      refine r_aload rfl rfl ?_
                      refine r_getA (b := ad 33) rfl ⟨rfl, rfl, rfl⟩ (fx_t30 fx) (fx_r30_2 fx) ?_
                      refine r_iload rfl rfl ?_
                      refine r_iaload rfl (.inl (fx_t33 fx)) (vp_ct (fx_n33 fx) (vp_in_nI (by omega) (by omega))) ?_
                      refine WR_tI (congrArg (hI (sI (sI h (ad 0) 6 0) (ad 0) 6 (-12)) (ad 33)) ((nI_clamp (by omega)) : _ = t23)) ?_
                      refine WR_tI (y := 9) (Eq.trans (I_ne (fx_ne fx (by decide))) (Eq.trans (I_ne (fx_ne fx (by decide))) l2_23)) ?_
                      refine r_ic (x := 8) rfl rfl ?_
                      refine r_icmp_ge (tg := 118) rfl rfl (fun _ => ?_) (fun q => absurd q (by decide))
                      refine r_iload rfl rfl ?_
                      refine WR_tI (y := nI k40) ek40 ?_
                      refine r_if_lt (tg := 169) rfl rfl (fun q => False.elim (by have := i_nlt c35; have := i_rg i; have : (0 : Int32).toInt = 0 := rfl; have := i_nlt c36; have := i_rg m; have := i_eq ek39; have : (nI k39).toInt = ((k39 : Nat) : Int) := nI_toInt (by omega); have := i_eq ek40; have : (nI k40).toInt = ((k40 : Nat) : Int) := nI_toInt (by omega); have := i_nlt c41; have : (nI sz7).toInt = ((sz7 : Nat) : Int) := nI_toInt (by omega); have := sub_t (x := nI sz7) (y := nI k40) (by have := i_nlt c35; have := i_rg i; have : (0 : Int32).toInt = 0 := rfl; have := i_eq ek40; have : (nI k40).toInt = ((k40 : Nat) : Int) := nI_toInt (by omega); have : (nI sz7).toInt = ((sz7 : Nat) : Int) := nI_toInt (by omega); omega) (by have := i_nlt c35; have := i_rg i; have : (0 : Int32).toInt = 0 := rfl; have := i_eq ek40; have : (nI k40).toInt = ((k40 : Nat) : Int) := nI_toInt (by omega); have : (nI sz7).toInt = ((sz7 : Nat) : Int) := nI_toInt (by omega); omega); have := i_lt q; omega)) (fun _ => ?_)
                      refine r_iload rfl rfl ?_
                      refine r_if_lt (tg := 169) rfl rfl (fun _ => ?_) (fun q => False.elim (by have := i_lt c43; have := i_rg j; have : (0 : Int32).toInt = 0 := rfl; have := i_nlt q; omega))
                      refine r_aload rfl rfl ?_
                      refine r_ic (x := 2) rfl rfl ?_
                      refine r_cv (y := 156) (ra := [.int 2]) (rest := []) rfl ⟨⟨rfl, rfl⟩, rfl, by decide⟩ (fx_t30 fx) rfl rfl (Nat.le_of_ble_eq_true rfl) ?_
                      refine in_156 (Nat.le_of_ble_eq_true rfl) ?_
                      show WR _ cd_156 0 [some (.ref (ad 30)), some (.int 2)] [] (sI (sI h (ad 0) 6 0) (ad 0) 6 (-12)) _
                      refine r_aload rfl rfl ?_
                      refine r_ic (x := (-10)) rfl rfl ?_
                      refine r_iload rfl rfl ?_
                      refine r_isub rfl ?_
                      refine WR_tI (y := (-12)) rfl ?_
                      refine r_cv (y := 154) (ra := [.int (-12)]) (rest := []) rfl ⟨⟨rfl, rfl⟩, rfl, by decide⟩ (fx_t30 fx) rfl rfl (Nat.le_of_ble_eq_true rfl) ?_
                      refine in_154 (Nat.le_of_ble_eq_true rfl) ?_
                      show WR _ cd_154 0 [some (.ref (ad 30)), some (.int (-12))] [] (sI (sI h (ad 0) 6 0) (ad 0) 6 (-12)) _
                      refine r_aload rfl rfl ?_
                      refine r_iload rfl rfl ?_
                      refine r_ic (x := (-1)) rfl rfl ?_
                      refine r_icmp_ge (tg := 10) rfl rfl (fun q => absurd q (by decide)) (fun _ => ?_)
                      refine r_iload rfl rfl ?_
                      refine r_goto (tg := 11) rfl rfl ?_
                      refine r_putI rfl ⟨rfl, rfl, rfl⟩ (fx_t30 fx) ?_
                      have fx : FX n ad sa z0 (sI (sI (sI h (ad 0) 6 0) (ad 0) 6 (-12)) (ad 30) 11 (-12)) := (FX.sI fx)
                      refine r_iload rfl rfl ?_
                      refine r_iret rfl ?_
                      show WR _ cd_156 8 [some (.ref (ad 30)), some (.int 2)] [.int (-12)] (sI (sI (sI h (ad 0) 6 0) (ad 0) 6 (-12)) (ad 30) 11 (-12)) _
                      refine r_iret rfl ?_
                      show WR _ cd_179 174 [some (.ref (ad 30)), some (.int c), some (.int i), some (.int d), some (.int j), some (.int m), some (.int (nI t7)), some (.int (nI t23)), none, none, none] [.int (-12)] (sI (sI (sI h (ad 0) 6 0) (ad 0) 6 (-12)) (ad 30) 11 (-12)) _
                      refine r_iret rfl ?_
                      exact ⟨rfl, Rel.why r (((Chg.rf.sI (fx_j fx) (.inl (by decide))).sI (fx_j fx) (.inl (by decide))).sI (fx_j fx) (.inl (by decide))) ⟨rfl, by decide⟩ (Eq.trans (Eq.trans (I_ne (fx_ne fx (by decide))) I_eq) (Eq.symm I_eq)), (by (try simp only [hZ_sI, hZ_sL, hZ_sD, hZ_sR]); omega), (by (try simp only [hU_sI, hU_sL, hU_sD, hU_sR]); omega)⟩
                    · refine r_iload rfl rfl ?_
                      refine r_if_lt (tg := 22) rfl rfl (fun q => False.elim (by have := i_nlt c35; have := i_rg i; have : (0 : Int32).toInt = 0 := rfl; have := i_nlt c36; have := i_rg m; have := i_eq ek39; have : (nI k39).toInt = ((k39 : Nat) : Int) := nI_toInt (by omega); have := i_eq ek40; have : (nI k40).toInt = ((k40 : Nat) : Int) := nI_toInt (by omega); have := i_nlt c41; have : (nI sz7).toInt = ((sz7 : Nat) : Int) := nI_toInt (by omega); have := sub_t (x := nI sz7) (y := nI k40) (by have := i_nlt c35; have := i_rg i; have : (0 : Int32).toInt = 0 := rfl; have := i_eq ek40; have : (nI k40).toInt = ((k40 : Nat) : Int) := nI_toInt (by omega); have : (nI sz7).toInt = ((sz7 : Nat) : Int) := nI_toInt (by omega); omega) (by have := i_nlt c35; have := i_rg i; have : (0 : Int32).toInt = 0 := rfl; have := i_eq ek40; have : (nI k40).toInt = ((k40 : Nat) : Int) := nI_toInt (by omega); have : (nI sz7).toInt = ((sz7 : Nat) : Int) := nI_toInt (by omega); omega); have := i_lt q; omega)) (fun _ => ?_)
                      refine r_iload rfl rfl ?_
                      refine r_aload rfl rfl ?_
                      refine r_cw (y := 35) (ra := []) (rest := [.int (nI k39)]) rfl ⟨rfl, rfl⟩ (by rw [show hT (sI h (ad 0) 6 0) (mid t23) = 6 from tg23]; rfl) rfl rfl (Nat.le_of_ble_eq_true rfl) ?_
                      refine in_35 (Nat.le_of_ble_eq_true rfl) ?_
                      show WR _ cd_35 0 [some (.ref (mid t23))] [] (sI h (ad 0) 6 0) _
                      refine r_aload rfl rfl ?_
                      refine r_getA (b := mid t23 + 1) rfl ⟨rfl, rfl, rfl⟩ tg23 (Eq.trans R_oI r_23) ?_
                      refine r_alen rfl (isA_of tg2_23 (by decide)) ?_
                      refine WR_tI (y := nI sz23) (congrArg nI n_23) ?_
                      refine r_iret rfl ?_
                      show WR _ cd_32 13 [some (.ref (mid t23)), some (.int j), some (.int (nI k39))] [.int (nI sz23), .int (nI k39)] (sI h (ad 0) 6 0) _
                      obtain ⟨k44, hk44, ek44⟩ := ix_of (x := j) (n := 2147483648) (by have := i_nlt c43; have := i_rg j; have : (0 : Int32).toInt = 0 := rfl; omega) (by have := i_nlt c43; have := i_rg j; have : (0 : Int32).toInt = 0 := rfl; omega)
                      refine r_iload rfl rfl ?_
                      refine WR_tI (y := nI k44) ek44 ?_
                      refine r_isub rfl ?_
                      refine r_icmp_gt (tg := 22) rfl rfl (fun c45 => ?_) (fun c45 => ?_)
                      · refine r_ic (x := 0) rfl rfl ?_
                        refine r_zret rfl (.inl rfl) ?_
                        show WR _ cd_51 96 [some (.ref (ad 0)), some (.int c), some (.int i), some (.int d), some (.int j), some (.int m), some (.ref (mid t7)), some (.ref (mid t23)), none] [.int 0] (sI h (ad 0) 6 0) _
                        refine r_if_ne (tg := 106) rfl rfl (fun q => absurd q (by decide)) (fun _ => ?_)
                        refine r_aload rfl rfl ?_
                        refine r_ic (x := (-12)) rfl rfl ?_
                        refine r_cv (y := 13) (ra := [.int (-12)]) (rest := []) rfl ⟨⟨rfl, rfl⟩, rfl, by decide⟩ (fx_t0 fx) rfl rfl (Nat.le_of_ble_eq_true rfl) ?_
                        refine in_13 (Nat.le_of_ble_eq_true rfl) ?_
                        show WR _ cd_13 0 [some (.ref (ad 0)), some (.int (-12))] [] (sI h (ad 0) 6 0) _
                        refine r_aload rfl rfl ?_
                        refine r_iload rfl rfl ?_
                        refine r_putI rfl ⟨rfl, rfl, rfl⟩ (fx_t0 fx) ?_
                        have fx : FX n ad sa z0 (sI (sI h (ad 0) 6 0) (ad 0) 6 (-12)) := (FX.sI fx)
                        refine r_iload rfl rfl ?_
                        refine r_iret rfl ?_
                        show WR _ cd_51 105 [some (.ref (ad 0)), some (.int c), some (.int i), some (.int d), some (.int j), some (.int m), some (.ref (mid t7)), some (.ref (mid t23)), none] [.int (-12)] (sI (sI h (ad 0) 6 0) (ad 0) 6 (-12)) _
                        refine r_iret rfl ?_
                        show EV _ 179 [.ref (ad 30), .int c, .int i, .int d, .int j, .int m] (sI (sI h (ad 0) 6 0) (ad 0) 6 (-12)) _
                        refine in_179 (Nat.le_of_ble_eq_true rfl) ?_
                        show WR _ cd_179 0 [some (.ref (ad 30)), some (.int c), some (.int i), some (.int d), some (.int j), some (.int m), none, none, none, none, none] [] (sI (sI h (ad 0) 6 0) (ad 0) 6 (-12)) _
                        refine r_iload rfl rfl ?_
                        refine WR_tI (y := nI k2) ek2 ?_
                        refine r_cs (y := 153) (ra := [.int (nI k2)]) (rest := []) rfl ⟨⟨rfl, rfl⟩, by decide⟩ rfl rfl (Nat.le_of_ble_eq_true rfl) ?_
                        refine in_153 (Nat.le_of_ble_eq_true rfl) ?_
                        show WR _ cd_153 0 [some (.int (nI k2))] [] (sI (sI h (ad 0) 6 0) (ad 0) 6 (-12)) _
                        refine r_iload rfl rfl ?_
                        refine r_if_lt (tg := 14) rfl rfl (fun q => False.elim (by have := i_nlt c1; have := i_rg c; have : (0 : Int32).toInt = 0 := rfl; have := i_eq ek2; have : (nI k2).toInt = ((k2 : Nat) : Int) := nI_toInt (by omega); have := i_nle c3; have : (24 : Int32).toInt = 24 := rfl; have := i_lt q; omega)) (fun _ => ?_)
                        refine r_iload rfl rfl ?_
                        refine r_ic (x := 24) rfl rfl ?_
                        refine r_icmp_ge (tg := 14) rfl rfl (fun q => False.elim (by have := i_nlt c1; have := i_rg c; have : (0 : Int32).toInt = 0 := rfl; have := i_eq ek2; have : (nI k2).toInt = ((k2 : Nat) : Int) := nI_toInt (by omega); have := i_nle c3; have : (24 : Int32).toInt = 24 := rfl; have := i_le q; omega)) (fun _ => ?_)
                        refine r_ic (x := 1) rfl rfl ?_
                        refine r_goto (tg := 15) rfl rfl ?_
                        refine r_zret rfl (.inr rfl) ?_
                        show WR _ cd_179 4 [some (.ref (ad 30)), some (.int c), some (.int i), some (.int d), some (.int j), some (.int m), none, none, none, none, none] [.int 1] (sI (sI h (ad 0) 6 0) (ad 0) 6 (-12)) _
                        refine r_if_eq (tg := 14) rfl rfl (fun q => absurd q (by decide)) (fun _ => ?_)
                        refine r_iload rfl rfl ?_
                        refine WR_tI (y := nI k5) ek5 ?_
                        refine r_cs (y := 153) (ra := [.int (nI k5)]) (rest := []) rfl ⟨⟨rfl, rfl⟩, by decide⟩ rfl rfl (Nat.le_of_ble_eq_true rfl) ?_
                        refine in_153 (Nat.le_of_ble_eq_true rfl) ?_
                        show WR _ cd_153 0 [some (.int (nI k5))] [] (sI (sI h (ad 0) 6 0) (ad 0) 6 (-12)) _
                        refine r_iload rfl rfl ?_
                        refine r_if_lt (tg := 14) rfl rfl (fun q => False.elim (by have := i_nlt c4; have := i_rg d; have : (0 : Int32).toInt = 0 := rfl; have := i_eq ek5; have : (nI k5).toInt = ((k5 : Nat) : Int) := nI_toInt (by omega); have := i_nle c6; have : (24 : Int32).toInt = 24 := rfl; have := i_lt q; omega)) (fun _ => ?_)
                        refine r_iload rfl rfl ?_
                        refine r_ic (x := 24) rfl rfl ?_
                        refine r_icmp_ge (tg := 14) rfl rfl (fun q => False.elim (by have := i_nlt c4; have := i_rg d; have : (0 : Int32).toInt = 0 := rfl; have := i_eq ek5; have : (nI k5).toInt = ((k5 : Nat) : Int) := nI_toInt (by omega); have := i_nle c6; have : (24 : Int32).toInt = 24 := rfl; have := i_le q; omega)) (fun _ => ?_)
                        refine r_ic (x := 1) rfl rfl ?_
                        refine r_goto (tg := 15) rfl rfl ?_
                        refine r_zret rfl (.inr rfl) ?_
                        show WR _ cd_179 11 [some (.ref (ad 30)), some (.int c), some (.int i), some (.int d), some (.int j), some (.int m), none, none, none, none, none] [.int 1] (sI (sI h (ad 0) 6 0) (ad 0) 6 (-12)) _
                        refine r_if_ne (tg := 21) rfl rfl (fun _ => ?_) (fun q => absurd q (by decide))
                        refine r_aload rfl rfl ?_
                        refine r_getA (b := ad 31) rfl ⟨rfl, rfl, rfl⟩ (fx_t30 fx) (fx_r30_0 fx) ?_
                        refine r_iload rfl rfl ?_
                        refine WR_tI (y := nI k2) ek2 ?_
                        refine r_iaload rfl (.inl (fx_t31 fx)) (vp_ct (fx_n31 fx) (vp_in_nI (by have := i_nlt c1; have := i_rg c; have : (0 : Int32).toInt = 0 := rfl; have := i_eq ek2; have : (nI k2).toInt = ((k2 : Nat) : Int) := nI_toInt (by omega); have := i_nle c3; have : (24 : Int32).toInt = 24 := rfl; omega) (by omega))) ?_
                        refine WR_tI (congrArg (hI (sI (sI h (ad 0) 6 0) (ad 0) 6 (-12)) (ad 31)) ((nI_clamp (by have := i_nlt c1; have := i_rg c; have : (0 : Int32).toInt = 0 := rfl; have := i_eq ek2; have : (nI k2).toInt = ((k2 : Nat) : Int) := nI_toInt (by omega); have := i_nle c3; have : (24 : Int32).toInt = 24 := rfl; omega)) : _ = k2)) ?_
                        refine WR_tI (y := nI t7) (Eq.trans (I_ne (fx_ne fx (by decide))) (Eq.trans (I_ne (fx_ne fx (by decide))) v7)) ?_
                        refine r_istore (lv' := [some (.ref (ad 30)), some (.int c), some (.int i), some (.int d), some (.int j), some (.int m), some (.int (nI t7)), none, none, none, none]) rfl (Nat.le_of_ble_eq_true rfl) rfl ?_
                        refine r_aload rfl rfl ?_
                        refine r_getA (b := ad 31) rfl ⟨rfl, rfl, rfl⟩ (fx_t30 fx) (fx_r30_0 fx) ?_
                        refine r_iload rfl rfl ?_
                        refine WR_tI (y := nI k5) ek5 ?_
                        refine r_iaload rfl (.inl (fx_t31 fx)) (vp_ct (fx_n31 fx) (vp_in_nI (by have := i_nlt c4; have := i_rg d; have : (0 : Int32).toInt = 0 := rfl; have := i_eq ek5; have : (nI k5).toInt = ((k5 : Nat) : Int) := nI_toInt (by omega); have := i_nle c6; have : (24 : Int32).toInt = 24 := rfl; omega) (by omega))) ?_
                        refine WR_tI (congrArg (hI (sI (sI h (ad 0) 6 0) (ad 0) 6 (-12)) (ad 31)) ((nI_clamp (by have := i_nlt c4; have := i_rg d; have : (0 : Int32).toInt = 0 := rfl; have := i_eq ek5; have : (nI k5).toInt = ((k5 : Nat) : Int) := nI_toInt (by omega); have := i_nle c6; have : (24 : Int32).toInt = 24 := rfl; omega)) : _ = k5)) ?_
                        refine WR_tI (y := nI t23) (Eq.trans (I_ne (fx_ne fx (by decide))) (Eq.trans (I_ne (fx_ne fx (by decide))) v23)) ?_
                        refine r_istore (lv' := [some (.ref (ad 30)), some (.int c), some (.int i), some (.int d), some (.int j), some (.int m), some (.int (nI t7)), some (.int (nI t23)), none, none, none]) rfl (Nat.le_of_ble_eq_true rfl) rfl ?_
                        refine r_iload rfl rfl ?_
                        refine r_ic (x := (-1)) rfl rfl ?_
                        refine r_icmp_eq (tg := 49) rfl rfl (fun q => False.elim (by have : (nI t7).toInt = ((t7 : Nat) : Int) := nI_toInt (by omega); have : (-1 : Int32).toInt = -1 := rfl; have := i_eq q; omega)) (fun _ => ?_)
                        refine r_iload rfl rfl ?_
                        refine r_ic (x := (-1)) rfl rfl ?_
                        refine r_icmp_ne (tg := 55) rfl rfl (fun _ => ?_) (fun q => False.elim (by have : (nI t23).toInt = ((t23 : Nat) : Int) := nI_toInt (by omega); have : (-1 : Int32).toInt = -1 := rfl; have := i_eq q; omega))
                        refine r_iload rfl rfl ?_
                        refine r_ic (x := 1000) rfl rfl ?_
                        refine r_icmp_ge (tg := 112) rfl rfl (fun q => False.elim (by have : (nI t7).toInt = ((t7 : Nat) : Int) := nI_toInt (by omega); have : (1000 : Int32).toInt = 1000 := rfl; have := i_le q; omega)) (fun _ => ?_)
                        refine r_iload rfl rfl ?_
                        refine r_ic (x := 1000) rfl rfl ?_
                        refine r_icmp_ge (tg := 112) rfl rfl (fun q => False.elim (by have : (nI t23).toInt = ((t23 : Nat) : Int) := nI_toInt (by omega); have : (1000 : Int32).toInt = 1000 := rfl; have := i_le q; omega)) (fun _ => ?_)
                        refine r_aload rfl rfl ?_
                        refine r_getA (b := ad 33) rfl ⟨rfl, rfl, rfl⟩ (fx_t30 fx) (fx_r30_2 fx) ?_
                        refine r_iload rfl rfl ?_
                        refine r_iaload rfl (.inl (fx_t33 fx)) (vp_ct (fx_n33 fx) (vp_in_nI (by omega) (by omega))) ?_
                        refine WR_tI (congrArg (hI (sI (sI h (ad 0) 6 0) (ad 0) 6 (-12)) (ad 33)) ((nI_clamp (by omega)) : _ = t7)) ?_
                        refine WR_tI (y := 8) (Eq.trans (I_ne (fx_ne fx (by decide))) (Eq.trans (I_ne (fx_ne fx (by decide))) l2_7)) ?_
                        refine r_aload rfl rfl ?_
                        refine r_getA (b := ad 33) rfl ⟨rfl, rfl, rfl⟩ (fx_t30 fx) (fx_r30_2 fx) ?_
                        refine r_iload rfl rfl ?_
                        refine r_iaload rfl (.inl (fx_t33 fx)) (vp_ct (fx_n33 fx) (vp_in_nI (by omega) (by omega))) ?_
                        refine WR_tI (congrArg (hI (sI (sI h (ad 0) 6 0) (ad 0) 6 (-12)) (ad 33)) ((nI_clamp (by omega)) : _ = t23)) ?_
                        refine WR_tI (y := 9) (Eq.trans (I_ne (fx_ne fx (by decide))) (Eq.trans (I_ne (fx_ne fx (by decide))) l2_23)) ?_
                        refine r_icmp_eq (tg := 118) rfl rfl (fun q => absurd q (by decide)) (fun _ => ?_)
                        refine r_aload rfl rfl ?_
                        refine r_getA (b := ad 33) rfl ⟨rfl, rfl, rfl⟩ (fx_t30 fx) (fx_r30_2 fx) ?_
                        refine r_iload rfl rfl ?_
                        refine r_iaload rfl (.inl (fx_t33 fx)) (vp_ct (fx_n33 fx) (vp_in_nI (by omega) (by omega))) ?_
                        refine WR_tI (congrArg (hI (sI (sI h (ad 0) 6 0) (ad 0) 6 (-12)) (ad 33)) ((nI_clamp (by omega)) : _ = t7)) ?_
                        refine WR_tI (y := 8) (Eq.trans (I_ne (fx_ne fx (by decide))) (Eq.trans (I_ne (fx_ne fx (by decide))) l2_7)) ?_
                        refine r_ic (x := 8) rfl rfl ?_
                        refine r_icmp_lt (tg := 112) rfl rfl (fun q => absurd q (by decide)) (fun _ => ?_)
                        refine r_aload rfl rfl ?_
                        refine r_getA (b := ad 33) rfl ⟨rfl, rfl, rfl⟩ (fx_t30 fx) (fx_r30_2 fx) ?_
                        refine r_iload rfl rfl ?_
                        refine r_iaload rfl (.inl (fx_t33 fx)) (vp_ct (fx_n33 fx) (vp_in_nI (by omega) (by omega))) ?_
                        refine WR_tI (congrArg (hI (sI (sI h (ad 0) 6 0) (ad 0) 6 (-12)) (ad 33)) ((nI_clamp (by omega)) : _ = t23)) ?_
                        refine WR_tI (y := 9) (Eq.trans (I_ne (fx_ne fx (by decide))) (Eq.trans (I_ne (fx_ne fx (by decide))) l2_23)) ?_
                        refine r_ic (x := 8) rfl rfl ?_
                        refine r_icmp_ge (tg := 118) rfl rfl (fun _ => ?_) (fun q => absurd q (by decide))
                        refine r_iload rfl rfl ?_
                        refine WR_tI (y := nI k40) ek40 ?_
                        refine r_if_lt (tg := 169) rfl rfl (fun q => False.elim (by have := i_nlt c35; have := i_rg i; have : (0 : Int32).toInt = 0 := rfl; have := i_nlt c36; have := i_rg m; have := i_eq ek39; have : (nI k39).toInt = ((k39 : Nat) : Int) := nI_toInt (by omega); have := i_eq ek40; have : (nI k40).toInt = ((k40 : Nat) : Int) := nI_toInt (by omega); have := i_nlt c41; have : (nI sz7).toInt = ((sz7 : Nat) : Int) := nI_toInt (by omega); have := sub_t (x := nI sz7) (y := nI k40) (by have := i_nlt c35; have := i_rg i; have : (0 : Int32).toInt = 0 := rfl; have := i_eq ek40; have : (nI k40).toInt = ((k40 : Nat) : Int) := nI_toInt (by omega); have : (nI sz7).toInt = ((sz7 : Nat) : Int) := nI_toInt (by omega); omega) (by have := i_nlt c35; have := i_rg i; have : (0 : Int32).toInt = 0 := rfl; have := i_eq ek40; have : (nI k40).toInt = ((k40 : Nat) : Int) := nI_toInt (by omega); have : (nI sz7).toInt = ((sz7 : Nat) : Int) := nI_toInt (by omega); omega); have := i_nlt c43; have := i_rg j; have := i_eq ek44; have : (nI k44).toInt = ((k44 : Nat) : Int) := nI_toInt (by omega); have := i_lt c45; have : (nI sz23).toInt = ((sz23 : Nat) : Int) := nI_toInt (by omega); have := sub_t (x := nI sz23) (y := nI k44) (by have := i_nlt c43; have := i_rg j; have : (0 : Int32).toInt = 0 := rfl; have := i_eq ek44; have : (nI k44).toInt = ((k44 : Nat) : Int) := nI_toInt (by omega); have : (nI sz23).toInt = ((sz23 : Nat) : Int) := nI_toInt (by omega); omega) (by have := i_nlt c43; have := i_rg j; have : (0 : Int32).toInt = 0 := rfl; have := i_eq ek44; have : (nI k44).toInt = ((k44 : Nat) : Int) := nI_toInt (by omega); have : (nI sz23).toInt = ((sz23 : Nat) : Int) := nI_toInt (by omega); omega); have := i_lt q; omega)) (fun _ => ?_)
                        refine r_iload rfl rfl ?_
                        refine WR_tI (y := nI k44) ek44 ?_
                        refine r_if_lt (tg := 169) rfl rfl (fun q => False.elim (by have := i_nlt c35; have := i_rg i; have : (0 : Int32).toInt = 0 := rfl; have := i_nlt c36; have := i_rg m; have := i_eq ek39; have : (nI k39).toInt = ((k39 : Nat) : Int) := nI_toInt (by omega); have := i_eq ek40; have : (nI k40).toInt = ((k40 : Nat) : Int) := nI_toInt (by omega); have := i_nlt c41; have : (nI sz7).toInt = ((sz7 : Nat) : Int) := nI_toInt (by omega); have := sub_t (x := nI sz7) (y := nI k40) (by have := i_nlt c35; have := i_rg i; have : (0 : Int32).toInt = 0 := rfl; have := i_eq ek40; have : (nI k40).toInt = ((k40 : Nat) : Int) := nI_toInt (by omega); have : (nI sz7).toInt = ((sz7 : Nat) : Int) := nI_toInt (by omega); omega) (by have := i_nlt c35; have := i_rg i; have : (0 : Int32).toInt = 0 := rfl; have := i_eq ek40; have : (nI k40).toInt = ((k40 : Nat) : Int) := nI_toInt (by omega); have : (nI sz7).toInt = ((sz7 : Nat) : Int) := nI_toInt (by omega); omega); have := i_nlt c43; have := i_rg j; have := i_eq ek44; have : (nI k44).toInt = ((k44 : Nat) : Int) := nI_toInt (by omega); have := i_lt c45; have : (nI sz23).toInt = ((sz23 : Nat) : Int) := nI_toInt (by omega); have := sub_t (x := nI sz23) (y := nI k44) (by have := i_nlt c43; have := i_rg j; have : (0 : Int32).toInt = 0 := rfl; have := i_eq ek44; have : (nI k44).toInt = ((k44 : Nat) : Int) := nI_toInt (by omega); have : (nI sz23).toInt = ((sz23 : Nat) : Int) := nI_toInt (by omega); omega) (by have := i_nlt c43; have := i_rg j; have : (0 : Int32).toInt = 0 := rfl; have := i_eq ek44; have : (nI k44).toInt = ((k44 : Nat) : Int) := nI_toInt (by omega); have : (nI sz23).toInt = ((sz23 : Nat) : Int) := nI_toInt (by omega); omega); have := i_lt q; omega)) (fun _ => ?_)
                        refine r_iload rfl rfl ?_
                        refine WR_tI (y := nI k39) ek39 ?_
                        refine r_if_lt (tg := 169) rfl rfl (fun q => False.elim (by have := i_nlt c35; have := i_rg i; have : (0 : Int32).toInt = 0 := rfl; have := i_nlt c36; have := i_rg m; have := i_eq ek39; have : (nI k39).toInt = ((k39 : Nat) : Int) := nI_toInt (by omega); have := i_eq ek40; have : (nI k40).toInt = ((k40 : Nat) : Int) := nI_toInt (by omega); have := i_nlt c41; have : (nI sz7).toInt = ((sz7 : Nat) : Int) := nI_toInt (by omega); have := sub_t (x := nI sz7) (y := nI k40) (by have := i_nlt c35; have := i_rg i; have : (0 : Int32).toInt = 0 := rfl; have := i_eq ek40; have : (nI k40).toInt = ((k40 : Nat) : Int) := nI_toInt (by omega); have : (nI sz7).toInt = ((sz7 : Nat) : Int) := nI_toInt (by omega); omega) (by have := i_nlt c35; have := i_rg i; have : (0 : Int32).toInt = 0 := rfl; have := i_eq ek40; have : (nI k40).toInt = ((k40 : Nat) : Int) := nI_toInt (by omega); have : (nI sz7).toInt = ((sz7 : Nat) : Int) := nI_toInt (by omega); omega); have := i_nlt c43; have := i_rg j; have := i_eq ek44; have : (nI k44).toInt = ((k44 : Nat) : Int) := nI_toInt (by omega); have := i_lt c45; have : (nI sz23).toInt = ((sz23 : Nat) : Int) := nI_toInt (by omega); have := sub_t (x := nI sz23) (y := nI k44) (by have := i_nlt c43; have := i_rg j; have : (0 : Int32).toInt = 0 := rfl; have := i_eq ek44; have : (nI k44).toInt = ((k44 : Nat) : Int) := nI_toInt (by omega); have : (nI sz23).toInt = ((sz23 : Nat) : Int) := nI_toInt (by omega); omega) (by have := i_nlt c43; have := i_rg j; have : (0 : Int32).toInt = 0 := rfl; have := i_eq ek44; have : (nI k44).toInt = ((k44 : Nat) : Int) := nI_toInt (by omega); have : (nI sz23).toInt = ((sz23 : Nat) : Int) := nI_toInt (by omega); omega); have := i_lt q; omega)) (fun _ => ?_)
                        refine r_iload rfl rfl ?_
                        refine WR_tI (y := nI k40) ek40 ?_
                        refine r_i2l rfl ?_
                        refine WR_tL (y := lN k40) (nI_l (by have := i_nlt c35; have := i_rg i; have : (0 : Int32).toInt = 0 := rfl; have := i_nlt c36; have := i_rg m; have := i_eq ek39; have : (nI k39).toInt = ((k39 : Nat) : Int) := nI_toInt (by omega); have := i_eq ek40; have : (nI k40).toInt = ((k40 : Nat) : Int) := nI_toInt (by omega); have := i_nlt c41; have : (nI sz7).toInt = ((sz7 : Nat) : Int) := nI_toInt (by omega); have := sub_t (x := nI sz7) (y := nI k40) (by have := i_nlt c35; have := i_rg i; have : (0 : Int32).toInt = 0 := rfl; have := i_eq ek40; have : (nI k40).toInt = ((k40 : Nat) : Int) := nI_toInt (by omega); have : (nI sz7).toInt = ((sz7 : Nat) : Int) := nI_toInt (by omega); omega) (by have := i_nlt c35; have := i_rg i; have : (0 : Int32).toInt = 0 := rfl; have := i_eq ek40; have : (nI k40).toInt = ((k40 : Nat) : Int) := nI_toInt (by omega); have : (nI sz7).toInt = ((sz7 : Nat) : Int) := nI_toInt (by omega); omega); have := i_nlt c43; have := i_rg j; have := i_eq ek44; have : (nI k44).toInt = ((k44 : Nat) : Int) := nI_toInt (by omega); have := i_lt c45; have : (nI sz23).toInt = ((sz23 : Nat) : Int) := nI_toInt (by omega); have := sub_t (x := nI sz23) (y := nI k44) (by have := i_nlt c43; have := i_rg j; have : (0 : Int32).toInt = 0 := rfl; have := i_eq ek44; have : (nI k44).toInt = ((k44 : Nat) : Int) := nI_toInt (by omega); have : (nI sz23).toInt = ((sz23 : Nat) : Int) := nI_toInt (by omega); omega) (by have := i_nlt c43; have := i_rg j; have : (0 : Int32).toInt = 0 := rfl; have := i_eq ek44; have : (nI k44).toInt = ((k44 : Nat) : Int) := nI_toInt (by omega); have : (nI sz23).toInt = ((sz23 : Nat) : Int) := nI_toInt (by omega); omega); omega)) ?_
                        refine r_iload rfl rfl ?_
                        refine WR_tI (y := nI k39) ek39 ?_
                        refine r_i2l rfl ?_
                        refine WR_tL (y := lN k39) (nI_l (by have := i_nlt c35; have := i_rg i; have : (0 : Int32).toInt = 0 := rfl; have := i_nlt c36; have := i_rg m; have := i_eq ek39; have : (nI k39).toInt = ((k39 : Nat) : Int) := nI_toInt (by omega); have := i_eq ek40; have : (nI k40).toInt = ((k40 : Nat) : Int) := nI_toInt (by omega); have := i_nlt c41; have : (nI sz7).toInt = ((sz7 : Nat) : Int) := nI_toInt (by omega); have := sub_t (x := nI sz7) (y := nI k40) (by have := i_nlt c35; have := i_rg i; have : (0 : Int32).toInt = 0 := rfl; have := i_eq ek40; have : (nI k40).toInt = ((k40 : Nat) : Int) := nI_toInt (by omega); have : (nI sz7).toInt = ((sz7 : Nat) : Int) := nI_toInt (by omega); omega) (by have := i_nlt c35; have := i_rg i; have : (0 : Int32).toInt = 0 := rfl; have := i_eq ek40; have : (nI k40).toInt = ((k40 : Nat) : Int) := nI_toInt (by omega); have : (nI sz7).toInt = ((sz7 : Nat) : Int) := nI_toInt (by omega); omega); have := i_nlt c43; have := i_rg j; have := i_eq ek44; have : (nI k44).toInt = ((k44 : Nat) : Int) := nI_toInt (by omega); have := i_lt c45; have : (nI sz23).toInt = ((sz23 : Nat) : Int) := nI_toInt (by omega); have := sub_t (x := nI sz23) (y := nI k44) (by have := i_nlt c43; have := i_rg j; have : (0 : Int32).toInt = 0 := rfl; have := i_eq ek44; have : (nI k44).toInt = ((k44 : Nat) : Int) := nI_toInt (by omega); have : (nI sz23).toInt = ((sz23 : Nat) : Int) := nI_toInt (by omega); omega) (by have := i_nlt c43; have := i_rg j; have : (0 : Int32).toInt = 0 := rfl; have := i_eq ek44; have : (nI k44).toInt = ((k44 : Nat) : Int) := nI_toInt (by omega); have : (nI sz23).toInt = ((sz23 : Nat) : Int) := nI_toInt (by omega); omega); omega)) ?_
                        refine r_ladd rfl ?_
                        refine WR_tL (y := lN (k39 + k40)) (Eq.trans (lN_add k40 k39) (congrArg lN (by omega))) ?_
                        refine r_aload rfl rfl ?_
                        refine r_getA (b := ad 35) rfl ⟨rfl, rfl, rfl⟩ (fx_t30 fx) (fx_r30_4 fx) ?_
                        refine r_iload rfl rfl ?_
                        refine r_iaload rfl (.inl (fx_t35 fx)) (vp_ct (fx_n35 fx) (vp_in_nI (by omega) (by omega))) ?_
                        refine WR_tI (congrArg (hI (sI (sI h (ad 0) 6 0) (ad 0) 6 (-12)) (ad 35)) ((nI_clamp (by omega)) : _ = t7)) ?_
                        refine WR_tI (y := nI sz7) (Eq.trans (I_ne (fx_ne fx (by decide))) (Eq.trans (I_ne (fx_ne fx (by decide))) sz_7)) ?_
                        refine r_i2l rfl ?_
                        refine WR_tL (y := lN sz7) (nI_l (by have := i_nlt c35; have := i_rg i; have : (0 : Int32).toInt = 0 := rfl; have := i_nlt c36; have := i_rg m; have := i_eq ek39; have : (nI k39).toInt = ((k39 : Nat) : Int) := nI_toInt (by omega); have := i_eq ek40; have : (nI k40).toInt = ((k40 : Nat) : Int) := nI_toInt (by omega); have := i_nlt c41; have : (nI sz7).toInt = ((sz7 : Nat) : Int) := nI_toInt (by omega); have := sub_t (x := nI sz7) (y := nI k40) (by have := i_nlt c35; have := i_rg i; have : (0 : Int32).toInt = 0 := rfl; have := i_eq ek40; have : (nI k40).toInt = ((k40 : Nat) : Int) := nI_toInt (by omega); have : (nI sz7).toInt = ((sz7 : Nat) : Int) := nI_toInt (by omega); omega) (by have := i_nlt c35; have := i_rg i; have : (0 : Int32).toInt = 0 := rfl; have := i_eq ek40; have : (nI k40).toInt = ((k40 : Nat) : Int) := nI_toInt (by omega); have : (nI sz7).toInt = ((sz7 : Nat) : Int) := nI_toInt (by omega); omega); have := i_nlt c43; have := i_rg j; have := i_eq ek44; have : (nI k44).toInt = ((k44 : Nat) : Int) := nI_toInt (by omega); have := i_lt c45; have : (nI sz23).toInt = ((sz23 : Nat) : Int) := nI_toInt (by omega); have := sub_t (x := nI sz23) (y := nI k44) (by have := i_nlt c43; have := i_rg j; have : (0 : Int32).toInt = 0 := rfl; have := i_eq ek44; have : (nI k44).toInt = ((k44 : Nat) : Int) := nI_toInt (by omega); have : (nI sz23).toInt = ((sz23 : Nat) : Int) := nI_toInt (by omega); omega) (by have := i_nlt c43; have := i_rg j; have : (0 : Int32).toInt = 0 := rfl; have := i_eq ek44; have : (nI k44).toInt = ((k44 : Nat) : Int) := nI_toInt (by omega); have : (nI sz23).toInt = ((sz23 : Nat) : Int) := nI_toInt (by omega); omega); omega)) ?_
                        refine r_lif_gt (tg := 169) rfl rfl rfl (fun q => False.elim (by have := i_nlt c35; have := i_rg i; have : (0 : Int32).toInt = 0 := rfl; have := i_nlt c36; have := i_rg m; have := i_eq ek39; have : (nI k39).toInt = ((k39 : Nat) : Int) := nI_toInt (by omega); have := i_eq ek40; have : (nI k40).toInt = ((k40 : Nat) : Int) := nI_toInt (by omega); have := i_nlt c41; have : (nI sz7).toInt = ((sz7 : Nat) : Int) := nI_toInt (by omega); have := sub_t (x := nI sz7) (y := nI k40) (by have := i_nlt c35; have := i_rg i; have : (0 : Int32).toInt = 0 := rfl; have := i_eq ek40; have : (nI k40).toInt = ((k40 : Nat) : Int) := nI_toInt (by omega); have : (nI sz7).toInt = ((sz7 : Nat) : Int) := nI_toInt (by omega); omega) (by have := i_nlt c35; have := i_rg i; have : (0 : Int32).toInt = 0 := rfl; have := i_eq ek40; have : (nI k40).toInt = ((k40 : Nat) : Int) := nI_toInt (by omega); have : (nI sz7).toInt = ((sz7 : Nat) : Int) := nI_toInt (by omega); omega); have := i_nlt c43; have := i_rg j; have := i_eq ek44; have : (nI k44).toInt = ((k44 : Nat) : Int) := nI_toInt (by omega); have := i_lt c45; have : (nI sz23).toInt = ((sz23 : Nat) : Int) := nI_toInt (by omega); have := sub_t (x := nI sz23) (y := nI k44) (by have := i_nlt c43; have := i_rg j; have : (0 : Int32).toInt = 0 := rfl; have := i_eq ek44; have : (nI k44).toInt = ((k44 : Nat) : Int) := nI_toInt (by omega); have : (nI sz23).toInt = ((sz23 : Nat) : Int) := nI_toInt (by omega); omega) (by have := i_nlt c43; have := i_rg j; have : (0 : Int32).toInt = 0 := rfl; have := i_eq ek44; have : (nI k44).toInt = ((k44 : Nat) : Int) := nI_toInt (by omega); have : (nI sz23).toInt = ((sz23 : Nat) : Int) := nI_toInt (by omega); omega); have : (lN (k39 + k40)).toInt = ((k39 + k40 : Nat) : Int) := pk_lT (by omega); have : (lN sz7).toInt = ((sz7 : Nat) : Int) := lN_toInt (by omega); have := l_lt q; omega)) (fun _ => ?_)
                        refine r_iload rfl rfl ?_
                        refine WR_tI (y := nI k44) ek44 ?_
                        refine r_i2l rfl ?_
                        refine WR_tL (y := lN k44) (nI_l (by have := i_nlt c35; have := i_rg i; have : (0 : Int32).toInt = 0 := rfl; have := i_nlt c36; have := i_rg m; have := i_eq ek39; have : (nI k39).toInt = ((k39 : Nat) : Int) := nI_toInt (by omega); have := i_eq ek40; have : (nI k40).toInt = ((k40 : Nat) : Int) := nI_toInt (by omega); have := i_nlt c41; have : (nI sz7).toInt = ((sz7 : Nat) : Int) := nI_toInt (by omega); have := sub_t (x := nI sz7) (y := nI k40) (by have := i_nlt c35; have := i_rg i; have : (0 : Int32).toInt = 0 := rfl; have := i_eq ek40; have : (nI k40).toInt = ((k40 : Nat) : Int) := nI_toInt (by omega); have : (nI sz7).toInt = ((sz7 : Nat) : Int) := nI_toInt (by omega); omega) (by have := i_nlt c35; have := i_rg i; have : (0 : Int32).toInt = 0 := rfl; have := i_eq ek40; have : (nI k40).toInt = ((k40 : Nat) : Int) := nI_toInt (by omega); have : (nI sz7).toInt = ((sz7 : Nat) : Int) := nI_toInt (by omega); omega); have := i_nlt c43; have := i_rg j; have := i_eq ek44; have : (nI k44).toInt = ((k44 : Nat) : Int) := nI_toInt (by omega); have := i_lt c45; have : (nI sz23).toInt = ((sz23 : Nat) : Int) := nI_toInt (by omega); have := sub_t (x := nI sz23) (y := nI k44) (by have := i_nlt c43; have := i_rg j; have : (0 : Int32).toInt = 0 := rfl; have := i_eq ek44; have : (nI k44).toInt = ((k44 : Nat) : Int) := nI_toInt (by omega); have : (nI sz23).toInt = ((sz23 : Nat) : Int) := nI_toInt (by omega); omega) (by have := i_nlt c43; have := i_rg j; have : (0 : Int32).toInt = 0 := rfl; have := i_eq ek44; have : (nI k44).toInt = ((k44 : Nat) : Int) := nI_toInt (by omega); have : (nI sz23).toInt = ((sz23 : Nat) : Int) := nI_toInt (by omega); omega); omega)) ?_
                        refine r_iload rfl rfl ?_
                        refine WR_tI (y := nI k39) ek39 ?_
                        refine r_i2l rfl ?_
                        refine WR_tL (y := lN k39) (nI_l (by have := i_nlt c35; have := i_rg i; have : (0 : Int32).toInt = 0 := rfl; have := i_nlt c36; have := i_rg m; have := i_eq ek39; have : (nI k39).toInt = ((k39 : Nat) : Int) := nI_toInt (by omega); have := i_eq ek40; have : (nI k40).toInt = ((k40 : Nat) : Int) := nI_toInt (by omega); have := i_nlt c41; have : (nI sz7).toInt = ((sz7 : Nat) : Int) := nI_toInt (by omega); have := sub_t (x := nI sz7) (y := nI k40) (by have := i_nlt c35; have := i_rg i; have : (0 : Int32).toInt = 0 := rfl; have := i_eq ek40; have : (nI k40).toInt = ((k40 : Nat) : Int) := nI_toInt (by omega); have : (nI sz7).toInt = ((sz7 : Nat) : Int) := nI_toInt (by omega); omega) (by have := i_nlt c35; have := i_rg i; have : (0 : Int32).toInt = 0 := rfl; have := i_eq ek40; have : (nI k40).toInt = ((k40 : Nat) : Int) := nI_toInt (by omega); have : (nI sz7).toInt = ((sz7 : Nat) : Int) := nI_toInt (by omega); omega); have := i_nlt c43; have := i_rg j; have := i_eq ek44; have : (nI k44).toInt = ((k44 : Nat) : Int) := nI_toInt (by omega); have := i_lt c45; have : (nI sz23).toInt = ((sz23 : Nat) : Int) := nI_toInt (by omega); have := sub_t (x := nI sz23) (y := nI k44) (by have := i_nlt c43; have := i_rg j; have : (0 : Int32).toInt = 0 := rfl; have := i_eq ek44; have : (nI k44).toInt = ((k44 : Nat) : Int) := nI_toInt (by omega); have : (nI sz23).toInt = ((sz23 : Nat) : Int) := nI_toInt (by omega); omega) (by have := i_nlt c43; have := i_rg j; have : (0 : Int32).toInt = 0 := rfl; have := i_eq ek44; have : (nI k44).toInt = ((k44 : Nat) : Int) := nI_toInt (by omega); have : (nI sz23).toInt = ((sz23 : Nat) : Int) := nI_toInt (by omega); omega); omega)) ?_
                        refine r_ladd rfl ?_
                        refine WR_tL (y := lN (k39 + k44)) (Eq.trans (lN_add k44 k39) (congrArg lN (by omega))) ?_
                        refine r_aload rfl rfl ?_
                        refine r_getA (b := ad 35) rfl ⟨rfl, rfl, rfl⟩ (fx_t30 fx) (fx_r30_4 fx) ?_
                        refine r_iload rfl rfl ?_
                        refine r_iaload rfl (.inl (fx_t35 fx)) (vp_ct (fx_n35 fx) (vp_in_nI (by omega) (by omega))) ?_
                        refine WR_tI (congrArg (hI (sI (sI h (ad 0) 6 0) (ad 0) 6 (-12)) (ad 35)) ((nI_clamp (by omega)) : _ = t23)) ?_
                        refine WR_tI (y := nI sz23) (Eq.trans (I_ne (fx_ne fx (by decide))) (Eq.trans (I_ne (fx_ne fx (by decide))) sz_23)) ?_
                        refine r_i2l rfl ?_
                        refine WR_tL (y := lN sz23) (nI_l (by have := i_nlt c35; have := i_rg i; have : (0 : Int32).toInt = 0 := rfl; have := i_nlt c36; have := i_rg m; have := i_eq ek39; have : (nI k39).toInt = ((k39 : Nat) : Int) := nI_toInt (by omega); have := i_eq ek40; have : (nI k40).toInt = ((k40 : Nat) : Int) := nI_toInt (by omega); have := i_nlt c41; have : (nI sz7).toInt = ((sz7 : Nat) : Int) := nI_toInt (by omega); have := sub_t (x := nI sz7) (y := nI k40) (by have := i_nlt c35; have := i_rg i; have : (0 : Int32).toInt = 0 := rfl; have := i_eq ek40; have : (nI k40).toInt = ((k40 : Nat) : Int) := nI_toInt (by omega); have : (nI sz7).toInt = ((sz7 : Nat) : Int) := nI_toInt (by omega); omega) (by have := i_nlt c35; have := i_rg i; have : (0 : Int32).toInt = 0 := rfl; have := i_eq ek40; have : (nI k40).toInt = ((k40 : Nat) : Int) := nI_toInt (by omega); have : (nI sz7).toInt = ((sz7 : Nat) : Int) := nI_toInt (by omega); omega); have := i_nlt c43; have := i_rg j; have := i_eq ek44; have : (nI k44).toInt = ((k44 : Nat) : Int) := nI_toInt (by omega); have := i_lt c45; have : (nI sz23).toInt = ((sz23 : Nat) : Int) := nI_toInt (by omega); have := sub_t (x := nI sz23) (y := nI k44) (by have := i_nlt c43; have := i_rg j; have : (0 : Int32).toInt = 0 := rfl; have := i_eq ek44; have : (nI k44).toInt = ((k44 : Nat) : Int) := nI_toInt (by omega); have : (nI sz23).toInt = ((sz23 : Nat) : Int) := nI_toInt (by omega); omega) (by have := i_nlt c43; have := i_rg j; have : (0 : Int32).toInt = 0 := rfl; have := i_eq ek44; have : (nI k44).toInt = ((k44 : Nat) : Int) := nI_toInt (by omega); have : (nI sz23).toInt = ((sz23 : Nat) : Int) := nI_toInt (by omega); omega); omega)) ?_
                        refine r_lif_le (tg := 175) rfl rfl rfl (fun q => False.elim (by have := i_nlt c35; have := i_rg i; have : (0 : Int32).toInt = 0 := rfl; have := i_nlt c36; have := i_rg m; have := i_eq ek39; have : (nI k39).toInt = ((k39 : Nat) : Int) := nI_toInt (by omega); have := i_eq ek40; have : (nI k40).toInt = ((k40 : Nat) : Int) := nI_toInt (by omega); have := i_nlt c41; have : (nI sz7).toInt = ((sz7 : Nat) : Int) := nI_toInt (by omega); have := sub_t (x := nI sz7) (y := nI k40) (by have := i_nlt c35; have := i_rg i; have : (0 : Int32).toInt = 0 := rfl; have := i_eq ek40; have : (nI k40).toInt = ((k40 : Nat) : Int) := nI_toInt (by omega); have : (nI sz7).toInt = ((sz7 : Nat) : Int) := nI_toInt (by omega); omega) (by have := i_nlt c35; have := i_rg i; have : (0 : Int32).toInt = 0 := rfl; have := i_eq ek40; have : (nI k40).toInt = ((k40 : Nat) : Int) := nI_toInt (by omega); have : (nI sz7).toInt = ((sz7 : Nat) : Int) := nI_toInt (by omega); omega); have := i_nlt c43; have := i_rg j; have := i_eq ek44; have : (nI k44).toInt = ((k44 : Nat) : Int) := nI_toInt (by omega); have := i_lt c45; have : (nI sz23).toInt = ((sz23 : Nat) : Int) := nI_toInt (by omega); have := sub_t (x := nI sz23) (y := nI k44) (by have := i_nlt c43; have := i_rg j; have : (0 : Int32).toInt = 0 := rfl; have := i_eq ek44; have : (nI k44).toInt = ((k44 : Nat) : Int) := nI_toInt (by omega); have : (nI sz23).toInt = ((sz23 : Nat) : Int) := nI_toInt (by omega); omega) (by have := i_nlt c43; have := i_rg j; have : (0 : Int32).toInt = 0 := rfl; have := i_eq ek44; have : (nI k44).toInt = ((k44 : Nat) : Int) := nI_toInt (by omega); have : (nI sz23).toInt = ((sz23 : Nat) : Int) := nI_toInt (by omega); omega); have : (lN (k39 + k44)).toInt = ((k39 + k44 : Nat) : Int) := pk_lT (by omega); have : (lN sz23).toInt = ((sz23 : Nat) : Int) := lN_toInt (by omega); have := l_le q; omega)) (fun _ => ?_)
                        refine r_aload rfl rfl ?_
                        refine r_ic (x := 2) rfl rfl ?_
                        refine r_cv (y := 156) (ra := [.int 2]) (rest := []) rfl ⟨⟨rfl, rfl⟩, rfl, by decide⟩ (fx_t30 fx) rfl rfl (Nat.le_of_ble_eq_true rfl) ?_
                        refine in_156 (Nat.le_of_ble_eq_true rfl) ?_
                        show WR _ cd_156 0 [some (.ref (ad 30)), some (.int 2)] [] (sI (sI h (ad 0) 6 0) (ad 0) 6 (-12)) _
                        refine r_aload rfl rfl ?_
                        refine r_ic (x := (-10)) rfl rfl ?_
                        refine r_iload rfl rfl ?_
                        refine r_isub rfl ?_
                        refine WR_tI (y := (-12)) rfl ?_
                        refine r_cv (y := 154) (ra := [.int (-12)]) (rest := []) rfl ⟨⟨rfl, rfl⟩, rfl, by decide⟩ (fx_t30 fx) rfl rfl (Nat.le_of_ble_eq_true rfl) ?_
                        refine in_154 (Nat.le_of_ble_eq_true rfl) ?_
                        show WR _ cd_154 0 [some (.ref (ad 30)), some (.int (-12))] [] (sI (sI h (ad 0) 6 0) (ad 0) 6 (-12)) _
                        refine r_aload rfl rfl ?_
                        refine r_iload rfl rfl ?_
                        refine r_ic (x := (-1)) rfl rfl ?_
                        refine r_icmp_ge (tg := 10) rfl rfl (fun q => absurd q (by decide)) (fun _ => ?_)
                        refine r_iload rfl rfl ?_
                        refine r_goto (tg := 11) rfl rfl ?_
                        refine r_putI rfl ⟨rfl, rfl, rfl⟩ (fx_t30 fx) ?_
                        have fx : FX n ad sa z0 (sI (sI (sI h (ad 0) 6 0) (ad 0) 6 (-12)) (ad 30) 11 (-12)) := (FX.sI fx)
                        refine r_iload rfl rfl ?_
                        refine r_iret rfl ?_
                        show WR _ cd_156 8 [some (.ref (ad 30)), some (.int 2)] [.int (-12)] (sI (sI (sI h (ad 0) 6 0) (ad 0) 6 (-12)) (ad 30) 11 (-12)) _
                        refine r_iret rfl ?_
                        show WR _ cd_179 174 [some (.ref (ad 30)), some (.int c), some (.int i), some (.int d), some (.int j), some (.int m), some (.int (nI t7)), some (.int (nI t23)), none, none, none] [.int (-12)] (sI (sI (sI h (ad 0) 6 0) (ad 0) 6 (-12)) (ad 30) 11 (-12)) _
                        refine r_iret rfl ?_
                        exact ⟨rfl, Rel.why r (((Chg.rf.sI (fx_j fx) (.inl (by decide))).sI (fx_j fx) (.inl (by decide))).sI (fx_j fx) (.inl (by decide))) ⟨rfl, by decide⟩ (Eq.trans (Eq.trans (I_ne (fx_ne fx (by decide))) I_eq) (Eq.symm I_eq)), (by (try simp only [hZ_sI, hZ_sL, hZ_sD, hZ_sR]); omega), (by (try simp only [hU_sI, hU_sL, hU_sD, hU_sR]); omega)⟩
                      · refine r_ic (x := 1) rfl rfl ?_
                        refine r_goto (tg := 23) rfl rfl ?_
                        refine r_zret rfl (.inr rfl) ?_
                        show WR _ cd_51 96 [some (.ref (ad 0)), some (.int c), some (.int i), some (.int d), some (.int j), some (.int m), some (.ref (mid t7)), some (.ref (mid t23)), none] [.int 1] (sI h (ad 0) 6 0) _
                        refine r_if_ne (tg := 106) rfl rfl (fun _ => ?_) (fun q => absurd q (by decide))
                        have b0 : k2 < 24 := (by have := i_nlt c1; have := i_rg c; have : (0 : Int32).toInt = 0 := rfl; have := i_eq ek2; have : (nI k2).toInt = ((k2 : Nat) : Int) := nI_toInt (by omega); have := i_nle c3; have : (24 : Int32).toInt = 24 := rfl; omega)
                        have b1 : k5 < 24 := (by have := i_nlt c4; have := i_rg d; have : (0 : Int32).toInt = 0 := rfl; have := i_eq ek5; have : (nI k5).toInt = ((k5 : Nat) : Int) := nI_toInt (by omega); have := i_nle c6; have : (24 : Int32).toInt = 24 := rfl; omega)
                        have b2 : k40 + k39 ≤ sz7 := (by have := i_nlt c35; have := i_rg i; have : (0 : Int32).toInt = 0 := rfl; have := i_nlt c36; have := i_rg m; have := i_eq ek39; have : (nI k39).toInt = ((k39 : Nat) : Int) := nI_toInt (by omega); have := i_eq ek40; have : (nI k40).toInt = ((k40 : Nat) : Int) := nI_toInt (by omega); have := i_nlt c41; have : (nI sz7).toInt = ((sz7 : Nat) : Int) := nI_toInt (by omega); have := sub_t (x := nI sz7) (y := nI k40) (by have := i_nlt c35; have := i_rg i; have : (0 : Int32).toInt = 0 := rfl; have := i_eq ek40; have : (nI k40).toInt = ((k40 : Nat) : Int) := nI_toInt (by omega); have : (nI sz7).toInt = ((sz7 : Nat) : Int) := nI_toInt (by omega); omega) (by have := i_nlt c35; have := i_rg i; have : (0 : Int32).toInt = 0 := rfl; have := i_eq ek40; have : (nI k40).toInt = ((k40 : Nat) : Int) := nI_toInt (by omega); have : (nI sz7).toInt = ((sz7 : Nat) : Int) := nI_toInt (by omega); omega); have := i_nlt c43; have := i_rg j; have := i_eq ek44; have : (nI k44).toInt = ((k44 : Nat) : Int) := nI_toInt (by omega); have := i_nlt c45; have : (nI sz23).toInt = ((sz23 : Nat) : Int) := nI_toInt (by omega); have := sub_t (x := nI sz23) (y := nI k44) (by have := i_nlt c43; have := i_rg j; have : (0 : Int32).toInt = 0 := rfl; have := i_eq ek44; have : (nI k44).toInt = ((k44 : Nat) : Int) := nI_toInt (by omega); have : (nI sz23).toInt = ((sz23 : Nat) : Int) := nI_toInt (by omega); omega) (by have := i_nlt c43; have := i_rg j; have : (0 : Int32).toInt = 0 := rfl; have := i_eq ek44; have : (nI k44).toInt = ((k44 : Nat) : Int) := nI_toInt (by omega); have : (nI sz23).toInt = ((sz23 : Nat) : Int) := nI_toInt (by omega); omega); omega)
                        have b3 : k44 + k39 ≤ sz23 := (by have := i_nlt c35; have := i_rg i; have : (0 : Int32).toInt = 0 := rfl; have := i_nlt c36; have := i_rg m; have := i_eq ek39; have : (nI k39).toInt = ((k39 : Nat) : Int) := nI_toInt (by omega); have := i_eq ek40; have : (nI k40).toInt = ((k40 : Nat) : Int) := nI_toInt (by omega); have := i_nlt c41; have : (nI sz7).toInt = ((sz7 : Nat) : Int) := nI_toInt (by omega); have := sub_t (x := nI sz7) (y := nI k40) (by have := i_nlt c35; have := i_rg i; have : (0 : Int32).toInt = 0 := rfl; have := i_eq ek40; have : (nI k40).toInt = ((k40 : Nat) : Int) := nI_toInt (by omega); have : (nI sz7).toInt = ((sz7 : Nat) : Int) := nI_toInt (by omega); omega) (by have := i_nlt c35; have := i_rg i; have : (0 : Int32).toInt = 0 := rfl; have := i_eq ek40; have : (nI k40).toInt = ((k40 : Nat) : Int) := nI_toInt (by omega); have : (nI sz7).toInt = ((sz7 : Nat) : Int) := nI_toInt (by omega); omega); have := i_nlt c43; have := i_rg j; have := i_eq ek44; have : (nI k44).toInt = ((k44 : Nat) : Int) := nI_toInt (by omega); have := i_nlt c45; have : (nI sz23).toInt = ((sz23 : Nat) : Int) := nI_toInt (by omega); have := sub_t (x := nI sz23) (y := nI k44) (by have := i_nlt c43; have := i_rg j; have : (0 : Int32).toInt = 0 := rfl; have := i_eq ek44; have : (nI k44).toInt = ((k44 : Nat) : Int) := nI_toInt (by omega); have : (nI sz23).toInt = ((sz23 : Nat) : Int) := nI_toInt (by omega); omega) (by have := i_nlt c43; have := i_rg j; have : (0 : Int32).toInt = 0 := rfl; have := i_eq ek44; have : (nI k44).toInt = ((k44 : Nat) : Int) := nI_toInt (by omega); have : (nI sz23).toInt = ((sz23 : Nat) : Int) := nI_toInt (by omega); omega); omega)
                        subst ek2; subst ek40; subst ek5; subst ek44; subst ek39
                        exact t_cGC fx0 rt ra rp rf rst ru rs b0 b1 ht7 ht23 v7 v23 rw7 rw23 hk_23 k2_23 sz_7 sz_23 b2 b3 hs_7 hs_23
          · refine r_aaloadA (b := mid t7) rfl (isQ_of (fx_t1 fx) (by decide)) (vp_ct (fx_n1 fx) (vp_in_nI (by have := i_nlt c1; have := i_rg c; have : (0 : Int32).toInt = 0 := rfl; have := i_eq ek2; have : (nI k2).toInt = ((k2 : Nat) : Int) := nI_toInt (by omega); have := i_nle c3; have : (24 : Int32).toInt = 24 := rfl; omega) (by omega))) (Eq.trans (congrArg (hR (sI h (ad 0) 6 0) (ad 1)) ((nI_clamp (by have := i_nlt c1; have := i_rg c; have : (0 : Int32).toInt = 0 := rfl; have := i_eq ek2; have : (nI k2).toInt = ((k2 : Nat) : Int) := nI_toInt (by omega); have := i_nle c3; have : (24 : Int32).toInt = 24 := rfl; omega)) : _ = k2)) (Eq.trans R_oI w7)) ?_
            refine r_astore (lv' := [some (.ref (ad 0)), some (.int c), some (.int i), some (.int d), some (.int j), some (.int m), some (.ref (mid t7)), none, none]) rfl (Nat.le_of_ble_eq_true rfl) rfl ?_
            refine r_aload rfl rfl ?_
            refine r_getA (b := ad 1) rfl ⟨rfl, rfl, rfl⟩ (fx_t0 fx) (fx_r0_0 fx) ?_
            refine r_iload rfl rfl ?_
            refine WR_tI (y := nI k5) ek5 ?_
            rcases rs.cs (n := n) (sa := sa) (c := k5) (by have := i_nlt c4; have := i_rg d; have : (0 : Int32).toInt = 0 := rfl; have := i_eq ek5; have : (nI k5).toInt = ((k5 : Nat) : Int) := nI_toInt (by omega); have := i_nle c6; have : (24 : Int32).toInt = 24 := rfl; omega) with ⟨v46, w46⟩ | ⟨q46, kd46, hq46, hn46, v46, w46, dz46, tg46, s1_46, k1_46, k2_46, hk_46, we46⟩ | ⟨t46, ln46, sz46, ht46, v46, w46, dz46, tg46, r_46, tg2_46, l1_46, l2_46, hl_46, kd_46, n_46, sz_46, hs_46, al46, rw46⟩ | ⟨t46, sz46, ht46, v46, w46, dz46, tg46, r_46, tg2_46, k1_46, l2_46, k2_46, n_46, sz_46, hs_46, al46, rw46⟩ | ⟨t46, kd46, sz46, ht46, v46, w46, dz46, tg46, r_46, tg2_46, k1_46, l2_46, k2_46, hk_46, n_46, sz_46, hs_46, al46, rw46⟩
            · refine r_aaload0 rfl (isQ_of (fx_t1 fx) (by decide)) (vp_ct (fx_n1 fx) (vp_in_nI (by have := i_nlt c4; have := i_rg d; have : (0 : Int32).toInt = 0 := rfl; have := i_eq ek5; have : (nI k5).toInt = ((k5 : Nat) : Int) := nI_toInt (by omega); have := i_nle c6; have : (24 : Int32).toInt = 24 := rfl; omega) (by omega))) (Eq.trans (congrArg (hR (sI h (ad 0) 6 0) (ad 1)) ((nI_clamp (by have := i_nlt c4; have := i_rg d; have : (0 : Int32).toInt = 0 := rfl; have := i_eq ek5; have : (nI k5).toInt = ((k5 : Nat) : Int) := nI_toInt (by omega); have := i_nle c6; have : (24 : Int32).toInt = 24 := rfl; omega)) : _ = k5)) (Eq.trans R_oI w46)) ?_
              refine r_astore0 (lv' := [some (.ref (ad 0)), some (.int c), some (.int i), some (.int d), some (.int j), some (.int m), some (.ref (mid t7)), some (.null), none]) rfl (Nat.le_of_ble_eq_true rfl) rfl ?_
              refine r_aload rfl rfl ?_
              refine r_ifnullA (tg := 52) rfl rfl ?_
              refine r_aload0 rfl rfl ?_
              refine r_ifnonnullN (tg := 59) rfl rfl ?_
              refine r_aload rfl rfl ?_
              refine r_ic (x := (-11)) rfl rfl ?_
              refine r_cv (y := 13) (ra := [.int (-11)]) (rest := []) rfl ⟨⟨rfl, rfl⟩, rfl, by decide⟩ (fx_t0 fx) rfl rfl (Nat.le_of_ble_eq_true rfl) ?_
              refine in_13 (Nat.le_of_ble_eq_true rfl) ?_
              show WR _ cd_13 0 [some (.ref (ad 0)), some (.int (-11))] [] (sI h (ad 0) 6 0) _
              refine r_aload rfl rfl ?_
              refine r_iload rfl rfl ?_
              refine r_putI rfl ⟨rfl, rfl, rfl⟩ (fx_t0 fx) ?_
              have fx : FX n ad sa z0 (sI (sI h (ad 0) 6 0) (ad 0) 6 (-11)) := (FX.sI fx)
              refine r_iload rfl rfl ?_
              refine r_iret rfl ?_
              show WR _ cd_51 58 [some (.ref (ad 0)), some (.int c), some (.int i), some (.int d), some (.int j), some (.int m), some (.ref (mid t7)), some (.null), none] [.int (-11)] (sI (sI h (ad 0) 6 0) (ad 0) 6 (-11)) _
              refine r_iret rfl ?_
              show EV _ 179 [.ref (ad 30), .int c, .int i, .int d, .int j, .int m] (sI (sI h (ad 0) 6 0) (ad 0) 6 (-11)) _
              refine in_179 (Nat.le_of_ble_eq_true rfl) ?_
              show WR _ cd_179 0 [some (.ref (ad 30)), some (.int c), some (.int i), some (.int d), some (.int j), some (.int m), none, none, none, none, none] [] (sI (sI h (ad 0) 6 0) (ad 0) 6 (-11)) _
              refine r_iload rfl rfl ?_
              refine WR_tI (y := nI k2) ek2 ?_
              refine r_cs (y := 153) (ra := [.int (nI k2)]) (rest := []) rfl ⟨⟨rfl, rfl⟩, by decide⟩ rfl rfl (Nat.le_of_ble_eq_true rfl) ?_
              refine in_153 (Nat.le_of_ble_eq_true rfl) ?_
              show WR _ cd_153 0 [some (.int (nI k2))] [] (sI (sI h (ad 0) 6 0) (ad 0) 6 (-11)) _
              refine r_iload rfl rfl ?_
              refine r_if_lt (tg := 14) rfl rfl (fun q => False.elim (by have := i_nlt c1; have := i_rg c; have : (0 : Int32).toInt = 0 := rfl; have := i_eq ek2; have : (nI k2).toInt = ((k2 : Nat) : Int) := nI_toInt (by omega); have := i_nle c3; have : (24 : Int32).toInt = 24 := rfl; have := i_lt q; omega)) (fun _ => ?_)
              refine r_iload rfl rfl ?_
              refine r_ic (x := 24) rfl rfl ?_
              refine r_icmp_ge (tg := 14) rfl rfl (fun q => False.elim (by have := i_nlt c1; have := i_rg c; have : (0 : Int32).toInt = 0 := rfl; have := i_eq ek2; have : (nI k2).toInt = ((k2 : Nat) : Int) := nI_toInt (by omega); have := i_nle c3; have : (24 : Int32).toInt = 24 := rfl; have := i_le q; omega)) (fun _ => ?_)
              refine r_ic (x := 1) rfl rfl ?_
              refine r_goto (tg := 15) rfl rfl ?_
              refine r_zret rfl (.inr rfl) ?_
              show WR _ cd_179 4 [some (.ref (ad 30)), some (.int c), some (.int i), some (.int d), some (.int j), some (.int m), none, none, none, none, none] [.int 1] (sI (sI h (ad 0) 6 0) (ad 0) 6 (-11)) _
              refine r_if_eq (tg := 14) rfl rfl (fun q => absurd q (by decide)) (fun _ => ?_)
              refine r_iload rfl rfl ?_
              refine WR_tI (y := nI k5) ek5 ?_
              refine r_cs (y := 153) (ra := [.int (nI k5)]) (rest := []) rfl ⟨⟨rfl, rfl⟩, by decide⟩ rfl rfl (Nat.le_of_ble_eq_true rfl) ?_
              refine in_153 (Nat.le_of_ble_eq_true rfl) ?_
              show WR _ cd_153 0 [some (.int (nI k5))] [] (sI (sI h (ad 0) 6 0) (ad 0) 6 (-11)) _
              refine r_iload rfl rfl ?_
              refine r_if_lt (tg := 14) rfl rfl (fun q => False.elim (by have := i_nlt c4; have := i_rg d; have : (0 : Int32).toInt = 0 := rfl; have := i_eq ek5; have : (nI k5).toInt = ((k5 : Nat) : Int) := nI_toInt (by omega); have := i_nle c6; have : (24 : Int32).toInt = 24 := rfl; have := i_lt q; omega)) (fun _ => ?_)
              refine r_iload rfl rfl ?_
              refine r_ic (x := 24) rfl rfl ?_
              refine r_icmp_ge (tg := 14) rfl rfl (fun q => False.elim (by have := i_nlt c4; have := i_rg d; have : (0 : Int32).toInt = 0 := rfl; have := i_eq ek5; have : (nI k5).toInt = ((k5 : Nat) : Int) := nI_toInt (by omega); have := i_nle c6; have : (24 : Int32).toInt = 24 := rfl; have := i_le q; omega)) (fun _ => ?_)
              refine r_ic (x := 1) rfl rfl ?_
              refine r_goto (tg := 15) rfl rfl ?_
              refine r_zret rfl (.inr rfl) ?_
              show WR _ cd_179 11 [some (.ref (ad 30)), some (.int c), some (.int i), some (.int d), some (.int j), some (.int m), none, none, none, none, none] [.int 1] (sI (sI h (ad 0) 6 0) (ad 0) 6 (-11)) _
              refine r_if_ne (tg := 21) rfl rfl (fun _ => ?_) (fun q => absurd q (by decide))
              refine r_aload rfl rfl ?_
              refine r_getA (b := ad 31) rfl ⟨rfl, rfl, rfl⟩ (fx_t30 fx) (fx_r30_0 fx) ?_
              refine r_iload rfl rfl ?_
              refine WR_tI (y := nI k2) ek2 ?_
              refine r_iaload rfl (.inl (fx_t31 fx)) (vp_ct (fx_n31 fx) (vp_in_nI (by have := i_nlt c1; have := i_rg c; have : (0 : Int32).toInt = 0 := rfl; have := i_eq ek2; have : (nI k2).toInt = ((k2 : Nat) : Int) := nI_toInt (by omega); have := i_nle c3; have : (24 : Int32).toInt = 24 := rfl; omega) (by omega))) ?_
              refine WR_tI (congrArg (hI (sI (sI h (ad 0) 6 0) (ad 0) 6 (-11)) (ad 31)) ((nI_clamp (by have := i_nlt c1; have := i_rg c; have : (0 : Int32).toInt = 0 := rfl; have := i_eq ek2; have : (nI k2).toInt = ((k2 : Nat) : Int) := nI_toInt (by omega); have := i_nle c3; have : (24 : Int32).toInt = 24 := rfl; omega)) : _ = k2)) ?_
              refine WR_tI (y := nI t7) (Eq.trans (I_ne (fx_ne fx (by decide))) (Eq.trans (I_ne (fx_ne fx (by decide))) v7)) ?_
              refine r_istore (lv' := [some (.ref (ad 30)), some (.int c), some (.int i), some (.int d), some (.int j), some (.int m), some (.int (nI t7)), none, none, none, none]) rfl (Nat.le_of_ble_eq_true rfl) rfl ?_
              refine r_aload rfl rfl ?_
              refine r_getA (b := ad 31) rfl ⟨rfl, rfl, rfl⟩ (fx_t30 fx) (fx_r30_0 fx) ?_
              refine r_iload rfl rfl ?_
              refine WR_tI (y := nI k5) ek5 ?_
              refine r_iaload rfl (.inl (fx_t31 fx)) (vp_ct (fx_n31 fx) (vp_in_nI (by have := i_nlt c4; have := i_rg d; have : (0 : Int32).toInt = 0 := rfl; have := i_eq ek5; have : (nI k5).toInt = ((k5 : Nat) : Int) := nI_toInt (by omega); have := i_nle c6; have : (24 : Int32).toInt = 24 := rfl; omega) (by omega))) ?_
              refine WR_tI (congrArg (hI (sI (sI h (ad 0) 6 0) (ad 0) 6 (-11)) (ad 31)) ((nI_clamp (by have := i_nlt c4; have := i_rg d; have : (0 : Int32).toInt = 0 := rfl; have := i_eq ek5; have : (nI k5).toInt = ((k5 : Nat) : Int) := nI_toInt (by omega); have := i_nle c6; have : (24 : Int32).toInt = 24 := rfl; omega)) : _ = k5)) ?_
              refine WR_tI (y := (-1)) (Eq.trans (I_ne (fx_ne fx (by decide))) (Eq.trans (I_ne (fx_ne fx (by decide))) v46)) ?_
              refine r_istore (lv' := [some (.ref (ad 30)), some (.int c), some (.int i), some (.int d), some (.int j), some (.int m), some (.int (nI t7)), some (.int (-1)), none, none, none]) rfl (Nat.le_of_ble_eq_true rfl) rfl ?_
              refine r_iload rfl rfl ?_
              refine r_ic (x := (-1)) rfl rfl ?_
              refine r_icmp_eq (tg := 49) rfl rfl (fun q => False.elim (by have : (nI t7).toInt = ((t7 : Nat) : Int) := nI_toInt (by omega); have : (-1 : Int32).toInt = -1 := rfl; have := i_eq q; omega)) (fun _ => ?_)
              refine r_iload rfl rfl ?_
              refine r_ic (x := (-1)) rfl rfl ?_
              refine r_icmp_ne (tg := 55) rfl rfl (fun q => absurd q (by decide)) (fun _ => ?_)
              refine r_aload rfl rfl ?_
              refine r_ic (x := 1) rfl rfl ?_
              refine r_cv (y := 156) (ra := [.int 1]) (rest := []) rfl ⟨⟨rfl, rfl⟩, rfl, by decide⟩ (fx_t30 fx) rfl rfl (Nat.le_of_ble_eq_true rfl) ?_
              refine in_156 (Nat.le_of_ble_eq_true rfl) ?_
              show WR _ cd_156 0 [some (.ref (ad 30)), some (.int 1)] [] (sI (sI h (ad 0) 6 0) (ad 0) 6 (-11)) _
              refine r_aload rfl rfl ?_
              refine r_ic (x := (-10)) rfl rfl ?_
              refine r_iload rfl rfl ?_
              refine r_isub rfl ?_
              refine WR_tI (y := (-11)) rfl ?_
              refine r_cv (y := 154) (ra := [.int (-11)]) (rest := []) rfl ⟨⟨rfl, rfl⟩, rfl, by decide⟩ (fx_t30 fx) rfl rfl (Nat.le_of_ble_eq_true rfl) ?_
              refine in_154 (Nat.le_of_ble_eq_true rfl) ?_
              show WR _ cd_154 0 [some (.ref (ad 30)), some (.int (-11))] [] (sI (sI h (ad 0) 6 0) (ad 0) 6 (-11)) _
              refine r_aload rfl rfl ?_
              refine r_iload rfl rfl ?_
              refine r_ic (x := (-1)) rfl rfl ?_
              refine r_icmp_ge (tg := 10) rfl rfl (fun q => absurd q (by decide)) (fun _ => ?_)
              refine r_iload rfl rfl ?_
              refine r_goto (tg := 11) rfl rfl ?_
              refine r_putI rfl ⟨rfl, rfl, rfl⟩ (fx_t30 fx) ?_
              have fx : FX n ad sa z0 (sI (sI (sI h (ad 0) 6 0) (ad 0) 6 (-11)) (ad 30) 11 (-11)) := (FX.sI fx)
              refine r_iload rfl rfl ?_
              refine r_iret rfl ?_
              show WR _ cd_156 8 [some (.ref (ad 30)), some (.int 1)] [.int (-11)] (sI (sI (sI h (ad 0) 6 0) (ad 0) 6 (-11)) (ad 30) 11 (-11)) _
              refine r_iret rfl ?_
              show WR _ cd_179 54 [some (.ref (ad 30)), some (.int c), some (.int i), some (.int d), some (.int j), some (.int m), some (.int (nI t7)), some (.int (-1)), none, none, none] [.int (-11)] (sI (sI (sI h (ad 0) 6 0) (ad 0) 6 (-11)) (ad 30) 11 (-11)) _
              refine r_iret rfl ?_
              exact ⟨rfl, Rel.why r (((Chg.rf.sI (fx_j fx) (.inl (by decide))).sI (fx_j fx) (.inl (by decide))).sI (fx_j fx) (.inl (by decide))) ⟨rfl, by decide⟩ (Eq.trans (Eq.trans (I_ne (fx_ne fx (by decide))) I_eq) (Eq.symm I_eq)), (by (try simp only [hZ_sI, hZ_sL, hZ_sD, hZ_sR]); omega), (by (try simp only [hU_sI, hU_sL, hU_sD, hU_sR]); omega)⟩
            · refine r_aaloadA (b := pa q46) rfl (isQ_of (fx_t1 fx) (by decide)) (vp_ct (fx_n1 fx) (vp_in_nI (by have := i_nlt c4; have := i_rg d; have : (0 : Int32).toInt = 0 := rfl; have := i_eq ek5; have : (nI k5).toInt = ((k5 : Nat) : Int) := nI_toInt (by omega); have := i_nle c6; have : (24 : Int32).toInt = 24 := rfl; omega) (by omega))) (Eq.trans (congrArg (hR (sI h (ad 0) 6 0) (ad 1)) ((nI_clamp (by have := i_nlt c4; have := i_rg d; have : (0 : Int32).toInt = 0 := rfl; have := i_eq ek5; have : (nI k5).toInt = ((k5 : Nat) : Int) := nI_toInt (by omega); have := i_nle c6; have : (24 : Int32).toInt = 24 := rfl; omega)) : _ = k5)) (Eq.trans R_oI w46)) ?_
              refine r_astore (lv' := [some (.ref (ad 0)), some (.int c), some (.int i), some (.int d), some (.int j), some (.int m), some (.ref (mid t7)), some (.ref (pa q46)), none]) rfl (Nat.le_of_ble_eq_true rfl) rfl ?_
              refine r_aload rfl rfl ?_
              refine r_ifnullA (tg := 52) rfl rfl ?_
              refine r_aload rfl rfl ?_
              refine r_ifnonnullA (tg := 59) rfl rfl ?_
              refine r_aload rfl rfl ?_
              refine r_aload rfl rfl ?_
              refine r_cw (y := 54) (ra := [.ref (pa q46)]) (rest := []) rfl ⟨rfl, rfl⟩ (by rw [show hT (sI h (ad 0) 6 0) (mid t7) = 6 from tg7]; rfl) rfl rfl (Nat.le_of_ble_eq_true rfl) ?_
              refine in_54 (Nat.le_of_ble_eq_true rfl) ?_
              show WR _ cd_54 0 [some (.ref (mid t7)), some (.ref (pa q46))] [] (sI h (ad 0) 6 0) _
              refine r_aload rfl rfl ?_
              refine r_instW rfl (by decide) tg46 (by decide) ?_
              refine r_zret rfl (.inl rfl) ?_
              show WR _ cd_51 66 [some (.ref (ad 0)), some (.int c), some (.int i), some (.int d), some (.int j), some (.int m), some (.ref (mid t7)), some (.ref (pa q46)), none] [.int 0] (sI h (ad 0) 6 0) _
              refine r_if_ne (tg := 76) rfl rfl (fun q => absurd q (by decide)) (fun _ => ?_)
              refine r_aload rfl rfl ?_
              refine r_ic (x := (-15)) rfl rfl ?_
              refine r_cv (y := 13) (ra := [.int (-15)]) (rest := []) rfl ⟨⟨rfl, rfl⟩, rfl, by decide⟩ (fx_t0 fx) rfl rfl (Nat.le_of_ble_eq_true rfl) ?_
              refine in_13 (Nat.le_of_ble_eq_true rfl) ?_
              show WR _ cd_13 0 [some (.ref (ad 0)), some (.int (-15))] [] (sI h (ad 0) 6 0) _
              refine r_aload rfl rfl ?_
              refine r_iload rfl rfl ?_
              refine r_putI rfl ⟨rfl, rfl, rfl⟩ (fx_t0 fx) ?_
              have fx : FX n ad sa z0 (sI (sI h (ad 0) 6 0) (ad 0) 6 (-15)) := (FX.sI fx)
              refine r_iload rfl rfl ?_
              refine r_iret rfl ?_
              show WR _ cd_51 75 [some (.ref (ad 0)), some (.int c), some (.int i), some (.int d), some (.int j), some (.int m), some (.ref (mid t7)), some (.ref (pa q46)), none] [.int (-15)] (sI (sI h (ad 0) 6 0) (ad 0) 6 (-15)) _
              refine r_iret rfl ?_
              show EV _ 179 [.ref (ad 30), .int c, .int i, .int d, .int j, .int m] (sI (sI h (ad 0) 6 0) (ad 0) 6 (-15)) _
              refine in_179 (Nat.le_of_ble_eq_true rfl) ?_
              show WR _ cd_179 0 [some (.ref (ad 30)), some (.int c), some (.int i), some (.int d), some (.int j), some (.int m), none, none, none, none, none] [] (sI (sI h (ad 0) 6 0) (ad 0) 6 (-15)) _
              refine r_iload rfl rfl ?_
              refine WR_tI (y := nI k2) ek2 ?_
              refine r_cs (y := 153) (ra := [.int (nI k2)]) (rest := []) rfl ⟨⟨rfl, rfl⟩, by decide⟩ rfl rfl (Nat.le_of_ble_eq_true rfl) ?_
              refine in_153 (Nat.le_of_ble_eq_true rfl) ?_
              show WR _ cd_153 0 [some (.int (nI k2))] [] (sI (sI h (ad 0) 6 0) (ad 0) 6 (-15)) _
              refine r_iload rfl rfl ?_
              refine r_if_lt (tg := 14) rfl rfl (fun q => False.elim (by have := i_nlt c1; have := i_rg c; have : (0 : Int32).toInt = 0 := rfl; have := i_eq ek2; have : (nI k2).toInt = ((k2 : Nat) : Int) := nI_toInt (by omega); have := i_nle c3; have : (24 : Int32).toInt = 24 := rfl; have := i_lt q; omega)) (fun _ => ?_)
              refine r_iload rfl rfl ?_
              refine r_ic (x := 24) rfl rfl ?_
              refine r_icmp_ge (tg := 14) rfl rfl (fun q => False.elim (by have := i_nlt c1; have := i_rg c; have : (0 : Int32).toInt = 0 := rfl; have := i_eq ek2; have : (nI k2).toInt = ((k2 : Nat) : Int) := nI_toInt (by omega); have := i_nle c3; have : (24 : Int32).toInt = 24 := rfl; have := i_le q; omega)) (fun _ => ?_)
              refine r_ic (x := 1) rfl rfl ?_
              refine r_goto (tg := 15) rfl rfl ?_
              refine r_zret rfl (.inr rfl) ?_
              show WR _ cd_179 4 [some (.ref (ad 30)), some (.int c), some (.int i), some (.int d), some (.int j), some (.int m), none, none, none, none, none] [.int 1] (sI (sI h (ad 0) 6 0) (ad 0) 6 (-15)) _
              refine r_if_eq (tg := 14) rfl rfl (fun q => absurd q (by decide)) (fun _ => ?_)
              refine r_iload rfl rfl ?_
              refine WR_tI (y := nI k5) ek5 ?_
              refine r_cs (y := 153) (ra := [.int (nI k5)]) (rest := []) rfl ⟨⟨rfl, rfl⟩, by decide⟩ rfl rfl (Nat.le_of_ble_eq_true rfl) ?_
              refine in_153 (Nat.le_of_ble_eq_true rfl) ?_
              show WR _ cd_153 0 [some (.int (nI k5))] [] (sI (sI h (ad 0) 6 0) (ad 0) 6 (-15)) _
              refine r_iload rfl rfl ?_
              refine r_if_lt (tg := 14) rfl rfl (fun q => False.elim (by have := i_nlt c4; have := i_rg d; have : (0 : Int32).toInt = 0 := rfl; have := i_eq ek5; have : (nI k5).toInt = ((k5 : Nat) : Int) := nI_toInt (by omega); have := i_nle c6; have : (24 : Int32).toInt = 24 := rfl; have := i_lt q; omega)) (fun _ => ?_)
              refine r_iload rfl rfl ?_
              refine r_ic (x := 24) rfl rfl ?_
              refine r_icmp_ge (tg := 14) rfl rfl (fun q => False.elim (by have := i_nlt c4; have := i_rg d; have : (0 : Int32).toInt = 0 := rfl; have := i_eq ek5; have : (nI k5).toInt = ((k5 : Nat) : Int) := nI_toInt (by omega); have := i_nle c6; have : (24 : Int32).toInt = 24 := rfl; have := i_le q; omega)) (fun _ => ?_)
              refine r_ic (x := 1) rfl rfl ?_
              refine r_goto (tg := 15) rfl rfl ?_
              refine r_zret rfl (.inr rfl) ?_
              show WR _ cd_179 11 [some (.ref (ad 30)), some (.int c), some (.int i), some (.int d), some (.int j), some (.int m), none, none, none, none, none] [.int 1] (sI (sI h (ad 0) 6 0) (ad 0) 6 (-15)) _
              refine r_if_ne (tg := 21) rfl rfl (fun _ => ?_) (fun q => absurd q (by decide))
              refine r_aload rfl rfl ?_
              refine r_getA (b := ad 31) rfl ⟨rfl, rfl, rfl⟩ (fx_t30 fx) (fx_r30_0 fx) ?_
              refine r_iload rfl rfl ?_
              refine WR_tI (y := nI k2) ek2 ?_
              refine r_iaload rfl (.inl (fx_t31 fx)) (vp_ct (fx_n31 fx) (vp_in_nI (by have := i_nlt c1; have := i_rg c; have : (0 : Int32).toInt = 0 := rfl; have := i_eq ek2; have : (nI k2).toInt = ((k2 : Nat) : Int) := nI_toInt (by omega); have := i_nle c3; have : (24 : Int32).toInt = 24 := rfl; omega) (by omega))) ?_
              refine WR_tI (congrArg (hI (sI (sI h (ad 0) 6 0) (ad 0) 6 (-15)) (ad 31)) ((nI_clamp (by have := i_nlt c1; have := i_rg c; have : (0 : Int32).toInt = 0 := rfl; have := i_eq ek2; have : (nI k2).toInt = ((k2 : Nat) : Int) := nI_toInt (by omega); have := i_nle c3; have : (24 : Int32).toInt = 24 := rfl; omega)) : _ = k2)) ?_
              refine WR_tI (y := nI t7) (Eq.trans (I_ne (fx_ne fx (by decide))) (Eq.trans (I_ne (fx_ne fx (by decide))) v7)) ?_
              refine r_istore (lv' := [some (.ref (ad 30)), some (.int c), some (.int i), some (.int d), some (.int j), some (.int m), some (.int (nI t7)), none, none, none, none]) rfl (Nat.le_of_ble_eq_true rfl) rfl ?_
              refine r_aload rfl rfl ?_
              refine r_getA (b := ad 31) rfl ⟨rfl, rfl, rfl⟩ (fx_t30 fx) (fx_r30_0 fx) ?_
              refine r_iload rfl rfl ?_
              refine WR_tI (y := nI k5) ek5 ?_
              refine r_iaload rfl (.inl (fx_t31 fx)) (vp_ct (fx_n31 fx) (vp_in_nI (by have := i_nlt c4; have := i_rg d; have : (0 : Int32).toInt = 0 := rfl; have := i_eq ek5; have : (nI k5).toInt = ((k5 : Nat) : Int) := nI_toInt (by omega); have := i_nle c6; have : (24 : Int32).toInt = 24 := rfl; omega) (by omega))) ?_
              refine WR_tI (congrArg (hI (sI (sI h (ad 0) 6 0) (ad 0) 6 (-15)) (ad 31)) ((nI_clamp (by have := i_nlt c4; have := i_rg d; have : (0 : Int32).toInt = 0 := rfl; have := i_eq ek5; have : (nI k5).toInt = ((k5 : Nat) : Int) := nI_toInt (by omega); have := i_nle c6; have : (24 : Int32).toInt = 24 := rfl; omega)) : _ = k5)) ?_
              refine WR_tI (y := nI (q46 + 1000)) (Eq.trans (I_ne (fx_ne fx (by decide))) (Eq.trans (I_ne (fx_ne fx (by decide))) v46)) ?_
              refine r_istore (lv' := [some (.ref (ad 30)), some (.int c), some (.int i), some (.int d), some (.int j), some (.int m), some (.int (nI t7)), some (.int (nI (q46 + 1000))), none, none, none]) rfl (Nat.le_of_ble_eq_true rfl) rfl ?_
              refine r_iload rfl rfl ?_
              refine r_ic (x := (-1)) rfl rfl ?_
              refine r_icmp_eq (tg := 49) rfl rfl (fun q => False.elim (by have : (nI t7).toInt = ((t7 : Nat) : Int) := nI_toInt (by omega); have : (-1 : Int32).toInt = -1 := rfl; have := i_eq q; omega)) (fun _ => ?_)
              refine r_iload rfl rfl ?_
              refine r_ic (x := (-1)) rfl rfl ?_
              refine r_icmp_ne (tg := 55) rfl rfl (fun _ => ?_) (fun q => False.elim (by have : (nI (q46 + 1000)).toInt = ((q46 + 1000 : Nat) : Int) := nI_toInt (by omega); have : (-1 : Int32).toInt = -1 := rfl; have := i_eq q; omega))
              refine r_iload rfl rfl ?_
              refine r_ic (x := 1000) rfl rfl ?_
              refine r_icmp_ge (tg := 112) rfl rfl (fun q => False.elim (by have : (nI t7).toInt = ((t7 : Nat) : Int) := nI_toInt (by omega); have : (1000 : Int32).toInt = 1000 := rfl; have := i_le q; omega)) (fun _ => ?_)
              refine r_iload rfl rfl ?_
              refine r_ic (x := 1000) rfl rfl ?_
              refine r_icmp_ge (tg := 112) rfl rfl (fun _ => ?_) (fun q => False.elim (by have : (nI (q46 + 1000)).toInt = ((q46 + 1000 : Nat) : Int) := nI_toInt (by omega); have : (1000 : Int32).toInt = 1000 := rfl; have := i_nle q; omega))
              refine r_aload rfl rfl ?_
              refine r_ic (x := 5) rfl rfl ?_
              refine r_cv (y := 156) (ra := [.int 5]) (rest := []) rfl ⟨⟨rfl, rfl⟩, rfl, by decide⟩ (fx_t30 fx) rfl rfl (Nat.le_of_ble_eq_true rfl) ?_
              refine in_156 (Nat.le_of_ble_eq_true rfl) ?_
              show WR _ cd_156 0 [some (.ref (ad 30)), some (.int 5)] [] (sI (sI h (ad 0) 6 0) (ad 0) 6 (-15)) _
              refine r_aload rfl rfl ?_
              refine r_ic (x := (-10)) rfl rfl ?_
              refine r_iload rfl rfl ?_
              refine r_isub rfl ?_
              refine WR_tI (y := (-15)) rfl ?_
              refine r_cv (y := 154) (ra := [.int (-15)]) (rest := []) rfl ⟨⟨rfl, rfl⟩, rfl, by decide⟩ (fx_t30 fx) rfl rfl (Nat.le_of_ble_eq_true rfl) ?_
              refine in_154 (Nat.le_of_ble_eq_true rfl) ?_
              show WR _ cd_154 0 [some (.ref (ad 30)), some (.int (-15))] [] (sI (sI h (ad 0) 6 0) (ad 0) 6 (-15)) _
              refine r_aload rfl rfl ?_
              refine r_iload rfl rfl ?_
              refine r_ic (x := (-1)) rfl rfl ?_
              refine r_icmp_ge (tg := 10) rfl rfl (fun q => absurd q (by decide)) (fun _ => ?_)
              refine r_iload rfl rfl ?_
              refine r_goto (tg := 11) rfl rfl ?_
              refine r_putI rfl ⟨rfl, rfl, rfl⟩ (fx_t30 fx) ?_
              have fx : FX n ad sa z0 (sI (sI (sI h (ad 0) 6 0) (ad 0) 6 (-15)) (ad 30) 11 (-15)) := (FX.sI fx)
              refine r_iload rfl rfl ?_
              refine r_iret rfl ?_
              show WR _ cd_156 8 [some (.ref (ad 30)), some (.int 5)] [.int (-15)] (sI (sI (sI h (ad 0) 6 0) (ad 0) 6 (-15)) (ad 30) 11 (-15)) _
              refine r_iret rfl ?_
              show WR _ cd_179 117 [some (.ref (ad 30)), some (.int c), some (.int i), some (.int d), some (.int j), some (.int m), some (.int (nI t7)), some (.int (nI (q46 + 1000))), none, none, none] [.int (-15)] (sI (sI (sI h (ad 0) 6 0) (ad 0) 6 (-15)) (ad 30) 11 (-15)) _
              refine r_iret rfl ?_
              exact ⟨rfl, Rel.why r (((Chg.rf.sI (fx_j fx) (.inl (by decide))).sI (fx_j fx) (.inl (by decide))).sI (fx_j fx) (.inl (by decide))) ⟨rfl, by decide⟩ (Eq.trans (Eq.trans (I_ne (fx_ne fx (by decide))) I_eq) (Eq.symm I_eq)), (by (try simp only [hZ_sI, hZ_sL, hZ_sD, hZ_sR]); omega), (by (try simp only [hU_sI, hU_sL, hU_sD, hU_sR]); omega)⟩
            · refine r_aaloadA (b := mid t46) rfl (isQ_of (fx_t1 fx) (by decide)) (vp_ct (fx_n1 fx) (vp_in_nI (by have := i_nlt c4; have := i_rg d; have : (0 : Int32).toInt = 0 := rfl; have := i_eq ek5; have : (nI k5).toInt = ((k5 : Nat) : Int) := nI_toInt (by omega); have := i_nle c6; have : (24 : Int32).toInt = 24 := rfl; omega) (by omega))) (Eq.trans (congrArg (hR (sI h (ad 0) 6 0) (ad 1)) ((nI_clamp (by have := i_nlt c4; have := i_rg d; have : (0 : Int32).toInt = 0 := rfl; have := i_eq ek5; have : (nI k5).toInt = ((k5 : Nat) : Int) := nI_toInt (by omega); have := i_nle c6; have : (24 : Int32).toInt = 24 := rfl; omega)) : _ = k5)) (Eq.trans R_oI w46)) ?_
              refine r_astore (lv' := [some (.ref (ad 0)), some (.int c), some (.int i), some (.int d), some (.int j), some (.int m), some (.ref (mid t7)), some (.ref (mid t46)), none]) rfl (Nat.le_of_ble_eq_true rfl) rfl ?_
              refine r_aload rfl rfl ?_
              refine r_ifnullA (tg := 52) rfl rfl ?_
              refine r_aload rfl rfl ?_
              refine r_ifnonnullA (tg := 59) rfl rfl ?_
              refine r_aload rfl rfl ?_
              refine r_aload rfl rfl ?_
              refine r_cw (y := 54) (ra := [.ref (mid t46)]) (rest := []) rfl ⟨rfl, rfl⟩ (by rw [show hT (sI h (ad 0) 6 0) (mid t7) = 6 from tg7]; rfl) rfl rfl (Nat.le_of_ble_eq_true rfl) ?_
              refine in_54 (Nat.le_of_ble_eq_true rfl) ?_
              show WR _ cd_54 0 [some (.ref (mid t7)), some (.ref (mid t46))] [] (sI h (ad 0) 6 0) _
              refine r_aload rfl rfl ?_
              refine r_instW rfl (by decide) tg46 (by decide) ?_
              refine r_zret rfl (.inl rfl) ?_
              show WR _ cd_51 66 [some (.ref (ad 0)), some (.int c), some (.int i), some (.int d), some (.int j), some (.int m), some (.ref (mid t7)), some (.ref (mid t46)), none] [.int 0] (sI h (ad 0) 6 0) _
              refine r_if_ne (tg := 76) rfl rfl (fun q => absurd q (by decide)) (fun _ => ?_)
              refine r_aload rfl rfl ?_
              refine r_ic (x := (-15)) rfl rfl ?_
              refine r_cv (y := 13) (ra := [.int (-15)]) (rest := []) rfl ⟨⟨rfl, rfl⟩, rfl, by decide⟩ (fx_t0 fx) rfl rfl (Nat.le_of_ble_eq_true rfl) ?_
              refine in_13 (Nat.le_of_ble_eq_true rfl) ?_
              show WR _ cd_13 0 [some (.ref (ad 0)), some (.int (-15))] [] (sI h (ad 0) 6 0) _
              refine r_aload rfl rfl ?_
              refine r_iload rfl rfl ?_
              refine r_putI rfl ⟨rfl, rfl, rfl⟩ (fx_t0 fx) ?_
              have fx : FX n ad sa z0 (sI (sI h (ad 0) 6 0) (ad 0) 6 (-15)) := (FX.sI fx)
              refine r_iload rfl rfl ?_
              refine r_iret rfl ?_
              show WR _ cd_51 75 [some (.ref (ad 0)), some (.int c), some (.int i), some (.int d), some (.int j), some (.int m), some (.ref (mid t7)), some (.ref (mid t46)), none] [.int (-15)] (sI (sI h (ad 0) 6 0) (ad 0) 6 (-15)) _
              refine r_iret rfl ?_
              show EV _ 179 [.ref (ad 30), .int c, .int i, .int d, .int j, .int m] (sI (sI h (ad 0) 6 0) (ad 0) 6 (-15)) _
              refine in_179 (Nat.le_of_ble_eq_true rfl) ?_
              show WR _ cd_179 0 [some (.ref (ad 30)), some (.int c), some (.int i), some (.int d), some (.int j), some (.int m), none, none, none, none, none] [] (sI (sI h (ad 0) 6 0) (ad 0) 6 (-15)) _
              refine r_iload rfl rfl ?_
              refine WR_tI (y := nI k2) ek2 ?_
              refine r_cs (y := 153) (ra := [.int (nI k2)]) (rest := []) rfl ⟨⟨rfl, rfl⟩, by decide⟩ rfl rfl (Nat.le_of_ble_eq_true rfl) ?_
              refine in_153 (Nat.le_of_ble_eq_true rfl) ?_
              show WR _ cd_153 0 [some (.int (nI k2))] [] (sI (sI h (ad 0) 6 0) (ad 0) 6 (-15)) _
              refine r_iload rfl rfl ?_
              refine r_if_lt (tg := 14) rfl rfl (fun q => False.elim (by have := i_nlt c1; have := i_rg c; have : (0 : Int32).toInt = 0 := rfl; have := i_eq ek2; have : (nI k2).toInt = ((k2 : Nat) : Int) := nI_toInt (by omega); have := i_nle c3; have : (24 : Int32).toInt = 24 := rfl; have := i_lt q; omega)) (fun _ => ?_)
              refine r_iload rfl rfl ?_
              refine r_ic (x := 24) rfl rfl ?_
              refine r_icmp_ge (tg := 14) rfl rfl (fun q => False.elim (by have := i_nlt c1; have := i_rg c; have : (0 : Int32).toInt = 0 := rfl; have := i_eq ek2; have : (nI k2).toInt = ((k2 : Nat) : Int) := nI_toInt (by omega); have := i_nle c3; have : (24 : Int32).toInt = 24 := rfl; have := i_le q; omega)) (fun _ => ?_)
              refine r_ic (x := 1) rfl rfl ?_
              refine r_goto (tg := 15) rfl rfl ?_
              refine r_zret rfl (.inr rfl) ?_
              show WR _ cd_179 4 [some (.ref (ad 30)), some (.int c), some (.int i), some (.int d), some (.int j), some (.int m), none, none, none, none, none] [.int 1] (sI (sI h (ad 0) 6 0) (ad 0) 6 (-15)) _
              refine r_if_eq (tg := 14) rfl rfl (fun q => absurd q (by decide)) (fun _ => ?_)
              refine r_iload rfl rfl ?_
              refine WR_tI (y := nI k5) ek5 ?_
              refine r_cs (y := 153) (ra := [.int (nI k5)]) (rest := []) rfl ⟨⟨rfl, rfl⟩, by decide⟩ rfl rfl (Nat.le_of_ble_eq_true rfl) ?_
              refine in_153 (Nat.le_of_ble_eq_true rfl) ?_
              show WR _ cd_153 0 [some (.int (nI k5))] [] (sI (sI h (ad 0) 6 0) (ad 0) 6 (-15)) _
              refine r_iload rfl rfl ?_
              refine r_if_lt (tg := 14) rfl rfl (fun q => False.elim (by have := i_nlt c4; have := i_rg d; have : (0 : Int32).toInt = 0 := rfl; have := i_eq ek5; have : (nI k5).toInt = ((k5 : Nat) : Int) := nI_toInt (by omega); have := i_nle c6; have : (24 : Int32).toInt = 24 := rfl; have := i_lt q; omega)) (fun _ => ?_)
              refine r_iload rfl rfl ?_
              refine r_ic (x := 24) rfl rfl ?_
              refine r_icmp_ge (tg := 14) rfl rfl (fun q => False.elim (by have := i_nlt c4; have := i_rg d; have : (0 : Int32).toInt = 0 := rfl; have := i_eq ek5; have : (nI k5).toInt = ((k5 : Nat) : Int) := nI_toInt (by omega); have := i_nle c6; have : (24 : Int32).toInt = 24 := rfl; have := i_le q; omega)) (fun _ => ?_)
              refine r_ic (x := 1) rfl rfl ?_
              refine r_goto (tg := 15) rfl rfl ?_
              refine r_zret rfl (.inr rfl) ?_
              show WR _ cd_179 11 [some (.ref (ad 30)), some (.int c), some (.int i), some (.int d), some (.int j), some (.int m), none, none, none, none, none] [.int 1] (sI (sI h (ad 0) 6 0) (ad 0) 6 (-15)) _
              refine r_if_ne (tg := 21) rfl rfl (fun _ => ?_) (fun q => absurd q (by decide))
              refine r_aload rfl rfl ?_
              refine r_getA (b := ad 31) rfl ⟨rfl, rfl, rfl⟩ (fx_t30 fx) (fx_r30_0 fx) ?_
              refine r_iload rfl rfl ?_
              refine WR_tI (y := nI k2) ek2 ?_
              refine r_iaload rfl (.inl (fx_t31 fx)) (vp_ct (fx_n31 fx) (vp_in_nI (by have := i_nlt c1; have := i_rg c; have : (0 : Int32).toInt = 0 := rfl; have := i_eq ek2; have : (nI k2).toInt = ((k2 : Nat) : Int) := nI_toInt (by omega); have := i_nle c3; have : (24 : Int32).toInt = 24 := rfl; omega) (by omega))) ?_
              refine WR_tI (congrArg (hI (sI (sI h (ad 0) 6 0) (ad 0) 6 (-15)) (ad 31)) ((nI_clamp (by have := i_nlt c1; have := i_rg c; have : (0 : Int32).toInt = 0 := rfl; have := i_eq ek2; have : (nI k2).toInt = ((k2 : Nat) : Int) := nI_toInt (by omega); have := i_nle c3; have : (24 : Int32).toInt = 24 := rfl; omega)) : _ = k2)) ?_
              refine WR_tI (y := nI t7) (Eq.trans (I_ne (fx_ne fx (by decide))) (Eq.trans (I_ne (fx_ne fx (by decide))) v7)) ?_
              refine r_istore (lv' := [some (.ref (ad 30)), some (.int c), some (.int i), some (.int d), some (.int j), some (.int m), some (.int (nI t7)), none, none, none, none]) rfl (Nat.le_of_ble_eq_true rfl) rfl ?_
              refine r_aload rfl rfl ?_
              refine r_getA (b := ad 31) rfl ⟨rfl, rfl, rfl⟩ (fx_t30 fx) (fx_r30_0 fx) ?_
              refine r_iload rfl rfl ?_
              refine WR_tI (y := nI k5) ek5 ?_
              refine r_iaload rfl (.inl (fx_t31 fx)) (vp_ct (fx_n31 fx) (vp_in_nI (by have := i_nlt c4; have := i_rg d; have : (0 : Int32).toInt = 0 := rfl; have := i_eq ek5; have : (nI k5).toInt = ((k5 : Nat) : Int) := nI_toInt (by omega); have := i_nle c6; have : (24 : Int32).toInt = 24 := rfl; omega) (by omega))) ?_
              refine WR_tI (congrArg (hI (sI (sI h (ad 0) 6 0) (ad 0) 6 (-15)) (ad 31)) ((nI_clamp (by have := i_nlt c4; have := i_rg d; have : (0 : Int32).toInt = 0 := rfl; have := i_eq ek5; have : (nI k5).toInt = ((k5 : Nat) : Int) := nI_toInt (by omega); have := i_nle c6; have : (24 : Int32).toInt = 24 := rfl; omega)) : _ = k5)) ?_
              refine WR_tI (y := nI t46) (Eq.trans (I_ne (fx_ne fx (by decide))) (Eq.trans (I_ne (fx_ne fx (by decide))) v46)) ?_
              refine r_istore (lv' := [some (.ref (ad 30)), some (.int c), some (.int i), some (.int d), some (.int j), some (.int m), some (.int (nI t7)), some (.int (nI t46)), none, none, none]) rfl (Nat.le_of_ble_eq_true rfl) rfl ?_
              refine r_iload rfl rfl ?_
              refine r_ic (x := (-1)) rfl rfl ?_
              refine r_icmp_eq (tg := 49) rfl rfl (fun q => False.elim (by have : (nI t7).toInt = ((t7 : Nat) : Int) := nI_toInt (by omega); have : (-1 : Int32).toInt = -1 := rfl; have := i_eq q; omega)) (fun _ => ?_)
              refine r_iload rfl rfl ?_
              refine r_ic (x := (-1)) rfl rfl ?_
              refine r_icmp_ne (tg := 55) rfl rfl (fun _ => ?_) (fun q => False.elim (by have : (nI t46).toInt = ((t46 : Nat) : Int) := nI_toInt (by omega); have : (-1 : Int32).toInt = -1 := rfl; have := i_eq q; omega))
              refine r_iload rfl rfl ?_
              refine r_ic (x := 1000) rfl rfl ?_
              refine r_icmp_ge (tg := 112) rfl rfl (fun q => False.elim (by have : (nI t7).toInt = ((t7 : Nat) : Int) := nI_toInt (by omega); have : (1000 : Int32).toInt = 1000 := rfl; have := i_le q; omega)) (fun _ => ?_)
              refine r_iload rfl rfl ?_
              refine r_ic (x := 1000) rfl rfl ?_
              refine r_icmp_ge (tg := 112) rfl rfl (fun q => False.elim (by have : (nI t46).toInt = ((t46 : Nat) : Int) := nI_toInt (by omega); have : (1000 : Int32).toInt = 1000 := rfl; have := i_le q; omega)) (fun _ => ?_)
              refine r_aload rfl rfl ?_
              refine r_getA (b := ad 33) rfl ⟨rfl, rfl, rfl⟩ (fx_t30 fx) (fx_r30_2 fx) ?_
              refine r_iload rfl rfl ?_
              refine r_iaload rfl (.inl (fx_t33 fx)) (vp_ct (fx_n33 fx) (vp_in_nI (by omega) (by omega))) ?_
              refine WR_tI (congrArg (hI (sI (sI h (ad 0) 6 0) (ad 0) 6 (-15)) (ad 33)) ((nI_clamp (by omega)) : _ = t7)) ?_
              refine WR_tI (y := 9) (Eq.trans (I_ne (fx_ne fx (by decide))) (Eq.trans (I_ne (fx_ne fx (by decide))) l2_7)) ?_
              refine r_aload rfl rfl ?_
              refine r_getA (b := ad 33) rfl ⟨rfl, rfl, rfl⟩ (fx_t30 fx) (fx_r30_2 fx) ?_
              refine r_iload rfl rfl ?_
              refine r_iaload rfl (.inl (fx_t33 fx)) (vp_ct (fx_n33 fx) (vp_in_nI (by omega) (by omega))) ?_
              refine WR_tI (congrArg (hI (sI (sI h (ad 0) 6 0) (ad 0) 6 (-15)) (ad 33)) ((nI_clamp (by omega)) : _ = t46)) ?_
              refine WR_tI (y := nI ln46) (Eq.trans (I_ne (fx_ne fx (by decide))) (Eq.trans (I_ne (fx_ne fx (by decide))) l2_46)) ?_
              refine r_icmp_eq (tg := 118) rfl rfl (fun q => False.elim (by have : (9 : Int32).toInt = 9 := rfl; have : (nI ln46).toInt = ((ln46 : Nat) : Int) := nI_toInt (by omega); have := i_eq q; omega)) (fun _ => ?_)
              refine r_aload rfl rfl ?_
              refine r_getA (b := ad 33) rfl ⟨rfl, rfl, rfl⟩ (fx_t30 fx) (fx_r30_2 fx) ?_
              refine r_iload rfl rfl ?_
              refine r_iaload rfl (.inl (fx_t33 fx)) (vp_ct (fx_n33 fx) (vp_in_nI (by omega) (by omega))) ?_
              refine WR_tI (congrArg (hI (sI (sI h (ad 0) 6 0) (ad 0) 6 (-15)) (ad 33)) ((nI_clamp (by omega)) : _ = t7)) ?_
              refine WR_tI (y := 9) (Eq.trans (I_ne (fx_ne fx (by decide))) (Eq.trans (I_ne (fx_ne fx (by decide))) l2_7)) ?_
              refine r_ic (x := 8) rfl rfl ?_
              refine r_icmp_lt (tg := 112) rfl rfl (fun q => absurd q (by decide)) (fun _ => ?_)
              refine r_aload rfl rfl ?_
              refine r_getA (b := ad 33) rfl ⟨rfl, rfl, rfl⟩ (fx_t30 fx) (fx_r30_2 fx) ?_
              refine r_iload rfl rfl ?_
              refine r_iaload rfl (.inl (fx_t33 fx)) (vp_ct (fx_n33 fx) (vp_in_nI (by omega) (by omega))) ?_
              refine WR_tI (congrArg (hI (sI (sI h (ad 0) 6 0) (ad 0) 6 (-15)) (ad 33)) ((nI_clamp (by omega)) : _ = t46)) ?_
              refine WR_tI (y := nI ln46) (Eq.trans (I_ne (fx_ne fx (by decide))) (Eq.trans (I_ne (fx_ne fx (by decide))) l2_46)) ?_
              refine r_ic (x := 8) rfl rfl ?_
              refine r_icmp_ge (tg := 118) rfl rfl (fun q => False.elim (by have : (nI ln46).toInt = ((ln46 : Nat) : Int) := nI_toInt (by omega); have : (8 : Int32).toInt = 8 := rfl; have := i_le q; omega)) (fun _ => ?_)
              refine r_aload rfl rfl ?_
              refine r_ic (x := 5) rfl rfl ?_
              refine r_cv (y := 156) (ra := [.int 5]) (rest := []) rfl ⟨⟨rfl, rfl⟩, rfl, by decide⟩ (fx_t30 fx) rfl rfl (Nat.le_of_ble_eq_true rfl) ?_
              refine in_156 (Nat.le_of_ble_eq_true rfl) ?_
              show WR _ cd_156 0 [some (.ref (ad 30)), some (.int 5)] [] (sI (sI h (ad 0) 6 0) (ad 0) 6 (-15)) _
              refine r_aload rfl rfl ?_
              refine r_ic (x := (-10)) rfl rfl ?_
              refine r_iload rfl rfl ?_
              refine r_isub rfl ?_
              refine WR_tI (y := (-15)) rfl ?_
              refine r_cv (y := 154) (ra := [.int (-15)]) (rest := []) rfl ⟨⟨rfl, rfl⟩, rfl, by decide⟩ (fx_t30 fx) rfl rfl (Nat.le_of_ble_eq_true rfl) ?_
              refine in_154 (Nat.le_of_ble_eq_true rfl) ?_
              show WR _ cd_154 0 [some (.ref (ad 30)), some (.int (-15))] [] (sI (sI h (ad 0) 6 0) (ad 0) 6 (-15)) _
              refine r_aload rfl rfl ?_
              refine r_iload rfl rfl ?_
              refine r_ic (x := (-1)) rfl rfl ?_
              refine r_icmp_ge (tg := 10) rfl rfl (fun q => absurd q (by decide)) (fun _ => ?_)
              refine r_iload rfl rfl ?_
              refine r_goto (tg := 11) rfl rfl ?_
              refine r_putI rfl ⟨rfl, rfl, rfl⟩ (fx_t30 fx) ?_
              have fx : FX n ad sa z0 (sI (sI (sI h (ad 0) 6 0) (ad 0) 6 (-15)) (ad 30) 11 (-15)) := (FX.sI fx)
              refine r_iload rfl rfl ?_
              refine r_iret rfl ?_
              show WR _ cd_156 8 [some (.ref (ad 30)), some (.int 5)] [.int (-15)] (sI (sI (sI h (ad 0) 6 0) (ad 0) 6 (-15)) (ad 30) 11 (-15)) _
              refine r_iret rfl ?_
              show WR _ cd_179 117 [some (.ref (ad 30)), some (.int c), some (.int i), some (.int d), some (.int j), some (.int m), some (.int (nI t7)), some (.int (nI t46)), none, none, none] [.int (-15)] (sI (sI (sI h (ad 0) 6 0) (ad 0) 6 (-15)) (ad 30) 11 (-15)) _
              refine r_iret rfl ?_
              exact ⟨rfl, Rel.why r (((Chg.rf.sI (fx_j fx) (.inl (by decide))).sI (fx_j fx) (.inl (by decide))).sI (fx_j fx) (.inl (by decide))) ⟨rfl, by decide⟩ (Eq.trans (Eq.trans (I_ne (fx_ne fx (by decide))) I_eq) (Eq.symm I_eq)), (by (try simp only [hZ_sI, hZ_sL, hZ_sD, hZ_sR]); omega), (by (try simp only [hU_sI, hU_sL, hU_sD, hU_sR]); omega)⟩
            · refine r_aaloadA (b := mid t46) rfl (isQ_of (fx_t1 fx) (by decide)) (vp_ct (fx_n1 fx) (vp_in_nI (by have := i_nlt c4; have := i_rg d; have : (0 : Int32).toInt = 0 := rfl; have := i_eq ek5; have : (nI k5).toInt = ((k5 : Nat) : Int) := nI_toInt (by omega); have := i_nle c6; have : (24 : Int32).toInt = 24 := rfl; omega) (by omega))) (Eq.trans (congrArg (hR (sI h (ad 0) 6 0) (ad 1)) ((nI_clamp (by have := i_nlt c4; have := i_rg d; have : (0 : Int32).toInt = 0 := rfl; have := i_eq ek5; have : (nI k5).toInt = ((k5 : Nat) : Int) := nI_toInt (by omega); have := i_nle c6; have : (24 : Int32).toInt = 24 := rfl; omega)) : _ = k5)) (Eq.trans R_oI w46)) ?_
              refine r_astore (lv' := [some (.ref (ad 0)), some (.int c), some (.int i), some (.int d), some (.int j), some (.int m), some (.ref (mid t7)), some (.ref (mid t46)), none]) rfl (Nat.le_of_ble_eq_true rfl) rfl ?_
              refine r_aload rfl rfl ?_
              refine r_ifnullA (tg := 52) rfl rfl ?_
              refine r_aload rfl rfl ?_
              refine r_ifnonnullA (tg := 59) rfl rfl ?_
              refine r_aload rfl rfl ?_
              refine r_aload rfl rfl ?_
              refine r_cw (y := 54) (ra := [.ref (mid t46)]) (rest := []) rfl ⟨rfl, rfl⟩ (by rw [show hT (sI h (ad 0) 6 0) (mid t7) = 6 from tg7]; rfl) rfl rfl (Nat.le_of_ble_eq_true rfl) ?_
              refine in_54 (Nat.le_of_ble_eq_true rfl) ?_
              show WR _ cd_54 0 [some (.ref (mid t7)), some (.ref (mid t46))] [] (sI h (ad 0) 6 0) _
              refine r_aload rfl rfl ?_
              refine r_instY rfl (by decide) tg46 ?_
              refine r_zret rfl (.inr rfl) ?_
              show WR _ cd_51 66 [some (.ref (ad 0)), some (.int c), some (.int i), some (.int d), some (.int j), some (.int m), some (.ref (mid t7)), some (.ref (mid t46)), none] [.int 1] (sI h (ad 0) 6 0) _
              refine r_if_ne (tg := 76) rfl rfl (fun _ => ?_) (fun q => absurd q (by decide))
              refine r_aload rfl rfl ?_
              refine r_iload rfl rfl ?_
              refine r_iload rfl rfl ?_
              refine r_cw (y := 32) (ra := [.int m, .int i]) (rest := []) rfl ⟨rfl, rfl⟩ (by rw [show hT (sI h (ad 0) 6 0) (mid t7) = 6 from tg7]; rfl) rfl rfl (Nat.le_of_ble_eq_true rfl) ?_
              refine in_32 (Nat.le_of_ble_eq_true rfl) ?_
              show WR _ cd_32 0 [some (.ref (mid t7)), some (.int i), some (.int m)] [] (sI h (ad 0) 6 0) _
              refine r_iload rfl rfl ?_
              refine r_if_lt (tg := 22) rfl rfl (fun c47 => ?_) (fun c47 => ?_)
              · refine r_ic (x := 0) rfl rfl ?_
                refine r_zret rfl (.inl rfl) ?_
                show WR _ cd_51 84 [some (.ref (ad 0)), some (.int c), some (.int i), some (.int d), some (.int j), some (.int m), some (.ref (mid t7)), some (.ref (mid t46)), none] [.int 0] (sI h (ad 0) 6 0) _
                refine r_if_eq (tg := 99) rfl rfl (fun _ => ?_) (fun q => absurd q (by decide))
                refine r_aload rfl rfl ?_
                refine r_ic (x := (-12)) rfl rfl ?_
                refine r_cv (y := 13) (ra := [.int (-12)]) (rest := []) rfl ⟨⟨rfl, rfl⟩, rfl, by decide⟩ (fx_t0 fx) rfl rfl (Nat.le_of_ble_eq_true rfl) ?_
                refine in_13 (Nat.le_of_ble_eq_true rfl) ?_
                show WR _ cd_13 0 [some (.ref (ad 0)), some (.int (-12))] [] (sI h (ad 0) 6 0) _
                refine r_aload rfl rfl ?_
                refine r_iload rfl rfl ?_
                refine r_putI rfl ⟨rfl, rfl, rfl⟩ (fx_t0 fx) ?_
                have fx : FX n ad sa z0 (sI (sI h (ad 0) 6 0) (ad 0) 6 (-12)) := (FX.sI fx)
                refine r_iload rfl rfl ?_
                refine r_iret rfl ?_
                show WR _ cd_51 105 [some (.ref (ad 0)), some (.int c), some (.int i), some (.int d), some (.int j), some (.int m), some (.ref (mid t7)), some (.ref (mid t46)), none] [.int (-12)] (sI (sI h (ad 0) 6 0) (ad 0) 6 (-12)) _
                refine r_iret rfl ?_
                show EV _ 179 [.ref (ad 30), .int c, .int i, .int d, .int j, .int m] (sI (sI h (ad 0) 6 0) (ad 0) 6 (-12)) _
                refine in_179 (Nat.le_of_ble_eq_true rfl) ?_
                show WR _ cd_179 0 [some (.ref (ad 30)), some (.int c), some (.int i), some (.int d), some (.int j), some (.int m), none, none, none, none, none] [] (sI (sI h (ad 0) 6 0) (ad 0) 6 (-12)) _
                refine r_iload rfl rfl ?_
                refine WR_tI (y := nI k2) ek2 ?_
                refine r_cs (y := 153) (ra := [.int (nI k2)]) (rest := []) rfl ⟨⟨rfl, rfl⟩, by decide⟩ rfl rfl (Nat.le_of_ble_eq_true rfl) ?_
                refine in_153 (Nat.le_of_ble_eq_true rfl) ?_
                show WR _ cd_153 0 [some (.int (nI k2))] [] (sI (sI h (ad 0) 6 0) (ad 0) 6 (-12)) _
                refine r_iload rfl rfl ?_
                refine r_if_lt (tg := 14) rfl rfl (fun q => False.elim (by have := i_nlt c1; have := i_rg c; have : (0 : Int32).toInt = 0 := rfl; have := i_eq ek2; have : (nI k2).toInt = ((k2 : Nat) : Int) := nI_toInt (by omega); have := i_nle c3; have : (24 : Int32).toInt = 24 := rfl; have := i_lt q; omega)) (fun _ => ?_)
                refine r_iload rfl rfl ?_
                refine r_ic (x := 24) rfl rfl ?_
                refine r_icmp_ge (tg := 14) rfl rfl (fun q => False.elim (by have := i_nlt c1; have := i_rg c; have : (0 : Int32).toInt = 0 := rfl; have := i_eq ek2; have : (nI k2).toInt = ((k2 : Nat) : Int) := nI_toInt (by omega); have := i_nle c3; have : (24 : Int32).toInt = 24 := rfl; have := i_le q; omega)) (fun _ => ?_)
                refine r_ic (x := 1) rfl rfl ?_
                refine r_goto (tg := 15) rfl rfl ?_
                refine r_zret rfl (.inr rfl) ?_
                show WR _ cd_179 4 [some (.ref (ad 30)), some (.int c), some (.int i), some (.int d), some (.int j), some (.int m), none, none, none, none, none] [.int 1] (sI (sI h (ad 0) 6 0) (ad 0) 6 (-12)) _
                refine r_if_eq (tg := 14) rfl rfl (fun q => absurd q (by decide)) (fun _ => ?_)
                refine r_iload rfl rfl ?_
                refine WR_tI (y := nI k5) ek5 ?_
                refine r_cs (y := 153) (ra := [.int (nI k5)]) (rest := []) rfl ⟨⟨rfl, rfl⟩, by decide⟩ rfl rfl (Nat.le_of_ble_eq_true rfl) ?_
                refine in_153 (Nat.le_of_ble_eq_true rfl) ?_
                show WR _ cd_153 0 [some (.int (nI k5))] [] (sI (sI h (ad 0) 6 0) (ad 0) 6 (-12)) _
                refine r_iload rfl rfl ?_
                refine r_if_lt (tg := 14) rfl rfl (fun q => False.elim (by have := i_nlt c4; have := i_rg d; have : (0 : Int32).toInt = 0 := rfl; have := i_eq ek5; have : (nI k5).toInt = ((k5 : Nat) : Int) := nI_toInt (by omega); have := i_nle c6; have : (24 : Int32).toInt = 24 := rfl; have := i_lt q; omega)) (fun _ => ?_)
                refine r_iload rfl rfl ?_
                refine r_ic (x := 24) rfl rfl ?_
                refine r_icmp_ge (tg := 14) rfl rfl (fun q => False.elim (by have := i_nlt c4; have := i_rg d; have : (0 : Int32).toInt = 0 := rfl; have := i_eq ek5; have : (nI k5).toInt = ((k5 : Nat) : Int) := nI_toInt (by omega); have := i_nle c6; have : (24 : Int32).toInt = 24 := rfl; have := i_le q; omega)) (fun _ => ?_)
                refine r_ic (x := 1) rfl rfl ?_
                refine r_goto (tg := 15) rfl rfl ?_
                refine r_zret rfl (.inr rfl) ?_
                show WR _ cd_179 11 [some (.ref (ad 30)), some (.int c), some (.int i), some (.int d), some (.int j), some (.int m), none, none, none, none, none] [.int 1] (sI (sI h (ad 0) 6 0) (ad 0) 6 (-12)) _
                refine r_if_ne (tg := 21) rfl rfl (fun _ => ?_) (fun q => absurd q (by decide))
                refine r_aload rfl rfl ?_
                refine r_getA (b := ad 31) rfl ⟨rfl, rfl, rfl⟩ (fx_t30 fx) (fx_r30_0 fx) ?_
                refine r_iload rfl rfl ?_
                refine WR_tI (y := nI k2) ek2 ?_
                refine r_iaload rfl (.inl (fx_t31 fx)) (vp_ct (fx_n31 fx) (vp_in_nI (by have := i_nlt c1; have := i_rg c; have : (0 : Int32).toInt = 0 := rfl; have := i_eq ek2; have : (nI k2).toInt = ((k2 : Nat) : Int) := nI_toInt (by omega); have := i_nle c3; have : (24 : Int32).toInt = 24 := rfl; omega) (by omega))) ?_
                refine WR_tI (congrArg (hI (sI (sI h (ad 0) 6 0) (ad 0) 6 (-12)) (ad 31)) ((nI_clamp (by have := i_nlt c1; have := i_rg c; have : (0 : Int32).toInt = 0 := rfl; have := i_eq ek2; have : (nI k2).toInt = ((k2 : Nat) : Int) := nI_toInt (by omega); have := i_nle c3; have : (24 : Int32).toInt = 24 := rfl; omega)) : _ = k2)) ?_
                refine WR_tI (y := nI t7) (Eq.trans (I_ne (fx_ne fx (by decide))) (Eq.trans (I_ne (fx_ne fx (by decide))) v7)) ?_
                refine r_istore (lv' := [some (.ref (ad 30)), some (.int c), some (.int i), some (.int d), some (.int j), some (.int m), some (.int (nI t7)), none, none, none, none]) rfl (Nat.le_of_ble_eq_true rfl) rfl ?_
                refine r_aload rfl rfl ?_
                refine r_getA (b := ad 31) rfl ⟨rfl, rfl, rfl⟩ (fx_t30 fx) (fx_r30_0 fx) ?_
                refine r_iload rfl rfl ?_
                refine WR_tI (y := nI k5) ek5 ?_
                refine r_iaload rfl (.inl (fx_t31 fx)) (vp_ct (fx_n31 fx) (vp_in_nI (by have := i_nlt c4; have := i_rg d; have : (0 : Int32).toInt = 0 := rfl; have := i_eq ek5; have : (nI k5).toInt = ((k5 : Nat) : Int) := nI_toInt (by omega); have := i_nle c6; have : (24 : Int32).toInt = 24 := rfl; omega) (by omega))) ?_
                refine WR_tI (congrArg (hI (sI (sI h (ad 0) 6 0) (ad 0) 6 (-12)) (ad 31)) ((nI_clamp (by have := i_nlt c4; have := i_rg d; have : (0 : Int32).toInt = 0 := rfl; have := i_eq ek5; have : (nI k5).toInt = ((k5 : Nat) : Int) := nI_toInt (by omega); have := i_nle c6; have : (24 : Int32).toInt = 24 := rfl; omega)) : _ = k5)) ?_
                refine WR_tI (y := nI t46) (Eq.trans (I_ne (fx_ne fx (by decide))) (Eq.trans (I_ne (fx_ne fx (by decide))) v46)) ?_
                refine r_istore (lv' := [some (.ref (ad 30)), some (.int c), some (.int i), some (.int d), some (.int j), some (.int m), some (.int (nI t7)), some (.int (nI t46)), none, none, none]) rfl (Nat.le_of_ble_eq_true rfl) rfl ?_
                refine r_iload rfl rfl ?_
                refine r_ic (x := (-1)) rfl rfl ?_
                refine r_icmp_eq (tg := 49) rfl rfl (fun q => False.elim (by have : (nI t7).toInt = ((t7 : Nat) : Int) := nI_toInt (by omega); have : (-1 : Int32).toInt = -1 := rfl; have := i_eq q; omega)) (fun _ => ?_)
                refine r_iload rfl rfl ?_
                refine r_ic (x := (-1)) rfl rfl ?_
                refine r_icmp_ne (tg := 55) rfl rfl (fun _ => ?_) (fun q => False.elim (by have : (nI t46).toInt = ((t46 : Nat) : Int) := nI_toInt (by omega); have : (-1 : Int32).toInt = -1 := rfl; have := i_eq q; omega))
                refine r_iload rfl rfl ?_
                refine r_ic (x := 1000) rfl rfl ?_
                refine r_icmp_ge (tg := 112) rfl rfl (fun q => False.elim (by have : (nI t7).toInt = ((t7 : Nat) : Int) := nI_toInt (by omega); have : (1000 : Int32).toInt = 1000 := rfl; have := i_le q; omega)) (fun _ => ?_)
                refine r_iload rfl rfl ?_
                refine r_ic (x := 1000) rfl rfl ?_
                refine r_icmp_ge (tg := 112) rfl rfl (fun q => False.elim (by have : (nI t46).toInt = ((t46 : Nat) : Int) := nI_toInt (by omega); have : (1000 : Int32).toInt = 1000 := rfl; have := i_le q; omega)) (fun _ => ?_)
                refine r_aload rfl rfl ?_
                refine r_getA (b := ad 33) rfl ⟨rfl, rfl, rfl⟩ (fx_t30 fx) (fx_r30_2 fx) ?_
                refine r_iload rfl rfl ?_
                refine r_iaload rfl (.inl (fx_t33 fx)) (vp_ct (fx_n33 fx) (vp_in_nI (by omega) (by omega))) ?_
                refine WR_tI (congrArg (hI (sI (sI h (ad 0) 6 0) (ad 0) 6 (-12)) (ad 33)) ((nI_clamp (by omega)) : _ = t7)) ?_
                refine WR_tI (y := 9) (Eq.trans (I_ne (fx_ne fx (by decide))) (Eq.trans (I_ne (fx_ne fx (by decide))) l2_7)) ?_
                refine r_aload rfl rfl ?_
                refine r_getA (b := ad 33) rfl ⟨rfl, rfl, rfl⟩ (fx_t30 fx) (fx_r30_2 fx) ?_
                refine r_iload rfl rfl ?_
                refine r_iaload rfl (.inl (fx_t33 fx)) (vp_ct (fx_n33 fx) (vp_in_nI (by omega) (by omega))) ?_
                refine WR_tI (congrArg (hI (sI (sI h (ad 0) 6 0) (ad 0) 6 (-12)) (ad 33)) ((nI_clamp (by omega)) : _ = t46)) ?_
                refine WR_tI (y := 8) (Eq.trans (I_ne (fx_ne fx (by decide))) (Eq.trans (I_ne (fx_ne fx (by decide))) l2_46)) ?_
                refine r_icmp_eq (tg := 118) rfl rfl (fun q => absurd q (by decide)) (fun _ => ?_)
                refine r_aload rfl rfl ?_
                refine r_getA (b := ad 33) rfl ⟨rfl, rfl, rfl⟩ (fx_t30 fx) (fx_r30_2 fx) ?_
                refine r_iload rfl rfl ?_
                refine r_iaload rfl (.inl (fx_t33 fx)) (vp_ct (fx_n33 fx) (vp_in_nI (by omega) (by omega))) ?_
                refine WR_tI (congrArg (hI (sI (sI h (ad 0) 6 0) (ad 0) 6 (-12)) (ad 33)) ((nI_clamp (by omega)) : _ = t7)) ?_
                refine WR_tI (y := 9) (Eq.trans (I_ne (fx_ne fx (by decide))) (Eq.trans (I_ne (fx_ne fx (by decide))) l2_7)) ?_
                refine r_ic (x := 8) rfl rfl ?_
                refine r_icmp_lt (tg := 112) rfl rfl (fun q => absurd q (by decide)) (fun _ => ?_)
                refine r_aload rfl rfl ?_
                refine r_getA (b := ad 33) rfl ⟨rfl, rfl, rfl⟩ (fx_t30 fx) (fx_r30_2 fx) ?_
                refine r_iload rfl rfl ?_
                refine r_iaload rfl (.inl (fx_t33 fx)) (vp_ct (fx_n33 fx) (vp_in_nI (by omega) (by omega))) ?_
                refine WR_tI (congrArg (hI (sI (sI h (ad 0) 6 0) (ad 0) 6 (-12)) (ad 33)) ((nI_clamp (by omega)) : _ = t46)) ?_
                refine WR_tI (y := 8) (Eq.trans (I_ne (fx_ne fx (by decide))) (Eq.trans (I_ne (fx_ne fx (by decide))) l2_46)) ?_
                refine r_ic (x := 8) rfl rfl ?_
                refine r_icmp_ge (tg := 118) rfl rfl (fun _ => ?_) (fun q => absurd q (by decide))
                refine r_iload rfl rfl ?_
                refine r_if_lt (tg := 169) rfl rfl (fun _ => ?_) (fun q => False.elim (by have := i_lt c47; have := i_rg i; have : (0 : Int32).toInt = 0 := rfl; have := i_nlt q; omega))
                refine r_aload rfl rfl ?_
                refine r_ic (x := 2) rfl rfl ?_
                refine r_cv (y := 156) (ra := [.int 2]) (rest := []) rfl ⟨⟨rfl, rfl⟩, rfl, by decide⟩ (fx_t30 fx) rfl rfl (Nat.le_of_ble_eq_true rfl) ?_
                refine in_156 (Nat.le_of_ble_eq_true rfl) ?_
                show WR _ cd_156 0 [some (.ref (ad 30)), some (.int 2)] [] (sI (sI h (ad 0) 6 0) (ad 0) 6 (-12)) _
                refine r_aload rfl rfl ?_
                refine r_ic (x := (-10)) rfl rfl ?_
                refine r_iload rfl rfl ?_
                refine r_isub rfl ?_
                refine WR_tI (y := (-12)) rfl ?_
                refine r_cv (y := 154) (ra := [.int (-12)]) (rest := []) rfl ⟨⟨rfl, rfl⟩, rfl, by decide⟩ (fx_t30 fx) rfl rfl (Nat.le_of_ble_eq_true rfl) ?_
                refine in_154 (Nat.le_of_ble_eq_true rfl) ?_
                show WR _ cd_154 0 [some (.ref (ad 30)), some (.int (-12))] [] (sI (sI h (ad 0) 6 0) (ad 0) 6 (-12)) _
                refine r_aload rfl rfl ?_
                refine r_iload rfl rfl ?_
                refine r_ic (x := (-1)) rfl rfl ?_
                refine r_icmp_ge (tg := 10) rfl rfl (fun q => absurd q (by decide)) (fun _ => ?_)
                refine r_iload rfl rfl ?_
                refine r_goto (tg := 11) rfl rfl ?_
                refine r_putI rfl ⟨rfl, rfl, rfl⟩ (fx_t30 fx) ?_
                have fx : FX n ad sa z0 (sI (sI (sI h (ad 0) 6 0) (ad 0) 6 (-12)) (ad 30) 11 (-12)) := (FX.sI fx)
                refine r_iload rfl rfl ?_
                refine r_iret rfl ?_
                show WR _ cd_156 8 [some (.ref (ad 30)), some (.int 2)] [.int (-12)] (sI (sI (sI h (ad 0) 6 0) (ad 0) 6 (-12)) (ad 30) 11 (-12)) _
                refine r_iret rfl ?_
                show WR _ cd_179 174 [some (.ref (ad 30)), some (.int c), some (.int i), some (.int d), some (.int j), some (.int m), some (.int (nI t7)), some (.int (nI t46)), none, none, none] [.int (-12)] (sI (sI (sI h (ad 0) 6 0) (ad 0) 6 (-12)) (ad 30) 11 (-12)) _
                refine r_iret rfl ?_
                exact ⟨rfl, Rel.why r (((Chg.rf.sI (fx_j fx) (.inl (by decide))).sI (fx_j fx) (.inl (by decide))).sI (fx_j fx) (.inl (by decide))) ⟨rfl, by decide⟩ (Eq.trans (Eq.trans (I_ne (fx_ne fx (by decide))) I_eq) (Eq.symm I_eq)), (by (try simp only [hZ_sI, hZ_sL, hZ_sD, hZ_sR]); omega), (by (try simp only [hU_sI, hU_sL, hU_sD, hU_sR]); omega)⟩
              · refine r_iload rfl rfl ?_
                refine r_if_lt (tg := 22) rfl rfl (fun c48 => ?_) (fun c48 => ?_)
                · refine r_ic (x := 0) rfl rfl ?_
                  refine r_zret rfl (.inl rfl) ?_
                  show WR _ cd_51 84 [some (.ref (ad 0)), some (.int c), some (.int i), some (.int d), some (.int j), some (.int m), some (.ref (mid t7)), some (.ref (mid t46)), none] [.int 0] (sI h (ad 0) 6 0) _
                  refine r_if_eq (tg := 99) rfl rfl (fun _ => ?_) (fun q => absurd q (by decide))
                  refine r_aload rfl rfl ?_
                  refine r_ic (x := (-12)) rfl rfl ?_
                  refine r_cv (y := 13) (ra := [.int (-12)]) (rest := []) rfl ⟨⟨rfl, rfl⟩, rfl, by decide⟩ (fx_t0 fx) rfl rfl (Nat.le_of_ble_eq_true rfl) ?_
                  refine in_13 (Nat.le_of_ble_eq_true rfl) ?_
                  show WR _ cd_13 0 [some (.ref (ad 0)), some (.int (-12))] [] (sI h (ad 0) 6 0) _
                  refine r_aload rfl rfl ?_
                  refine r_iload rfl rfl ?_
                  refine r_putI rfl ⟨rfl, rfl, rfl⟩ (fx_t0 fx) ?_
                  have fx : FX n ad sa z0 (sI (sI h (ad 0) 6 0) (ad 0) 6 (-12)) := (FX.sI fx)
                  refine r_iload rfl rfl ?_
                  refine r_iret rfl ?_
                  show WR _ cd_51 105 [some (.ref (ad 0)), some (.int c), some (.int i), some (.int d), some (.int j), some (.int m), some (.ref (mid t7)), some (.ref (mid t46)), none] [.int (-12)] (sI (sI h (ad 0) 6 0) (ad 0) 6 (-12)) _
                  refine r_iret rfl ?_
                  show EV _ 179 [.ref (ad 30), .int c, .int i, .int d, .int j, .int m] (sI (sI h (ad 0) 6 0) (ad 0) 6 (-12)) _
                  refine in_179 (Nat.le_of_ble_eq_true rfl) ?_
                  show WR _ cd_179 0 [some (.ref (ad 30)), some (.int c), some (.int i), some (.int d), some (.int j), some (.int m), none, none, none, none, none] [] (sI (sI h (ad 0) 6 0) (ad 0) 6 (-12)) _
                  refine r_iload rfl rfl ?_
                  refine WR_tI (y := nI k2) ek2 ?_
                  refine r_cs (y := 153) (ra := [.int (nI k2)]) (rest := []) rfl ⟨⟨rfl, rfl⟩, by decide⟩ rfl rfl (Nat.le_of_ble_eq_true rfl) ?_
                  refine in_153 (Nat.le_of_ble_eq_true rfl) ?_
                  show WR _ cd_153 0 [some (.int (nI k2))] [] (sI (sI h (ad 0) 6 0) (ad 0) 6 (-12)) _
                  refine r_iload rfl rfl ?_
                  refine r_if_lt (tg := 14) rfl rfl (fun q => False.elim (by have := i_nlt c1; have := i_rg c; have : (0 : Int32).toInt = 0 := rfl; have := i_eq ek2; have : (nI k2).toInt = ((k2 : Nat) : Int) := nI_toInt (by omega); have := i_nle c3; have : (24 : Int32).toInt = 24 := rfl; have := i_lt q; omega)) (fun _ => ?_)
                  refine r_iload rfl rfl ?_
                  refine r_ic (x := 24) rfl rfl ?_
                  refine r_icmp_ge (tg := 14) rfl rfl (fun q => False.elim (by have := i_nlt c1; have := i_rg c; have : (0 : Int32).toInt = 0 := rfl; have := i_eq ek2; have : (nI k2).toInt = ((k2 : Nat) : Int) := nI_toInt (by omega); have := i_nle c3; have : (24 : Int32).toInt = 24 := rfl; have := i_le q; omega)) (fun _ => ?_)
                  refine r_ic (x := 1) rfl rfl ?_
                  refine r_goto (tg := 15) rfl rfl ?_
                  refine r_zret rfl (.inr rfl) ?_
                  show WR _ cd_179 4 [some (.ref (ad 30)), some (.int c), some (.int i), some (.int d), some (.int j), some (.int m), none, none, none, none, none] [.int 1] (sI (sI h (ad 0) 6 0) (ad 0) 6 (-12)) _
                  refine r_if_eq (tg := 14) rfl rfl (fun q => absurd q (by decide)) (fun _ => ?_)
                  refine r_iload rfl rfl ?_
                  refine WR_tI (y := nI k5) ek5 ?_
                  refine r_cs (y := 153) (ra := [.int (nI k5)]) (rest := []) rfl ⟨⟨rfl, rfl⟩, by decide⟩ rfl rfl (Nat.le_of_ble_eq_true rfl) ?_
                  refine in_153 (Nat.le_of_ble_eq_true rfl) ?_
                  show WR _ cd_153 0 [some (.int (nI k5))] [] (sI (sI h (ad 0) 6 0) (ad 0) 6 (-12)) _
                  refine r_iload rfl rfl ?_
                  refine r_if_lt (tg := 14) rfl rfl (fun q => False.elim (by have := i_nlt c4; have := i_rg d; have : (0 : Int32).toInt = 0 := rfl; have := i_eq ek5; have : (nI k5).toInt = ((k5 : Nat) : Int) := nI_toInt (by omega); have := i_nle c6; have : (24 : Int32).toInt = 24 := rfl; have := i_lt q; omega)) (fun _ => ?_)
                  refine r_iload rfl rfl ?_
                  refine r_ic (x := 24) rfl rfl ?_
                  refine r_icmp_ge (tg := 14) rfl rfl (fun q => False.elim (by have := i_nlt c4; have := i_rg d; have : (0 : Int32).toInt = 0 := rfl; have := i_eq ek5; have : (nI k5).toInt = ((k5 : Nat) : Int) := nI_toInt (by omega); have := i_nle c6; have : (24 : Int32).toInt = 24 := rfl; have := i_le q; omega)) (fun _ => ?_)
                  refine r_ic (x := 1) rfl rfl ?_
                  refine r_goto (tg := 15) rfl rfl ?_
                  refine r_zret rfl (.inr rfl) ?_
                  show WR _ cd_179 11 [some (.ref (ad 30)), some (.int c), some (.int i), some (.int d), some (.int j), some (.int m), none, none, none, none, none] [.int 1] (sI (sI h (ad 0) 6 0) (ad 0) 6 (-12)) _
                  refine r_if_ne (tg := 21) rfl rfl (fun _ => ?_) (fun q => absurd q (by decide))
                  refine r_aload rfl rfl ?_
                  refine r_getA (b := ad 31) rfl ⟨rfl, rfl, rfl⟩ (fx_t30 fx) (fx_r30_0 fx) ?_
                  refine r_iload rfl rfl ?_
                  refine WR_tI (y := nI k2) ek2 ?_
                  refine r_iaload rfl (.inl (fx_t31 fx)) (vp_ct (fx_n31 fx) (vp_in_nI (by have := i_nlt c1; have := i_rg c; have : (0 : Int32).toInt = 0 := rfl; have := i_eq ek2; have : (nI k2).toInt = ((k2 : Nat) : Int) := nI_toInt (by omega); have := i_nle c3; have : (24 : Int32).toInt = 24 := rfl; omega) (by omega))) ?_
                  refine WR_tI (congrArg (hI (sI (sI h (ad 0) 6 0) (ad 0) 6 (-12)) (ad 31)) ((nI_clamp (by have := i_nlt c1; have := i_rg c; have : (0 : Int32).toInt = 0 := rfl; have := i_eq ek2; have : (nI k2).toInt = ((k2 : Nat) : Int) := nI_toInt (by omega); have := i_nle c3; have : (24 : Int32).toInt = 24 := rfl; omega)) : _ = k2)) ?_
                  refine WR_tI (y := nI t7) (Eq.trans (I_ne (fx_ne fx (by decide))) (Eq.trans (I_ne (fx_ne fx (by decide))) v7)) ?_
                  refine r_istore (lv' := [some (.ref (ad 30)), some (.int c), some (.int i), some (.int d), some (.int j), some (.int m), some (.int (nI t7)), none, none, none, none]) rfl (Nat.le_of_ble_eq_true rfl) rfl ?_
                  refine r_aload rfl rfl ?_
                  refine r_getA (b := ad 31) rfl ⟨rfl, rfl, rfl⟩ (fx_t30 fx) (fx_r30_0 fx) ?_
                  refine r_iload rfl rfl ?_
                  refine WR_tI (y := nI k5) ek5 ?_
                  refine r_iaload rfl (.inl (fx_t31 fx)) (vp_ct (fx_n31 fx) (vp_in_nI (by have := i_nlt c4; have := i_rg d; have : (0 : Int32).toInt = 0 := rfl; have := i_eq ek5; have : (nI k5).toInt = ((k5 : Nat) : Int) := nI_toInt (by omega); have := i_nle c6; have : (24 : Int32).toInt = 24 := rfl; omega) (by omega))) ?_
                  refine WR_tI (congrArg (hI (sI (sI h (ad 0) 6 0) (ad 0) 6 (-12)) (ad 31)) ((nI_clamp (by have := i_nlt c4; have := i_rg d; have : (0 : Int32).toInt = 0 := rfl; have := i_eq ek5; have : (nI k5).toInt = ((k5 : Nat) : Int) := nI_toInt (by omega); have := i_nle c6; have : (24 : Int32).toInt = 24 := rfl; omega)) : _ = k5)) ?_
                  refine WR_tI (y := nI t46) (Eq.trans (I_ne (fx_ne fx (by decide))) (Eq.trans (I_ne (fx_ne fx (by decide))) v46)) ?_
                  refine r_istore (lv' := [some (.ref (ad 30)), some (.int c), some (.int i), some (.int d), some (.int j), some (.int m), some (.int (nI t7)), some (.int (nI t46)), none, none, none]) rfl (Nat.le_of_ble_eq_true rfl) rfl ?_
                  refine r_iload rfl rfl ?_
                  refine r_ic (x := (-1)) rfl rfl ?_
                  refine r_icmp_eq (tg := 49) rfl rfl (fun q => False.elim (by have : (nI t7).toInt = ((t7 : Nat) : Int) := nI_toInt (by omega); have : (-1 : Int32).toInt = -1 := rfl; have := i_eq q; omega)) (fun _ => ?_)
                  refine r_iload rfl rfl ?_
                  refine r_ic (x := (-1)) rfl rfl ?_
                  refine r_icmp_ne (tg := 55) rfl rfl (fun _ => ?_) (fun q => False.elim (by have : (nI t46).toInt = ((t46 : Nat) : Int) := nI_toInt (by omega); have : (-1 : Int32).toInt = -1 := rfl; have := i_eq q; omega))
                  refine r_iload rfl rfl ?_
                  refine r_ic (x := 1000) rfl rfl ?_
                  refine r_icmp_ge (tg := 112) rfl rfl (fun q => False.elim (by have : (nI t7).toInt = ((t7 : Nat) : Int) := nI_toInt (by omega); have : (1000 : Int32).toInt = 1000 := rfl; have := i_le q; omega)) (fun _ => ?_)
                  refine r_iload rfl rfl ?_
                  refine r_ic (x := 1000) rfl rfl ?_
                  refine r_icmp_ge (tg := 112) rfl rfl (fun q => False.elim (by have : (nI t46).toInt = ((t46 : Nat) : Int) := nI_toInt (by omega); have : (1000 : Int32).toInt = 1000 := rfl; have := i_le q; omega)) (fun _ => ?_)
                  refine r_aload rfl rfl ?_
                  refine r_getA (b := ad 33) rfl ⟨rfl, rfl, rfl⟩ (fx_t30 fx) (fx_r30_2 fx) ?_
                  refine r_iload rfl rfl ?_
                  refine r_iaload rfl (.inl (fx_t33 fx)) (vp_ct (fx_n33 fx) (vp_in_nI (by omega) (by omega))) ?_
                  refine WR_tI (congrArg (hI (sI (sI h (ad 0) 6 0) (ad 0) 6 (-12)) (ad 33)) ((nI_clamp (by omega)) : _ = t7)) ?_
                  refine WR_tI (y := 9) (Eq.trans (I_ne (fx_ne fx (by decide))) (Eq.trans (I_ne (fx_ne fx (by decide))) l2_7)) ?_
                  refine r_aload rfl rfl ?_
                  refine r_getA (b := ad 33) rfl ⟨rfl, rfl, rfl⟩ (fx_t30 fx) (fx_r30_2 fx) ?_
                  refine r_iload rfl rfl ?_
                  refine r_iaload rfl (.inl (fx_t33 fx)) (vp_ct (fx_n33 fx) (vp_in_nI (by omega) (by omega))) ?_
                  refine WR_tI (congrArg (hI (sI (sI h (ad 0) 6 0) (ad 0) 6 (-12)) (ad 33)) ((nI_clamp (by omega)) : _ = t46)) ?_
                  refine WR_tI (y := 8) (Eq.trans (I_ne (fx_ne fx (by decide))) (Eq.trans (I_ne (fx_ne fx (by decide))) l2_46)) ?_
                  refine r_icmp_eq (tg := 118) rfl rfl (fun q => absurd q (by decide)) (fun _ => ?_)
                  refine r_aload rfl rfl ?_
                  refine r_getA (b := ad 33) rfl ⟨rfl, rfl, rfl⟩ (fx_t30 fx) (fx_r30_2 fx) ?_
                  refine r_iload rfl rfl ?_
                  refine r_iaload rfl (.inl (fx_t33 fx)) (vp_ct (fx_n33 fx) (vp_in_nI (by omega) (by omega))) ?_
                  refine WR_tI (congrArg (hI (sI (sI h (ad 0) 6 0) (ad 0) 6 (-12)) (ad 33)) ((nI_clamp (by omega)) : _ = t7)) ?_
                  refine WR_tI (y := 9) (Eq.trans (I_ne (fx_ne fx (by decide))) (Eq.trans (I_ne (fx_ne fx (by decide))) l2_7)) ?_
                  refine r_ic (x := 8) rfl rfl ?_
                  refine r_icmp_lt (tg := 112) rfl rfl (fun q => absurd q (by decide)) (fun _ => ?_)
                  refine r_aload rfl rfl ?_
                  refine r_getA (b := ad 33) rfl ⟨rfl, rfl, rfl⟩ (fx_t30 fx) (fx_r30_2 fx) ?_
                  refine r_iload rfl rfl ?_
                  refine r_iaload rfl (.inl (fx_t33 fx)) (vp_ct (fx_n33 fx) (vp_in_nI (by omega) (by omega))) ?_
                  refine WR_tI (congrArg (hI (sI (sI h (ad 0) 6 0) (ad 0) 6 (-12)) (ad 33)) ((nI_clamp (by omega)) : _ = t46)) ?_
                  refine WR_tI (y := 8) (Eq.trans (I_ne (fx_ne fx (by decide))) (Eq.trans (I_ne (fx_ne fx (by decide))) l2_46)) ?_
                  refine r_ic (x := 8) rfl rfl ?_
                  refine r_icmp_ge (tg := 118) rfl rfl (fun _ => ?_) (fun q => absurd q (by decide))
                  obtain ⟨k49, hk49, ek49⟩ := ix_of (x := i) (n := 2147483648) (by have := i_nlt c47; have := i_rg i; have : (0 : Int32).toInt = 0 := rfl; omega) (by have := i_nlt c47; have := i_rg i; have : (0 : Int32).toInt = 0 := rfl; omega)
                  refine r_iload rfl rfl ?_
                  refine WR_tI (y := nI k49) ek49 ?_
                  refine r_if_lt (tg := 169) rfl rfl (fun q => False.elim (by have := i_nlt c47; have := i_rg i; have : (0 : Int32).toInt = 0 := rfl; have := i_eq ek49; have : (nI k49).toInt = ((k49 : Nat) : Int) := nI_toInt (by omega); have := i_lt q; omega)) (fun _ => ?_)
                  refine r_iload rfl rfl ?_
                  refine r_if_lt (tg := 169) rfl rfl (fun c50 => ?_) (fun c50 => ?_)
                  · refine r_aload rfl rfl ?_
                    refine r_ic (x := 2) rfl rfl ?_
                    refine r_cv (y := 156) (ra := [.int 2]) (rest := []) rfl ⟨⟨rfl, rfl⟩, rfl, by decide⟩ (fx_t30 fx) rfl rfl (Nat.le_of_ble_eq_true rfl) ?_
                    refine in_156 (Nat.le_of_ble_eq_true rfl) ?_
                    show WR _ cd_156 0 [some (.ref (ad 30)), some (.int 2)] [] (sI (sI h (ad 0) 6 0) (ad 0) 6 (-12)) _
                    refine r_aload rfl rfl ?_
                    refine r_ic (x := (-10)) rfl rfl ?_
                    refine r_iload rfl rfl ?_
                    refine r_isub rfl ?_
                    refine WR_tI (y := (-12)) rfl ?_
                    refine r_cv (y := 154) (ra := [.int (-12)]) (rest := []) rfl ⟨⟨rfl, rfl⟩, rfl, by decide⟩ (fx_t30 fx) rfl rfl (Nat.le_of_ble_eq_true rfl) ?_
                    refine in_154 (Nat.le_of_ble_eq_true rfl) ?_
                    show WR _ cd_154 0 [some (.ref (ad 30)), some (.int (-12))] [] (sI (sI h (ad 0) 6 0) (ad 0) 6 (-12)) _
                    refine r_aload rfl rfl ?_
                    refine r_iload rfl rfl ?_
                    refine r_ic (x := (-1)) rfl rfl ?_
                    refine r_icmp_ge (tg := 10) rfl rfl (fun q => absurd q (by decide)) (fun _ => ?_)
                    refine r_iload rfl rfl ?_
                    refine r_goto (tg := 11) rfl rfl ?_
                    refine r_putI rfl ⟨rfl, rfl, rfl⟩ (fx_t30 fx) ?_
                    have fx : FX n ad sa z0 (sI (sI (sI h (ad 0) 6 0) (ad 0) 6 (-12)) (ad 30) 11 (-12)) := (FX.sI fx)
                    refine r_iload rfl rfl ?_
                    refine r_iret rfl ?_
                    show WR _ cd_156 8 [some (.ref (ad 30)), some (.int 2)] [.int (-12)] (sI (sI (sI h (ad 0) 6 0) (ad 0) 6 (-12)) (ad 30) 11 (-12)) _
                    refine r_iret rfl ?_
                    show WR _ cd_179 174 [some (.ref (ad 30)), some (.int c), some (.int i), some (.int d), some (.int j), some (.int m), some (.int (nI t7)), some (.int (nI t46)), none, none, none] [.int (-12)] (sI (sI (sI h (ad 0) 6 0) (ad 0) 6 (-12)) (ad 30) 11 (-12)) _
                    refine r_iret rfl ?_
                    exact ⟨rfl, Rel.why r (((Chg.rf.sI (fx_j fx) (.inl (by decide))).sI (fx_j fx) (.inl (by decide))).sI (fx_j fx) (.inl (by decide))) ⟨rfl, by decide⟩ (Eq.trans (Eq.trans (I_ne (fx_ne fx (by decide))) I_eq) (Eq.symm I_eq)), (by (try simp only [hZ_sI, hZ_sL, hZ_sD, hZ_sR]); omega), (by (try simp only [hU_sI, hU_sL, hU_sD, hU_sR]); omega)⟩
                  · refine r_iload rfl rfl ?_
                    refine r_if_lt (tg := 169) rfl rfl (fun _ => ?_) (fun q => False.elim (by have := i_lt c48; have := i_rg m; have : (0 : Int32).toInt = 0 := rfl; have := i_nlt q; omega))
                    refine r_aload rfl rfl ?_
                    refine r_ic (x := 2) rfl rfl ?_
                    refine r_cv (y := 156) (ra := [.int 2]) (rest := []) rfl ⟨⟨rfl, rfl⟩, rfl, by decide⟩ (fx_t30 fx) rfl rfl (Nat.le_of_ble_eq_true rfl) ?_
                    refine in_156 (Nat.le_of_ble_eq_true rfl) ?_
                    show WR _ cd_156 0 [some (.ref (ad 30)), some (.int 2)] [] (sI (sI h (ad 0) 6 0) (ad 0) 6 (-12)) _
                    refine r_aload rfl rfl ?_
                    refine r_ic (x := (-10)) rfl rfl ?_
                    refine r_iload rfl rfl ?_
                    refine r_isub rfl ?_
                    refine WR_tI (y := (-12)) rfl ?_
                    refine r_cv (y := 154) (ra := [.int (-12)]) (rest := []) rfl ⟨⟨rfl, rfl⟩, rfl, by decide⟩ (fx_t30 fx) rfl rfl (Nat.le_of_ble_eq_true rfl) ?_
                    refine in_154 (Nat.le_of_ble_eq_true rfl) ?_
                    show WR _ cd_154 0 [some (.ref (ad 30)), some (.int (-12))] [] (sI (sI h (ad 0) 6 0) (ad 0) 6 (-12)) _
                    refine r_aload rfl rfl ?_
                    refine r_iload rfl rfl ?_
                    refine r_ic (x := (-1)) rfl rfl ?_
                    refine r_icmp_ge (tg := 10) rfl rfl (fun q => absurd q (by decide)) (fun _ => ?_)
                    refine r_iload rfl rfl ?_
                    refine r_goto (tg := 11) rfl rfl ?_
                    refine r_putI rfl ⟨rfl, rfl, rfl⟩ (fx_t30 fx) ?_
                    have fx : FX n ad sa z0 (sI (sI (sI h (ad 0) 6 0) (ad 0) 6 (-12)) (ad 30) 11 (-12)) := (FX.sI fx)
                    refine r_iload rfl rfl ?_
                    refine r_iret rfl ?_
                    show WR _ cd_156 8 [some (.ref (ad 30)), some (.int 2)] [.int (-12)] (sI (sI (sI h (ad 0) 6 0) (ad 0) 6 (-12)) (ad 30) 11 (-12)) _
                    refine r_iret rfl ?_
                    show WR _ cd_179 174 [some (.ref (ad 30)), some (.int c), some (.int i), some (.int d), some (.int j), some (.int m), some (.int (nI t7)), some (.int (nI t46)), none, none, none] [.int (-12)] (sI (sI (sI h (ad 0) 6 0) (ad 0) 6 (-12)) (ad 30) 11 (-12)) _
                    refine r_iret rfl ?_
                    exact ⟨rfl, Rel.why r (((Chg.rf.sI (fx_j fx) (.inl (by decide))).sI (fx_j fx) (.inl (by decide))).sI (fx_j fx) (.inl (by decide))) ⟨rfl, by decide⟩ (Eq.trans (Eq.trans (I_ne (fx_ne fx (by decide))) I_eq) (Eq.symm I_eq)), (by (try simp only [hZ_sI, hZ_sL, hZ_sD, hZ_sR]); omega), (by (try simp only [hU_sI, hU_sL, hU_sD, hU_sR]); omega)⟩
                · obtain ⟨k51, hk51, ek51⟩ := ix_of (x := m) (n := 2147483648) (by have := i_nlt c48; have := i_rg m; have : (0 : Int32).toInt = 0 := rfl; omega) (by have := i_nlt c48; have := i_rg m; have : (0 : Int32).toInt = 0 := rfl; omega)
                  refine r_iload rfl rfl ?_
                  refine WR_tI (y := nI k51) ek51 ?_
                  refine r_aload rfl rfl ?_
                  refine r_cw (y := 35) (ra := []) (rest := [.int (nI k51)]) rfl ⟨rfl, rfl⟩ (by rw [show hT (sI h (ad 0) 6 0) (mid t7) = 6 from tg7]; rfl) rfl rfl (Nat.le_of_ble_eq_true rfl) ?_
                  refine in_35 (Nat.le_of_ble_eq_true rfl) ?_
                  show WR _ cd_35 0 [some (.ref (mid t7))] [] (sI h (ad 0) 6 0) _
                  refine r_aload rfl rfl ?_
                  refine r_getA (b := mid t7 + 1) rfl ⟨rfl, rfl, rfl⟩ tg7 (Eq.trans R_oI r_7) ?_
                  refine r_alen rfl (isA_of tg2_7 (by decide)) ?_
                  refine WR_tI (y := nI sz7) (congrArg nI n_7) ?_
                  refine r_iret rfl ?_
                  show WR _ cd_32 13 [some (.ref (mid t7)), some (.int i), some (.int m)] [.int (nI sz7), .int (nI k51)] (sI h (ad 0) 6 0) _
                  obtain ⟨k52, hk52, ek52⟩ := ix_of (x := i) (n := 2147483648) (by have := i_nlt c47; have := i_rg i; have : (0 : Int32).toInt = 0 := rfl; omega) (by have := i_nlt c47; have := i_rg i; have : (0 : Int32).toInt = 0 := rfl; omega)
                  refine r_iload rfl rfl ?_
                  refine WR_tI (y := nI k52) ek52 ?_
                  refine r_isub rfl ?_
                  refine r_icmp_gt (tg := 22) rfl rfl (fun c53 => ?_) (fun c53 => ?_)
                  · refine r_ic (x := 0) rfl rfl ?_
                    refine r_zret rfl (.inl rfl) ?_
                    show WR _ cd_51 84 [some (.ref (ad 0)), some (.int c), some (.int i), some (.int d), some (.int j), some (.int m), some (.ref (mid t7)), some (.ref (mid t46)), none] [.int 0] (sI h (ad 0) 6 0) _
                    refine r_if_eq (tg := 99) rfl rfl (fun _ => ?_) (fun q => absurd q (by decide))
                    refine r_aload rfl rfl ?_
                    refine r_ic (x := (-12)) rfl rfl ?_
                    refine r_cv (y := 13) (ra := [.int (-12)]) (rest := []) rfl ⟨⟨rfl, rfl⟩, rfl, by decide⟩ (fx_t0 fx) rfl rfl (Nat.le_of_ble_eq_true rfl) ?_
                    refine in_13 (Nat.le_of_ble_eq_true rfl) ?_
                    show WR _ cd_13 0 [some (.ref (ad 0)), some (.int (-12))] [] (sI h (ad 0) 6 0) _
                    refine r_aload rfl rfl ?_
                    refine r_iload rfl rfl ?_
                    refine r_putI rfl ⟨rfl, rfl, rfl⟩ (fx_t0 fx) ?_
                    have fx : FX n ad sa z0 (sI (sI h (ad 0) 6 0) (ad 0) 6 (-12)) := (FX.sI fx)
                    refine r_iload rfl rfl ?_
                    refine r_iret rfl ?_
                    show WR _ cd_51 105 [some (.ref (ad 0)), some (.int c), some (.int i), some (.int d), some (.int j), some (.int m), some (.ref (mid t7)), some (.ref (mid t46)), none] [.int (-12)] (sI (sI h (ad 0) 6 0) (ad 0) 6 (-12)) _
                    refine r_iret rfl ?_
                    show EV _ 179 [.ref (ad 30), .int c, .int i, .int d, .int j, .int m] (sI (sI h (ad 0) 6 0) (ad 0) 6 (-12)) _
                    refine in_179 (Nat.le_of_ble_eq_true rfl) ?_
                    show WR _ cd_179 0 [some (.ref (ad 30)), some (.int c), some (.int i), some (.int d), some (.int j), some (.int m), none, none, none, none, none] [] (sI (sI h (ad 0) 6 0) (ad 0) 6 (-12)) _
                    refine r_iload rfl rfl ?_
                    refine WR_tI (y := nI k2) ek2 ?_
                    refine r_cs (y := 153) (ra := [.int (nI k2)]) (rest := []) rfl ⟨⟨rfl, rfl⟩, by decide⟩ rfl rfl (Nat.le_of_ble_eq_true rfl) ?_
                    refine in_153 (Nat.le_of_ble_eq_true rfl) ?_
                    show WR _ cd_153 0 [some (.int (nI k2))] [] (sI (sI h (ad 0) 6 0) (ad 0) 6 (-12)) _
                    refine r_iload rfl rfl ?_
                    refine r_if_lt (tg := 14) rfl rfl (fun q => False.elim (by have := i_nlt c1; have := i_rg c; have : (0 : Int32).toInt = 0 := rfl; have := i_eq ek2; have : (nI k2).toInt = ((k2 : Nat) : Int) := nI_toInt (by omega); have := i_nle c3; have : (24 : Int32).toInt = 24 := rfl; have := i_lt q; omega)) (fun _ => ?_)
                    refine r_iload rfl rfl ?_
                    refine r_ic (x := 24) rfl rfl ?_
                    refine r_icmp_ge (tg := 14) rfl rfl (fun q => False.elim (by have := i_nlt c1; have := i_rg c; have : (0 : Int32).toInt = 0 := rfl; have := i_eq ek2; have : (nI k2).toInt = ((k2 : Nat) : Int) := nI_toInt (by omega); have := i_nle c3; have : (24 : Int32).toInt = 24 := rfl; have := i_le q; omega)) (fun _ => ?_)
                    refine r_ic (x := 1) rfl rfl ?_
                    refine r_goto (tg := 15) rfl rfl ?_
                    refine r_zret rfl (.inr rfl) ?_
                    show WR _ cd_179 4 [some (.ref (ad 30)), some (.int c), some (.int i), some (.int d), some (.int j), some (.int m), none, none, none, none, none] [.int 1] (sI (sI h (ad 0) 6 0) (ad 0) 6 (-12)) _
                    refine r_if_eq (tg := 14) rfl rfl (fun q => absurd q (by decide)) (fun _ => ?_)
                    refine r_iload rfl rfl ?_
                    refine WR_tI (y := nI k5) ek5 ?_
                    refine r_cs (y := 153) (ra := [.int (nI k5)]) (rest := []) rfl ⟨⟨rfl, rfl⟩, by decide⟩ rfl rfl (Nat.le_of_ble_eq_true rfl) ?_
                    refine in_153 (Nat.le_of_ble_eq_true rfl) ?_
                    show WR _ cd_153 0 [some (.int (nI k5))] [] (sI (sI h (ad 0) 6 0) (ad 0) 6 (-12)) _
                    refine r_iload rfl rfl ?_
                    refine r_if_lt (tg := 14) rfl rfl (fun q => False.elim (by have := i_nlt c4; have := i_rg d; have : (0 : Int32).toInt = 0 := rfl; have := i_eq ek5; have : (nI k5).toInt = ((k5 : Nat) : Int) := nI_toInt (by omega); have := i_nle c6; have : (24 : Int32).toInt = 24 := rfl; have := i_lt q; omega)) (fun _ => ?_)
                    refine r_iload rfl rfl ?_
                    refine r_ic (x := 24) rfl rfl ?_
                    refine r_icmp_ge (tg := 14) rfl rfl (fun q => False.elim (by have := i_nlt c4; have := i_rg d; have : (0 : Int32).toInt = 0 := rfl; have := i_eq ek5; have : (nI k5).toInt = ((k5 : Nat) : Int) := nI_toInt (by omega); have := i_nle c6; have : (24 : Int32).toInt = 24 := rfl; have := i_le q; omega)) (fun _ => ?_)
                    refine r_ic (x := 1) rfl rfl ?_
                    refine r_goto (tg := 15) rfl rfl ?_
                    refine r_zret rfl (.inr rfl) ?_
                    show WR _ cd_179 11 [some (.ref (ad 30)), some (.int c), some (.int i), some (.int d), some (.int j), some (.int m), none, none, none, none, none] [.int 1] (sI (sI h (ad 0) 6 0) (ad 0) 6 (-12)) _
                    refine r_if_ne (tg := 21) rfl rfl (fun _ => ?_) (fun q => absurd q (by decide))
                    refine r_aload rfl rfl ?_
                    refine r_getA (b := ad 31) rfl ⟨rfl, rfl, rfl⟩ (fx_t30 fx) (fx_r30_0 fx) ?_
                    refine r_iload rfl rfl ?_
                    refine WR_tI (y := nI k2) ek2 ?_
                    refine r_iaload rfl (.inl (fx_t31 fx)) (vp_ct (fx_n31 fx) (vp_in_nI (by have := i_nlt c1; have := i_rg c; have : (0 : Int32).toInt = 0 := rfl; have := i_eq ek2; have : (nI k2).toInt = ((k2 : Nat) : Int) := nI_toInt (by omega); have := i_nle c3; have : (24 : Int32).toInt = 24 := rfl; omega) (by omega))) ?_
                    refine WR_tI (congrArg (hI (sI (sI h (ad 0) 6 0) (ad 0) 6 (-12)) (ad 31)) ((nI_clamp (by have := i_nlt c1; have := i_rg c; have : (0 : Int32).toInt = 0 := rfl; have := i_eq ek2; have : (nI k2).toInt = ((k2 : Nat) : Int) := nI_toInt (by omega); have := i_nle c3; have : (24 : Int32).toInt = 24 := rfl; omega)) : _ = k2)) ?_
                    refine WR_tI (y := nI t7) (Eq.trans (I_ne (fx_ne fx (by decide))) (Eq.trans (I_ne (fx_ne fx (by decide))) v7)) ?_
                    refine r_istore (lv' := [some (.ref (ad 30)), some (.int c), some (.int i), some (.int d), some (.int j), some (.int m), some (.int (nI t7)), none, none, none, none]) rfl (Nat.le_of_ble_eq_true rfl) rfl ?_
                    refine r_aload rfl rfl ?_
                    refine r_getA (b := ad 31) rfl ⟨rfl, rfl, rfl⟩ (fx_t30 fx) (fx_r30_0 fx) ?_
                    refine r_iload rfl rfl ?_
                    refine WR_tI (y := nI k5) ek5 ?_
                    refine r_iaload rfl (.inl (fx_t31 fx)) (vp_ct (fx_n31 fx) (vp_in_nI (by have := i_nlt c4; have := i_rg d; have : (0 : Int32).toInt = 0 := rfl; have := i_eq ek5; have : (nI k5).toInt = ((k5 : Nat) : Int) := nI_toInt (by omega); have := i_nle c6; have : (24 : Int32).toInt = 24 := rfl; omega) (by omega))) ?_
                    refine WR_tI (congrArg (hI (sI (sI h (ad 0) 6 0) (ad 0) 6 (-12)) (ad 31)) ((nI_clamp (by have := i_nlt c4; have := i_rg d; have : (0 : Int32).toInt = 0 := rfl; have := i_eq ek5; have : (nI k5).toInt = ((k5 : Nat) : Int) := nI_toInt (by omega); have := i_nle c6; have : (24 : Int32).toInt = 24 := rfl; omega)) : _ = k5)) ?_
                    refine WR_tI (y := nI t46) (Eq.trans (I_ne (fx_ne fx (by decide))) (Eq.trans (I_ne (fx_ne fx (by decide))) v46)) ?_
                    refine r_istore (lv' := [some (.ref (ad 30)), some (.int c), some (.int i), some (.int d), some (.int j), some (.int m), some (.int (nI t7)), some (.int (nI t46)), none, none, none]) rfl (Nat.le_of_ble_eq_true rfl) rfl ?_
                    refine r_iload rfl rfl ?_
                    refine r_ic (x := (-1)) rfl rfl ?_
                    refine r_icmp_eq (tg := 49) rfl rfl (fun q => False.elim (by have : (nI t7).toInt = ((t7 : Nat) : Int) := nI_toInt (by omega); have : (-1 : Int32).toInt = -1 := rfl; have := i_eq q; omega)) (fun _ => ?_)
                    refine r_iload rfl rfl ?_
                    refine r_ic (x := (-1)) rfl rfl ?_
                    refine r_icmp_ne (tg := 55) rfl rfl (fun _ => ?_) (fun q => False.elim (by have : (nI t46).toInt = ((t46 : Nat) : Int) := nI_toInt (by omega); have : (-1 : Int32).toInt = -1 := rfl; have := i_eq q; omega))
                    refine r_iload rfl rfl ?_
                    refine r_ic (x := 1000) rfl rfl ?_
                    refine r_icmp_ge (tg := 112) rfl rfl (fun q => False.elim (by have : (nI t7).toInt = ((t7 : Nat) : Int) := nI_toInt (by omega); have : (1000 : Int32).toInt = 1000 := rfl; have := i_le q; omega)) (fun _ => ?_)
                    refine r_iload rfl rfl ?_
                    refine r_ic (x := 1000) rfl rfl ?_
                    refine r_icmp_ge (tg := 112) rfl rfl (fun q => False.elim (by have : (nI t46).toInt = ((t46 : Nat) : Int) := nI_toInt (by omega); have : (1000 : Int32).toInt = 1000 := rfl; have := i_le q; omega)) (fun _ => ?_)
                    refine r_aload rfl rfl ?_
                    refine r_getA (b := ad 33) rfl ⟨rfl, rfl, rfl⟩ (fx_t30 fx) (fx_r30_2 fx) ?_
                    refine r_iload rfl rfl ?_
                    refine r_iaload rfl (.inl (fx_t33 fx)) (vp_ct (fx_n33 fx) (vp_in_nI (by omega) (by omega))) ?_
                    refine WR_tI (congrArg (hI (sI (sI h (ad 0) 6 0) (ad 0) 6 (-12)) (ad 33)) ((nI_clamp (by omega)) : _ = t7)) ?_
                    refine WR_tI (y := 9) (Eq.trans (I_ne (fx_ne fx (by decide))) (Eq.trans (I_ne (fx_ne fx (by decide))) l2_7)) ?_
                    refine r_aload rfl rfl ?_
                    refine r_getA (b := ad 33) rfl ⟨rfl, rfl, rfl⟩ (fx_t30 fx) (fx_r30_2 fx) ?_
                    refine r_iload rfl rfl ?_
                    refine r_iaload rfl (.inl (fx_t33 fx)) (vp_ct (fx_n33 fx) (vp_in_nI (by omega) (by omega))) ?_
                    refine WR_tI (congrArg (hI (sI (sI h (ad 0) 6 0) (ad 0) 6 (-12)) (ad 33)) ((nI_clamp (by omega)) : _ = t46)) ?_
                    refine WR_tI (y := 8) (Eq.trans (I_ne (fx_ne fx (by decide))) (Eq.trans (I_ne (fx_ne fx (by decide))) l2_46)) ?_
                    refine r_icmp_eq (tg := 118) rfl rfl (fun q => absurd q (by decide)) (fun _ => ?_)
                    refine r_aload rfl rfl ?_
                    refine r_getA (b := ad 33) rfl ⟨rfl, rfl, rfl⟩ (fx_t30 fx) (fx_r30_2 fx) ?_
                    refine r_iload rfl rfl ?_
                    refine r_iaload rfl (.inl (fx_t33 fx)) (vp_ct (fx_n33 fx) (vp_in_nI (by omega) (by omega))) ?_
                    refine WR_tI (congrArg (hI (sI (sI h (ad 0) 6 0) (ad 0) 6 (-12)) (ad 33)) ((nI_clamp (by omega)) : _ = t7)) ?_
                    refine WR_tI (y := 9) (Eq.trans (I_ne (fx_ne fx (by decide))) (Eq.trans (I_ne (fx_ne fx (by decide))) l2_7)) ?_
                    refine r_ic (x := 8) rfl rfl ?_
                    refine r_icmp_lt (tg := 112) rfl rfl (fun q => absurd q (by decide)) (fun _ => ?_)
                    refine r_aload rfl rfl ?_
                    refine r_getA (b := ad 33) rfl ⟨rfl, rfl, rfl⟩ (fx_t30 fx) (fx_r30_2 fx) ?_
                    refine r_iload rfl rfl ?_
                    refine r_iaload rfl (.inl (fx_t33 fx)) (vp_ct (fx_n33 fx) (vp_in_nI (by omega) (by omega))) ?_
                    refine WR_tI (congrArg (hI (sI (sI h (ad 0) 6 0) (ad 0) 6 (-12)) (ad 33)) ((nI_clamp (by omega)) : _ = t46)) ?_
                    refine WR_tI (y := 8) (Eq.trans (I_ne (fx_ne fx (by decide))) (Eq.trans (I_ne (fx_ne fx (by decide))) l2_46)) ?_
                    refine r_ic (x := 8) rfl rfl ?_
                    refine r_icmp_ge (tg := 118) rfl rfl (fun _ => ?_) (fun q => absurd q (by decide))
                    refine r_iload rfl rfl ?_
                    refine WR_tI (y := nI k52) ek52 ?_
                    refine r_if_lt (tg := 169) rfl rfl (fun q => False.elim (by have := i_nlt c47; have := i_rg i; have : (0 : Int32).toInt = 0 := rfl; have := i_nlt c48; have := i_rg m; have := i_eq ek51; have : (nI k51).toInt = ((k51 : Nat) : Int) := nI_toInt (by omega); have := i_eq ek52; have : (nI k52).toInt = ((k52 : Nat) : Int) := nI_toInt (by omega); have := i_lt c53; have : (nI sz7).toInt = ((sz7 : Nat) : Int) := nI_toInt (by omega); have := sub_t (x := nI sz7) (y := nI k52) (by have := i_nlt c47; have := i_rg i; have : (0 : Int32).toInt = 0 := rfl; have := i_eq ek52; have : (nI k52).toInt = ((k52 : Nat) : Int) := nI_toInt (by omega); have : (nI sz7).toInt = ((sz7 : Nat) : Int) := nI_toInt (by omega); omega) (by have := i_nlt c47; have := i_rg i; have : (0 : Int32).toInt = 0 := rfl; have := i_eq ek52; have : (nI k52).toInt = ((k52 : Nat) : Int) := nI_toInt (by omega); have : (nI sz7).toInt = ((sz7 : Nat) : Int) := nI_toInt (by omega); omega); have := i_lt q; omega)) (fun _ => ?_)
                    refine r_iload rfl rfl ?_
                    refine r_if_lt (tg := 169) rfl rfl (fun c54 => ?_) (fun c54 => ?_)
                    · refine r_aload rfl rfl ?_
                      refine r_ic (x := 2) rfl rfl ?_
                      refine r_cv (y := 156) (ra := [.int 2]) (rest := []) rfl ⟨⟨rfl, rfl⟩, rfl, by decide⟩ (fx_t30 fx) rfl rfl (Nat.le_of_ble_eq_true rfl) ?_
                      refine in_156 (Nat.le_of_ble_eq_true rfl) ?_
                      show WR _ cd_156 0 [some (.ref (ad 30)), some (.int 2)] [] (sI (sI h (ad 0) 6 0) (ad 0) 6 (-12)) _
                      refine r_aload rfl rfl ?_
                      refine r_ic (x := (-10)) rfl rfl ?_
                      refine r_iload rfl rfl ?_
                      refine r_isub rfl ?_
                      refine WR_tI (y := (-12)) rfl ?_
                      refine r_cv (y := 154) (ra := [.int (-12)]) (rest := []) rfl ⟨⟨rfl, rfl⟩, rfl, by decide⟩ (fx_t30 fx) rfl rfl (Nat.le_of_ble_eq_true rfl) ?_
                      refine in_154 (Nat.le_of_ble_eq_true rfl) ?_
                      show WR _ cd_154 0 [some (.ref (ad 30)), some (.int (-12))] [] (sI (sI h (ad 0) 6 0) (ad 0) 6 (-12)) _
                      refine r_aload rfl rfl ?_
                      refine r_iload rfl rfl ?_
                      refine r_ic (x := (-1)) rfl rfl ?_
                      refine r_icmp_ge (tg := 10) rfl rfl (fun q => absurd q (by decide)) (fun _ => ?_)
                      refine r_iload rfl rfl ?_
                      refine r_goto (tg := 11) rfl rfl ?_
                      refine r_putI rfl ⟨rfl, rfl, rfl⟩ (fx_t30 fx) ?_
                      have fx : FX n ad sa z0 (sI (sI (sI h (ad 0) 6 0) (ad 0) 6 (-12)) (ad 30) 11 (-12)) := (FX.sI fx)
                      refine r_iload rfl rfl ?_
                      refine r_iret rfl ?_
                      show WR _ cd_156 8 [some (.ref (ad 30)), some (.int 2)] [.int (-12)] (sI (sI (sI h (ad 0) 6 0) (ad 0) 6 (-12)) (ad 30) 11 (-12)) _
                      refine r_iret rfl ?_
                      show WR _ cd_179 174 [some (.ref (ad 30)), some (.int c), some (.int i), some (.int d), some (.int j), some (.int m), some (.int (nI t7)), some (.int (nI t46)), none, none, none] [.int (-12)] (sI (sI (sI h (ad 0) 6 0) (ad 0) 6 (-12)) (ad 30) 11 (-12)) _
                      refine r_iret rfl ?_
                      exact ⟨rfl, Rel.why r (((Chg.rf.sI (fx_j fx) (.inl (by decide))).sI (fx_j fx) (.inl (by decide))).sI (fx_j fx) (.inl (by decide))) ⟨rfl, by decide⟩ (Eq.trans (Eq.trans (I_ne (fx_ne fx (by decide))) I_eq) (Eq.symm I_eq)), (by (try simp only [hZ_sI, hZ_sL, hZ_sD, hZ_sR]); omega), (by (try simp only [hU_sI, hU_sL, hU_sD, hU_sR]); omega)⟩
                    · refine r_iload rfl rfl ?_
                      refine WR_tI (y := nI k51) ek51 ?_
                      refine r_if_lt (tg := 169) rfl rfl (fun q => False.elim (by have := i_nlt c47; have := i_rg i; have : (0 : Int32).toInt = 0 := rfl; have := i_nlt c48; have := i_rg m; have := i_eq ek51; have : (nI k51).toInt = ((k51 : Nat) : Int) := nI_toInt (by omega); have := i_eq ek52; have : (nI k52).toInt = ((k52 : Nat) : Int) := nI_toInt (by omega); have := i_lt c53; have : (nI sz7).toInt = ((sz7 : Nat) : Int) := nI_toInt (by omega); have := sub_t (x := nI sz7) (y := nI k52) (by have := i_nlt c47; have := i_rg i; have : (0 : Int32).toInt = 0 := rfl; have := i_eq ek52; have : (nI k52).toInt = ((k52 : Nat) : Int) := nI_toInt (by omega); have : (nI sz7).toInt = ((sz7 : Nat) : Int) := nI_toInt (by omega); omega) (by have := i_nlt c47; have := i_rg i; have : (0 : Int32).toInt = 0 := rfl; have := i_eq ek52; have : (nI k52).toInt = ((k52 : Nat) : Int) := nI_toInt (by omega); have : (nI sz7).toInt = ((sz7 : Nat) : Int) := nI_toInt (by omega); omega); have := i_lt q; omega)) (fun _ => ?_)
                      refine r_iload rfl rfl ?_
                      refine WR_tI (y := nI k52) ek52 ?_
                      refine r_i2l rfl ?_
                      refine WR_tL (y := lN k52) (nI_l (by have := i_nlt c47; have := i_rg i; have : (0 : Int32).toInt = 0 := rfl; have := i_nlt c48; have := i_rg m; have := i_eq ek51; have : (nI k51).toInt = ((k51 : Nat) : Int) := nI_toInt (by omega); have := i_eq ek52; have : (nI k52).toInt = ((k52 : Nat) : Int) := nI_toInt (by omega); have := i_lt c53; have : (nI sz7).toInt = ((sz7 : Nat) : Int) := nI_toInt (by omega); have := sub_t (x := nI sz7) (y := nI k52) (by have := i_nlt c47; have := i_rg i; have : (0 : Int32).toInt = 0 := rfl; have := i_eq ek52; have : (nI k52).toInt = ((k52 : Nat) : Int) := nI_toInt (by omega); have : (nI sz7).toInt = ((sz7 : Nat) : Int) := nI_toInt (by omega); omega) (by have := i_nlt c47; have := i_rg i; have : (0 : Int32).toInt = 0 := rfl; have := i_eq ek52; have : (nI k52).toInt = ((k52 : Nat) : Int) := nI_toInt (by omega); have : (nI sz7).toInt = ((sz7 : Nat) : Int) := nI_toInt (by omega); omega); omega)) ?_
                      refine r_iload rfl rfl ?_
                      refine WR_tI (y := nI k51) ek51 ?_
                      refine r_i2l rfl ?_
                      refine WR_tL (y := lN k51) (nI_l (by have := i_nlt c47; have := i_rg i; have : (0 : Int32).toInt = 0 := rfl; have := i_nlt c48; have := i_rg m; have := i_eq ek51; have : (nI k51).toInt = ((k51 : Nat) : Int) := nI_toInt (by omega); have := i_eq ek52; have : (nI k52).toInt = ((k52 : Nat) : Int) := nI_toInt (by omega); have := i_lt c53; have : (nI sz7).toInt = ((sz7 : Nat) : Int) := nI_toInt (by omega); have := sub_t (x := nI sz7) (y := nI k52) (by have := i_nlt c47; have := i_rg i; have : (0 : Int32).toInt = 0 := rfl; have := i_eq ek52; have : (nI k52).toInt = ((k52 : Nat) : Int) := nI_toInt (by omega); have : (nI sz7).toInt = ((sz7 : Nat) : Int) := nI_toInt (by omega); omega) (by have := i_nlt c47; have := i_rg i; have : (0 : Int32).toInt = 0 := rfl; have := i_eq ek52; have : (nI k52).toInt = ((k52 : Nat) : Int) := nI_toInt (by omega); have : (nI sz7).toInt = ((sz7 : Nat) : Int) := nI_toInt (by omega); omega); omega)) ?_
                      refine r_ladd rfl ?_
                      refine WR_tL (y := lN (k51 + k52)) (Eq.trans (lN_add k52 k51) (congrArg lN (by omega))) ?_
                      refine r_aload rfl rfl ?_
                      refine r_getA (b := ad 35) rfl ⟨rfl, rfl, rfl⟩ (fx_t30 fx) (fx_r30_4 fx) ?_
                      refine r_iload rfl rfl ?_
                      refine r_iaload rfl (.inl (fx_t35 fx)) (vp_ct (fx_n35 fx) (vp_in_nI (by omega) (by omega))) ?_
                      refine WR_tI (congrArg (hI (sI (sI h (ad 0) 6 0) (ad 0) 6 (-12)) (ad 35)) ((nI_clamp (by omega)) : _ = t7)) ?_
                      refine WR_tI (y := nI sz7) (Eq.trans (I_ne (fx_ne fx (by decide))) (Eq.trans (I_ne (fx_ne fx (by decide))) sz_7)) ?_
                      refine r_i2l rfl ?_
                      refine WR_tL (y := lN sz7) (nI_l (by have := i_nlt c47; have := i_rg i; have : (0 : Int32).toInt = 0 := rfl; have := i_nlt c48; have := i_rg m; have := i_eq ek51; have : (nI k51).toInt = ((k51 : Nat) : Int) := nI_toInt (by omega); have := i_eq ek52; have : (nI k52).toInt = ((k52 : Nat) : Int) := nI_toInt (by omega); have := i_lt c53; have : (nI sz7).toInt = ((sz7 : Nat) : Int) := nI_toInt (by omega); have := sub_t (x := nI sz7) (y := nI k52) (by have := i_nlt c47; have := i_rg i; have : (0 : Int32).toInt = 0 := rfl; have := i_eq ek52; have : (nI k52).toInt = ((k52 : Nat) : Int) := nI_toInt (by omega); have : (nI sz7).toInt = ((sz7 : Nat) : Int) := nI_toInt (by omega); omega) (by have := i_nlt c47; have := i_rg i; have : (0 : Int32).toInt = 0 := rfl; have := i_eq ek52; have : (nI k52).toInt = ((k52 : Nat) : Int) := nI_toInt (by omega); have : (nI sz7).toInt = ((sz7 : Nat) : Int) := nI_toInt (by omega); omega); omega)) ?_
                      refine r_lif_gt (tg := 169) rfl rfl rfl (fun _ => ?_) (fun q => False.elim (by have := i_nlt c47; have := i_rg i; have : (0 : Int32).toInt = 0 := rfl; have := i_nlt c48; have := i_rg m; have := i_eq ek51; have : (nI k51).toInt = ((k51 : Nat) : Int) := nI_toInt (by omega); have := i_eq ek52; have : (nI k52).toInt = ((k52 : Nat) : Int) := nI_toInt (by omega); have := i_lt c53; have : (nI sz7).toInt = ((sz7 : Nat) : Int) := nI_toInt (by omega); have := sub_t (x := nI sz7) (y := nI k52) (by have := i_nlt c47; have := i_rg i; have : (0 : Int32).toInt = 0 := rfl; have := i_eq ek52; have : (nI k52).toInt = ((k52 : Nat) : Int) := nI_toInt (by omega); have : (nI sz7).toInt = ((sz7 : Nat) : Int) := nI_toInt (by omega); omega) (by have := i_nlt c47; have := i_rg i; have : (0 : Int32).toInt = 0 := rfl; have := i_eq ek52; have : (nI k52).toInt = ((k52 : Nat) : Int) := nI_toInt (by omega); have : (nI sz7).toInt = ((sz7 : Nat) : Int) := nI_toInt (by omega); omega); have : (lN (k51 + k52)).toInt = ((k51 + k52 : Nat) : Int) := pk_lT (by omega); have : (lN sz7).toInt = ((sz7 : Nat) : Int) := lN_toInt (by omega); have := l_nlt q; omega))
                      refine r_aload rfl rfl ?_
                      refine r_ic (x := 2) rfl rfl ?_
                      refine r_cv (y := 156) (ra := [.int 2]) (rest := []) rfl ⟨⟨rfl, rfl⟩, rfl, by decide⟩ (fx_t30 fx) rfl rfl (Nat.le_of_ble_eq_true rfl) ?_
                      refine in_156 (Nat.le_of_ble_eq_true rfl) ?_
                      show WR _ cd_156 0 [some (.ref (ad 30)), some (.int 2)] [] (sI (sI h (ad 0) 6 0) (ad 0) 6 (-12)) _
                      refine r_aload rfl rfl ?_
                      refine r_ic (x := (-10)) rfl rfl ?_
                      refine r_iload rfl rfl ?_
                      refine r_isub rfl ?_
                      refine WR_tI (y := (-12)) rfl ?_
                      refine r_cv (y := 154) (ra := [.int (-12)]) (rest := []) rfl ⟨⟨rfl, rfl⟩, rfl, by decide⟩ (fx_t30 fx) rfl rfl (Nat.le_of_ble_eq_true rfl) ?_
                      refine in_154 (Nat.le_of_ble_eq_true rfl) ?_
                      show WR _ cd_154 0 [some (.ref (ad 30)), some (.int (-12))] [] (sI (sI h (ad 0) 6 0) (ad 0) 6 (-12)) _
                      refine r_aload rfl rfl ?_
                      refine r_iload rfl rfl ?_
                      refine r_ic (x := (-1)) rfl rfl ?_
                      refine r_icmp_ge (tg := 10) rfl rfl (fun q => absurd q (by decide)) (fun _ => ?_)
                      refine r_iload rfl rfl ?_
                      refine r_goto (tg := 11) rfl rfl ?_
                      refine r_putI rfl ⟨rfl, rfl, rfl⟩ (fx_t30 fx) ?_
                      have fx : FX n ad sa z0 (sI (sI (sI h (ad 0) 6 0) (ad 0) 6 (-12)) (ad 30) 11 (-12)) := (FX.sI fx)
                      refine r_iload rfl rfl ?_
                      refine r_iret rfl ?_
                      show WR _ cd_156 8 [some (.ref (ad 30)), some (.int 2)] [.int (-12)] (sI (sI (sI h (ad 0) 6 0) (ad 0) 6 (-12)) (ad 30) 11 (-12)) _
                      refine r_iret rfl ?_
                      show WR _ cd_179 174 [some (.ref (ad 30)), some (.int c), some (.int i), some (.int d), some (.int j), some (.int m), some (.int (nI t7)), some (.int (nI t46)), none, none, none] [.int (-12)] (sI (sI (sI h (ad 0) 6 0) (ad 0) 6 (-12)) (ad 30) 11 (-12)) _
                      refine r_iret rfl ?_
                      exact ⟨rfl, Rel.why r (((Chg.rf.sI (fx_j fx) (.inl (by decide))).sI (fx_j fx) (.inl (by decide))).sI (fx_j fx) (.inl (by decide))) ⟨rfl, by decide⟩ (Eq.trans (Eq.trans (I_ne (fx_ne fx (by decide))) I_eq) (Eq.symm I_eq)), (by (try simp only [hZ_sI, hZ_sL, hZ_sD, hZ_sR]); omega), (by (try simp only [hU_sI, hU_sL, hU_sD, hU_sR]); omega)⟩
                  · refine r_ic (x := 1) rfl rfl ?_
                    refine r_goto (tg := 23) rfl rfl ?_
                    refine r_zret rfl (.inr rfl) ?_
                    show WR _ cd_51 84 [some (.ref (ad 0)), some (.int c), some (.int i), some (.int d), some (.int j), some (.int m), some (.ref (mid t7)), some (.ref (mid t46)), none] [.int 1] (sI h (ad 0) 6 0) _
                    refine r_if_eq (tg := 99) rfl rfl (fun q => absurd q (by decide)) (fun _ => ?_)
                    refine r_aload rfl rfl ?_
                    refine r_iload rfl rfl ?_
                    refine r_iload rfl rfl ?_
                    refine WR_tI (y := nI k51) ek51 ?_
                    refine r_cw (y := 32) (ra := [.int (nI k51), .int j]) (rest := []) rfl ⟨rfl, rfl⟩ (by rw [show hT (sI h (ad 0) 6 0) (mid t46) = 6 from tg46]; rfl) rfl rfl (Nat.le_of_ble_eq_true rfl) ?_
                    refine in_32 (Nat.le_of_ble_eq_true rfl) ?_
                    show WR _ cd_32 0 [some (.ref (mid t46)), some (.int j), some (.int (nI k51))] [] (sI h (ad 0) 6 0) _
                    refine r_iload rfl rfl ?_
                    refine r_if_lt (tg := 22) rfl rfl (fun c55 => ?_) (fun c55 => ?_)
                    · refine r_ic (x := 0) rfl rfl ?_
                      refine r_zret rfl (.inl rfl) ?_
                      show WR _ cd_51 96 [some (.ref (ad 0)), some (.int c), some (.int i), some (.int d), some (.int j), some (.int m), some (.ref (mid t7)), some (.ref (mid t46)), none] [.int 0] (sI h (ad 0) 6 0) _
                      refine r_if_ne (tg := 106) rfl rfl (fun q => absurd q (by decide)) (fun _ => ?_)
                      refine r_aload rfl rfl ?_
                      refine r_ic (x := (-12)) rfl rfl ?_
                      refine r_cv (y := 13) (ra := [.int (-12)]) (rest := []) rfl ⟨⟨rfl, rfl⟩, rfl, by decide⟩ (fx_t0 fx) rfl rfl (Nat.le_of_ble_eq_true rfl) ?_
                      refine in_13 (Nat.le_of_ble_eq_true rfl) ?_
                      show WR _ cd_13 0 [some (.ref (ad 0)), some (.int (-12))] [] (sI h (ad 0) 6 0) _
                      refine r_aload rfl rfl ?_
                      refine r_iload rfl rfl ?_
                      refine r_putI rfl ⟨rfl, rfl, rfl⟩ (fx_t0 fx) ?_
                      have fx : FX n ad sa z0 (sI (sI h (ad 0) 6 0) (ad 0) 6 (-12)) := (FX.sI fx)
                      refine r_iload rfl rfl ?_
                      refine r_iret rfl ?_
                      show WR _ cd_51 105 [some (.ref (ad 0)), some (.int c), some (.int i), some (.int d), some (.int j), some (.int m), some (.ref (mid t7)), some (.ref (mid t46)), none] [.int (-12)] (sI (sI h (ad 0) 6 0) (ad 0) 6 (-12)) _
                      refine r_iret rfl ?_
                      show EV _ 179 [.ref (ad 30), .int c, .int i, .int d, .int j, .int m] (sI (sI h (ad 0) 6 0) (ad 0) 6 (-12)) _
                      refine in_179 (Nat.le_of_ble_eq_true rfl) ?_
                      show WR _ cd_179 0 [some (.ref (ad 30)), some (.int c), some (.int i), some (.int d), some (.int j), some (.int m), none, none, none, none, none] [] (sI (sI h (ad 0) 6 0) (ad 0) 6 (-12)) _
                      refine r_iload rfl rfl ?_
                      refine WR_tI (y := nI k2) ek2 ?_
                      refine r_cs (y := 153) (ra := [.int (nI k2)]) (rest := []) rfl ⟨⟨rfl, rfl⟩, by decide⟩ rfl rfl (Nat.le_of_ble_eq_true rfl) ?_
                      refine in_153 (Nat.le_of_ble_eq_true rfl) ?_
                      show WR _ cd_153 0 [some (.int (nI k2))] [] (sI (sI h (ad 0) 6 0) (ad 0) 6 (-12)) _
                      refine r_iload rfl rfl ?_
                      refine r_if_lt (tg := 14) rfl rfl (fun q => False.elim (by have := i_nlt c1; have := i_rg c; have : (0 : Int32).toInt = 0 := rfl; have := i_eq ek2; have : (nI k2).toInt = ((k2 : Nat) : Int) := nI_toInt (by omega); have := i_nle c3; have : (24 : Int32).toInt = 24 := rfl; have := i_lt q; omega)) (fun _ => ?_)
                      refine r_iload rfl rfl ?_
                      refine r_ic (x := 24) rfl rfl ?_
                      refine r_icmp_ge (tg := 14) rfl rfl (fun q => False.elim (by have := i_nlt c1; have := i_rg c; have : (0 : Int32).toInt = 0 := rfl; have := i_eq ek2; have : (nI k2).toInt = ((k2 : Nat) : Int) := nI_toInt (by omega); have := i_nle c3; have : (24 : Int32).toInt = 24 := rfl; have := i_le q; omega)) (fun _ => ?_)
                      refine r_ic (x := 1) rfl rfl ?_
                      refine r_goto (tg := 15) rfl rfl ?_
                      refine r_zret rfl (.inr rfl) ?_
                      show WR _ cd_179 4 [some (.ref (ad 30)), some (.int c), some (.int i), some (.int d), some (.int j), some (.int m), none, none, none, none, none] [.int 1] (sI (sI h (ad 0) 6 0) (ad 0) 6 (-12)) _
                      refine r_if_eq (tg := 14) rfl rfl (fun q => absurd q (by decide)) (fun _ => ?_)
                      refine r_iload rfl rfl ?_
                      refine WR_tI (y := nI k5) ek5 ?_
                      refine r_cs (y := 153) (ra := [.int (nI k5)]) (rest := []) rfl ⟨⟨rfl, rfl⟩, by decide⟩ rfl rfl (Nat.le_of_ble_eq_true rfl) ?_
                      refine in_153 (Nat.le_of_ble_eq_true rfl) ?_
                      show WR _ cd_153 0 [some (.int (nI k5))] [] (sI (sI h (ad 0) 6 0) (ad 0) 6 (-12)) _
                      refine r_iload rfl rfl ?_
                      refine r_if_lt (tg := 14) rfl rfl (fun q => False.elim (by have := i_nlt c4; have := i_rg d; have : (0 : Int32).toInt = 0 := rfl; have := i_eq ek5; have : (nI k5).toInt = ((k5 : Nat) : Int) := nI_toInt (by omega); have := i_nle c6; have : (24 : Int32).toInt = 24 := rfl; have := i_lt q; omega)) (fun _ => ?_)
                      refine r_iload rfl rfl ?_
                      refine r_ic (x := 24) rfl rfl ?_
                      refine r_icmp_ge (tg := 14) rfl rfl (fun q => False.elim (by have := i_nlt c4; have := i_rg d; have : (0 : Int32).toInt = 0 := rfl; have := i_eq ek5; have : (nI k5).toInt = ((k5 : Nat) : Int) := nI_toInt (by omega); have := i_nle c6; have : (24 : Int32).toInt = 24 := rfl; have := i_le q; omega)) (fun _ => ?_)
                      refine r_ic (x := 1) rfl rfl ?_
                      refine r_goto (tg := 15) rfl rfl ?_
                      refine r_zret rfl (.inr rfl) ?_
                      show WR _ cd_179 11 [some (.ref (ad 30)), some (.int c), some (.int i), some (.int d), some (.int j), some (.int m), none, none, none, none, none] [.int 1] (sI (sI h (ad 0) 6 0) (ad 0) 6 (-12)) _
                      refine r_if_ne (tg := 21) rfl rfl (fun _ => ?_) (fun q => absurd q (by decide))
                      refine r_aload rfl rfl ?_
                      refine r_getA (b := ad 31) rfl ⟨rfl, rfl, rfl⟩ (fx_t30 fx) (fx_r30_0 fx) ?_
                      refine r_iload rfl rfl ?_
                      refine WR_tI (y := nI k2) ek2 ?_
                      refine r_iaload rfl (.inl (fx_t31 fx)) (vp_ct (fx_n31 fx) (vp_in_nI (by have := i_nlt c1; have := i_rg c; have : (0 : Int32).toInt = 0 := rfl; have := i_eq ek2; have : (nI k2).toInt = ((k2 : Nat) : Int) := nI_toInt (by omega); have := i_nle c3; have : (24 : Int32).toInt = 24 := rfl; omega) (by omega))) ?_
                      refine WR_tI (congrArg (hI (sI (sI h (ad 0) 6 0) (ad 0) 6 (-12)) (ad 31)) ((nI_clamp (by have := i_nlt c1; have := i_rg c; have : (0 : Int32).toInt = 0 := rfl; have := i_eq ek2; have : (nI k2).toInt = ((k2 : Nat) : Int) := nI_toInt (by omega); have := i_nle c3; have : (24 : Int32).toInt = 24 := rfl; omega)) : _ = k2)) ?_
                      refine WR_tI (y := nI t7) (Eq.trans (I_ne (fx_ne fx (by decide))) (Eq.trans (I_ne (fx_ne fx (by decide))) v7)) ?_
                      refine r_istore (lv' := [some (.ref (ad 30)), some (.int c), some (.int i), some (.int d), some (.int j), some (.int m), some (.int (nI t7)), none, none, none, none]) rfl (Nat.le_of_ble_eq_true rfl) rfl ?_
                      refine r_aload rfl rfl ?_
                      refine r_getA (b := ad 31) rfl ⟨rfl, rfl, rfl⟩ (fx_t30 fx) (fx_r30_0 fx) ?_
                      refine r_iload rfl rfl ?_
                      refine WR_tI (y := nI k5) ek5 ?_
                      refine r_iaload rfl (.inl (fx_t31 fx)) (vp_ct (fx_n31 fx) (vp_in_nI (by have := i_nlt c4; have := i_rg d; have : (0 : Int32).toInt = 0 := rfl; have := i_eq ek5; have : (nI k5).toInt = ((k5 : Nat) : Int) := nI_toInt (by omega); have := i_nle c6; have : (24 : Int32).toInt = 24 := rfl; omega) (by omega))) ?_
                      refine WR_tI (congrArg (hI (sI (sI h (ad 0) 6 0) (ad 0) 6 (-12)) (ad 31)) ((nI_clamp (by have := i_nlt c4; have := i_rg d; have : (0 : Int32).toInt = 0 := rfl; have := i_eq ek5; have : (nI k5).toInt = ((k5 : Nat) : Int) := nI_toInt (by omega); have := i_nle c6; have : (24 : Int32).toInt = 24 := rfl; omega)) : _ = k5)) ?_
                      refine WR_tI (y := nI t46) (Eq.trans (I_ne (fx_ne fx (by decide))) (Eq.trans (I_ne (fx_ne fx (by decide))) v46)) ?_
                      refine r_istore (lv' := [some (.ref (ad 30)), some (.int c), some (.int i), some (.int d), some (.int j), some (.int m), some (.int (nI t7)), some (.int (nI t46)), none, none, none]) rfl (Nat.le_of_ble_eq_true rfl) rfl ?_
                      refine r_iload rfl rfl ?_
                      refine r_ic (x := (-1)) rfl rfl ?_
                      refine r_icmp_eq (tg := 49) rfl rfl (fun q => False.elim (by have : (nI t7).toInt = ((t7 : Nat) : Int) := nI_toInt (by omega); have : (-1 : Int32).toInt = -1 := rfl; have := i_eq q; omega)) (fun _ => ?_)
                      refine r_iload rfl rfl ?_
                      refine r_ic (x := (-1)) rfl rfl ?_
                      refine r_icmp_ne (tg := 55) rfl rfl (fun _ => ?_) (fun q => False.elim (by have : (nI t46).toInt = ((t46 : Nat) : Int) := nI_toInt (by omega); have : (-1 : Int32).toInt = -1 := rfl; have := i_eq q; omega))
                      refine r_iload rfl rfl ?_
                      refine r_ic (x := 1000) rfl rfl ?_
                      refine r_icmp_ge (tg := 112) rfl rfl (fun q => False.elim (by have : (nI t7).toInt = ((t7 : Nat) : Int) := nI_toInt (by omega); have : (1000 : Int32).toInt = 1000 := rfl; have := i_le q; omega)) (fun _ => ?_)
                      refine r_iload rfl rfl ?_
                      refine r_ic (x := 1000) rfl rfl ?_
                      refine r_icmp_ge (tg := 112) rfl rfl (fun q => False.elim (by have : (nI t46).toInt = ((t46 : Nat) : Int) := nI_toInt (by omega); have : (1000 : Int32).toInt = 1000 := rfl; have := i_le q; omega)) (fun _ => ?_)
                      refine r_aload rfl rfl ?_
                      refine r_getA (b := ad 33) rfl ⟨rfl, rfl, rfl⟩ (fx_t30 fx) (fx_r30_2 fx) ?_
                      refine r_iload rfl rfl ?_
                      refine r_iaload rfl (.inl (fx_t33 fx)) (vp_ct (fx_n33 fx) (vp_in_nI (by omega) (by omega))) ?_
                      refine WR_tI (congrArg (hI (sI (sI h (ad 0) 6 0) (ad 0) 6 (-12)) (ad 33)) ((nI_clamp (by omega)) : _ = t7)) ?_
                      refine WR_tI (y := 9) (Eq.trans (I_ne (fx_ne fx (by decide))) (Eq.trans (I_ne (fx_ne fx (by decide))) l2_7)) ?_
                      refine r_aload rfl rfl ?_
                      refine r_getA (b := ad 33) rfl ⟨rfl, rfl, rfl⟩ (fx_t30 fx) (fx_r30_2 fx) ?_
                      refine r_iload rfl rfl ?_
                      refine r_iaload rfl (.inl (fx_t33 fx)) (vp_ct (fx_n33 fx) (vp_in_nI (by omega) (by omega))) ?_
                      refine WR_tI (congrArg (hI (sI (sI h (ad 0) 6 0) (ad 0) 6 (-12)) (ad 33)) ((nI_clamp (by omega)) : _ = t46)) ?_
                      refine WR_tI (y := 8) (Eq.trans (I_ne (fx_ne fx (by decide))) (Eq.trans (I_ne (fx_ne fx (by decide))) l2_46)) ?_
                      refine r_icmp_eq (tg := 118) rfl rfl (fun q => absurd q (by decide)) (fun _ => ?_)
                      refine r_aload rfl rfl ?_
                      refine r_getA (b := ad 33) rfl ⟨rfl, rfl, rfl⟩ (fx_t30 fx) (fx_r30_2 fx) ?_
                      refine r_iload rfl rfl ?_
                      refine r_iaload rfl (.inl (fx_t33 fx)) (vp_ct (fx_n33 fx) (vp_in_nI (by omega) (by omega))) ?_
                      refine WR_tI (congrArg (hI (sI (sI h (ad 0) 6 0) (ad 0) 6 (-12)) (ad 33)) ((nI_clamp (by omega)) : _ = t7)) ?_
                      refine WR_tI (y := 9) (Eq.trans (I_ne (fx_ne fx (by decide))) (Eq.trans (I_ne (fx_ne fx (by decide))) l2_7)) ?_
                      refine r_ic (x := 8) rfl rfl ?_
                      refine r_icmp_lt (tg := 112) rfl rfl (fun q => absurd q (by decide)) (fun _ => ?_)
                      refine r_aload rfl rfl ?_
                      refine r_getA (b := ad 33) rfl ⟨rfl, rfl, rfl⟩ (fx_t30 fx) (fx_r30_2 fx) ?_
                      refine r_iload rfl rfl ?_
                      refine r_iaload rfl (.inl (fx_t33 fx)) (vp_ct (fx_n33 fx) (vp_in_nI (by omega) (by omega))) ?_
                      refine WR_tI (congrArg (hI (sI (sI h (ad 0) 6 0) (ad 0) 6 (-12)) (ad 33)) ((nI_clamp (by omega)) : _ = t46)) ?_
                      refine WR_tI (y := 8) (Eq.trans (I_ne (fx_ne fx (by decide))) (Eq.trans (I_ne (fx_ne fx (by decide))) l2_46)) ?_
                      refine r_ic (x := 8) rfl rfl ?_
                      refine r_icmp_ge (tg := 118) rfl rfl (fun _ => ?_) (fun q => absurd q (by decide))
                      refine r_iload rfl rfl ?_
                      refine WR_tI (y := nI k52) ek52 ?_
                      refine r_if_lt (tg := 169) rfl rfl (fun q => False.elim (by have := i_nlt c47; have := i_rg i; have : (0 : Int32).toInt = 0 := rfl; have := i_nlt c48; have := i_rg m; have := i_eq ek51; have : (nI k51).toInt = ((k51 : Nat) : Int) := nI_toInt (by omega); have := i_eq ek52; have : (nI k52).toInt = ((k52 : Nat) : Int) := nI_toInt (by omega); have := i_nlt c53; have : (nI sz7).toInt = ((sz7 : Nat) : Int) := nI_toInt (by omega); have := sub_t (x := nI sz7) (y := nI k52) (by have := i_nlt c47; have := i_rg i; have : (0 : Int32).toInt = 0 := rfl; have := i_eq ek52; have : (nI k52).toInt = ((k52 : Nat) : Int) := nI_toInt (by omega); have : (nI sz7).toInt = ((sz7 : Nat) : Int) := nI_toInt (by omega); omega) (by have := i_nlt c47; have := i_rg i; have : (0 : Int32).toInt = 0 := rfl; have := i_eq ek52; have : (nI k52).toInt = ((k52 : Nat) : Int) := nI_toInt (by omega); have : (nI sz7).toInt = ((sz7 : Nat) : Int) := nI_toInt (by omega); omega); have := i_lt q; omega)) (fun _ => ?_)
                      refine r_iload rfl rfl ?_
                      refine r_if_lt (tg := 169) rfl rfl (fun _ => ?_) (fun q => False.elim (by have := i_lt c55; have := i_rg j; have : (0 : Int32).toInt = 0 := rfl; have := i_nlt q; omega))
                      refine r_aload rfl rfl ?_
                      refine r_ic (x := 2) rfl rfl ?_
                      refine r_cv (y := 156) (ra := [.int 2]) (rest := []) rfl ⟨⟨rfl, rfl⟩, rfl, by decide⟩ (fx_t30 fx) rfl rfl (Nat.le_of_ble_eq_true rfl) ?_
                      refine in_156 (Nat.le_of_ble_eq_true rfl) ?_
                      show WR _ cd_156 0 [some (.ref (ad 30)), some (.int 2)] [] (sI (sI h (ad 0) 6 0) (ad 0) 6 (-12)) _
                      refine r_aload rfl rfl ?_
                      refine r_ic (x := (-10)) rfl rfl ?_
                      refine r_iload rfl rfl ?_
                      refine r_isub rfl ?_
                      refine WR_tI (y := (-12)) rfl ?_
                      refine r_cv (y := 154) (ra := [.int (-12)]) (rest := []) rfl ⟨⟨rfl, rfl⟩, rfl, by decide⟩ (fx_t30 fx) rfl rfl (Nat.le_of_ble_eq_true rfl) ?_
                      refine in_154 (Nat.le_of_ble_eq_true rfl) ?_
                      show WR _ cd_154 0 [some (.ref (ad 30)), some (.int (-12))] [] (sI (sI h (ad 0) 6 0) (ad 0) 6 (-12)) _
                      refine r_aload rfl rfl ?_
                      refine r_iload rfl rfl ?_
                      refine r_ic (x := (-1)) rfl rfl ?_
                      refine r_icmp_ge (tg := 10) rfl rfl (fun q => absurd q (by decide)) (fun _ => ?_)
                      refine r_iload rfl rfl ?_
                      refine r_goto (tg := 11) rfl rfl ?_
                      refine r_putI rfl ⟨rfl, rfl, rfl⟩ (fx_t30 fx) ?_
                      have fx : FX n ad sa z0 (sI (sI (sI h (ad 0) 6 0) (ad 0) 6 (-12)) (ad 30) 11 (-12)) := (FX.sI fx)
                      refine r_iload rfl rfl ?_
                      refine r_iret rfl ?_
                      show WR _ cd_156 8 [some (.ref (ad 30)), some (.int 2)] [.int (-12)] (sI (sI (sI h (ad 0) 6 0) (ad 0) 6 (-12)) (ad 30) 11 (-12)) _
                      refine r_iret rfl ?_
                      show WR _ cd_179 174 [some (.ref (ad 30)), some (.int c), some (.int i), some (.int d), some (.int j), some (.int m), some (.int (nI t7)), some (.int (nI t46)), none, none, none] [.int (-12)] (sI (sI (sI h (ad 0) 6 0) (ad 0) 6 (-12)) (ad 30) 11 (-12)) _
                      refine r_iret rfl ?_
                      exact ⟨rfl, Rel.why r (((Chg.rf.sI (fx_j fx) (.inl (by decide))).sI (fx_j fx) (.inl (by decide))).sI (fx_j fx) (.inl (by decide))) ⟨rfl, by decide⟩ (Eq.trans (Eq.trans (I_ne (fx_ne fx (by decide))) I_eq) (Eq.symm I_eq)), (by (try simp only [hZ_sI, hZ_sL, hZ_sD, hZ_sR]); omega), (by (try simp only [hU_sI, hU_sL, hU_sD, hU_sR]); omega)⟩
                    · refine r_iload rfl rfl ?_
                      refine r_if_lt (tg := 22) rfl rfl (fun q => False.elim (by have := i_nlt c47; have := i_rg i; have : (0 : Int32).toInt = 0 := rfl; have := i_nlt c48; have := i_rg m; have := i_eq ek51; have : (nI k51).toInt = ((k51 : Nat) : Int) := nI_toInt (by omega); have := i_eq ek52; have : (nI k52).toInt = ((k52 : Nat) : Int) := nI_toInt (by omega); have := i_nlt c53; have : (nI sz7).toInt = ((sz7 : Nat) : Int) := nI_toInt (by omega); have := sub_t (x := nI sz7) (y := nI k52) (by have := i_nlt c47; have := i_rg i; have : (0 : Int32).toInt = 0 := rfl; have := i_eq ek52; have : (nI k52).toInt = ((k52 : Nat) : Int) := nI_toInt (by omega); have : (nI sz7).toInt = ((sz7 : Nat) : Int) := nI_toInt (by omega); omega) (by have := i_nlt c47; have := i_rg i; have : (0 : Int32).toInt = 0 := rfl; have := i_eq ek52; have : (nI k52).toInt = ((k52 : Nat) : Int) := nI_toInt (by omega); have : (nI sz7).toInt = ((sz7 : Nat) : Int) := nI_toInt (by omega); omega); have := i_lt q; omega)) (fun _ => ?_)
                      refine r_iload rfl rfl ?_
                      refine r_aload rfl rfl ?_
                      refine r_cw (y := 35) (ra := []) (rest := [.int (nI k51)]) rfl ⟨rfl, rfl⟩ (by rw [show hT (sI h (ad 0) 6 0) (mid t46) = 6 from tg46]; rfl) rfl rfl (Nat.le_of_ble_eq_true rfl) ?_
                      refine in_35 (Nat.le_of_ble_eq_true rfl) ?_
                      show WR _ cd_35 0 [some (.ref (mid t46))] [] (sI h (ad 0) 6 0) _
                      refine r_aload rfl rfl ?_
                      refine r_getA (b := mid t46 + 1) rfl ⟨rfl, rfl, rfl⟩ tg46 (Eq.trans R_oI r_46) ?_
                      refine r_alen rfl (isA_of tg2_46 (by decide)) ?_
                      refine WR_tI (y := nI sz46) (congrArg nI n_46) ?_
                      refine r_iret rfl ?_
                      show WR _ cd_32 13 [some (.ref (mid t46)), some (.int j), some (.int (nI k51))] [.int (nI sz46), .int (nI k51)] (sI h (ad 0) 6 0) _
                      obtain ⟨k56, hk56, ek56⟩ := ix_of (x := j) (n := 2147483648) (by have := i_nlt c55; have := i_rg j; have : (0 : Int32).toInt = 0 := rfl; omega) (by have := i_nlt c55; have := i_rg j; have : (0 : Int32).toInt = 0 := rfl; omega)
                      refine r_iload rfl rfl ?_
                      refine WR_tI (y := nI k56) ek56 ?_
                      refine r_isub rfl ?_
                      refine r_icmp_gt (tg := 22) rfl rfl (fun c57 => ?_) (fun c57 => ?_)
                      · refine r_ic (x := 0) rfl rfl ?_
                        refine r_zret rfl (.inl rfl) ?_
                        show WR _ cd_51 96 [some (.ref (ad 0)), some (.int c), some (.int i), some (.int d), some (.int j), some (.int m), some (.ref (mid t7)), some (.ref (mid t46)), none] [.int 0] (sI h (ad 0) 6 0) _
                        refine r_if_ne (tg := 106) rfl rfl (fun q => absurd q (by decide)) (fun _ => ?_)
                        refine r_aload rfl rfl ?_
                        refine r_ic (x := (-12)) rfl rfl ?_
                        refine r_cv (y := 13) (ra := [.int (-12)]) (rest := []) rfl ⟨⟨rfl, rfl⟩, rfl, by decide⟩ (fx_t0 fx) rfl rfl (Nat.le_of_ble_eq_true rfl) ?_
                        refine in_13 (Nat.le_of_ble_eq_true rfl) ?_
                        show WR _ cd_13 0 [some (.ref (ad 0)), some (.int (-12))] [] (sI h (ad 0) 6 0) _
                        refine r_aload rfl rfl ?_
                        refine r_iload rfl rfl ?_
                        refine r_putI rfl ⟨rfl, rfl, rfl⟩ (fx_t0 fx) ?_
                        have fx : FX n ad sa z0 (sI (sI h (ad 0) 6 0) (ad 0) 6 (-12)) := (FX.sI fx)
                        refine r_iload rfl rfl ?_
                        refine r_iret rfl ?_
                        show WR _ cd_51 105 [some (.ref (ad 0)), some (.int c), some (.int i), some (.int d), some (.int j), some (.int m), some (.ref (mid t7)), some (.ref (mid t46)), none] [.int (-12)] (sI (sI h (ad 0) 6 0) (ad 0) 6 (-12)) _
                        refine r_iret rfl ?_
                        show EV _ 179 [.ref (ad 30), .int c, .int i, .int d, .int j, .int m] (sI (sI h (ad 0) 6 0) (ad 0) 6 (-12)) _
                        refine in_179 (Nat.le_of_ble_eq_true rfl) ?_
                        show WR _ cd_179 0 [some (.ref (ad 30)), some (.int c), some (.int i), some (.int d), some (.int j), some (.int m), none, none, none, none, none] [] (sI (sI h (ad 0) 6 0) (ad 0) 6 (-12)) _
                        refine r_iload rfl rfl ?_
                        refine WR_tI (y := nI k2) ek2 ?_
                        refine r_cs (y := 153) (ra := [.int (nI k2)]) (rest := []) rfl ⟨⟨rfl, rfl⟩, by decide⟩ rfl rfl (Nat.le_of_ble_eq_true rfl) ?_
                        refine in_153 (Nat.le_of_ble_eq_true rfl) ?_
                        show WR _ cd_153 0 [some (.int (nI k2))] [] (sI (sI h (ad 0) 6 0) (ad 0) 6 (-12)) _
                        refine r_iload rfl rfl ?_
                        refine r_if_lt (tg := 14) rfl rfl (fun q => False.elim (by have := i_nlt c1; have := i_rg c; have : (0 : Int32).toInt = 0 := rfl; have := i_eq ek2; have : (nI k2).toInt = ((k2 : Nat) : Int) := nI_toInt (by omega); have := i_nle c3; have : (24 : Int32).toInt = 24 := rfl; have := i_lt q; omega)) (fun _ => ?_)
                        refine r_iload rfl rfl ?_
                        refine r_ic (x := 24) rfl rfl ?_
                        refine r_icmp_ge (tg := 14) rfl rfl (fun q => False.elim (by have := i_nlt c1; have := i_rg c; have : (0 : Int32).toInt = 0 := rfl; have := i_eq ek2; have : (nI k2).toInt = ((k2 : Nat) : Int) := nI_toInt (by omega); have := i_nle c3; have : (24 : Int32).toInt = 24 := rfl; have := i_le q; omega)) (fun _ => ?_)
                        refine r_ic (x := 1) rfl rfl ?_
                        refine r_goto (tg := 15) rfl rfl ?_
                        refine r_zret rfl (.inr rfl) ?_
                        show WR _ cd_179 4 [some (.ref (ad 30)), some (.int c), some (.int i), some (.int d), some (.int j), some (.int m), none, none, none, none, none] [.int 1] (sI (sI h (ad 0) 6 0) (ad 0) 6 (-12)) _
                        refine r_if_eq (tg := 14) rfl rfl (fun q => absurd q (by decide)) (fun _ => ?_)
                        refine r_iload rfl rfl ?_
                        refine WR_tI (y := nI k5) ek5 ?_
                        refine r_cs (y := 153) (ra := [.int (nI k5)]) (rest := []) rfl ⟨⟨rfl, rfl⟩, by decide⟩ rfl rfl (Nat.le_of_ble_eq_true rfl) ?_
                        refine in_153 (Nat.le_of_ble_eq_true rfl) ?_
                        show WR _ cd_153 0 [some (.int (nI k5))] [] (sI (sI h (ad 0) 6 0) (ad 0) 6 (-12)) _
                        refine r_iload rfl rfl ?_
                        refine r_if_lt (tg := 14) rfl rfl (fun q => False.elim (by have := i_nlt c4; have := i_rg d; have : (0 : Int32).toInt = 0 := rfl; have := i_eq ek5; have : (nI k5).toInt = ((k5 : Nat) : Int) := nI_toInt (by omega); have := i_nle c6; have : (24 : Int32).toInt = 24 := rfl; have := i_lt q; omega)) (fun _ => ?_)
                        refine r_iload rfl rfl ?_
                        refine r_ic (x := 24) rfl rfl ?_
                        refine r_icmp_ge (tg := 14) rfl rfl (fun q => False.elim (by have := i_nlt c4; have := i_rg d; have : (0 : Int32).toInt = 0 := rfl; have := i_eq ek5; have : (nI k5).toInt = ((k5 : Nat) : Int) := nI_toInt (by omega); have := i_nle c6; have : (24 : Int32).toInt = 24 := rfl; have := i_le q; omega)) (fun _ => ?_)
                        refine r_ic (x := 1) rfl rfl ?_
                        refine r_goto (tg := 15) rfl rfl ?_
                        refine r_zret rfl (.inr rfl) ?_
                        show WR _ cd_179 11 [some (.ref (ad 30)), some (.int c), some (.int i), some (.int d), some (.int j), some (.int m), none, none, none, none, none] [.int 1] (sI (sI h (ad 0) 6 0) (ad 0) 6 (-12)) _
                        refine r_if_ne (tg := 21) rfl rfl (fun _ => ?_) (fun q => absurd q (by decide))
                        refine r_aload rfl rfl ?_
                        refine r_getA (b := ad 31) rfl ⟨rfl, rfl, rfl⟩ (fx_t30 fx) (fx_r30_0 fx) ?_
                        refine r_iload rfl rfl ?_
                        refine WR_tI (y := nI k2) ek2 ?_
                        refine r_iaload rfl (.inl (fx_t31 fx)) (vp_ct (fx_n31 fx) (vp_in_nI (by have := i_nlt c1; have := i_rg c; have : (0 : Int32).toInt = 0 := rfl; have := i_eq ek2; have : (nI k2).toInt = ((k2 : Nat) : Int) := nI_toInt (by omega); have := i_nle c3; have : (24 : Int32).toInt = 24 := rfl; omega) (by omega))) ?_
                        refine WR_tI (congrArg (hI (sI (sI h (ad 0) 6 0) (ad 0) 6 (-12)) (ad 31)) ((nI_clamp (by have := i_nlt c1; have := i_rg c; have : (0 : Int32).toInt = 0 := rfl; have := i_eq ek2; have : (nI k2).toInt = ((k2 : Nat) : Int) := nI_toInt (by omega); have := i_nle c3; have : (24 : Int32).toInt = 24 := rfl; omega)) : _ = k2)) ?_
                        refine WR_tI (y := nI t7) (Eq.trans (I_ne (fx_ne fx (by decide))) (Eq.trans (I_ne (fx_ne fx (by decide))) v7)) ?_
                        refine r_istore (lv' := [some (.ref (ad 30)), some (.int c), some (.int i), some (.int d), some (.int j), some (.int m), some (.int (nI t7)), none, none, none, none]) rfl (Nat.le_of_ble_eq_true rfl) rfl ?_
                        refine r_aload rfl rfl ?_
                        refine r_getA (b := ad 31) rfl ⟨rfl, rfl, rfl⟩ (fx_t30 fx) (fx_r30_0 fx) ?_
                        refine r_iload rfl rfl ?_
                        refine WR_tI (y := nI k5) ek5 ?_
                        refine r_iaload rfl (.inl (fx_t31 fx)) (vp_ct (fx_n31 fx) (vp_in_nI (by have := i_nlt c4; have := i_rg d; have : (0 : Int32).toInt = 0 := rfl; have := i_eq ek5; have : (nI k5).toInt = ((k5 : Nat) : Int) := nI_toInt (by omega); have := i_nle c6; have : (24 : Int32).toInt = 24 := rfl; omega) (by omega))) ?_
                        refine WR_tI (congrArg (hI (sI (sI h (ad 0) 6 0) (ad 0) 6 (-12)) (ad 31)) ((nI_clamp (by have := i_nlt c4; have := i_rg d; have : (0 : Int32).toInt = 0 := rfl; have := i_eq ek5; have : (nI k5).toInt = ((k5 : Nat) : Int) := nI_toInt (by omega); have := i_nle c6; have : (24 : Int32).toInt = 24 := rfl; omega)) : _ = k5)) ?_
                        refine WR_tI (y := nI t46) (Eq.trans (I_ne (fx_ne fx (by decide))) (Eq.trans (I_ne (fx_ne fx (by decide))) v46)) ?_
                        refine r_istore (lv' := [some (.ref (ad 30)), some (.int c), some (.int i), some (.int d), some (.int j), some (.int m), some (.int (nI t7)), some (.int (nI t46)), none, none, none]) rfl (Nat.le_of_ble_eq_true rfl) rfl ?_
                        refine r_iload rfl rfl ?_
                        refine r_ic (x := (-1)) rfl rfl ?_
                        refine r_icmp_eq (tg := 49) rfl rfl (fun q => False.elim (by have : (nI t7).toInt = ((t7 : Nat) : Int) := nI_toInt (by omega); have : (-1 : Int32).toInt = -1 := rfl; have := i_eq q; omega)) (fun _ => ?_)
                        refine r_iload rfl rfl ?_
                        refine r_ic (x := (-1)) rfl rfl ?_
                        refine r_icmp_ne (tg := 55) rfl rfl (fun _ => ?_) (fun q => False.elim (by have : (nI t46).toInt = ((t46 : Nat) : Int) := nI_toInt (by omega); have : (-1 : Int32).toInt = -1 := rfl; have := i_eq q; omega))
                        refine r_iload rfl rfl ?_
                        refine r_ic (x := 1000) rfl rfl ?_
                        refine r_icmp_ge (tg := 112) rfl rfl (fun q => False.elim (by have : (nI t7).toInt = ((t7 : Nat) : Int) := nI_toInt (by omega); have : (1000 : Int32).toInt = 1000 := rfl; have := i_le q; omega)) (fun _ => ?_)
                        refine r_iload rfl rfl ?_
                        refine r_ic (x := 1000) rfl rfl ?_
                        refine r_icmp_ge (tg := 112) rfl rfl (fun q => False.elim (by have : (nI t46).toInt = ((t46 : Nat) : Int) := nI_toInt (by omega); have : (1000 : Int32).toInt = 1000 := rfl; have := i_le q; omega)) (fun _ => ?_)
                        refine r_aload rfl rfl ?_
                        refine r_getA (b := ad 33) rfl ⟨rfl, rfl, rfl⟩ (fx_t30 fx) (fx_r30_2 fx) ?_
                        refine r_iload rfl rfl ?_
                        refine r_iaload rfl (.inl (fx_t33 fx)) (vp_ct (fx_n33 fx) (vp_in_nI (by omega) (by omega))) ?_
                        refine WR_tI (congrArg (hI (sI (sI h (ad 0) 6 0) (ad 0) 6 (-12)) (ad 33)) ((nI_clamp (by omega)) : _ = t7)) ?_
                        refine WR_tI (y := 9) (Eq.trans (I_ne (fx_ne fx (by decide))) (Eq.trans (I_ne (fx_ne fx (by decide))) l2_7)) ?_
                        refine r_aload rfl rfl ?_
                        refine r_getA (b := ad 33) rfl ⟨rfl, rfl, rfl⟩ (fx_t30 fx) (fx_r30_2 fx) ?_
                        refine r_iload rfl rfl ?_
                        refine r_iaload rfl (.inl (fx_t33 fx)) (vp_ct (fx_n33 fx) (vp_in_nI (by omega) (by omega))) ?_
                        refine WR_tI (congrArg (hI (sI (sI h (ad 0) 6 0) (ad 0) 6 (-12)) (ad 33)) ((nI_clamp (by omega)) : _ = t46)) ?_
                        refine WR_tI (y := 8) (Eq.trans (I_ne (fx_ne fx (by decide))) (Eq.trans (I_ne (fx_ne fx (by decide))) l2_46)) ?_
                        refine r_icmp_eq (tg := 118) rfl rfl (fun q => absurd q (by decide)) (fun _ => ?_)
                        refine r_aload rfl rfl ?_
                        refine r_getA (b := ad 33) rfl ⟨rfl, rfl, rfl⟩ (fx_t30 fx) (fx_r30_2 fx) ?_
                        refine r_iload rfl rfl ?_
                        refine r_iaload rfl (.inl (fx_t33 fx)) (vp_ct (fx_n33 fx) (vp_in_nI (by omega) (by omega))) ?_
                        refine WR_tI (congrArg (hI (sI (sI h (ad 0) 6 0) (ad 0) 6 (-12)) (ad 33)) ((nI_clamp (by omega)) : _ = t7)) ?_
                        refine WR_tI (y := 9) (Eq.trans (I_ne (fx_ne fx (by decide))) (Eq.trans (I_ne (fx_ne fx (by decide))) l2_7)) ?_
                        refine r_ic (x := 8) rfl rfl ?_
                        refine r_icmp_lt (tg := 112) rfl rfl (fun q => absurd q (by decide)) (fun _ => ?_)
                        refine r_aload rfl rfl ?_
                        refine r_getA (b := ad 33) rfl ⟨rfl, rfl, rfl⟩ (fx_t30 fx) (fx_r30_2 fx) ?_
                        refine r_iload rfl rfl ?_
                        refine r_iaload rfl (.inl (fx_t33 fx)) (vp_ct (fx_n33 fx) (vp_in_nI (by omega) (by omega))) ?_
                        refine WR_tI (congrArg (hI (sI (sI h (ad 0) 6 0) (ad 0) 6 (-12)) (ad 33)) ((nI_clamp (by omega)) : _ = t46)) ?_
                        refine WR_tI (y := 8) (Eq.trans (I_ne (fx_ne fx (by decide))) (Eq.trans (I_ne (fx_ne fx (by decide))) l2_46)) ?_
                        refine r_ic (x := 8) rfl rfl ?_
                        refine r_icmp_ge (tg := 118) rfl rfl (fun _ => ?_) (fun q => absurd q (by decide))
                        refine r_iload rfl rfl ?_
                        refine WR_tI (y := nI k52) ek52 ?_
                        refine r_if_lt (tg := 169) rfl rfl (fun q => False.elim (by have := i_nlt c47; have := i_rg i; have : (0 : Int32).toInt = 0 := rfl; have := i_nlt c48; have := i_rg m; have := i_eq ek51; have : (nI k51).toInt = ((k51 : Nat) : Int) := nI_toInt (by omega); have := i_eq ek52; have : (nI k52).toInt = ((k52 : Nat) : Int) := nI_toInt (by omega); have := i_nlt c53; have : (nI sz7).toInt = ((sz7 : Nat) : Int) := nI_toInt (by omega); have := sub_t (x := nI sz7) (y := nI k52) (by have := i_nlt c47; have := i_rg i; have : (0 : Int32).toInt = 0 := rfl; have := i_eq ek52; have : (nI k52).toInt = ((k52 : Nat) : Int) := nI_toInt (by omega); have : (nI sz7).toInt = ((sz7 : Nat) : Int) := nI_toInt (by omega); omega) (by have := i_nlt c47; have := i_rg i; have : (0 : Int32).toInt = 0 := rfl; have := i_eq ek52; have : (nI k52).toInt = ((k52 : Nat) : Int) := nI_toInt (by omega); have : (nI sz7).toInt = ((sz7 : Nat) : Int) := nI_toInt (by omega); omega); have := i_nlt c55; have := i_rg j; have := i_eq ek56; have : (nI k56).toInt = ((k56 : Nat) : Int) := nI_toInt (by omega); have := i_lt c57; have : (nI sz46).toInt = ((sz46 : Nat) : Int) := nI_toInt (by omega); have := sub_t (x := nI sz46) (y := nI k56) (by have := i_nlt c55; have := i_rg j; have : (0 : Int32).toInt = 0 := rfl; have := i_eq ek56; have : (nI k56).toInt = ((k56 : Nat) : Int) := nI_toInt (by omega); have : (nI sz46).toInt = ((sz46 : Nat) : Int) := nI_toInt (by omega); omega) (by have := i_nlt c55; have := i_rg j; have : (0 : Int32).toInt = 0 := rfl; have := i_eq ek56; have : (nI k56).toInt = ((k56 : Nat) : Int) := nI_toInt (by omega); have : (nI sz46).toInt = ((sz46 : Nat) : Int) := nI_toInt (by omega); omega); have := i_lt q; omega)) (fun _ => ?_)
                        refine r_iload rfl rfl ?_
                        refine WR_tI (y := nI k56) ek56 ?_
                        refine r_if_lt (tg := 169) rfl rfl (fun q => False.elim (by have := i_nlt c47; have := i_rg i; have : (0 : Int32).toInt = 0 := rfl; have := i_nlt c48; have := i_rg m; have := i_eq ek51; have : (nI k51).toInt = ((k51 : Nat) : Int) := nI_toInt (by omega); have := i_eq ek52; have : (nI k52).toInt = ((k52 : Nat) : Int) := nI_toInt (by omega); have := i_nlt c53; have : (nI sz7).toInt = ((sz7 : Nat) : Int) := nI_toInt (by omega); have := sub_t (x := nI sz7) (y := nI k52) (by have := i_nlt c47; have := i_rg i; have : (0 : Int32).toInt = 0 := rfl; have := i_eq ek52; have : (nI k52).toInt = ((k52 : Nat) : Int) := nI_toInt (by omega); have : (nI sz7).toInt = ((sz7 : Nat) : Int) := nI_toInt (by omega); omega) (by have := i_nlt c47; have := i_rg i; have : (0 : Int32).toInt = 0 := rfl; have := i_eq ek52; have : (nI k52).toInt = ((k52 : Nat) : Int) := nI_toInt (by omega); have : (nI sz7).toInt = ((sz7 : Nat) : Int) := nI_toInt (by omega); omega); have := i_nlt c55; have := i_rg j; have := i_eq ek56; have : (nI k56).toInt = ((k56 : Nat) : Int) := nI_toInt (by omega); have := i_lt c57; have : (nI sz46).toInt = ((sz46 : Nat) : Int) := nI_toInt (by omega); have := sub_t (x := nI sz46) (y := nI k56) (by have := i_nlt c55; have := i_rg j; have : (0 : Int32).toInt = 0 := rfl; have := i_eq ek56; have : (nI k56).toInt = ((k56 : Nat) : Int) := nI_toInt (by omega); have : (nI sz46).toInt = ((sz46 : Nat) : Int) := nI_toInt (by omega); omega) (by have := i_nlt c55; have := i_rg j; have : (0 : Int32).toInt = 0 := rfl; have := i_eq ek56; have : (nI k56).toInt = ((k56 : Nat) : Int) := nI_toInt (by omega); have : (nI sz46).toInt = ((sz46 : Nat) : Int) := nI_toInt (by omega); omega); have := i_lt q; omega)) (fun _ => ?_)
                        refine r_iload rfl rfl ?_
                        refine WR_tI (y := nI k51) ek51 ?_
                        refine r_if_lt (tg := 169) rfl rfl (fun q => False.elim (by have := i_nlt c47; have := i_rg i; have : (0 : Int32).toInt = 0 := rfl; have := i_nlt c48; have := i_rg m; have := i_eq ek51; have : (nI k51).toInt = ((k51 : Nat) : Int) := nI_toInt (by omega); have := i_eq ek52; have : (nI k52).toInt = ((k52 : Nat) : Int) := nI_toInt (by omega); have := i_nlt c53; have : (nI sz7).toInt = ((sz7 : Nat) : Int) := nI_toInt (by omega); have := sub_t (x := nI sz7) (y := nI k52) (by have := i_nlt c47; have := i_rg i; have : (0 : Int32).toInt = 0 := rfl; have := i_eq ek52; have : (nI k52).toInt = ((k52 : Nat) : Int) := nI_toInt (by omega); have : (nI sz7).toInt = ((sz7 : Nat) : Int) := nI_toInt (by omega); omega) (by have := i_nlt c47; have := i_rg i; have : (0 : Int32).toInt = 0 := rfl; have := i_eq ek52; have : (nI k52).toInt = ((k52 : Nat) : Int) := nI_toInt (by omega); have : (nI sz7).toInt = ((sz7 : Nat) : Int) := nI_toInt (by omega); omega); have := i_nlt c55; have := i_rg j; have := i_eq ek56; have : (nI k56).toInt = ((k56 : Nat) : Int) := nI_toInt (by omega); have := i_lt c57; have : (nI sz46).toInt = ((sz46 : Nat) : Int) := nI_toInt (by omega); have := sub_t (x := nI sz46) (y := nI k56) (by have := i_nlt c55; have := i_rg j; have : (0 : Int32).toInt = 0 := rfl; have := i_eq ek56; have : (nI k56).toInt = ((k56 : Nat) : Int) := nI_toInt (by omega); have : (nI sz46).toInt = ((sz46 : Nat) : Int) := nI_toInt (by omega); omega) (by have := i_nlt c55; have := i_rg j; have : (0 : Int32).toInt = 0 := rfl; have := i_eq ek56; have : (nI k56).toInt = ((k56 : Nat) : Int) := nI_toInt (by omega); have : (nI sz46).toInt = ((sz46 : Nat) : Int) := nI_toInt (by omega); omega); have := i_lt q; omega)) (fun _ => ?_)
                        refine r_iload rfl rfl ?_
                        refine WR_tI (y := nI k52) ek52 ?_
                        refine r_i2l rfl ?_
                        refine WR_tL (y := lN k52) (nI_l (by have := i_nlt c47; have := i_rg i; have : (0 : Int32).toInt = 0 := rfl; have := i_nlt c48; have := i_rg m; have := i_eq ek51; have : (nI k51).toInt = ((k51 : Nat) : Int) := nI_toInt (by omega); have := i_eq ek52; have : (nI k52).toInt = ((k52 : Nat) : Int) := nI_toInt (by omega); have := i_nlt c53; have : (nI sz7).toInt = ((sz7 : Nat) : Int) := nI_toInt (by omega); have := sub_t (x := nI sz7) (y := nI k52) (by have := i_nlt c47; have := i_rg i; have : (0 : Int32).toInt = 0 := rfl; have := i_eq ek52; have : (nI k52).toInt = ((k52 : Nat) : Int) := nI_toInt (by omega); have : (nI sz7).toInt = ((sz7 : Nat) : Int) := nI_toInt (by omega); omega) (by have := i_nlt c47; have := i_rg i; have : (0 : Int32).toInt = 0 := rfl; have := i_eq ek52; have : (nI k52).toInt = ((k52 : Nat) : Int) := nI_toInt (by omega); have : (nI sz7).toInt = ((sz7 : Nat) : Int) := nI_toInt (by omega); omega); have := i_nlt c55; have := i_rg j; have := i_eq ek56; have : (nI k56).toInt = ((k56 : Nat) : Int) := nI_toInt (by omega); have := i_lt c57; have : (nI sz46).toInt = ((sz46 : Nat) : Int) := nI_toInt (by omega); have := sub_t (x := nI sz46) (y := nI k56) (by have := i_nlt c55; have := i_rg j; have : (0 : Int32).toInt = 0 := rfl; have := i_eq ek56; have : (nI k56).toInt = ((k56 : Nat) : Int) := nI_toInt (by omega); have : (nI sz46).toInt = ((sz46 : Nat) : Int) := nI_toInt (by omega); omega) (by have := i_nlt c55; have := i_rg j; have : (0 : Int32).toInt = 0 := rfl; have := i_eq ek56; have : (nI k56).toInt = ((k56 : Nat) : Int) := nI_toInt (by omega); have : (nI sz46).toInt = ((sz46 : Nat) : Int) := nI_toInt (by omega); omega); omega)) ?_
                        refine r_iload rfl rfl ?_
                        refine WR_tI (y := nI k51) ek51 ?_
                        refine r_i2l rfl ?_
                        refine WR_tL (y := lN k51) (nI_l (by have := i_nlt c47; have := i_rg i; have : (0 : Int32).toInt = 0 := rfl; have := i_nlt c48; have := i_rg m; have := i_eq ek51; have : (nI k51).toInt = ((k51 : Nat) : Int) := nI_toInt (by omega); have := i_eq ek52; have : (nI k52).toInt = ((k52 : Nat) : Int) := nI_toInt (by omega); have := i_nlt c53; have : (nI sz7).toInt = ((sz7 : Nat) : Int) := nI_toInt (by omega); have := sub_t (x := nI sz7) (y := nI k52) (by have := i_nlt c47; have := i_rg i; have : (0 : Int32).toInt = 0 := rfl; have := i_eq ek52; have : (nI k52).toInt = ((k52 : Nat) : Int) := nI_toInt (by omega); have : (nI sz7).toInt = ((sz7 : Nat) : Int) := nI_toInt (by omega); omega) (by have := i_nlt c47; have := i_rg i; have : (0 : Int32).toInt = 0 := rfl; have := i_eq ek52; have : (nI k52).toInt = ((k52 : Nat) : Int) := nI_toInt (by omega); have : (nI sz7).toInt = ((sz7 : Nat) : Int) := nI_toInt (by omega); omega); have := i_nlt c55; have := i_rg j; have := i_eq ek56; have : (nI k56).toInt = ((k56 : Nat) : Int) := nI_toInt (by omega); have := i_lt c57; have : (nI sz46).toInt = ((sz46 : Nat) : Int) := nI_toInt (by omega); have := sub_t (x := nI sz46) (y := nI k56) (by have := i_nlt c55; have := i_rg j; have : (0 : Int32).toInt = 0 := rfl; have := i_eq ek56; have : (nI k56).toInt = ((k56 : Nat) : Int) := nI_toInt (by omega); have : (nI sz46).toInt = ((sz46 : Nat) : Int) := nI_toInt (by omega); omega) (by have := i_nlt c55; have := i_rg j; have : (0 : Int32).toInt = 0 := rfl; have := i_eq ek56; have : (nI k56).toInt = ((k56 : Nat) : Int) := nI_toInt (by omega); have : (nI sz46).toInt = ((sz46 : Nat) : Int) := nI_toInt (by omega); omega); omega)) ?_
                        refine r_ladd rfl ?_
                        refine WR_tL (y := lN (k51 + k52)) (Eq.trans (lN_add k52 k51) (congrArg lN (by omega))) ?_
                        refine r_aload rfl rfl ?_
                        refine r_getA (b := ad 35) rfl ⟨rfl, rfl, rfl⟩ (fx_t30 fx) (fx_r30_4 fx) ?_
                        refine r_iload rfl rfl ?_
                        refine r_iaload rfl (.inl (fx_t35 fx)) (vp_ct (fx_n35 fx) (vp_in_nI (by omega) (by omega))) ?_
                        refine WR_tI (congrArg (hI (sI (sI h (ad 0) 6 0) (ad 0) 6 (-12)) (ad 35)) ((nI_clamp (by omega)) : _ = t7)) ?_
                        refine WR_tI (y := nI sz7) (Eq.trans (I_ne (fx_ne fx (by decide))) (Eq.trans (I_ne (fx_ne fx (by decide))) sz_7)) ?_
                        refine r_i2l rfl ?_
                        refine WR_tL (y := lN sz7) (nI_l (by have := i_nlt c47; have := i_rg i; have : (0 : Int32).toInt = 0 := rfl; have := i_nlt c48; have := i_rg m; have := i_eq ek51; have : (nI k51).toInt = ((k51 : Nat) : Int) := nI_toInt (by omega); have := i_eq ek52; have : (nI k52).toInt = ((k52 : Nat) : Int) := nI_toInt (by omega); have := i_nlt c53; have : (nI sz7).toInt = ((sz7 : Nat) : Int) := nI_toInt (by omega); have := sub_t (x := nI sz7) (y := nI k52) (by have := i_nlt c47; have := i_rg i; have : (0 : Int32).toInt = 0 := rfl; have := i_eq ek52; have : (nI k52).toInt = ((k52 : Nat) : Int) := nI_toInt (by omega); have : (nI sz7).toInt = ((sz7 : Nat) : Int) := nI_toInt (by omega); omega) (by have := i_nlt c47; have := i_rg i; have : (0 : Int32).toInt = 0 := rfl; have := i_eq ek52; have : (nI k52).toInt = ((k52 : Nat) : Int) := nI_toInt (by omega); have : (nI sz7).toInt = ((sz7 : Nat) : Int) := nI_toInt (by omega); omega); have := i_nlt c55; have := i_rg j; have := i_eq ek56; have : (nI k56).toInt = ((k56 : Nat) : Int) := nI_toInt (by omega); have := i_lt c57; have : (nI sz46).toInt = ((sz46 : Nat) : Int) := nI_toInt (by omega); have := sub_t (x := nI sz46) (y := nI k56) (by have := i_nlt c55; have := i_rg j; have : (0 : Int32).toInt = 0 := rfl; have := i_eq ek56; have : (nI k56).toInt = ((k56 : Nat) : Int) := nI_toInt (by omega); have : (nI sz46).toInt = ((sz46 : Nat) : Int) := nI_toInt (by omega); omega) (by have := i_nlt c55; have := i_rg j; have : (0 : Int32).toInt = 0 := rfl; have := i_eq ek56; have : (nI k56).toInt = ((k56 : Nat) : Int) := nI_toInt (by omega); have : (nI sz46).toInt = ((sz46 : Nat) : Int) := nI_toInt (by omega); omega); omega)) ?_
                        refine r_lif_gt (tg := 169) rfl rfl rfl (fun q => False.elim (by have := i_nlt c47; have := i_rg i; have : (0 : Int32).toInt = 0 := rfl; have := i_nlt c48; have := i_rg m; have := i_eq ek51; have : (nI k51).toInt = ((k51 : Nat) : Int) := nI_toInt (by omega); have := i_eq ek52; have : (nI k52).toInt = ((k52 : Nat) : Int) := nI_toInt (by omega); have := i_nlt c53; have : (nI sz7).toInt = ((sz7 : Nat) : Int) := nI_toInt (by omega); have := sub_t (x := nI sz7) (y := nI k52) (by have := i_nlt c47; have := i_rg i; have : (0 : Int32).toInt = 0 := rfl; have := i_eq ek52; have : (nI k52).toInt = ((k52 : Nat) : Int) := nI_toInt (by omega); have : (nI sz7).toInt = ((sz7 : Nat) : Int) := nI_toInt (by omega); omega) (by have := i_nlt c47; have := i_rg i; have : (0 : Int32).toInt = 0 := rfl; have := i_eq ek52; have : (nI k52).toInt = ((k52 : Nat) : Int) := nI_toInt (by omega); have : (nI sz7).toInt = ((sz7 : Nat) : Int) := nI_toInt (by omega); omega); have := i_nlt c55; have := i_rg j; have := i_eq ek56; have : (nI k56).toInt = ((k56 : Nat) : Int) := nI_toInt (by omega); have := i_lt c57; have : (nI sz46).toInt = ((sz46 : Nat) : Int) := nI_toInt (by omega); have := sub_t (x := nI sz46) (y := nI k56) (by have := i_nlt c55; have := i_rg j; have : (0 : Int32).toInt = 0 := rfl; have := i_eq ek56; have : (nI k56).toInt = ((k56 : Nat) : Int) := nI_toInt (by omega); have : (nI sz46).toInt = ((sz46 : Nat) : Int) := nI_toInt (by omega); omega) (by have := i_nlt c55; have := i_rg j; have : (0 : Int32).toInt = 0 := rfl; have := i_eq ek56; have : (nI k56).toInt = ((k56 : Nat) : Int) := nI_toInt (by omega); have : (nI sz46).toInt = ((sz46 : Nat) : Int) := nI_toInt (by omega); omega); have : (lN (k51 + k52)).toInt = ((k51 + k52 : Nat) : Int) := pk_lT (by omega); have : (lN sz7).toInt = ((sz7 : Nat) : Int) := lN_toInt (by omega); have := l_lt q; omega)) (fun _ => ?_)
                        refine r_iload rfl rfl ?_
                        refine WR_tI (y := nI k56) ek56 ?_
                        refine r_i2l rfl ?_
                        refine WR_tL (y := lN k56) (nI_l (by have := i_nlt c47; have := i_rg i; have : (0 : Int32).toInt = 0 := rfl; have := i_nlt c48; have := i_rg m; have := i_eq ek51; have : (nI k51).toInt = ((k51 : Nat) : Int) := nI_toInt (by omega); have := i_eq ek52; have : (nI k52).toInt = ((k52 : Nat) : Int) := nI_toInt (by omega); have := i_nlt c53; have : (nI sz7).toInt = ((sz7 : Nat) : Int) := nI_toInt (by omega); have := sub_t (x := nI sz7) (y := nI k52) (by have := i_nlt c47; have := i_rg i; have : (0 : Int32).toInt = 0 := rfl; have := i_eq ek52; have : (nI k52).toInt = ((k52 : Nat) : Int) := nI_toInt (by omega); have : (nI sz7).toInt = ((sz7 : Nat) : Int) := nI_toInt (by omega); omega) (by have := i_nlt c47; have := i_rg i; have : (0 : Int32).toInt = 0 := rfl; have := i_eq ek52; have : (nI k52).toInt = ((k52 : Nat) : Int) := nI_toInt (by omega); have : (nI sz7).toInt = ((sz7 : Nat) : Int) := nI_toInt (by omega); omega); have := i_nlt c55; have := i_rg j; have := i_eq ek56; have : (nI k56).toInt = ((k56 : Nat) : Int) := nI_toInt (by omega); have := i_lt c57; have : (nI sz46).toInt = ((sz46 : Nat) : Int) := nI_toInt (by omega); have := sub_t (x := nI sz46) (y := nI k56) (by have := i_nlt c55; have := i_rg j; have : (0 : Int32).toInt = 0 := rfl; have := i_eq ek56; have : (nI k56).toInt = ((k56 : Nat) : Int) := nI_toInt (by omega); have : (nI sz46).toInt = ((sz46 : Nat) : Int) := nI_toInt (by omega); omega) (by have := i_nlt c55; have := i_rg j; have : (0 : Int32).toInt = 0 := rfl; have := i_eq ek56; have : (nI k56).toInt = ((k56 : Nat) : Int) := nI_toInt (by omega); have : (nI sz46).toInt = ((sz46 : Nat) : Int) := nI_toInt (by omega); omega); omega)) ?_
                        refine r_iload rfl rfl ?_
                        refine WR_tI (y := nI k51) ek51 ?_
                        refine r_i2l rfl ?_
                        refine WR_tL (y := lN k51) (nI_l (by have := i_nlt c47; have := i_rg i; have : (0 : Int32).toInt = 0 := rfl; have := i_nlt c48; have := i_rg m; have := i_eq ek51; have : (nI k51).toInt = ((k51 : Nat) : Int) := nI_toInt (by omega); have := i_eq ek52; have : (nI k52).toInt = ((k52 : Nat) : Int) := nI_toInt (by omega); have := i_nlt c53; have : (nI sz7).toInt = ((sz7 : Nat) : Int) := nI_toInt (by omega); have := sub_t (x := nI sz7) (y := nI k52) (by have := i_nlt c47; have := i_rg i; have : (0 : Int32).toInt = 0 := rfl; have := i_eq ek52; have : (nI k52).toInt = ((k52 : Nat) : Int) := nI_toInt (by omega); have : (nI sz7).toInt = ((sz7 : Nat) : Int) := nI_toInt (by omega); omega) (by have := i_nlt c47; have := i_rg i; have : (0 : Int32).toInt = 0 := rfl; have := i_eq ek52; have : (nI k52).toInt = ((k52 : Nat) : Int) := nI_toInt (by omega); have : (nI sz7).toInt = ((sz7 : Nat) : Int) := nI_toInt (by omega); omega); have := i_nlt c55; have := i_rg j; have := i_eq ek56; have : (nI k56).toInt = ((k56 : Nat) : Int) := nI_toInt (by omega); have := i_lt c57; have : (nI sz46).toInt = ((sz46 : Nat) : Int) := nI_toInt (by omega); have := sub_t (x := nI sz46) (y := nI k56) (by have := i_nlt c55; have := i_rg j; have : (0 : Int32).toInt = 0 := rfl; have := i_eq ek56; have : (nI k56).toInt = ((k56 : Nat) : Int) := nI_toInt (by omega); have : (nI sz46).toInt = ((sz46 : Nat) : Int) := nI_toInt (by omega); omega) (by have := i_nlt c55; have := i_rg j; have : (0 : Int32).toInt = 0 := rfl; have := i_eq ek56; have : (nI k56).toInt = ((k56 : Nat) : Int) := nI_toInt (by omega); have : (nI sz46).toInt = ((sz46 : Nat) : Int) := nI_toInt (by omega); omega); omega)) ?_
                        refine r_ladd rfl ?_
                        refine WR_tL (y := lN (k51 + k56)) (Eq.trans (lN_add k56 k51) (congrArg lN (by omega))) ?_
                        refine r_aload rfl rfl ?_
                        refine r_getA (b := ad 35) rfl ⟨rfl, rfl, rfl⟩ (fx_t30 fx) (fx_r30_4 fx) ?_
                        refine r_iload rfl rfl ?_
                        refine r_iaload rfl (.inl (fx_t35 fx)) (vp_ct (fx_n35 fx) (vp_in_nI (by omega) (by omega))) ?_
                        refine WR_tI (congrArg (hI (sI (sI h (ad 0) 6 0) (ad 0) 6 (-12)) (ad 35)) ((nI_clamp (by omega)) : _ = t46)) ?_
                        refine WR_tI (y := nI sz46) (Eq.trans (I_ne (fx_ne fx (by decide))) (Eq.trans (I_ne (fx_ne fx (by decide))) sz_46)) ?_
                        refine r_i2l rfl ?_
                        refine WR_tL (y := lN sz46) (nI_l (by have := i_nlt c47; have := i_rg i; have : (0 : Int32).toInt = 0 := rfl; have := i_nlt c48; have := i_rg m; have := i_eq ek51; have : (nI k51).toInt = ((k51 : Nat) : Int) := nI_toInt (by omega); have := i_eq ek52; have : (nI k52).toInt = ((k52 : Nat) : Int) := nI_toInt (by omega); have := i_nlt c53; have : (nI sz7).toInt = ((sz7 : Nat) : Int) := nI_toInt (by omega); have := sub_t (x := nI sz7) (y := nI k52) (by have := i_nlt c47; have := i_rg i; have : (0 : Int32).toInt = 0 := rfl; have := i_eq ek52; have : (nI k52).toInt = ((k52 : Nat) : Int) := nI_toInt (by omega); have : (nI sz7).toInt = ((sz7 : Nat) : Int) := nI_toInt (by omega); omega) (by have := i_nlt c47; have := i_rg i; have : (0 : Int32).toInt = 0 := rfl; have := i_eq ek52; have : (nI k52).toInt = ((k52 : Nat) : Int) := nI_toInt (by omega); have : (nI sz7).toInt = ((sz7 : Nat) : Int) := nI_toInt (by omega); omega); have := i_nlt c55; have := i_rg j; have := i_eq ek56; have : (nI k56).toInt = ((k56 : Nat) : Int) := nI_toInt (by omega); have := i_lt c57; have : (nI sz46).toInt = ((sz46 : Nat) : Int) := nI_toInt (by omega); have := sub_t (x := nI sz46) (y := nI k56) (by have := i_nlt c55; have := i_rg j; have : (0 : Int32).toInt = 0 := rfl; have := i_eq ek56; have : (nI k56).toInt = ((k56 : Nat) : Int) := nI_toInt (by omega); have : (nI sz46).toInt = ((sz46 : Nat) : Int) := nI_toInt (by omega); omega) (by have := i_nlt c55; have := i_rg j; have : (0 : Int32).toInt = 0 := rfl; have := i_eq ek56; have : (nI k56).toInt = ((k56 : Nat) : Int) := nI_toInt (by omega); have : (nI sz46).toInt = ((sz46 : Nat) : Int) := nI_toInt (by omega); omega); omega)) ?_
                        refine r_lif_le (tg := 175) rfl rfl rfl (fun q => False.elim (by have := i_nlt c47; have := i_rg i; have : (0 : Int32).toInt = 0 := rfl; have := i_nlt c48; have := i_rg m; have := i_eq ek51; have : (nI k51).toInt = ((k51 : Nat) : Int) := nI_toInt (by omega); have := i_eq ek52; have : (nI k52).toInt = ((k52 : Nat) : Int) := nI_toInt (by omega); have := i_nlt c53; have : (nI sz7).toInt = ((sz7 : Nat) : Int) := nI_toInt (by omega); have := sub_t (x := nI sz7) (y := nI k52) (by have := i_nlt c47; have := i_rg i; have : (0 : Int32).toInt = 0 := rfl; have := i_eq ek52; have : (nI k52).toInt = ((k52 : Nat) : Int) := nI_toInt (by omega); have : (nI sz7).toInt = ((sz7 : Nat) : Int) := nI_toInt (by omega); omega) (by have := i_nlt c47; have := i_rg i; have : (0 : Int32).toInt = 0 := rfl; have := i_eq ek52; have : (nI k52).toInt = ((k52 : Nat) : Int) := nI_toInt (by omega); have : (nI sz7).toInt = ((sz7 : Nat) : Int) := nI_toInt (by omega); omega); have := i_nlt c55; have := i_rg j; have := i_eq ek56; have : (nI k56).toInt = ((k56 : Nat) : Int) := nI_toInt (by omega); have := i_lt c57; have : (nI sz46).toInt = ((sz46 : Nat) : Int) := nI_toInt (by omega); have := sub_t (x := nI sz46) (y := nI k56) (by have := i_nlt c55; have := i_rg j; have : (0 : Int32).toInt = 0 := rfl; have := i_eq ek56; have : (nI k56).toInt = ((k56 : Nat) : Int) := nI_toInt (by omega); have : (nI sz46).toInt = ((sz46 : Nat) : Int) := nI_toInt (by omega); omega) (by have := i_nlt c55; have := i_rg j; have : (0 : Int32).toInt = 0 := rfl; have := i_eq ek56; have : (nI k56).toInt = ((k56 : Nat) : Int) := nI_toInt (by omega); have : (nI sz46).toInt = ((sz46 : Nat) : Int) := nI_toInt (by omega); omega); have : (lN (k51 + k56)).toInt = ((k51 + k56 : Nat) : Int) := pk_lT (by omega); have : (lN sz46).toInt = ((sz46 : Nat) : Int) := lN_toInt (by omega); have := l_le q; omega)) (fun _ => ?_)
                        refine r_aload rfl rfl ?_
                        refine r_ic (x := 2) rfl rfl ?_
                        refine r_cv (y := 156) (ra := [.int 2]) (rest := []) rfl ⟨⟨rfl, rfl⟩, rfl, by decide⟩ (fx_t30 fx) rfl rfl (Nat.le_of_ble_eq_true rfl) ?_
                        refine in_156 (Nat.le_of_ble_eq_true rfl) ?_
                        show WR _ cd_156 0 [some (.ref (ad 30)), some (.int 2)] [] (sI (sI h (ad 0) 6 0) (ad 0) 6 (-12)) _
                        refine r_aload rfl rfl ?_
                        refine r_ic (x := (-10)) rfl rfl ?_
                        refine r_iload rfl rfl ?_
                        refine r_isub rfl ?_
                        refine WR_tI (y := (-12)) rfl ?_
                        refine r_cv (y := 154) (ra := [.int (-12)]) (rest := []) rfl ⟨⟨rfl, rfl⟩, rfl, by decide⟩ (fx_t30 fx) rfl rfl (Nat.le_of_ble_eq_true rfl) ?_
                        refine in_154 (Nat.le_of_ble_eq_true rfl) ?_
                        show WR _ cd_154 0 [some (.ref (ad 30)), some (.int (-12))] [] (sI (sI h (ad 0) 6 0) (ad 0) 6 (-12)) _
                        refine r_aload rfl rfl ?_
                        refine r_iload rfl rfl ?_
                        refine r_ic (x := (-1)) rfl rfl ?_
                        refine r_icmp_ge (tg := 10) rfl rfl (fun q => absurd q (by decide)) (fun _ => ?_)
                        refine r_iload rfl rfl ?_
                        refine r_goto (tg := 11) rfl rfl ?_
                        refine r_putI rfl ⟨rfl, rfl, rfl⟩ (fx_t30 fx) ?_
                        have fx : FX n ad sa z0 (sI (sI (sI h (ad 0) 6 0) (ad 0) 6 (-12)) (ad 30) 11 (-12)) := (FX.sI fx)
                        refine r_iload rfl rfl ?_
                        refine r_iret rfl ?_
                        show WR _ cd_156 8 [some (.ref (ad 30)), some (.int 2)] [.int (-12)] (sI (sI (sI h (ad 0) 6 0) (ad 0) 6 (-12)) (ad 30) 11 (-12)) _
                        refine r_iret rfl ?_
                        show WR _ cd_179 174 [some (.ref (ad 30)), some (.int c), some (.int i), some (.int d), some (.int j), some (.int m), some (.int (nI t7)), some (.int (nI t46)), none, none, none] [.int (-12)] (sI (sI (sI h (ad 0) 6 0) (ad 0) 6 (-12)) (ad 30) 11 (-12)) _
                        refine r_iret rfl ?_
                        exact ⟨rfl, Rel.why r (((Chg.rf.sI (fx_j fx) (.inl (by decide))).sI (fx_j fx) (.inl (by decide))).sI (fx_j fx) (.inl (by decide))) ⟨rfl, by decide⟩ (Eq.trans (Eq.trans (I_ne (fx_ne fx (by decide))) I_eq) (Eq.symm I_eq)), (by (try simp only [hZ_sI, hZ_sL, hZ_sD, hZ_sR]); omega), (by (try simp only [hU_sI, hU_sL, hU_sD, hU_sR]); omega)⟩
                      · refine r_ic (x := 1) rfl rfl ?_
                        refine r_goto (tg := 23) rfl rfl ?_
                        refine r_zret rfl (.inr rfl) ?_
                        show WR _ cd_51 96 [some (.ref (ad 0)), some (.int c), some (.int i), some (.int d), some (.int j), some (.int m), some (.ref (mid t7)), some (.ref (mid t46)), none] [.int 1] (sI h (ad 0) 6 0) _
                        refine r_if_ne (tg := 106) rfl rfl (fun _ => ?_) (fun q => absurd q (by decide))
                        have b0 : k2 < 24 := (by have := i_nlt c1; have := i_rg c; have : (0 : Int32).toInt = 0 := rfl; have := i_eq ek2; have : (nI k2).toInt = ((k2 : Nat) : Int) := nI_toInt (by omega); have := i_nle c3; have : (24 : Int32).toInt = 24 := rfl; omega)
                        have b1 : k5 < 24 := (by have := i_nlt c4; have := i_rg d; have : (0 : Int32).toInt = 0 := rfl; have := i_eq ek5; have : (nI k5).toInt = ((k5 : Nat) : Int) := nI_toInt (by omega); have := i_nle c6; have : (24 : Int32).toInt = 24 := rfl; omega)
                        have b2 : k52 + k51 ≤ sz7 := (by have := i_nlt c47; have := i_rg i; have : (0 : Int32).toInt = 0 := rfl; have := i_nlt c48; have := i_rg m; have := i_eq ek51; have : (nI k51).toInt = ((k51 : Nat) : Int) := nI_toInt (by omega); have := i_eq ek52; have : (nI k52).toInt = ((k52 : Nat) : Int) := nI_toInt (by omega); have := i_nlt c53; have : (nI sz7).toInt = ((sz7 : Nat) : Int) := nI_toInt (by omega); have := sub_t (x := nI sz7) (y := nI k52) (by have := i_nlt c47; have := i_rg i; have : (0 : Int32).toInt = 0 := rfl; have := i_eq ek52; have : (nI k52).toInt = ((k52 : Nat) : Int) := nI_toInt (by omega); have : (nI sz7).toInt = ((sz7 : Nat) : Int) := nI_toInt (by omega); omega) (by have := i_nlt c47; have := i_rg i; have : (0 : Int32).toInt = 0 := rfl; have := i_eq ek52; have : (nI k52).toInt = ((k52 : Nat) : Int) := nI_toInt (by omega); have : (nI sz7).toInt = ((sz7 : Nat) : Int) := nI_toInt (by omega); omega); have := i_nlt c55; have := i_rg j; have := i_eq ek56; have : (nI k56).toInt = ((k56 : Nat) : Int) := nI_toInt (by omega); have := i_nlt c57; have : (nI sz46).toInt = ((sz46 : Nat) : Int) := nI_toInt (by omega); have := sub_t (x := nI sz46) (y := nI k56) (by have := i_nlt c55; have := i_rg j; have : (0 : Int32).toInt = 0 := rfl; have := i_eq ek56; have : (nI k56).toInt = ((k56 : Nat) : Int) := nI_toInt (by omega); have : (nI sz46).toInt = ((sz46 : Nat) : Int) := nI_toInt (by omega); omega) (by have := i_nlt c55; have := i_rg j; have : (0 : Int32).toInt = 0 := rfl; have := i_eq ek56; have : (nI k56).toInt = ((k56 : Nat) : Int) := nI_toInt (by omega); have : (nI sz46).toInt = ((sz46 : Nat) : Int) := nI_toInt (by omega); omega); omega)
                        have b3 : k56 + k51 ≤ sz46 := (by have := i_nlt c47; have := i_rg i; have : (0 : Int32).toInt = 0 := rfl; have := i_nlt c48; have := i_rg m; have := i_eq ek51; have : (nI k51).toInt = ((k51 : Nat) : Int) := nI_toInt (by omega); have := i_eq ek52; have : (nI k52).toInt = ((k52 : Nat) : Int) := nI_toInt (by omega); have := i_nlt c53; have : (nI sz7).toInt = ((sz7 : Nat) : Int) := nI_toInt (by omega); have := sub_t (x := nI sz7) (y := nI k52) (by have := i_nlt c47; have := i_rg i; have : (0 : Int32).toInt = 0 := rfl; have := i_eq ek52; have : (nI k52).toInt = ((k52 : Nat) : Int) := nI_toInt (by omega); have : (nI sz7).toInt = ((sz7 : Nat) : Int) := nI_toInt (by omega); omega) (by have := i_nlt c47; have := i_rg i; have : (0 : Int32).toInt = 0 := rfl; have := i_eq ek52; have : (nI k52).toInt = ((k52 : Nat) : Int) := nI_toInt (by omega); have : (nI sz7).toInt = ((sz7 : Nat) : Int) := nI_toInt (by omega); omega); have := i_nlt c55; have := i_rg j; have := i_eq ek56; have : (nI k56).toInt = ((k56 : Nat) : Int) := nI_toInt (by omega); have := i_nlt c57; have : (nI sz46).toInt = ((sz46 : Nat) : Int) := nI_toInt (by omega); have := sub_t (x := nI sz46) (y := nI k56) (by have := i_nlt c55; have := i_rg j; have : (0 : Int32).toInt = 0 := rfl; have := i_eq ek56; have : (nI k56).toInt = ((k56 : Nat) : Int) := nI_toInt (by omega); have : (nI sz46).toInt = ((sz46 : Nat) : Int) := nI_toInt (by omega); omega) (by have := i_nlt c55; have := i_rg j; have : (0 : Int32).toInt = 0 := rfl; have := i_eq ek56; have : (nI k56).toInt = ((k56 : Nat) : Int) := nI_toInt (by omega); have : (nI sz46).toInt = ((sz46 : Nat) : Int) := nI_toInt (by omega); omega); omega)
                        subst ek2; subst ek52; subst ek5; subst ek56; subst ek51
                        exact t_cCG fx0 rt ra rp rf rst ru rs b0 b1 ht7 ht46 v7 v46 rw7 hk_7 k2_7 rw46 sz_7 sz_46 b2 b3 hs_7 hs_46
            · refine r_aaloadA (b := mid t46) rfl (isQ_of (fx_t1 fx) (by decide)) (vp_ct (fx_n1 fx) (vp_in_nI (by have := i_nlt c4; have := i_rg d; have : (0 : Int32).toInt = 0 := rfl; have := i_eq ek5; have : (nI k5).toInt = ((k5 : Nat) : Int) := nI_toInt (by omega); have := i_nle c6; have : (24 : Int32).toInt = 24 := rfl; omega) (by omega))) (Eq.trans (congrArg (hR (sI h (ad 0) 6 0) (ad 1)) ((nI_clamp (by have := i_nlt c4; have := i_rg d; have : (0 : Int32).toInt = 0 := rfl; have := i_eq ek5; have : (nI k5).toInt = ((k5 : Nat) : Int) := nI_toInt (by omega); have := i_nle c6; have : (24 : Int32).toInt = 24 := rfl; omega)) : _ = k5)) (Eq.trans R_oI w46)) ?_
              refine r_astore (lv' := [some (.ref (ad 0)), some (.int c), some (.int i), some (.int d), some (.int j), some (.int m), some (.ref (mid t7)), some (.ref (mid t46)), none]) rfl (Nat.le_of_ble_eq_true rfl) rfl ?_
              refine r_aload rfl rfl ?_
              refine r_ifnullA (tg := 52) rfl rfl ?_
              refine r_aload rfl rfl ?_
              refine r_ifnonnullA (tg := 59) rfl rfl ?_
              refine r_aload rfl rfl ?_
              refine r_aload rfl rfl ?_
              refine r_cw (y := 54) (ra := [.ref (mid t46)]) (rest := []) rfl ⟨rfl, rfl⟩ (by rw [show hT (sI h (ad 0) 6 0) (mid t7) = 6 from tg7]; rfl) rfl rfl (Nat.le_of_ble_eq_true rfl) ?_
              refine in_54 (Nat.le_of_ble_eq_true rfl) ?_
              show WR _ cd_54 0 [some (.ref (mid t7)), some (.ref (mid t46))] [] (sI h (ad 0) 6 0) _
              refine r_aload rfl rfl ?_
              refine r_instY rfl (by decide) tg46 ?_
              refine r_zret rfl (.inr rfl) ?_
              show WR _ cd_51 66 [some (.ref (ad 0)), some (.int c), some (.int i), some (.int d), some (.int j), some (.int m), some (.ref (mid t7)), some (.ref (mid t46)), none] [.int 1] (sI h (ad 0) 6 0) _
              refine r_if_ne (tg := 76) rfl rfl (fun _ => ?_) (fun q => absurd q (by decide))
              refine r_aload rfl rfl ?_
              refine r_iload rfl rfl ?_
              refine r_iload rfl rfl ?_
              refine r_cw (y := 32) (ra := [.int m, .int i]) (rest := []) rfl ⟨rfl, rfl⟩ (by rw [show hT (sI h (ad 0) 6 0) (mid t7) = 6 from tg7]; rfl) rfl rfl (Nat.le_of_ble_eq_true rfl) ?_
              refine in_32 (Nat.le_of_ble_eq_true rfl) ?_
              show WR _ cd_32 0 [some (.ref (mid t7)), some (.int i), some (.int m)] [] (sI h (ad 0) 6 0) _
              refine r_iload rfl rfl ?_
              refine r_if_lt (tg := 22) rfl rfl (fun c58 => ?_) (fun c58 => ?_)
              · refine r_ic (x := 0) rfl rfl ?_
                refine r_zret rfl (.inl rfl) ?_
                show WR _ cd_51 84 [some (.ref (ad 0)), some (.int c), some (.int i), some (.int d), some (.int j), some (.int m), some (.ref (mid t7)), some (.ref (mid t46)), none] [.int 0] (sI h (ad 0) 6 0) _
                refine r_if_eq (tg := 99) rfl rfl (fun _ => ?_) (fun q => absurd q (by decide))
                refine r_aload rfl rfl ?_
                refine r_ic (x := (-12)) rfl rfl ?_
                refine r_cv (y := 13) (ra := [.int (-12)]) (rest := []) rfl ⟨⟨rfl, rfl⟩, rfl, by decide⟩ (fx_t0 fx) rfl rfl (Nat.le_of_ble_eq_true rfl) ?_
                refine in_13 (Nat.le_of_ble_eq_true rfl) ?_
                show WR _ cd_13 0 [some (.ref (ad 0)), some (.int (-12))] [] (sI h (ad 0) 6 0) _
                refine r_aload rfl rfl ?_
                refine r_iload rfl rfl ?_
                refine r_putI rfl ⟨rfl, rfl, rfl⟩ (fx_t0 fx) ?_
                have fx : FX n ad sa z0 (sI (sI h (ad 0) 6 0) (ad 0) 6 (-12)) := (FX.sI fx)
                refine r_iload rfl rfl ?_
                refine r_iret rfl ?_
                show WR _ cd_51 105 [some (.ref (ad 0)), some (.int c), some (.int i), some (.int d), some (.int j), some (.int m), some (.ref (mid t7)), some (.ref (mid t46)), none] [.int (-12)] (sI (sI h (ad 0) 6 0) (ad 0) 6 (-12)) _
                refine r_iret rfl ?_
                show EV _ 179 [.ref (ad 30), .int c, .int i, .int d, .int j, .int m] (sI (sI h (ad 0) 6 0) (ad 0) 6 (-12)) _
                refine in_179 (Nat.le_of_ble_eq_true rfl) ?_
                show WR _ cd_179 0 [some (.ref (ad 30)), some (.int c), some (.int i), some (.int d), some (.int j), some (.int m), none, none, none, none, none] [] (sI (sI h (ad 0) 6 0) (ad 0) 6 (-12)) _
                refine r_iload rfl rfl ?_
                refine WR_tI (y := nI k2) ek2 ?_
                refine r_cs (y := 153) (ra := [.int (nI k2)]) (rest := []) rfl ⟨⟨rfl, rfl⟩, by decide⟩ rfl rfl (Nat.le_of_ble_eq_true rfl) ?_
                refine in_153 (Nat.le_of_ble_eq_true rfl) ?_
                show WR _ cd_153 0 [some (.int (nI k2))] [] (sI (sI h (ad 0) 6 0) (ad 0) 6 (-12)) _
                refine r_iload rfl rfl ?_
                refine r_if_lt (tg := 14) rfl rfl (fun q => False.elim (by have := i_nlt c1; have := i_rg c; have : (0 : Int32).toInt = 0 := rfl; have := i_eq ek2; have : (nI k2).toInt = ((k2 : Nat) : Int) := nI_toInt (by omega); have := i_nle c3; have : (24 : Int32).toInt = 24 := rfl; have := i_lt q; omega)) (fun _ => ?_)
                refine r_iload rfl rfl ?_
                refine r_ic (x := 24) rfl rfl ?_
                refine r_icmp_ge (tg := 14) rfl rfl (fun q => False.elim (by have := i_nlt c1; have := i_rg c; have : (0 : Int32).toInt = 0 := rfl; have := i_eq ek2; have : (nI k2).toInt = ((k2 : Nat) : Int) := nI_toInt (by omega); have := i_nle c3; have : (24 : Int32).toInt = 24 := rfl; have := i_le q; omega)) (fun _ => ?_)
                refine r_ic (x := 1) rfl rfl ?_
                refine r_goto (tg := 15) rfl rfl ?_
                refine r_zret rfl (.inr rfl) ?_
                show WR _ cd_179 4 [some (.ref (ad 30)), some (.int c), some (.int i), some (.int d), some (.int j), some (.int m), none, none, none, none, none] [.int 1] (sI (sI h (ad 0) 6 0) (ad 0) 6 (-12)) _
                refine r_if_eq (tg := 14) rfl rfl (fun q => absurd q (by decide)) (fun _ => ?_)
                refine r_iload rfl rfl ?_
                refine WR_tI (y := nI k5) ek5 ?_
                refine r_cs (y := 153) (ra := [.int (nI k5)]) (rest := []) rfl ⟨⟨rfl, rfl⟩, by decide⟩ rfl rfl (Nat.le_of_ble_eq_true rfl) ?_
                refine in_153 (Nat.le_of_ble_eq_true rfl) ?_
                show WR _ cd_153 0 [some (.int (nI k5))] [] (sI (sI h (ad 0) 6 0) (ad 0) 6 (-12)) _
                refine r_iload rfl rfl ?_
                refine r_if_lt (tg := 14) rfl rfl (fun q => False.elim (by have := i_nlt c4; have := i_rg d; have : (0 : Int32).toInt = 0 := rfl; have := i_eq ek5; have : (nI k5).toInt = ((k5 : Nat) : Int) := nI_toInt (by omega); have := i_nle c6; have : (24 : Int32).toInt = 24 := rfl; have := i_lt q; omega)) (fun _ => ?_)
                refine r_iload rfl rfl ?_
                refine r_ic (x := 24) rfl rfl ?_
                refine r_icmp_ge (tg := 14) rfl rfl (fun q => False.elim (by have := i_nlt c4; have := i_rg d; have : (0 : Int32).toInt = 0 := rfl; have := i_eq ek5; have : (nI k5).toInt = ((k5 : Nat) : Int) := nI_toInt (by omega); have := i_nle c6; have : (24 : Int32).toInt = 24 := rfl; have := i_le q; omega)) (fun _ => ?_)
                refine r_ic (x := 1) rfl rfl ?_
                refine r_goto (tg := 15) rfl rfl ?_
                refine r_zret rfl (.inr rfl) ?_
                show WR _ cd_179 11 [some (.ref (ad 30)), some (.int c), some (.int i), some (.int d), some (.int j), some (.int m), none, none, none, none, none] [.int 1] (sI (sI h (ad 0) 6 0) (ad 0) 6 (-12)) _
                refine r_if_ne (tg := 21) rfl rfl (fun _ => ?_) (fun q => absurd q (by decide))
                refine r_aload rfl rfl ?_
                refine r_getA (b := ad 31) rfl ⟨rfl, rfl, rfl⟩ (fx_t30 fx) (fx_r30_0 fx) ?_
                refine r_iload rfl rfl ?_
                refine WR_tI (y := nI k2) ek2 ?_
                refine r_iaload rfl (.inl (fx_t31 fx)) (vp_ct (fx_n31 fx) (vp_in_nI (by have := i_nlt c1; have := i_rg c; have : (0 : Int32).toInt = 0 := rfl; have := i_eq ek2; have : (nI k2).toInt = ((k2 : Nat) : Int) := nI_toInt (by omega); have := i_nle c3; have : (24 : Int32).toInt = 24 := rfl; omega) (by omega))) ?_
                refine WR_tI (congrArg (hI (sI (sI h (ad 0) 6 0) (ad 0) 6 (-12)) (ad 31)) ((nI_clamp (by have := i_nlt c1; have := i_rg c; have : (0 : Int32).toInt = 0 := rfl; have := i_eq ek2; have : (nI k2).toInt = ((k2 : Nat) : Int) := nI_toInt (by omega); have := i_nle c3; have : (24 : Int32).toInt = 24 := rfl; omega)) : _ = k2)) ?_
                refine WR_tI (y := nI t7) (Eq.trans (I_ne (fx_ne fx (by decide))) (Eq.trans (I_ne (fx_ne fx (by decide))) v7)) ?_
                refine r_istore (lv' := [some (.ref (ad 30)), some (.int c), some (.int i), some (.int d), some (.int j), some (.int m), some (.int (nI t7)), none, none, none, none]) rfl (Nat.le_of_ble_eq_true rfl) rfl ?_
                refine r_aload rfl rfl ?_
                refine r_getA (b := ad 31) rfl ⟨rfl, rfl, rfl⟩ (fx_t30 fx) (fx_r30_0 fx) ?_
                refine r_iload rfl rfl ?_
                refine WR_tI (y := nI k5) ek5 ?_
                refine r_iaload rfl (.inl (fx_t31 fx)) (vp_ct (fx_n31 fx) (vp_in_nI (by have := i_nlt c4; have := i_rg d; have : (0 : Int32).toInt = 0 := rfl; have := i_eq ek5; have : (nI k5).toInt = ((k5 : Nat) : Int) := nI_toInt (by omega); have := i_nle c6; have : (24 : Int32).toInt = 24 := rfl; omega) (by omega))) ?_
                refine WR_tI (congrArg (hI (sI (sI h (ad 0) 6 0) (ad 0) 6 (-12)) (ad 31)) ((nI_clamp (by have := i_nlt c4; have := i_rg d; have : (0 : Int32).toInt = 0 := rfl; have := i_eq ek5; have : (nI k5).toInt = ((k5 : Nat) : Int) := nI_toInt (by omega); have := i_nle c6; have : (24 : Int32).toInt = 24 := rfl; omega)) : _ = k5)) ?_
                refine WR_tI (y := nI t46) (Eq.trans (I_ne (fx_ne fx (by decide))) (Eq.trans (I_ne (fx_ne fx (by decide))) v46)) ?_
                refine r_istore (lv' := [some (.ref (ad 30)), some (.int c), some (.int i), some (.int d), some (.int j), some (.int m), some (.int (nI t7)), some (.int (nI t46)), none, none, none]) rfl (Nat.le_of_ble_eq_true rfl) rfl ?_
                refine r_iload rfl rfl ?_
                refine r_ic (x := (-1)) rfl rfl ?_
                refine r_icmp_eq (tg := 49) rfl rfl (fun q => False.elim (by have : (nI t7).toInt = ((t7 : Nat) : Int) := nI_toInt (by omega); have : (-1 : Int32).toInt = -1 := rfl; have := i_eq q; omega)) (fun _ => ?_)
                refine r_iload rfl rfl ?_
                refine r_ic (x := (-1)) rfl rfl ?_
                refine r_icmp_ne (tg := 55) rfl rfl (fun _ => ?_) (fun q => False.elim (by have : (nI t46).toInt = ((t46 : Nat) : Int) := nI_toInt (by omega); have : (-1 : Int32).toInt = -1 := rfl; have := i_eq q; omega))
                refine r_iload rfl rfl ?_
                refine r_ic (x := 1000) rfl rfl ?_
                refine r_icmp_ge (tg := 112) rfl rfl (fun q => False.elim (by have : (nI t7).toInt = ((t7 : Nat) : Int) := nI_toInt (by omega); have : (1000 : Int32).toInt = 1000 := rfl; have := i_le q; omega)) (fun _ => ?_)
                refine r_iload rfl rfl ?_
                refine r_ic (x := 1000) rfl rfl ?_
                refine r_icmp_ge (tg := 112) rfl rfl (fun q => False.elim (by have : (nI t46).toInt = ((t46 : Nat) : Int) := nI_toInt (by omega); have : (1000 : Int32).toInt = 1000 := rfl; have := i_le q; omega)) (fun _ => ?_)
                refine r_aload rfl rfl ?_
                refine r_getA (b := ad 33) rfl ⟨rfl, rfl, rfl⟩ (fx_t30 fx) (fx_r30_2 fx) ?_
                refine r_iload rfl rfl ?_
                refine r_iaload rfl (.inl (fx_t33 fx)) (vp_ct (fx_n33 fx) (vp_in_nI (by omega) (by omega))) ?_
                refine WR_tI (congrArg (hI (sI (sI h (ad 0) 6 0) (ad 0) 6 (-12)) (ad 33)) ((nI_clamp (by omega)) : _ = t7)) ?_
                refine WR_tI (y := 9) (Eq.trans (I_ne (fx_ne fx (by decide))) (Eq.trans (I_ne (fx_ne fx (by decide))) l2_7)) ?_
                refine r_aload rfl rfl ?_
                refine r_getA (b := ad 33) rfl ⟨rfl, rfl, rfl⟩ (fx_t30 fx) (fx_r30_2 fx) ?_
                refine r_iload rfl rfl ?_
                refine r_iaload rfl (.inl (fx_t33 fx)) (vp_ct (fx_n33 fx) (vp_in_nI (by omega) (by omega))) ?_
                refine WR_tI (congrArg (hI (sI (sI h (ad 0) 6 0) (ad 0) 6 (-12)) (ad 33)) ((nI_clamp (by omega)) : _ = t46)) ?_
                refine WR_tI (y := 9) (Eq.trans (I_ne (fx_ne fx (by decide))) (Eq.trans (I_ne (fx_ne fx (by decide))) l2_46)) ?_
                refine r_icmp_eq (tg := 118) rfl rfl (fun _ => ?_) (fun q => absurd q (by decide))
                refine r_iload rfl rfl ?_
                refine r_if_lt (tg := 169) rfl rfl (fun _ => ?_) (fun q => False.elim (by have := i_lt c58; have := i_rg i; have : (0 : Int32).toInt = 0 := rfl; have := i_nlt q; omega))
                refine r_aload rfl rfl ?_
                refine r_ic (x := 2) rfl rfl ?_
                refine r_cv (y := 156) (ra := [.int 2]) (rest := []) rfl ⟨⟨rfl, rfl⟩, rfl, by decide⟩ (fx_t30 fx) rfl rfl (Nat.le_of_ble_eq_true rfl) ?_
                refine in_156 (Nat.le_of_ble_eq_true rfl) ?_
                show WR _ cd_156 0 [some (.ref (ad 30)), some (.int 2)] [] (sI (sI h (ad 0) 6 0) (ad 0) 6 (-12)) _
                refine r_aload rfl rfl ?_
                refine r_ic (x := (-10)) rfl rfl ?_
                refine r_iload rfl rfl ?_
                refine r_isub rfl ?_
                refine WR_tI (y := (-12)) rfl ?_
                refine r_cv (y := 154) (ra := [.int (-12)]) (rest := []) rfl ⟨⟨rfl, rfl⟩, rfl, by decide⟩ (fx_t30 fx) rfl rfl (Nat.le_of_ble_eq_true rfl) ?_
                refine in_154 (Nat.le_of_ble_eq_true rfl) ?_
                show WR _ cd_154 0 [some (.ref (ad 30)), some (.int (-12))] [] (sI (sI h (ad 0) 6 0) (ad 0) 6 (-12)) _
                refine r_aload rfl rfl ?_
                refine r_iload rfl rfl ?_
                refine r_ic (x := (-1)) rfl rfl ?_
                refine r_icmp_ge (tg := 10) rfl rfl (fun q => absurd q (by decide)) (fun _ => ?_)
                refine r_iload rfl rfl ?_
                refine r_goto (tg := 11) rfl rfl ?_
                refine r_putI rfl ⟨rfl, rfl, rfl⟩ (fx_t30 fx) ?_
                have fx : FX n ad sa z0 (sI (sI (sI h (ad 0) 6 0) (ad 0) 6 (-12)) (ad 30) 11 (-12)) := (FX.sI fx)
                refine r_iload rfl rfl ?_
                refine r_iret rfl ?_
                show WR _ cd_156 8 [some (.ref (ad 30)), some (.int 2)] [.int (-12)] (sI (sI (sI h (ad 0) 6 0) (ad 0) 6 (-12)) (ad 30) 11 (-12)) _
                refine r_iret rfl ?_
                show WR _ cd_179 174 [some (.ref (ad 30)), some (.int c), some (.int i), some (.int d), some (.int j), some (.int m), some (.int (nI t7)), some (.int (nI t46)), none, none, none] [.int (-12)] (sI (sI (sI h (ad 0) 6 0) (ad 0) 6 (-12)) (ad 30) 11 (-12)) _
                refine r_iret rfl ?_
                exact ⟨rfl, Rel.why r (((Chg.rf.sI (fx_j fx) (.inl (by decide))).sI (fx_j fx) (.inl (by decide))).sI (fx_j fx) (.inl (by decide))) ⟨rfl, by decide⟩ (Eq.trans (Eq.trans (I_ne (fx_ne fx (by decide))) I_eq) (Eq.symm I_eq)), (by (try simp only [hZ_sI, hZ_sL, hZ_sD, hZ_sR]); omega), (by (try simp only [hU_sI, hU_sL, hU_sD, hU_sR]); omega)⟩
              · refine r_iload rfl rfl ?_
                refine r_if_lt (tg := 22) rfl rfl (fun c59 => ?_) (fun c59 => ?_)
                · refine r_ic (x := 0) rfl rfl ?_
                  refine r_zret rfl (.inl rfl) ?_
                  show WR _ cd_51 84 [some (.ref (ad 0)), some (.int c), some (.int i), some (.int d), some (.int j), some (.int m), some (.ref (mid t7)), some (.ref (mid t46)), none] [.int 0] (sI h (ad 0) 6 0) _
                  refine r_if_eq (tg := 99) rfl rfl (fun _ => ?_) (fun q => absurd q (by decide))
                  refine r_aload rfl rfl ?_
                  refine r_ic (x := (-12)) rfl rfl ?_
                  refine r_cv (y := 13) (ra := [.int (-12)]) (rest := []) rfl ⟨⟨rfl, rfl⟩, rfl, by decide⟩ (fx_t0 fx) rfl rfl (Nat.le_of_ble_eq_true rfl) ?_
                  refine in_13 (Nat.le_of_ble_eq_true rfl) ?_
                  show WR _ cd_13 0 [some (.ref (ad 0)), some (.int (-12))] [] (sI h (ad 0) 6 0) _
                  refine r_aload rfl rfl ?_
                  refine r_iload rfl rfl ?_
                  refine r_putI rfl ⟨rfl, rfl, rfl⟩ (fx_t0 fx) ?_
                  have fx : FX n ad sa z0 (sI (sI h (ad 0) 6 0) (ad 0) 6 (-12)) := (FX.sI fx)
                  refine r_iload rfl rfl ?_
                  refine r_iret rfl ?_
                  show WR _ cd_51 105 [some (.ref (ad 0)), some (.int c), some (.int i), some (.int d), some (.int j), some (.int m), some (.ref (mid t7)), some (.ref (mid t46)), none] [.int (-12)] (sI (sI h (ad 0) 6 0) (ad 0) 6 (-12)) _
                  refine r_iret rfl ?_
                  show EV _ 179 [.ref (ad 30), .int c, .int i, .int d, .int j, .int m] (sI (sI h (ad 0) 6 0) (ad 0) 6 (-12)) _
                  refine in_179 (Nat.le_of_ble_eq_true rfl) ?_
                  show WR _ cd_179 0 [some (.ref (ad 30)), some (.int c), some (.int i), some (.int d), some (.int j), some (.int m), none, none, none, none, none] [] (sI (sI h (ad 0) 6 0) (ad 0) 6 (-12)) _
                  refine r_iload rfl rfl ?_
                  refine WR_tI (y := nI k2) ek2 ?_
                  refine r_cs (y := 153) (ra := [.int (nI k2)]) (rest := []) rfl ⟨⟨rfl, rfl⟩, by decide⟩ rfl rfl (Nat.le_of_ble_eq_true rfl) ?_
                  refine in_153 (Nat.le_of_ble_eq_true rfl) ?_
                  show WR _ cd_153 0 [some (.int (nI k2))] [] (sI (sI h (ad 0) 6 0) (ad 0) 6 (-12)) _
                  refine r_iload rfl rfl ?_
                  refine r_if_lt (tg := 14) rfl rfl (fun q => False.elim (by have := i_nlt c1; have := i_rg c; have : (0 : Int32).toInt = 0 := rfl; have := i_eq ek2; have : (nI k2).toInt = ((k2 : Nat) : Int) := nI_toInt (by omega); have := i_nle c3; have : (24 : Int32).toInt = 24 := rfl; have := i_lt q; omega)) (fun _ => ?_)
                  refine r_iload rfl rfl ?_
                  refine r_ic (x := 24) rfl rfl ?_
                  refine r_icmp_ge (tg := 14) rfl rfl (fun q => False.elim (by have := i_nlt c1; have := i_rg c; have : (0 : Int32).toInt = 0 := rfl; have := i_eq ek2; have : (nI k2).toInt = ((k2 : Nat) : Int) := nI_toInt (by omega); have := i_nle c3; have : (24 : Int32).toInt = 24 := rfl; have := i_le q; omega)) (fun _ => ?_)
                  refine r_ic (x := 1) rfl rfl ?_
                  refine r_goto (tg := 15) rfl rfl ?_
                  refine r_zret rfl (.inr rfl) ?_
                  show WR _ cd_179 4 [some (.ref (ad 30)), some (.int c), some (.int i), some (.int d), some (.int j), some (.int m), none, none, none, none, none] [.int 1] (sI (sI h (ad 0) 6 0) (ad 0) 6 (-12)) _
                  refine r_if_eq (tg := 14) rfl rfl (fun q => absurd q (by decide)) (fun _ => ?_)
                  refine r_iload rfl rfl ?_
                  refine WR_tI (y := nI k5) ek5 ?_
                  refine r_cs (y := 153) (ra := [.int (nI k5)]) (rest := []) rfl ⟨⟨rfl, rfl⟩, by decide⟩ rfl rfl (Nat.le_of_ble_eq_true rfl) ?_
                  refine in_153 (Nat.le_of_ble_eq_true rfl) ?_
                  show WR _ cd_153 0 [some (.int (nI k5))] [] (sI (sI h (ad 0) 6 0) (ad 0) 6 (-12)) _
                  refine r_iload rfl rfl ?_
                  refine r_if_lt (tg := 14) rfl rfl (fun q => False.elim (by have := i_nlt c4; have := i_rg d; have : (0 : Int32).toInt = 0 := rfl; have := i_eq ek5; have : (nI k5).toInt = ((k5 : Nat) : Int) := nI_toInt (by omega); have := i_nle c6; have : (24 : Int32).toInt = 24 := rfl; have := i_lt q; omega)) (fun _ => ?_)
                  refine r_iload rfl rfl ?_
                  refine r_ic (x := 24) rfl rfl ?_
                  refine r_icmp_ge (tg := 14) rfl rfl (fun q => False.elim (by have := i_nlt c4; have := i_rg d; have : (0 : Int32).toInt = 0 := rfl; have := i_eq ek5; have : (nI k5).toInt = ((k5 : Nat) : Int) := nI_toInt (by omega); have := i_nle c6; have : (24 : Int32).toInt = 24 := rfl; have := i_le q; omega)) (fun _ => ?_)
                  refine r_ic (x := 1) rfl rfl ?_
                  refine r_goto (tg := 15) rfl rfl ?_
                  refine r_zret rfl (.inr rfl) ?_
                  show WR _ cd_179 11 [some (.ref (ad 30)), some (.int c), some (.int i), some (.int d), some (.int j), some (.int m), none, none, none, none, none] [.int 1] (sI (sI h (ad 0) 6 0) (ad 0) 6 (-12)) _
                  refine r_if_ne (tg := 21) rfl rfl (fun _ => ?_) (fun q => absurd q (by decide))
                  refine r_aload rfl rfl ?_
                  refine r_getA (b := ad 31) rfl ⟨rfl, rfl, rfl⟩ (fx_t30 fx) (fx_r30_0 fx) ?_
                  refine r_iload rfl rfl ?_
                  refine WR_tI (y := nI k2) ek2 ?_
                  refine r_iaload rfl (.inl (fx_t31 fx)) (vp_ct (fx_n31 fx) (vp_in_nI (by have := i_nlt c1; have := i_rg c; have : (0 : Int32).toInt = 0 := rfl; have := i_eq ek2; have : (nI k2).toInt = ((k2 : Nat) : Int) := nI_toInt (by omega); have := i_nle c3; have : (24 : Int32).toInt = 24 := rfl; omega) (by omega))) ?_
                  refine WR_tI (congrArg (hI (sI (sI h (ad 0) 6 0) (ad 0) 6 (-12)) (ad 31)) ((nI_clamp (by have := i_nlt c1; have := i_rg c; have : (0 : Int32).toInt = 0 := rfl; have := i_eq ek2; have : (nI k2).toInt = ((k2 : Nat) : Int) := nI_toInt (by omega); have := i_nle c3; have : (24 : Int32).toInt = 24 := rfl; omega)) : _ = k2)) ?_
                  refine WR_tI (y := nI t7) (Eq.trans (I_ne (fx_ne fx (by decide))) (Eq.trans (I_ne (fx_ne fx (by decide))) v7)) ?_
                  refine r_istore (lv' := [some (.ref (ad 30)), some (.int c), some (.int i), some (.int d), some (.int j), some (.int m), some (.int (nI t7)), none, none, none, none]) rfl (Nat.le_of_ble_eq_true rfl) rfl ?_
                  refine r_aload rfl rfl ?_
                  refine r_getA (b := ad 31) rfl ⟨rfl, rfl, rfl⟩ (fx_t30 fx) (fx_r30_0 fx) ?_
                  refine r_iload rfl rfl ?_
                  refine WR_tI (y := nI k5) ek5 ?_
                  refine r_iaload rfl (.inl (fx_t31 fx)) (vp_ct (fx_n31 fx) (vp_in_nI (by have := i_nlt c4; have := i_rg d; have : (0 : Int32).toInt = 0 := rfl; have := i_eq ek5; have : (nI k5).toInt = ((k5 : Nat) : Int) := nI_toInt (by omega); have := i_nle c6; have : (24 : Int32).toInt = 24 := rfl; omega) (by omega))) ?_
                  refine WR_tI (congrArg (hI (sI (sI h (ad 0) 6 0) (ad 0) 6 (-12)) (ad 31)) ((nI_clamp (by have := i_nlt c4; have := i_rg d; have : (0 : Int32).toInt = 0 := rfl; have := i_eq ek5; have : (nI k5).toInt = ((k5 : Nat) : Int) := nI_toInt (by omega); have := i_nle c6; have : (24 : Int32).toInt = 24 := rfl; omega)) : _ = k5)) ?_
                  refine WR_tI (y := nI t46) (Eq.trans (I_ne (fx_ne fx (by decide))) (Eq.trans (I_ne (fx_ne fx (by decide))) v46)) ?_
                  refine r_istore (lv' := [some (.ref (ad 30)), some (.int c), some (.int i), some (.int d), some (.int j), some (.int m), some (.int (nI t7)), some (.int (nI t46)), none, none, none]) rfl (Nat.le_of_ble_eq_true rfl) rfl ?_
                  refine r_iload rfl rfl ?_
                  refine r_ic (x := (-1)) rfl rfl ?_
                  refine r_icmp_eq (tg := 49) rfl rfl (fun q => False.elim (by have : (nI t7).toInt = ((t7 : Nat) : Int) := nI_toInt (by omega); have : (-1 : Int32).toInt = -1 := rfl; have := i_eq q; omega)) (fun _ => ?_)
                  refine r_iload rfl rfl ?_
                  refine r_ic (x := (-1)) rfl rfl ?_
                  refine r_icmp_ne (tg := 55) rfl rfl (fun _ => ?_) (fun q => False.elim (by have : (nI t46).toInt = ((t46 : Nat) : Int) := nI_toInt (by omega); have : (-1 : Int32).toInt = -1 := rfl; have := i_eq q; omega))
                  refine r_iload rfl rfl ?_
                  refine r_ic (x := 1000) rfl rfl ?_
                  refine r_icmp_ge (tg := 112) rfl rfl (fun q => False.elim (by have : (nI t7).toInt = ((t7 : Nat) : Int) := nI_toInt (by omega); have : (1000 : Int32).toInt = 1000 := rfl; have := i_le q; omega)) (fun _ => ?_)
                  refine r_iload rfl rfl ?_
                  refine r_ic (x := 1000) rfl rfl ?_
                  refine r_icmp_ge (tg := 112) rfl rfl (fun q => False.elim (by have : (nI t46).toInt = ((t46 : Nat) : Int) := nI_toInt (by omega); have : (1000 : Int32).toInt = 1000 := rfl; have := i_le q; omega)) (fun _ => ?_)
                  refine r_aload rfl rfl ?_
                  refine r_getA (b := ad 33) rfl ⟨rfl, rfl, rfl⟩ (fx_t30 fx) (fx_r30_2 fx) ?_
                  refine r_iload rfl rfl ?_
                  refine r_iaload rfl (.inl (fx_t33 fx)) (vp_ct (fx_n33 fx) (vp_in_nI (by omega) (by omega))) ?_
                  refine WR_tI (congrArg (hI (sI (sI h (ad 0) 6 0) (ad 0) 6 (-12)) (ad 33)) ((nI_clamp (by omega)) : _ = t7)) ?_
                  refine WR_tI (y := 9) (Eq.trans (I_ne (fx_ne fx (by decide))) (Eq.trans (I_ne (fx_ne fx (by decide))) l2_7)) ?_
                  refine r_aload rfl rfl ?_
                  refine r_getA (b := ad 33) rfl ⟨rfl, rfl, rfl⟩ (fx_t30 fx) (fx_r30_2 fx) ?_
                  refine r_iload rfl rfl ?_
                  refine r_iaload rfl (.inl (fx_t33 fx)) (vp_ct (fx_n33 fx) (vp_in_nI (by omega) (by omega))) ?_
                  refine WR_tI (congrArg (hI (sI (sI h (ad 0) 6 0) (ad 0) 6 (-12)) (ad 33)) ((nI_clamp (by omega)) : _ = t46)) ?_
                  refine WR_tI (y := 9) (Eq.trans (I_ne (fx_ne fx (by decide))) (Eq.trans (I_ne (fx_ne fx (by decide))) l2_46)) ?_
                  refine r_icmp_eq (tg := 118) rfl rfl (fun _ => ?_) (fun q => absurd q (by decide))
                  obtain ⟨k60, hk60, ek60⟩ := ix_of (x := i) (n := 2147483648) (by have := i_nlt c58; have := i_rg i; have : (0 : Int32).toInt = 0 := rfl; omega) (by have := i_nlt c58; have := i_rg i; have : (0 : Int32).toInt = 0 := rfl; omega)
                  refine r_iload rfl rfl ?_
                  refine WR_tI (y := nI k60) ek60 ?_
                  refine r_if_lt (tg := 169) rfl rfl (fun q => False.elim (by have := i_nlt c58; have := i_rg i; have : (0 : Int32).toInt = 0 := rfl; have := i_eq ek60; have : (nI k60).toInt = ((k60 : Nat) : Int) := nI_toInt (by omega); have := i_lt q; omega)) (fun _ => ?_)
                  refine r_iload rfl rfl ?_
                  refine r_if_lt (tg := 169) rfl rfl (fun c61 => ?_) (fun c61 => ?_)
                  · refine r_aload rfl rfl ?_
                    refine r_ic (x := 2) rfl rfl ?_
                    refine r_cv (y := 156) (ra := [.int 2]) (rest := []) rfl ⟨⟨rfl, rfl⟩, rfl, by decide⟩ (fx_t30 fx) rfl rfl (Nat.le_of_ble_eq_true rfl) ?_
                    refine in_156 (Nat.le_of_ble_eq_true rfl) ?_
                    show WR _ cd_156 0 [some (.ref (ad 30)), some (.int 2)] [] (sI (sI h (ad 0) 6 0) (ad 0) 6 (-12)) _
                    refine r_aload rfl rfl ?_
                    refine r_ic (x := (-10)) rfl rfl ?_
                    refine r_iload rfl rfl ?_
                    refine r_isub rfl ?_
                    refine WR_tI (y := (-12)) rfl ?_
                    refine r_cv (y := 154) (ra := [.int (-12)]) (rest := []) rfl ⟨⟨rfl, rfl⟩, rfl, by decide⟩ (fx_t30 fx) rfl rfl (Nat.le_of_ble_eq_true rfl) ?_
                    refine in_154 (Nat.le_of_ble_eq_true rfl) ?_
                    show WR _ cd_154 0 [some (.ref (ad 30)), some (.int (-12))] [] (sI (sI h (ad 0) 6 0) (ad 0) 6 (-12)) _
                    refine r_aload rfl rfl ?_
                    refine r_iload rfl rfl ?_
                    refine r_ic (x := (-1)) rfl rfl ?_
                    refine r_icmp_ge (tg := 10) rfl rfl (fun q => absurd q (by decide)) (fun _ => ?_)
                    refine r_iload rfl rfl ?_
                    refine r_goto (tg := 11) rfl rfl ?_
                    refine r_putI rfl ⟨rfl, rfl, rfl⟩ (fx_t30 fx) ?_
                    have fx : FX n ad sa z0 (sI (sI (sI h (ad 0) 6 0) (ad 0) 6 (-12)) (ad 30) 11 (-12)) := (FX.sI fx)
                    refine r_iload rfl rfl ?_
                    refine r_iret rfl ?_
                    show WR _ cd_156 8 [some (.ref (ad 30)), some (.int 2)] [.int (-12)] (sI (sI (sI h (ad 0) 6 0) (ad 0) 6 (-12)) (ad 30) 11 (-12)) _
                    refine r_iret rfl ?_
                    show WR _ cd_179 174 [some (.ref (ad 30)), some (.int c), some (.int i), some (.int d), some (.int j), some (.int m), some (.int (nI t7)), some (.int (nI t46)), none, none, none] [.int (-12)] (sI (sI (sI h (ad 0) 6 0) (ad 0) 6 (-12)) (ad 30) 11 (-12)) _
                    refine r_iret rfl ?_
                    exact ⟨rfl, Rel.why r (((Chg.rf.sI (fx_j fx) (.inl (by decide))).sI (fx_j fx) (.inl (by decide))).sI (fx_j fx) (.inl (by decide))) ⟨rfl, by decide⟩ (Eq.trans (Eq.trans (I_ne (fx_ne fx (by decide))) I_eq) (Eq.symm I_eq)), (by (try simp only [hZ_sI, hZ_sL, hZ_sD, hZ_sR]); omega), (by (try simp only [hU_sI, hU_sL, hU_sD, hU_sR]); omega)⟩
                  · refine r_iload rfl rfl ?_
                    refine r_if_lt (tg := 169) rfl rfl (fun _ => ?_) (fun q => False.elim (by have := i_lt c59; have := i_rg m; have : (0 : Int32).toInt = 0 := rfl; have := i_nlt q; omega))
                    refine r_aload rfl rfl ?_
                    refine r_ic (x := 2) rfl rfl ?_
                    refine r_cv (y := 156) (ra := [.int 2]) (rest := []) rfl ⟨⟨rfl, rfl⟩, rfl, by decide⟩ (fx_t30 fx) rfl rfl (Nat.le_of_ble_eq_true rfl) ?_
                    refine in_156 (Nat.le_of_ble_eq_true rfl) ?_
                    show WR _ cd_156 0 [some (.ref (ad 30)), some (.int 2)] [] (sI (sI h (ad 0) 6 0) (ad 0) 6 (-12)) _
                    refine r_aload rfl rfl ?_
                    refine r_ic (x := (-10)) rfl rfl ?_
                    refine r_iload rfl rfl ?_
                    refine r_isub rfl ?_
                    refine WR_tI (y := (-12)) rfl ?_
                    refine r_cv (y := 154) (ra := [.int (-12)]) (rest := []) rfl ⟨⟨rfl, rfl⟩, rfl, by decide⟩ (fx_t30 fx) rfl rfl (Nat.le_of_ble_eq_true rfl) ?_
                    refine in_154 (Nat.le_of_ble_eq_true rfl) ?_
                    show WR _ cd_154 0 [some (.ref (ad 30)), some (.int (-12))] [] (sI (sI h (ad 0) 6 0) (ad 0) 6 (-12)) _
                    refine r_aload rfl rfl ?_
                    refine r_iload rfl rfl ?_
                    refine r_ic (x := (-1)) rfl rfl ?_
                    refine r_icmp_ge (tg := 10) rfl rfl (fun q => absurd q (by decide)) (fun _ => ?_)
                    refine r_iload rfl rfl ?_
                    refine r_goto (tg := 11) rfl rfl ?_
                    refine r_putI rfl ⟨rfl, rfl, rfl⟩ (fx_t30 fx) ?_
                    have fx : FX n ad sa z0 (sI (sI (sI h (ad 0) 6 0) (ad 0) 6 (-12)) (ad 30) 11 (-12)) := (FX.sI fx)
                    refine r_iload rfl rfl ?_
                    refine r_iret rfl ?_
                    show WR _ cd_156 8 [some (.ref (ad 30)), some (.int 2)] [.int (-12)] (sI (sI (sI h (ad 0) 6 0) (ad 0) 6 (-12)) (ad 30) 11 (-12)) _
                    refine r_iret rfl ?_
                    show WR _ cd_179 174 [some (.ref (ad 30)), some (.int c), some (.int i), some (.int d), some (.int j), some (.int m), some (.int (nI t7)), some (.int (nI t46)), none, none, none] [.int (-12)] (sI (sI (sI h (ad 0) 6 0) (ad 0) 6 (-12)) (ad 30) 11 (-12)) _
                    refine r_iret rfl ?_
                    exact ⟨rfl, Rel.why r (((Chg.rf.sI (fx_j fx) (.inl (by decide))).sI (fx_j fx) (.inl (by decide))).sI (fx_j fx) (.inl (by decide))) ⟨rfl, by decide⟩ (Eq.trans (Eq.trans (I_ne (fx_ne fx (by decide))) I_eq) (Eq.symm I_eq)), (by (try simp only [hZ_sI, hZ_sL, hZ_sD, hZ_sR]); omega), (by (try simp only [hU_sI, hU_sL, hU_sD, hU_sR]); omega)⟩
                · obtain ⟨k62, hk62, ek62⟩ := ix_of (x := m) (n := 2147483648) (by have := i_nlt c59; have := i_rg m; have : (0 : Int32).toInt = 0 := rfl; omega) (by have := i_nlt c59; have := i_rg m; have : (0 : Int32).toInt = 0 := rfl; omega)
                  refine r_iload rfl rfl ?_
                  refine WR_tI (y := nI k62) ek62 ?_
                  refine r_aload rfl rfl ?_
                  refine r_cw (y := 35) (ra := []) (rest := [.int (nI k62)]) rfl ⟨rfl, rfl⟩ (by rw [show hT (sI h (ad 0) 6 0) (mid t7) = 6 from tg7]; rfl) rfl rfl (Nat.le_of_ble_eq_true rfl) ?_
                  refine in_35 (Nat.le_of_ble_eq_true rfl) ?_
                  show WR _ cd_35 0 [some (.ref (mid t7))] [] (sI h (ad 0) 6 0) _
                  refine r_aload rfl rfl ?_
                  refine r_getA (b := mid t7 + 1) rfl ⟨rfl, rfl, rfl⟩ tg7 (Eq.trans R_oI r_7) ?_
                  refine r_alen rfl (isA_of tg2_7 (by decide)) ?_
                  refine WR_tI (y := nI sz7) (congrArg nI n_7) ?_
                  refine r_iret rfl ?_
                  show WR _ cd_32 13 [some (.ref (mid t7)), some (.int i), some (.int m)] [.int (nI sz7), .int (nI k62)] (sI h (ad 0) 6 0) _
                  obtain ⟨k63, hk63, ek63⟩ := ix_of (x := i) (n := 2147483648) (by have := i_nlt c58; have := i_rg i; have : (0 : Int32).toInt = 0 := rfl; omega) (by have := i_nlt c58; have := i_rg i; have : (0 : Int32).toInt = 0 := rfl; omega)
                  refine r_iload rfl rfl ?_
                  refine WR_tI (y := nI k63) ek63 ?_
                  refine r_isub rfl ?_
                  refine r_icmp_gt (tg := 22) rfl rfl (fun c64 => ?_) (fun c64 => ?_)
                  · refine r_ic (x := 0) rfl rfl ?_
                    refine r_zret rfl (.inl rfl) ?_
                    show WR _ cd_51 84 [some (.ref (ad 0)), some (.int c), some (.int i), some (.int d), some (.int j), some (.int m), some (.ref (mid t7)), some (.ref (mid t46)), none] [.int 0] (sI h (ad 0) 6 0) _
                    refine r_if_eq (tg := 99) rfl rfl (fun _ => ?_) (fun q => absurd q (by decide))
                    refine r_aload rfl rfl ?_
                    refine r_ic (x := (-12)) rfl rfl ?_
                    refine r_cv (y := 13) (ra := [.int (-12)]) (rest := []) rfl ⟨⟨rfl, rfl⟩, rfl, by decide⟩ (fx_t0 fx) rfl rfl (Nat.le_of_ble_eq_true rfl) ?_
                    refine in_13 (Nat.le_of_ble_eq_true rfl) ?_
                    show WR _ cd_13 0 [some (.ref (ad 0)), some (.int (-12))] [] (sI h (ad 0) 6 0) _
                    refine r_aload rfl rfl ?_
                    refine r_iload rfl rfl ?_
                    refine r_putI rfl ⟨rfl, rfl, rfl⟩ (fx_t0 fx) ?_
                    have fx : FX n ad sa z0 (sI (sI h (ad 0) 6 0) (ad 0) 6 (-12)) := (FX.sI fx)
                    refine r_iload rfl rfl ?_
                    refine r_iret rfl ?_
                    show WR _ cd_51 105 [some (.ref (ad 0)), some (.int c), some (.int i), some (.int d), some (.int j), some (.int m), some (.ref (mid t7)), some (.ref (mid t46)), none] [.int (-12)] (sI (sI h (ad 0) 6 0) (ad 0) 6 (-12)) _
                    refine r_iret rfl ?_
                    show EV _ 179 [.ref (ad 30), .int c, .int i, .int d, .int j, .int m] (sI (sI h (ad 0) 6 0) (ad 0) 6 (-12)) _
                    refine in_179 (Nat.le_of_ble_eq_true rfl) ?_
                    show WR _ cd_179 0 [some (.ref (ad 30)), some (.int c), some (.int i), some (.int d), some (.int j), some (.int m), none, none, none, none, none] [] (sI (sI h (ad 0) 6 0) (ad 0) 6 (-12)) _
                    refine r_iload rfl rfl ?_
                    refine WR_tI (y := nI k2) ek2 ?_
                    refine r_cs (y := 153) (ra := [.int (nI k2)]) (rest := []) rfl ⟨⟨rfl, rfl⟩, by decide⟩ rfl rfl (Nat.le_of_ble_eq_true rfl) ?_
                    refine in_153 (Nat.le_of_ble_eq_true rfl) ?_
                    show WR _ cd_153 0 [some (.int (nI k2))] [] (sI (sI h (ad 0) 6 0) (ad 0) 6 (-12)) _
                    refine r_iload rfl rfl ?_
                    refine r_if_lt (tg := 14) rfl rfl (fun q => False.elim (by have := i_nlt c1; have := i_rg c; have : (0 : Int32).toInt = 0 := rfl; have := i_eq ek2; have : (nI k2).toInt = ((k2 : Nat) : Int) := nI_toInt (by omega); have := i_nle c3; have : (24 : Int32).toInt = 24 := rfl; have := i_lt q; omega)) (fun _ => ?_)
                    refine r_iload rfl rfl ?_
                    refine r_ic (x := 24) rfl rfl ?_
                    refine r_icmp_ge (tg := 14) rfl rfl (fun q => False.elim (by have := i_nlt c1; have := i_rg c; have : (0 : Int32).toInt = 0 := rfl; have := i_eq ek2; have : (nI k2).toInt = ((k2 : Nat) : Int) := nI_toInt (by omega); have := i_nle c3; have : (24 : Int32).toInt = 24 := rfl; have := i_le q; omega)) (fun _ => ?_)
                    refine r_ic (x := 1) rfl rfl ?_
                    refine r_goto (tg := 15) rfl rfl ?_
                    refine r_zret rfl (.inr rfl) ?_
                    show WR _ cd_179 4 [some (.ref (ad 30)), some (.int c), some (.int i), some (.int d), some (.int j), some (.int m), none, none, none, none, none] [.int 1] (sI (sI h (ad 0) 6 0) (ad 0) 6 (-12)) _
                    refine r_if_eq (tg := 14) rfl rfl (fun q => absurd q (by decide)) (fun _ => ?_)
                    refine r_iload rfl rfl ?_
                    refine WR_tI (y := nI k5) ek5 ?_
                    refine r_cs (y := 153) (ra := [.int (nI k5)]) (rest := []) rfl ⟨⟨rfl, rfl⟩, by decide⟩ rfl rfl (Nat.le_of_ble_eq_true rfl) ?_
                    refine in_153 (Nat.le_of_ble_eq_true rfl) ?_
                    show WR _ cd_153 0 [some (.int (nI k5))] [] (sI (sI h (ad 0) 6 0) (ad 0) 6 (-12)) _
                    refine r_iload rfl rfl ?_
                    refine r_if_lt (tg := 14) rfl rfl (fun q => False.elim (by have := i_nlt c4; have := i_rg d; have : (0 : Int32).toInt = 0 := rfl; have := i_eq ek5; have : (nI k5).toInt = ((k5 : Nat) : Int) := nI_toInt (by omega); have := i_nle c6; have : (24 : Int32).toInt = 24 := rfl; have := i_lt q; omega)) (fun _ => ?_)
                    refine r_iload rfl rfl ?_
                    refine r_ic (x := 24) rfl rfl ?_
                    refine r_icmp_ge (tg := 14) rfl rfl (fun q => False.elim (by have := i_nlt c4; have := i_rg d; have : (0 : Int32).toInt = 0 := rfl; have := i_eq ek5; have : (nI k5).toInt = ((k5 : Nat) : Int) := nI_toInt (by omega); have := i_nle c6; have : (24 : Int32).toInt = 24 := rfl; have := i_le q; omega)) (fun _ => ?_)
                    refine r_ic (x := 1) rfl rfl ?_
                    refine r_goto (tg := 15) rfl rfl ?_
                    refine r_zret rfl (.inr rfl) ?_
                    show WR _ cd_179 11 [some (.ref (ad 30)), some (.int c), some (.int i), some (.int d), some (.int j), some (.int m), none, none, none, none, none] [.int 1] (sI (sI h (ad 0) 6 0) (ad 0) 6 (-12)) _
                    refine r_if_ne (tg := 21) rfl rfl (fun _ => ?_) (fun q => absurd q (by decide))
                    refine r_aload rfl rfl ?_
                    refine r_getA (b := ad 31) rfl ⟨rfl, rfl, rfl⟩ (fx_t30 fx) (fx_r30_0 fx) ?_
                    refine r_iload rfl rfl ?_
                    refine WR_tI (y := nI k2) ek2 ?_
                    refine r_iaload rfl (.inl (fx_t31 fx)) (vp_ct (fx_n31 fx) (vp_in_nI (by have := i_nlt c1; have := i_rg c; have : (0 : Int32).toInt = 0 := rfl; have := i_eq ek2; have : (nI k2).toInt = ((k2 : Nat) : Int) := nI_toInt (by omega); have := i_nle c3; have : (24 : Int32).toInt = 24 := rfl; omega) (by omega))) ?_
                    refine WR_tI (congrArg (hI (sI (sI h (ad 0) 6 0) (ad 0) 6 (-12)) (ad 31)) ((nI_clamp (by have := i_nlt c1; have := i_rg c; have : (0 : Int32).toInt = 0 := rfl; have := i_eq ek2; have : (nI k2).toInt = ((k2 : Nat) : Int) := nI_toInt (by omega); have := i_nle c3; have : (24 : Int32).toInt = 24 := rfl; omega)) : _ = k2)) ?_
                    refine WR_tI (y := nI t7) (Eq.trans (I_ne (fx_ne fx (by decide))) (Eq.trans (I_ne (fx_ne fx (by decide))) v7)) ?_
                    refine r_istore (lv' := [some (.ref (ad 30)), some (.int c), some (.int i), some (.int d), some (.int j), some (.int m), some (.int (nI t7)), none, none, none, none]) rfl (Nat.le_of_ble_eq_true rfl) rfl ?_
                    refine r_aload rfl rfl ?_
                    refine r_getA (b := ad 31) rfl ⟨rfl, rfl, rfl⟩ (fx_t30 fx) (fx_r30_0 fx) ?_
                    refine r_iload rfl rfl ?_
                    refine WR_tI (y := nI k5) ek5 ?_
                    refine r_iaload rfl (.inl (fx_t31 fx)) (vp_ct (fx_n31 fx) (vp_in_nI (by have := i_nlt c4; have := i_rg d; have : (0 : Int32).toInt = 0 := rfl; have := i_eq ek5; have : (nI k5).toInt = ((k5 : Nat) : Int) := nI_toInt (by omega); have := i_nle c6; have : (24 : Int32).toInt = 24 := rfl; omega) (by omega))) ?_
                    refine WR_tI (congrArg (hI (sI (sI h (ad 0) 6 0) (ad 0) 6 (-12)) (ad 31)) ((nI_clamp (by have := i_nlt c4; have := i_rg d; have : (0 : Int32).toInt = 0 := rfl; have := i_eq ek5; have : (nI k5).toInt = ((k5 : Nat) : Int) := nI_toInt (by omega); have := i_nle c6; have : (24 : Int32).toInt = 24 := rfl; omega)) : _ = k5)) ?_
                    refine WR_tI (y := nI t46) (Eq.trans (I_ne (fx_ne fx (by decide))) (Eq.trans (I_ne (fx_ne fx (by decide))) v46)) ?_
                    refine r_istore (lv' := [some (.ref (ad 30)), some (.int c), some (.int i), some (.int d), some (.int j), some (.int m), some (.int (nI t7)), some (.int (nI t46)), none, none, none]) rfl (Nat.le_of_ble_eq_true rfl) rfl ?_
                    refine r_iload rfl rfl ?_
                    refine r_ic (x := (-1)) rfl rfl ?_
                    refine r_icmp_eq (tg := 49) rfl rfl (fun q => False.elim (by have : (nI t7).toInt = ((t7 : Nat) : Int) := nI_toInt (by omega); have : (-1 : Int32).toInt = -1 := rfl; have := i_eq q; omega)) (fun _ => ?_)
                    refine r_iload rfl rfl ?_
                    refine r_ic (x := (-1)) rfl rfl ?_
                    refine r_icmp_ne (tg := 55) rfl rfl (fun _ => ?_) (fun q => False.elim (by have : (nI t46).toInt = ((t46 : Nat) : Int) := nI_toInt (by omega); have : (-1 : Int32).toInt = -1 := rfl; have := i_eq q; omega))
                    refine r_iload rfl rfl ?_
                    refine r_ic (x := 1000) rfl rfl ?_
                    refine r_icmp_ge (tg := 112) rfl rfl (fun q => False.elim (by have : (nI t7).toInt = ((t7 : Nat) : Int) := nI_toInt (by omega); have : (1000 : Int32).toInt = 1000 := rfl; have := i_le q; omega)) (fun _ => ?_)
                    refine r_iload rfl rfl ?_
                    refine r_ic (x := 1000) rfl rfl ?_
                    refine r_icmp_ge (tg := 112) rfl rfl (fun q => False.elim (by have : (nI t46).toInt = ((t46 : Nat) : Int) := nI_toInt (by omega); have : (1000 : Int32).toInt = 1000 := rfl; have := i_le q; omega)) (fun _ => ?_)
                    refine r_aload rfl rfl ?_
                    refine r_getA (b := ad 33) rfl ⟨rfl, rfl, rfl⟩ (fx_t30 fx) (fx_r30_2 fx) ?_
                    refine r_iload rfl rfl ?_
                    refine r_iaload rfl (.inl (fx_t33 fx)) (vp_ct (fx_n33 fx) (vp_in_nI (by omega) (by omega))) ?_
                    refine WR_tI (congrArg (hI (sI (sI h (ad 0) 6 0) (ad 0) 6 (-12)) (ad 33)) ((nI_clamp (by omega)) : _ = t7)) ?_
                    refine WR_tI (y := 9) (Eq.trans (I_ne (fx_ne fx (by decide))) (Eq.trans (I_ne (fx_ne fx (by decide))) l2_7)) ?_
                    refine r_aload rfl rfl ?_
                    refine r_getA (b := ad 33) rfl ⟨rfl, rfl, rfl⟩ (fx_t30 fx) (fx_r30_2 fx) ?_
                    refine r_iload rfl rfl ?_
                    refine r_iaload rfl (.inl (fx_t33 fx)) (vp_ct (fx_n33 fx) (vp_in_nI (by omega) (by omega))) ?_
                    refine WR_tI (congrArg (hI (sI (sI h (ad 0) 6 0) (ad 0) 6 (-12)) (ad 33)) ((nI_clamp (by omega)) : _ = t46)) ?_
                    refine WR_tI (y := 9) (Eq.trans (I_ne (fx_ne fx (by decide))) (Eq.trans (I_ne (fx_ne fx (by decide))) l2_46)) ?_
                    refine r_icmp_eq (tg := 118) rfl rfl (fun _ => ?_) (fun q => absurd q (by decide))
                    refine r_iload rfl rfl ?_
                    refine WR_tI (y := nI k63) ek63 ?_
                    refine r_if_lt (tg := 169) rfl rfl (fun q => False.elim (by have := i_nlt c58; have := i_rg i; have : (0 : Int32).toInt = 0 := rfl; have := i_nlt c59; have := i_rg m; have := i_eq ek62; have : (nI k62).toInt = ((k62 : Nat) : Int) := nI_toInt (by omega); have := i_eq ek63; have : (nI k63).toInt = ((k63 : Nat) : Int) := nI_toInt (by omega); have := i_lt c64; have : (nI sz7).toInt = ((sz7 : Nat) : Int) := nI_toInt (by omega); have := sub_t (x := nI sz7) (y := nI k63) (by have := i_nlt c58; have := i_rg i; have : (0 : Int32).toInt = 0 := rfl; have := i_eq ek63; have : (nI k63).toInt = ((k63 : Nat) : Int) := nI_toInt (by omega); have : (nI sz7).toInt = ((sz7 : Nat) : Int) := nI_toInt (by omega); omega) (by have := i_nlt c58; have := i_rg i; have : (0 : Int32).toInt = 0 := rfl; have := i_eq ek63; have : (nI k63).toInt = ((k63 : Nat) : Int) := nI_toInt (by omega); have : (nI sz7).toInt = ((sz7 : Nat) : Int) := nI_toInt (by omega); omega); have := i_lt q; omega)) (fun _ => ?_)
                    refine r_iload rfl rfl ?_
                    refine r_if_lt (tg := 169) rfl rfl (fun c65 => ?_) (fun c65 => ?_)
                    · refine r_aload rfl rfl ?_
                      refine r_ic (x := 2) rfl rfl ?_
                      refine r_cv (y := 156) (ra := [.int 2]) (rest := []) rfl ⟨⟨rfl, rfl⟩, rfl, by decide⟩ (fx_t30 fx) rfl rfl (Nat.le_of_ble_eq_true rfl) ?_
                      refine in_156 (Nat.le_of_ble_eq_true rfl) ?_
                      show WR _ cd_156 0 [some (.ref (ad 30)), some (.int 2)] [] (sI (sI h (ad 0) 6 0) (ad 0) 6 (-12)) _
                      refine r_aload rfl rfl ?_
                      refine r_ic (x := (-10)) rfl rfl ?_
                      refine r_iload rfl rfl ?_
                      refine r_isub rfl ?_
                      refine WR_tI (y := (-12)) rfl ?_
                      refine r_cv (y := 154) (ra := [.int (-12)]) (rest := []) rfl ⟨⟨rfl, rfl⟩, rfl, by decide⟩ (fx_t30 fx) rfl rfl (Nat.le_of_ble_eq_true rfl) ?_
                      refine in_154 (Nat.le_of_ble_eq_true rfl) ?_
                      show WR _ cd_154 0 [some (.ref (ad 30)), some (.int (-12))] [] (sI (sI h (ad 0) 6 0) (ad 0) 6 (-12)) _
                      refine r_aload rfl rfl ?_
                      refine r_iload rfl rfl ?_
                      refine r_ic (x := (-1)) rfl rfl ?_
                      refine r_icmp_ge (tg := 10) rfl rfl (fun q => absurd q (by decide)) (fun _ => ?_)
                      refine r_iload rfl rfl ?_
                      refine r_goto (tg := 11) rfl rfl ?_
                      refine r_putI rfl ⟨rfl, rfl, rfl⟩ (fx_t30 fx) ?_
                      have fx : FX n ad sa z0 (sI (sI (sI h (ad 0) 6 0) (ad 0) 6 (-12)) (ad 30) 11 (-12)) := (FX.sI fx)
                      refine r_iload rfl rfl ?_
                      refine r_iret rfl ?_
                      show WR _ cd_156 8 [some (.ref (ad 30)), some (.int 2)] [.int (-12)] (sI (sI (sI h (ad 0) 6 0) (ad 0) 6 (-12)) (ad 30) 11 (-12)) _
                      refine r_iret rfl ?_
                      show WR _ cd_179 174 [some (.ref (ad 30)), some (.int c), some (.int i), some (.int d), some (.int j), some (.int m), some (.int (nI t7)), some (.int (nI t46)), none, none, none] [.int (-12)] (sI (sI (sI h (ad 0) 6 0) (ad 0) 6 (-12)) (ad 30) 11 (-12)) _
                      refine r_iret rfl ?_
                      exact ⟨rfl, Rel.why r (((Chg.rf.sI (fx_j fx) (.inl (by decide))).sI (fx_j fx) (.inl (by decide))).sI (fx_j fx) (.inl (by decide))) ⟨rfl, by decide⟩ (Eq.trans (Eq.trans (I_ne (fx_ne fx (by decide))) I_eq) (Eq.symm I_eq)), (by (try simp only [hZ_sI, hZ_sL, hZ_sD, hZ_sR]); omega), (by (try simp only [hU_sI, hU_sL, hU_sD, hU_sR]); omega)⟩
                    · refine r_iload rfl rfl ?_
                      refine WR_tI (y := nI k62) ek62 ?_
                      refine r_if_lt (tg := 169) rfl rfl (fun q => False.elim (by have := i_nlt c58; have := i_rg i; have : (0 : Int32).toInt = 0 := rfl; have := i_nlt c59; have := i_rg m; have := i_eq ek62; have : (nI k62).toInt = ((k62 : Nat) : Int) := nI_toInt (by omega); have := i_eq ek63; have : (nI k63).toInt = ((k63 : Nat) : Int) := nI_toInt (by omega); have := i_lt c64; have : (nI sz7).toInt = ((sz7 : Nat) : Int) := nI_toInt (by omega); have := sub_t (x := nI sz7) (y := nI k63) (by have := i_nlt c58; have := i_rg i; have : (0 : Int32).toInt = 0 := rfl; have := i_eq ek63; have : (nI k63).toInt = ((k63 : Nat) : Int) := nI_toInt (by omega); have : (nI sz7).toInt = ((sz7 : Nat) : Int) := nI_toInt (by omega); omega) (by have := i_nlt c58; have := i_rg i; have : (0 : Int32).toInt = 0 := rfl; have := i_eq ek63; have : (nI k63).toInt = ((k63 : Nat) : Int) := nI_toInt (by omega); have : (nI sz7).toInt = ((sz7 : Nat) : Int) := nI_toInt (by omega); omega); have := i_lt q; omega)) (fun _ => ?_)
                      refine r_iload rfl rfl ?_
                      refine WR_tI (y := nI k63) ek63 ?_
                      refine r_i2l rfl ?_
                      refine WR_tL (y := lN k63) (nI_l (by have := i_nlt c58; have := i_rg i; have : (0 : Int32).toInt = 0 := rfl; have := i_nlt c59; have := i_rg m; have := i_eq ek62; have : (nI k62).toInt = ((k62 : Nat) : Int) := nI_toInt (by omega); have := i_eq ek63; have : (nI k63).toInt = ((k63 : Nat) : Int) := nI_toInt (by omega); have := i_lt c64; have : (nI sz7).toInt = ((sz7 : Nat) : Int) := nI_toInt (by omega); have := sub_t (x := nI sz7) (y := nI k63) (by have := i_nlt c58; have := i_rg i; have : (0 : Int32).toInt = 0 := rfl; have := i_eq ek63; have : (nI k63).toInt = ((k63 : Nat) : Int) := nI_toInt (by omega); have : (nI sz7).toInt = ((sz7 : Nat) : Int) := nI_toInt (by omega); omega) (by have := i_nlt c58; have := i_rg i; have : (0 : Int32).toInt = 0 := rfl; have := i_eq ek63; have : (nI k63).toInt = ((k63 : Nat) : Int) := nI_toInt (by omega); have : (nI sz7).toInt = ((sz7 : Nat) : Int) := nI_toInt (by omega); omega); omega)) ?_
                      refine r_iload rfl rfl ?_
                      refine WR_tI (y := nI k62) ek62 ?_
                      refine r_i2l rfl ?_
                      refine WR_tL (y := lN k62) (nI_l (by have := i_nlt c58; have := i_rg i; have : (0 : Int32).toInt = 0 := rfl; have := i_nlt c59; have := i_rg m; have := i_eq ek62; have : (nI k62).toInt = ((k62 : Nat) : Int) := nI_toInt (by omega); have := i_eq ek63; have : (nI k63).toInt = ((k63 : Nat) : Int) := nI_toInt (by omega); have := i_lt c64; have : (nI sz7).toInt = ((sz7 : Nat) : Int) := nI_toInt (by omega); have := sub_t (x := nI sz7) (y := nI k63) (by have := i_nlt c58; have := i_rg i; have : (0 : Int32).toInt = 0 := rfl; have := i_eq ek63; have : (nI k63).toInt = ((k63 : Nat) : Int) := nI_toInt (by omega); have : (nI sz7).toInt = ((sz7 : Nat) : Int) := nI_toInt (by omega); omega) (by have := i_nlt c58; have := i_rg i; have : (0 : Int32).toInt = 0 := rfl; have := i_eq ek63; have : (nI k63).toInt = ((k63 : Nat) : Int) := nI_toInt (by omega); have : (nI sz7).toInt = ((sz7 : Nat) : Int) := nI_toInt (by omega); omega); omega)) ?_
                      refine r_ladd rfl ?_
                      refine WR_tL (y := lN (k62 + k63)) (Eq.trans (lN_add k63 k62) (congrArg lN (by omega))) ?_
                      refine r_aload rfl rfl ?_
                      refine r_getA (b := ad 35) rfl ⟨rfl, rfl, rfl⟩ (fx_t30 fx) (fx_r30_4 fx) ?_
                      refine r_iload rfl rfl ?_
                      refine r_iaload rfl (.inl (fx_t35 fx)) (vp_ct (fx_n35 fx) (vp_in_nI (by omega) (by omega))) ?_
                      refine WR_tI (congrArg (hI (sI (sI h (ad 0) 6 0) (ad 0) 6 (-12)) (ad 35)) ((nI_clamp (by omega)) : _ = t7)) ?_
                      refine WR_tI (y := nI sz7) (Eq.trans (I_ne (fx_ne fx (by decide))) (Eq.trans (I_ne (fx_ne fx (by decide))) sz_7)) ?_
                      refine r_i2l rfl ?_
                      refine WR_tL (y := lN sz7) (nI_l (by have := i_nlt c58; have := i_rg i; have : (0 : Int32).toInt = 0 := rfl; have := i_nlt c59; have := i_rg m; have := i_eq ek62; have : (nI k62).toInt = ((k62 : Nat) : Int) := nI_toInt (by omega); have := i_eq ek63; have : (nI k63).toInt = ((k63 : Nat) : Int) := nI_toInt (by omega); have := i_lt c64; have : (nI sz7).toInt = ((sz7 : Nat) : Int) := nI_toInt (by omega); have := sub_t (x := nI sz7) (y := nI k63) (by have := i_nlt c58; have := i_rg i; have : (0 : Int32).toInt = 0 := rfl; have := i_eq ek63; have : (nI k63).toInt = ((k63 : Nat) : Int) := nI_toInt (by omega); have : (nI sz7).toInt = ((sz7 : Nat) : Int) := nI_toInt (by omega); omega) (by have := i_nlt c58; have := i_rg i; have : (0 : Int32).toInt = 0 := rfl; have := i_eq ek63; have : (nI k63).toInt = ((k63 : Nat) : Int) := nI_toInt (by omega); have : (nI sz7).toInt = ((sz7 : Nat) : Int) := nI_toInt (by omega); omega); omega)) ?_
                      refine r_lif_gt (tg := 169) rfl rfl rfl (fun _ => ?_) (fun q => False.elim (by have := i_nlt c58; have := i_rg i; have : (0 : Int32).toInt = 0 := rfl; have := i_nlt c59; have := i_rg m; have := i_eq ek62; have : (nI k62).toInt = ((k62 : Nat) : Int) := nI_toInt (by omega); have := i_eq ek63; have : (nI k63).toInt = ((k63 : Nat) : Int) := nI_toInt (by omega); have := i_lt c64; have : (nI sz7).toInt = ((sz7 : Nat) : Int) := nI_toInt (by omega); have := sub_t (x := nI sz7) (y := nI k63) (by have := i_nlt c58; have := i_rg i; have : (0 : Int32).toInt = 0 := rfl; have := i_eq ek63; have : (nI k63).toInt = ((k63 : Nat) : Int) := nI_toInt (by omega); have : (nI sz7).toInt = ((sz7 : Nat) : Int) := nI_toInt (by omega); omega) (by have := i_nlt c58; have := i_rg i; have : (0 : Int32).toInt = 0 := rfl; have := i_eq ek63; have : (nI k63).toInt = ((k63 : Nat) : Int) := nI_toInt (by omega); have : (nI sz7).toInt = ((sz7 : Nat) : Int) := nI_toInt (by omega); omega); have : (lN (k62 + k63)).toInt = ((k62 + k63 : Nat) : Int) := pk_lT (by omega); have : (lN sz7).toInt = ((sz7 : Nat) : Int) := lN_toInt (by omega); have := l_nlt q; omega))
                      refine r_aload rfl rfl ?_
                      refine r_ic (x := 2) rfl rfl ?_
                      refine r_cv (y := 156) (ra := [.int 2]) (rest := []) rfl ⟨⟨rfl, rfl⟩, rfl, by decide⟩ (fx_t30 fx) rfl rfl (Nat.le_of_ble_eq_true rfl) ?_
                      refine in_156 (Nat.le_of_ble_eq_true rfl) ?_
                      show WR _ cd_156 0 [some (.ref (ad 30)), some (.int 2)] [] (sI (sI h (ad 0) 6 0) (ad 0) 6 (-12)) _
                      refine r_aload rfl rfl ?_
                      refine r_ic (x := (-10)) rfl rfl ?_
                      refine r_iload rfl rfl ?_
                      refine r_isub rfl ?_
                      refine WR_tI (y := (-12)) rfl ?_
                      refine r_cv (y := 154) (ra := [.int (-12)]) (rest := []) rfl ⟨⟨rfl, rfl⟩, rfl, by decide⟩ (fx_t30 fx) rfl rfl (Nat.le_of_ble_eq_true rfl) ?_
                      refine in_154 (Nat.le_of_ble_eq_true rfl) ?_
                      show WR _ cd_154 0 [some (.ref (ad 30)), some (.int (-12))] [] (sI (sI h (ad 0) 6 0) (ad 0) 6 (-12)) _
                      refine r_aload rfl rfl ?_
                      refine r_iload rfl rfl ?_
                      refine r_ic (x := (-1)) rfl rfl ?_
                      refine r_icmp_ge (tg := 10) rfl rfl (fun q => absurd q (by decide)) (fun _ => ?_)
                      refine r_iload rfl rfl ?_
                      refine r_goto (tg := 11) rfl rfl ?_
                      refine r_putI rfl ⟨rfl, rfl, rfl⟩ (fx_t30 fx) ?_
                      have fx : FX n ad sa z0 (sI (sI (sI h (ad 0) 6 0) (ad 0) 6 (-12)) (ad 30) 11 (-12)) := (FX.sI fx)
                      refine r_iload rfl rfl ?_
                      refine r_iret rfl ?_
                      show WR _ cd_156 8 [some (.ref (ad 30)), some (.int 2)] [.int (-12)] (sI (sI (sI h (ad 0) 6 0) (ad 0) 6 (-12)) (ad 30) 11 (-12)) _
                      refine r_iret rfl ?_
                      show WR _ cd_179 174 [some (.ref (ad 30)), some (.int c), some (.int i), some (.int d), some (.int j), some (.int m), some (.int (nI t7)), some (.int (nI t46)), none, none, none] [.int (-12)] (sI (sI (sI h (ad 0) 6 0) (ad 0) 6 (-12)) (ad 30) 11 (-12)) _
                      refine r_iret rfl ?_
                      exact ⟨rfl, Rel.why r (((Chg.rf.sI (fx_j fx) (.inl (by decide))).sI (fx_j fx) (.inl (by decide))).sI (fx_j fx) (.inl (by decide))) ⟨rfl, by decide⟩ (Eq.trans (Eq.trans (I_ne (fx_ne fx (by decide))) I_eq) (Eq.symm I_eq)), (by (try simp only [hZ_sI, hZ_sL, hZ_sD, hZ_sR]); omega), (by (try simp only [hU_sI, hU_sL, hU_sD, hU_sR]); omega)⟩
                  · refine r_ic (x := 1) rfl rfl ?_
                    refine r_goto (tg := 23) rfl rfl ?_
                    refine r_zret rfl (.inr rfl) ?_
                    show WR _ cd_51 84 [some (.ref (ad 0)), some (.int c), some (.int i), some (.int d), some (.int j), some (.int m), some (.ref (mid t7)), some (.ref (mid t46)), none] [.int 1] (sI h (ad 0) 6 0) _
                    refine r_if_eq (tg := 99) rfl rfl (fun q => absurd q (by decide)) (fun _ => ?_)
                    refine r_aload rfl rfl ?_
                    refine r_iload rfl rfl ?_
                    refine r_iload rfl rfl ?_
                    refine WR_tI (y := nI k62) ek62 ?_
                    refine r_cw (y := 32) (ra := [.int (nI k62), .int j]) (rest := []) rfl ⟨rfl, rfl⟩ (by rw [show hT (sI h (ad 0) 6 0) (mid t46) = 6 from tg46]; rfl) rfl rfl (Nat.le_of_ble_eq_true rfl) ?_
                    refine in_32 (Nat.le_of_ble_eq_true rfl) ?_
                    show WR _ cd_32 0 [some (.ref (mid t46)), some (.int j), some (.int (nI k62))] [] (sI h (ad 0) 6 0) _
                    refine r_iload rfl rfl ?_
                    refine r_if_lt (tg := 22) rfl rfl (fun c66 => ?_) (fun c66 => ?_)
                    · refine r_ic (x := 0) rfl rfl ?_
                      refine r_zret rfl (.inl rfl) ?_
                      show WR _ cd_51 96 [some (.ref (ad 0)), some (.int c), some (.int i), some (.int d), some (.int j), some (.int m), some (.ref (mid t7)), some (.ref (mid t46)), none] [.int 0] (sI h (ad 0) 6 0) _
                      refine r_if_ne (tg := 106) rfl rfl (fun q => absurd q (by decide)) (fun _ => ?_)
                      refine r_aload rfl rfl ?_
                      refine r_ic (x := (-12)) rfl rfl ?_
                      refine r_cv (y := 13) (ra := [.int (-12)]) (rest := []) rfl ⟨⟨rfl, rfl⟩, rfl, by decide⟩ (fx_t0 fx) rfl rfl (Nat.le_of_ble_eq_true rfl) ?_
                      refine in_13 (Nat.le_of_ble_eq_true rfl) ?_
                      show WR _ cd_13 0 [some (.ref (ad 0)), some (.int (-12))] [] (sI h (ad 0) 6 0) _
                      refine r_aload rfl rfl ?_
                      refine r_iload rfl rfl ?_
                      refine r_putI rfl ⟨rfl, rfl, rfl⟩ (fx_t0 fx) ?_
                      have fx : FX n ad sa z0 (sI (sI h (ad 0) 6 0) (ad 0) 6 (-12)) := (FX.sI fx)
                      refine r_iload rfl rfl ?_
                      refine r_iret rfl ?_
                      show WR _ cd_51 105 [some (.ref (ad 0)), some (.int c), some (.int i), some (.int d), some (.int j), some (.int m), some (.ref (mid t7)), some (.ref (mid t46)), none] [.int (-12)] (sI (sI h (ad 0) 6 0) (ad 0) 6 (-12)) _
                      refine r_iret rfl ?_
                      show EV _ 179 [.ref (ad 30), .int c, .int i, .int d, .int j, .int m] (sI (sI h (ad 0) 6 0) (ad 0) 6 (-12)) _
                      refine in_179 (Nat.le_of_ble_eq_true rfl) ?_
                      show WR _ cd_179 0 [some (.ref (ad 30)), some (.int c), some (.int i), some (.int d), some (.int j), some (.int m), none, none, none, none, none] [] (sI (sI h (ad 0) 6 0) (ad 0) 6 (-12)) _
                      refine r_iload rfl rfl ?_
                      refine WR_tI (y := nI k2) ek2 ?_
                      refine r_cs (y := 153) (ra := [.int (nI k2)]) (rest := []) rfl ⟨⟨rfl, rfl⟩, by decide⟩ rfl rfl (Nat.le_of_ble_eq_true rfl) ?_
                      refine in_153 (Nat.le_of_ble_eq_true rfl) ?_
                      show WR _ cd_153 0 [some (.int (nI k2))] [] (sI (sI h (ad 0) 6 0) (ad 0) 6 (-12)) _
                      refine r_iload rfl rfl ?_
                      refine r_if_lt (tg := 14) rfl rfl (fun q => False.elim (by have := i_nlt c1; have := i_rg c; have : (0 : Int32).toInt = 0 := rfl; have := i_eq ek2; have : (nI k2).toInt = ((k2 : Nat) : Int) := nI_toInt (by omega); have := i_nle c3; have : (24 : Int32).toInt = 24 := rfl; have := i_lt q; omega)) (fun _ => ?_)
                      refine r_iload rfl rfl ?_
                      refine r_ic (x := 24) rfl rfl ?_
                      refine r_icmp_ge (tg := 14) rfl rfl (fun q => False.elim (by have := i_nlt c1; have := i_rg c; have : (0 : Int32).toInt = 0 := rfl; have := i_eq ek2; have : (nI k2).toInt = ((k2 : Nat) : Int) := nI_toInt (by omega); have := i_nle c3; have : (24 : Int32).toInt = 24 := rfl; have := i_le q; omega)) (fun _ => ?_)
                      refine r_ic (x := 1) rfl rfl ?_
                      refine r_goto (tg := 15) rfl rfl ?_
                      refine r_zret rfl (.inr rfl) ?_
                      show WR _ cd_179 4 [some (.ref (ad 30)), some (.int c), some (.int i), some (.int d), some (.int j), some (.int m), none, none, none, none, none] [.int 1] (sI (sI h (ad 0) 6 0) (ad 0) 6 (-12)) _
                      refine r_if_eq (tg := 14) rfl rfl (fun q => absurd q (by decide)) (fun _ => ?_)
                      refine r_iload rfl rfl ?_
                      refine WR_tI (y := nI k5) ek5 ?_
                      refine r_cs (y := 153) (ra := [.int (nI k5)]) (rest := []) rfl ⟨⟨rfl, rfl⟩, by decide⟩ rfl rfl (Nat.le_of_ble_eq_true rfl) ?_
                      refine in_153 (Nat.le_of_ble_eq_true rfl) ?_
                      show WR _ cd_153 0 [some (.int (nI k5))] [] (sI (sI h (ad 0) 6 0) (ad 0) 6 (-12)) _
                      refine r_iload rfl rfl ?_
                      refine r_if_lt (tg := 14) rfl rfl (fun q => False.elim (by have := i_nlt c4; have := i_rg d; have : (0 : Int32).toInt = 0 := rfl; have := i_eq ek5; have : (nI k5).toInt = ((k5 : Nat) : Int) := nI_toInt (by omega); have := i_nle c6; have : (24 : Int32).toInt = 24 := rfl; have := i_lt q; omega)) (fun _ => ?_)
                      refine r_iload rfl rfl ?_
                      refine r_ic (x := 24) rfl rfl ?_
                      refine r_icmp_ge (tg := 14) rfl rfl (fun q => False.elim (by have := i_nlt c4; have := i_rg d; have : (0 : Int32).toInt = 0 := rfl; have := i_eq ek5; have : (nI k5).toInt = ((k5 : Nat) : Int) := nI_toInt (by omega); have := i_nle c6; have : (24 : Int32).toInt = 24 := rfl; have := i_le q; omega)) (fun _ => ?_)
                      refine r_ic (x := 1) rfl rfl ?_
                      refine r_goto (tg := 15) rfl rfl ?_
                      refine r_zret rfl (.inr rfl) ?_
                      show WR _ cd_179 11 [some (.ref (ad 30)), some (.int c), some (.int i), some (.int d), some (.int j), some (.int m), none, none, none, none, none] [.int 1] (sI (sI h (ad 0) 6 0) (ad 0) 6 (-12)) _
                      refine r_if_ne (tg := 21) rfl rfl (fun _ => ?_) (fun q => absurd q (by decide))
                      refine r_aload rfl rfl ?_
                      refine r_getA (b := ad 31) rfl ⟨rfl, rfl, rfl⟩ (fx_t30 fx) (fx_r30_0 fx) ?_
                      refine r_iload rfl rfl ?_
                      refine WR_tI (y := nI k2) ek2 ?_
                      refine r_iaload rfl (.inl (fx_t31 fx)) (vp_ct (fx_n31 fx) (vp_in_nI (by have := i_nlt c1; have := i_rg c; have : (0 : Int32).toInt = 0 := rfl; have := i_eq ek2; have : (nI k2).toInt = ((k2 : Nat) : Int) := nI_toInt (by omega); have := i_nle c3; have : (24 : Int32).toInt = 24 := rfl; omega) (by omega))) ?_
                      refine WR_tI (congrArg (hI (sI (sI h (ad 0) 6 0) (ad 0) 6 (-12)) (ad 31)) ((nI_clamp (by have := i_nlt c1; have := i_rg c; have : (0 : Int32).toInt = 0 := rfl; have := i_eq ek2; have : (nI k2).toInt = ((k2 : Nat) : Int) := nI_toInt (by omega); have := i_nle c3; have : (24 : Int32).toInt = 24 := rfl; omega)) : _ = k2)) ?_
                      refine WR_tI (y := nI t7) (Eq.trans (I_ne (fx_ne fx (by decide))) (Eq.trans (I_ne (fx_ne fx (by decide))) v7)) ?_
                      refine r_istore (lv' := [some (.ref (ad 30)), some (.int c), some (.int i), some (.int d), some (.int j), some (.int m), some (.int (nI t7)), none, none, none, none]) rfl (Nat.le_of_ble_eq_true rfl) rfl ?_
                      refine r_aload rfl rfl ?_
                      refine r_getA (b := ad 31) rfl ⟨rfl, rfl, rfl⟩ (fx_t30 fx) (fx_r30_0 fx) ?_
                      refine r_iload rfl rfl ?_
                      refine WR_tI (y := nI k5) ek5 ?_
                      refine r_iaload rfl (.inl (fx_t31 fx)) (vp_ct (fx_n31 fx) (vp_in_nI (by have := i_nlt c4; have := i_rg d; have : (0 : Int32).toInt = 0 := rfl; have := i_eq ek5; have : (nI k5).toInt = ((k5 : Nat) : Int) := nI_toInt (by omega); have := i_nle c6; have : (24 : Int32).toInt = 24 := rfl; omega) (by omega))) ?_
                      refine WR_tI (congrArg (hI (sI (sI h (ad 0) 6 0) (ad 0) 6 (-12)) (ad 31)) ((nI_clamp (by have := i_nlt c4; have := i_rg d; have : (0 : Int32).toInt = 0 := rfl; have := i_eq ek5; have : (nI k5).toInt = ((k5 : Nat) : Int) := nI_toInt (by omega); have := i_nle c6; have : (24 : Int32).toInt = 24 := rfl; omega)) : _ = k5)) ?_
                      refine WR_tI (y := nI t46) (Eq.trans (I_ne (fx_ne fx (by decide))) (Eq.trans (I_ne (fx_ne fx (by decide))) v46)) ?_
                      refine r_istore (lv' := [some (.ref (ad 30)), some (.int c), some (.int i), some (.int d), some (.int j), some (.int m), some (.int (nI t7)), some (.int (nI t46)), none, none, none]) rfl (Nat.le_of_ble_eq_true rfl) rfl ?_
                      refine r_iload rfl rfl ?_
                      refine r_ic (x := (-1)) rfl rfl ?_
                      refine r_icmp_eq (tg := 49) rfl rfl (fun q => False.elim (by have : (nI t7).toInt = ((t7 : Nat) : Int) := nI_toInt (by omega); have : (-1 : Int32).toInt = -1 := rfl; have := i_eq q; omega)) (fun _ => ?_)
                      refine r_iload rfl rfl ?_
                      refine r_ic (x := (-1)) rfl rfl ?_
                      refine r_icmp_ne (tg := 55) rfl rfl (fun _ => ?_) (fun q => False.elim (by have : (nI t46).toInt = ((t46 : Nat) : Int) := nI_toInt (by omega); have : (-1 : Int32).toInt = -1 := rfl; have := i_eq q; omega))
                      refine r_iload rfl rfl ?_
                      refine r_ic (x := 1000) rfl rfl ?_
                      refine r_icmp_ge (tg := 112) rfl rfl (fun q => False.elim (by have : (nI t7).toInt = ((t7 : Nat) : Int) := nI_toInt (by omega); have : (1000 : Int32).toInt = 1000 := rfl; have := i_le q; omega)) (fun _ => ?_)
                      refine r_iload rfl rfl ?_
                      refine r_ic (x := 1000) rfl rfl ?_
                      refine r_icmp_ge (tg := 112) rfl rfl (fun q => False.elim (by have : (nI t46).toInt = ((t46 : Nat) : Int) := nI_toInt (by omega); have : (1000 : Int32).toInt = 1000 := rfl; have := i_le q; omega)) (fun _ => ?_)
                      refine r_aload rfl rfl ?_
                      refine r_getA (b := ad 33) rfl ⟨rfl, rfl, rfl⟩ (fx_t30 fx) (fx_r30_2 fx) ?_
                      refine r_iload rfl rfl ?_
                      refine r_iaload rfl (.inl (fx_t33 fx)) (vp_ct (fx_n33 fx) (vp_in_nI (by omega) (by omega))) ?_
                      refine WR_tI (congrArg (hI (sI (sI h (ad 0) 6 0) (ad 0) 6 (-12)) (ad 33)) ((nI_clamp (by omega)) : _ = t7)) ?_
                      refine WR_tI (y := 9) (Eq.trans (I_ne (fx_ne fx (by decide))) (Eq.trans (I_ne (fx_ne fx (by decide))) l2_7)) ?_
                      refine r_aload rfl rfl ?_
                      refine r_getA (b := ad 33) rfl ⟨rfl, rfl, rfl⟩ (fx_t30 fx) (fx_r30_2 fx) ?_
                      refine r_iload rfl rfl ?_
                      refine r_iaload rfl (.inl (fx_t33 fx)) (vp_ct (fx_n33 fx) (vp_in_nI (by omega) (by omega))) ?_
                      refine WR_tI (congrArg (hI (sI (sI h (ad 0) 6 0) (ad 0) 6 (-12)) (ad 33)) ((nI_clamp (by omega)) : _ = t46)) ?_
                      refine WR_tI (y := 9) (Eq.trans (I_ne (fx_ne fx (by decide))) (Eq.trans (I_ne (fx_ne fx (by decide))) l2_46)) ?_
                      refine r_icmp_eq (tg := 118) rfl rfl (fun _ => ?_) (fun q => absurd q (by decide))
                      refine r_iload rfl rfl ?_
                      refine WR_tI (y := nI k63) ek63 ?_
                      refine r_if_lt (tg := 169) rfl rfl (fun q => False.elim (by have := i_nlt c58; have := i_rg i; have : (0 : Int32).toInt = 0 := rfl; have := i_nlt c59; have := i_rg m; have := i_eq ek62; have : (nI k62).toInt = ((k62 : Nat) : Int) := nI_toInt (by omega); have := i_eq ek63; have : (nI k63).toInt = ((k63 : Nat) : Int) := nI_toInt (by omega); have := i_nlt c64; have : (nI sz7).toInt = ((sz7 : Nat) : Int) := nI_toInt (by omega); have := sub_t (x := nI sz7) (y := nI k63) (by have := i_nlt c58; have := i_rg i; have : (0 : Int32).toInt = 0 := rfl; have := i_eq ek63; have : (nI k63).toInt = ((k63 : Nat) : Int) := nI_toInt (by omega); have : (nI sz7).toInt = ((sz7 : Nat) : Int) := nI_toInt (by omega); omega) (by have := i_nlt c58; have := i_rg i; have : (0 : Int32).toInt = 0 := rfl; have := i_eq ek63; have : (nI k63).toInt = ((k63 : Nat) : Int) := nI_toInt (by omega); have : (nI sz7).toInt = ((sz7 : Nat) : Int) := nI_toInt (by omega); omega); have := i_lt q; omega)) (fun _ => ?_)
                      refine r_iload rfl rfl ?_
                      refine r_if_lt (tg := 169) rfl rfl (fun _ => ?_) (fun q => False.elim (by have := i_lt c66; have := i_rg j; have : (0 : Int32).toInt = 0 := rfl; have := i_nlt q; omega))
                      refine r_aload rfl rfl ?_
                      refine r_ic (x := 2) rfl rfl ?_
                      refine r_cv (y := 156) (ra := [.int 2]) (rest := []) rfl ⟨⟨rfl, rfl⟩, rfl, by decide⟩ (fx_t30 fx) rfl rfl (Nat.le_of_ble_eq_true rfl) ?_
                      refine in_156 (Nat.le_of_ble_eq_true rfl) ?_
                      show WR _ cd_156 0 [some (.ref (ad 30)), some (.int 2)] [] (sI (sI h (ad 0) 6 0) (ad 0) 6 (-12)) _
                      refine r_aload rfl rfl ?_
                      refine r_ic (x := (-10)) rfl rfl ?_
                      refine r_iload rfl rfl ?_
                      refine r_isub rfl ?_
                      refine WR_tI (y := (-12)) rfl ?_
                      refine r_cv (y := 154) (ra := [.int (-12)]) (rest := []) rfl ⟨⟨rfl, rfl⟩, rfl, by decide⟩ (fx_t30 fx) rfl rfl (Nat.le_of_ble_eq_true rfl) ?_
                      refine in_154 (Nat.le_of_ble_eq_true rfl) ?_
                      show WR _ cd_154 0 [some (.ref (ad 30)), some (.int (-12))] [] (sI (sI h (ad 0) 6 0) (ad 0) 6 (-12)) _
                      refine r_aload rfl rfl ?_
                      refine r_iload rfl rfl ?_
                      refine r_ic (x := (-1)) rfl rfl ?_
                      refine r_icmp_ge (tg := 10) rfl rfl (fun q => absurd q (by decide)) (fun _ => ?_)
                      refine r_iload rfl rfl ?_
                      refine r_goto (tg := 11) rfl rfl ?_
                      refine r_putI rfl ⟨rfl, rfl, rfl⟩ (fx_t30 fx) ?_
                      have fx : FX n ad sa z0 (sI (sI (sI h (ad 0) 6 0) (ad 0) 6 (-12)) (ad 30) 11 (-12)) := (FX.sI fx)
                      refine r_iload rfl rfl ?_
                      refine r_iret rfl ?_
                      show WR _ cd_156 8 [some (.ref (ad 30)), some (.int 2)] [.int (-12)] (sI (sI (sI h (ad 0) 6 0) (ad 0) 6 (-12)) (ad 30) 11 (-12)) _
                      refine r_iret rfl ?_
                      show WR _ cd_179 174 [some (.ref (ad 30)), some (.int c), some (.int i), some (.int d), some (.int j), some (.int m), some (.int (nI t7)), some (.int (nI t46)), none, none, none] [.int (-12)] (sI (sI (sI h (ad 0) 6 0) (ad 0) 6 (-12)) (ad 30) 11 (-12)) _
                      refine r_iret rfl ?_
                      exact ⟨rfl, Rel.why r (((Chg.rf.sI (fx_j fx) (.inl (by decide))).sI (fx_j fx) (.inl (by decide))).sI (fx_j fx) (.inl (by decide))) ⟨rfl, by decide⟩ (Eq.trans (Eq.trans (I_ne (fx_ne fx (by decide))) I_eq) (Eq.symm I_eq)), (by (try simp only [hZ_sI, hZ_sL, hZ_sD, hZ_sR]); omega), (by (try simp only [hU_sI, hU_sL, hU_sD, hU_sR]); omega)⟩
                    · refine r_iload rfl rfl ?_
                      refine r_if_lt (tg := 22) rfl rfl (fun q => False.elim (by have := i_nlt c58; have := i_rg i; have : (0 : Int32).toInt = 0 := rfl; have := i_nlt c59; have := i_rg m; have := i_eq ek62; have : (nI k62).toInt = ((k62 : Nat) : Int) := nI_toInt (by omega); have := i_eq ek63; have : (nI k63).toInt = ((k63 : Nat) : Int) := nI_toInt (by omega); have := i_nlt c64; have : (nI sz7).toInt = ((sz7 : Nat) : Int) := nI_toInt (by omega); have := sub_t (x := nI sz7) (y := nI k63) (by have := i_nlt c58; have := i_rg i; have : (0 : Int32).toInt = 0 := rfl; have := i_eq ek63; have : (nI k63).toInt = ((k63 : Nat) : Int) := nI_toInt (by omega); have : (nI sz7).toInt = ((sz7 : Nat) : Int) := nI_toInt (by omega); omega) (by have := i_nlt c58; have := i_rg i; have : (0 : Int32).toInt = 0 := rfl; have := i_eq ek63; have : (nI k63).toInt = ((k63 : Nat) : Int) := nI_toInt (by omega); have : (nI sz7).toInt = ((sz7 : Nat) : Int) := nI_toInt (by omega); omega); have := i_lt q; omega)) (fun _ => ?_)
                      refine r_iload rfl rfl ?_
                      refine r_aload rfl rfl ?_
                      refine r_cw (y := 35) (ra := []) (rest := [.int (nI k62)]) rfl ⟨rfl, rfl⟩ (by rw [show hT (sI h (ad 0) 6 0) (mid t46) = 6 from tg46]; rfl) rfl rfl (Nat.le_of_ble_eq_true rfl) ?_
                      refine in_35 (Nat.le_of_ble_eq_true rfl) ?_
                      show WR _ cd_35 0 [some (.ref (mid t46))] [] (sI h (ad 0) 6 0) _
                      refine r_aload rfl rfl ?_
                      refine r_getA (b := mid t46 + 1) rfl ⟨rfl, rfl, rfl⟩ tg46 (Eq.trans R_oI r_46) ?_
                      refine r_alen rfl (isA_of tg2_46 (by decide)) ?_
                      refine WR_tI (y := nI sz46) (congrArg nI n_46) ?_
                      refine r_iret rfl ?_
                      show WR _ cd_32 13 [some (.ref (mid t46)), some (.int j), some (.int (nI k62))] [.int (nI sz46), .int (nI k62)] (sI h (ad 0) 6 0) _
                      obtain ⟨k67, hk67, ek67⟩ := ix_of (x := j) (n := 2147483648) (by have := i_nlt c66; have := i_rg j; have : (0 : Int32).toInt = 0 := rfl; omega) (by have := i_nlt c66; have := i_rg j; have : (0 : Int32).toInt = 0 := rfl; omega)
                      refine r_iload rfl rfl ?_
                      refine WR_tI (y := nI k67) ek67 ?_
                      refine r_isub rfl ?_
                      refine r_icmp_gt (tg := 22) rfl rfl (fun c68 => ?_) (fun c68 => ?_)
                      · refine r_ic (x := 0) rfl rfl ?_
                        refine r_zret rfl (.inl rfl) ?_
                        show WR _ cd_51 96 [some (.ref (ad 0)), some (.int c), some (.int i), some (.int d), some (.int j), some (.int m), some (.ref (mid t7)), some (.ref (mid t46)), none] [.int 0] (sI h (ad 0) 6 0) _
                        refine r_if_ne (tg := 106) rfl rfl (fun q => absurd q (by decide)) (fun _ => ?_)
                        refine r_aload rfl rfl ?_
                        refine r_ic (x := (-12)) rfl rfl ?_
                        refine r_cv (y := 13) (ra := [.int (-12)]) (rest := []) rfl ⟨⟨rfl, rfl⟩, rfl, by decide⟩ (fx_t0 fx) rfl rfl (Nat.le_of_ble_eq_true rfl) ?_
                        refine in_13 (Nat.le_of_ble_eq_true rfl) ?_
                        show WR _ cd_13 0 [some (.ref (ad 0)), some (.int (-12))] [] (sI h (ad 0) 6 0) _
                        refine r_aload rfl rfl ?_
                        refine r_iload rfl rfl ?_
                        refine r_putI rfl ⟨rfl, rfl, rfl⟩ (fx_t0 fx) ?_
                        have fx : FX n ad sa z0 (sI (sI h (ad 0) 6 0) (ad 0) 6 (-12)) := (FX.sI fx)
                        refine r_iload rfl rfl ?_
                        refine r_iret rfl ?_
                        show WR _ cd_51 105 [some (.ref (ad 0)), some (.int c), some (.int i), some (.int d), some (.int j), some (.int m), some (.ref (mid t7)), some (.ref (mid t46)), none] [.int (-12)] (sI (sI h (ad 0) 6 0) (ad 0) 6 (-12)) _
                        refine r_iret rfl ?_
                        show EV _ 179 [.ref (ad 30), .int c, .int i, .int d, .int j, .int m] (sI (sI h (ad 0) 6 0) (ad 0) 6 (-12)) _
                        refine in_179 (Nat.le_of_ble_eq_true rfl) ?_
                        show WR _ cd_179 0 [some (.ref (ad 30)), some (.int c), some (.int i), some (.int d), some (.int j), some (.int m), none, none, none, none, none] [] (sI (sI h (ad 0) 6 0) (ad 0) 6 (-12)) _
                        refine r_iload rfl rfl ?_
                        refine WR_tI (y := nI k2) ek2 ?_
                        refine r_cs (y := 153) (ra := [.int (nI k2)]) (rest := []) rfl ⟨⟨rfl, rfl⟩, by decide⟩ rfl rfl (Nat.le_of_ble_eq_true rfl) ?_
                        refine in_153 (Nat.le_of_ble_eq_true rfl) ?_
                        show WR _ cd_153 0 [some (.int (nI k2))] [] (sI (sI h (ad 0) 6 0) (ad 0) 6 (-12)) _
                        refine r_iload rfl rfl ?_
                        refine r_if_lt (tg := 14) rfl rfl (fun q => False.elim (by have := i_nlt c1; have := i_rg c; have : (0 : Int32).toInt = 0 := rfl; have := i_eq ek2; have : (nI k2).toInt = ((k2 : Nat) : Int) := nI_toInt (by omega); have := i_nle c3; have : (24 : Int32).toInt = 24 := rfl; have := i_lt q; omega)) (fun _ => ?_)
                        refine r_iload rfl rfl ?_
                        refine r_ic (x := 24) rfl rfl ?_
                        refine r_icmp_ge (tg := 14) rfl rfl (fun q => False.elim (by have := i_nlt c1; have := i_rg c; have : (0 : Int32).toInt = 0 := rfl; have := i_eq ek2; have : (nI k2).toInt = ((k2 : Nat) : Int) := nI_toInt (by omega); have := i_nle c3; have : (24 : Int32).toInt = 24 := rfl; have := i_le q; omega)) (fun _ => ?_)
                        refine r_ic (x := 1) rfl rfl ?_
                        refine r_goto (tg := 15) rfl rfl ?_
                        refine r_zret rfl (.inr rfl) ?_
                        show WR _ cd_179 4 [some (.ref (ad 30)), some (.int c), some (.int i), some (.int d), some (.int j), some (.int m), none, none, none, none, none] [.int 1] (sI (sI h (ad 0) 6 0) (ad 0) 6 (-12)) _
                        refine r_if_eq (tg := 14) rfl rfl (fun q => absurd q (by decide)) (fun _ => ?_)
                        refine r_iload rfl rfl ?_
                        refine WR_tI (y := nI k5) ek5 ?_
                        refine r_cs (y := 153) (ra := [.int (nI k5)]) (rest := []) rfl ⟨⟨rfl, rfl⟩, by decide⟩ rfl rfl (Nat.le_of_ble_eq_true rfl) ?_
                        refine in_153 (Nat.le_of_ble_eq_true rfl) ?_
                        show WR _ cd_153 0 [some (.int (nI k5))] [] (sI (sI h (ad 0) 6 0) (ad 0) 6 (-12)) _
                        refine r_iload rfl rfl ?_
                        refine r_if_lt (tg := 14) rfl rfl (fun q => False.elim (by have := i_nlt c4; have := i_rg d; have : (0 : Int32).toInt = 0 := rfl; have := i_eq ek5; have : (nI k5).toInt = ((k5 : Nat) : Int) := nI_toInt (by omega); have := i_nle c6; have : (24 : Int32).toInt = 24 := rfl; have := i_lt q; omega)) (fun _ => ?_)
                        refine r_iload rfl rfl ?_
                        refine r_ic (x := 24) rfl rfl ?_
                        refine r_icmp_ge (tg := 14) rfl rfl (fun q => False.elim (by have := i_nlt c4; have := i_rg d; have : (0 : Int32).toInt = 0 := rfl; have := i_eq ek5; have : (nI k5).toInt = ((k5 : Nat) : Int) := nI_toInt (by omega); have := i_nle c6; have : (24 : Int32).toInt = 24 := rfl; have := i_le q; omega)) (fun _ => ?_)
                        refine r_ic (x := 1) rfl rfl ?_
                        refine r_goto (tg := 15) rfl rfl ?_
                        refine r_zret rfl (.inr rfl) ?_
                        show WR _ cd_179 11 [some (.ref (ad 30)), some (.int c), some (.int i), some (.int d), some (.int j), some (.int m), none, none, none, none, none] [.int 1] (sI (sI h (ad 0) 6 0) (ad 0) 6 (-12)) _
                        refine r_if_ne (tg := 21) rfl rfl (fun _ => ?_) (fun q => absurd q (by decide))
                        refine r_aload rfl rfl ?_
                        refine r_getA (b := ad 31) rfl ⟨rfl, rfl, rfl⟩ (fx_t30 fx) (fx_r30_0 fx) ?_
                        refine r_iload rfl rfl ?_
                        refine WR_tI (y := nI k2) ek2 ?_
                        refine r_iaload rfl (.inl (fx_t31 fx)) (vp_ct (fx_n31 fx) (vp_in_nI (by have := i_nlt c1; have := i_rg c; have : (0 : Int32).toInt = 0 := rfl; have := i_eq ek2; have : (nI k2).toInt = ((k2 : Nat) : Int) := nI_toInt (by omega); have := i_nle c3; have : (24 : Int32).toInt = 24 := rfl; omega) (by omega))) ?_
                        refine WR_tI (congrArg (hI (sI (sI h (ad 0) 6 0) (ad 0) 6 (-12)) (ad 31)) ((nI_clamp (by have := i_nlt c1; have := i_rg c; have : (0 : Int32).toInt = 0 := rfl; have := i_eq ek2; have : (nI k2).toInt = ((k2 : Nat) : Int) := nI_toInt (by omega); have := i_nle c3; have : (24 : Int32).toInt = 24 := rfl; omega)) : _ = k2)) ?_
                        refine WR_tI (y := nI t7) (Eq.trans (I_ne (fx_ne fx (by decide))) (Eq.trans (I_ne (fx_ne fx (by decide))) v7)) ?_
                        refine r_istore (lv' := [some (.ref (ad 30)), some (.int c), some (.int i), some (.int d), some (.int j), some (.int m), some (.int (nI t7)), none, none, none, none]) rfl (Nat.le_of_ble_eq_true rfl) rfl ?_
                        refine r_aload rfl rfl ?_
                        refine r_getA (b := ad 31) rfl ⟨rfl, rfl, rfl⟩ (fx_t30 fx) (fx_r30_0 fx) ?_
                        refine r_iload rfl rfl ?_
                        refine WR_tI (y := nI k5) ek5 ?_
                        refine r_iaload rfl (.inl (fx_t31 fx)) (vp_ct (fx_n31 fx) (vp_in_nI (by have := i_nlt c4; have := i_rg d; have : (0 : Int32).toInt = 0 := rfl; have := i_eq ek5; have : (nI k5).toInt = ((k5 : Nat) : Int) := nI_toInt (by omega); have := i_nle c6; have : (24 : Int32).toInt = 24 := rfl; omega) (by omega))) ?_
                        refine WR_tI (congrArg (hI (sI (sI h (ad 0) 6 0) (ad 0) 6 (-12)) (ad 31)) ((nI_clamp (by have := i_nlt c4; have := i_rg d; have : (0 : Int32).toInt = 0 := rfl; have := i_eq ek5; have : (nI k5).toInt = ((k5 : Nat) : Int) := nI_toInt (by omega); have := i_nle c6; have : (24 : Int32).toInt = 24 := rfl; omega)) : _ = k5)) ?_
                        refine WR_tI (y := nI t46) (Eq.trans (I_ne (fx_ne fx (by decide))) (Eq.trans (I_ne (fx_ne fx (by decide))) v46)) ?_
                        refine r_istore (lv' := [some (.ref (ad 30)), some (.int c), some (.int i), some (.int d), some (.int j), some (.int m), some (.int (nI t7)), some (.int (nI t46)), none, none, none]) rfl (Nat.le_of_ble_eq_true rfl) rfl ?_
                        refine r_iload rfl rfl ?_
                        refine r_ic (x := (-1)) rfl rfl ?_
                        refine r_icmp_eq (tg := 49) rfl rfl (fun q => False.elim (by have : (nI t7).toInt = ((t7 : Nat) : Int) := nI_toInt (by omega); have : (-1 : Int32).toInt = -1 := rfl; have := i_eq q; omega)) (fun _ => ?_)
                        refine r_iload rfl rfl ?_
                        refine r_ic (x := (-1)) rfl rfl ?_
                        refine r_icmp_ne (tg := 55) rfl rfl (fun _ => ?_) (fun q => False.elim (by have : (nI t46).toInt = ((t46 : Nat) : Int) := nI_toInt (by omega); have : (-1 : Int32).toInt = -1 := rfl; have := i_eq q; omega))
                        refine r_iload rfl rfl ?_
                        refine r_ic (x := 1000) rfl rfl ?_
                        refine r_icmp_ge (tg := 112) rfl rfl (fun q => False.elim (by have : (nI t7).toInt = ((t7 : Nat) : Int) := nI_toInt (by omega); have : (1000 : Int32).toInt = 1000 := rfl; have := i_le q; omega)) (fun _ => ?_)
                        refine r_iload rfl rfl ?_
                        refine r_ic (x := 1000) rfl rfl ?_
                        refine r_icmp_ge (tg := 112) rfl rfl (fun q => False.elim (by have : (nI t46).toInt = ((t46 : Nat) : Int) := nI_toInt (by omega); have : (1000 : Int32).toInt = 1000 := rfl; have := i_le q; omega)) (fun _ => ?_)
                        refine r_aload rfl rfl ?_
                        refine r_getA (b := ad 33) rfl ⟨rfl, rfl, rfl⟩ (fx_t30 fx) (fx_r30_2 fx) ?_
                        refine r_iload rfl rfl ?_
                        refine r_iaload rfl (.inl (fx_t33 fx)) (vp_ct (fx_n33 fx) (vp_in_nI (by omega) (by omega))) ?_
                        refine WR_tI (congrArg (hI (sI (sI h (ad 0) 6 0) (ad 0) 6 (-12)) (ad 33)) ((nI_clamp (by omega)) : _ = t7)) ?_
                        refine WR_tI (y := 9) (Eq.trans (I_ne (fx_ne fx (by decide))) (Eq.trans (I_ne (fx_ne fx (by decide))) l2_7)) ?_
                        refine r_aload rfl rfl ?_
                        refine r_getA (b := ad 33) rfl ⟨rfl, rfl, rfl⟩ (fx_t30 fx) (fx_r30_2 fx) ?_
                        refine r_iload rfl rfl ?_
                        refine r_iaload rfl (.inl (fx_t33 fx)) (vp_ct (fx_n33 fx) (vp_in_nI (by omega) (by omega))) ?_
                        refine WR_tI (congrArg (hI (sI (sI h (ad 0) 6 0) (ad 0) 6 (-12)) (ad 33)) ((nI_clamp (by omega)) : _ = t46)) ?_
                        refine WR_tI (y := 9) (Eq.trans (I_ne (fx_ne fx (by decide))) (Eq.trans (I_ne (fx_ne fx (by decide))) l2_46)) ?_
                        refine r_icmp_eq (tg := 118) rfl rfl (fun _ => ?_) (fun q => absurd q (by decide))
                        refine r_iload rfl rfl ?_
                        refine WR_tI (y := nI k63) ek63 ?_
                        refine r_if_lt (tg := 169) rfl rfl (fun q => False.elim (by have := i_nlt c58; have := i_rg i; have : (0 : Int32).toInt = 0 := rfl; have := i_nlt c59; have := i_rg m; have := i_eq ek62; have : (nI k62).toInt = ((k62 : Nat) : Int) := nI_toInt (by omega); have := i_eq ek63; have : (nI k63).toInt = ((k63 : Nat) : Int) := nI_toInt (by omega); have := i_nlt c64; have : (nI sz7).toInt = ((sz7 : Nat) : Int) := nI_toInt (by omega); have := sub_t (x := nI sz7) (y := nI k63) (by have := i_nlt c58; have := i_rg i; have : (0 : Int32).toInt = 0 := rfl; have := i_eq ek63; have : (nI k63).toInt = ((k63 : Nat) : Int) := nI_toInt (by omega); have : (nI sz7).toInt = ((sz7 : Nat) : Int) := nI_toInt (by omega); omega) (by have := i_nlt c58; have := i_rg i; have : (0 : Int32).toInt = 0 := rfl; have := i_eq ek63; have : (nI k63).toInt = ((k63 : Nat) : Int) := nI_toInt (by omega); have : (nI sz7).toInt = ((sz7 : Nat) : Int) := nI_toInt (by omega); omega); have := i_nlt c66; have := i_rg j; have := i_eq ek67; have : (nI k67).toInt = ((k67 : Nat) : Int) := nI_toInt (by omega); have := i_lt c68; have : (nI sz46).toInt = ((sz46 : Nat) : Int) := nI_toInt (by omega); have := sub_t (x := nI sz46) (y := nI k67) (by have := i_nlt c66; have := i_rg j; have : (0 : Int32).toInt = 0 := rfl; have := i_eq ek67; have : (nI k67).toInt = ((k67 : Nat) : Int) := nI_toInt (by omega); have : (nI sz46).toInt = ((sz46 : Nat) : Int) := nI_toInt (by omega); omega) (by have := i_nlt c66; have := i_rg j; have : (0 : Int32).toInt = 0 := rfl; have := i_eq ek67; have : (nI k67).toInt = ((k67 : Nat) : Int) := nI_toInt (by omega); have : (nI sz46).toInt = ((sz46 : Nat) : Int) := nI_toInt (by omega); omega); have := i_lt q; omega)) (fun _ => ?_)
                        refine r_iload rfl rfl ?_
                        refine WR_tI (y := nI k67) ek67 ?_
                        refine r_if_lt (tg := 169) rfl rfl (fun q => False.elim (by have := i_nlt c58; have := i_rg i; have : (0 : Int32).toInt = 0 := rfl; have := i_nlt c59; have := i_rg m; have := i_eq ek62; have : (nI k62).toInt = ((k62 : Nat) : Int) := nI_toInt (by omega); have := i_eq ek63; have : (nI k63).toInt = ((k63 : Nat) : Int) := nI_toInt (by omega); have := i_nlt c64; have : (nI sz7).toInt = ((sz7 : Nat) : Int) := nI_toInt (by omega); have := sub_t (x := nI sz7) (y := nI k63) (by have := i_nlt c58; have := i_rg i; have : (0 : Int32).toInt = 0 := rfl; have := i_eq ek63; have : (nI k63).toInt = ((k63 : Nat) : Int) := nI_toInt (by omega); have : (nI sz7).toInt = ((sz7 : Nat) : Int) := nI_toInt (by omega); omega) (by have := i_nlt c58; have := i_rg i; have : (0 : Int32).toInt = 0 := rfl; have := i_eq ek63; have : (nI k63).toInt = ((k63 : Nat) : Int) := nI_toInt (by omega); have : (nI sz7).toInt = ((sz7 : Nat) : Int) := nI_toInt (by omega); omega); have := i_nlt c66; have := i_rg j; have := i_eq ek67; have : (nI k67).toInt = ((k67 : Nat) : Int) := nI_toInt (by omega); have := i_lt c68; have : (nI sz46).toInt = ((sz46 : Nat) : Int) := nI_toInt (by omega); have := sub_t (x := nI sz46) (y := nI k67) (by have := i_nlt c66; have := i_rg j; have : (0 : Int32).toInt = 0 := rfl; have := i_eq ek67; have : (nI k67).toInt = ((k67 : Nat) : Int) := nI_toInt (by omega); have : (nI sz46).toInt = ((sz46 : Nat) : Int) := nI_toInt (by omega); omega) (by have := i_nlt c66; have := i_rg j; have : (0 : Int32).toInt = 0 := rfl; have := i_eq ek67; have : (nI k67).toInt = ((k67 : Nat) : Int) := nI_toInt (by omega); have : (nI sz46).toInt = ((sz46 : Nat) : Int) := nI_toInt (by omega); omega); have := i_lt q; omega)) (fun _ => ?_)
                        refine r_iload rfl rfl ?_
                        refine WR_tI (y := nI k62) ek62 ?_
                        refine r_if_lt (tg := 169) rfl rfl (fun q => False.elim (by have := i_nlt c58; have := i_rg i; have : (0 : Int32).toInt = 0 := rfl; have := i_nlt c59; have := i_rg m; have := i_eq ek62; have : (nI k62).toInt = ((k62 : Nat) : Int) := nI_toInt (by omega); have := i_eq ek63; have : (nI k63).toInt = ((k63 : Nat) : Int) := nI_toInt (by omega); have := i_nlt c64; have : (nI sz7).toInt = ((sz7 : Nat) : Int) := nI_toInt (by omega); have := sub_t (x := nI sz7) (y := nI k63) (by have := i_nlt c58; have := i_rg i; have : (0 : Int32).toInt = 0 := rfl; have := i_eq ek63; have : (nI k63).toInt = ((k63 : Nat) : Int) := nI_toInt (by omega); have : (nI sz7).toInt = ((sz7 : Nat) : Int) := nI_toInt (by omega); omega) (by have := i_nlt c58; have := i_rg i; have : (0 : Int32).toInt = 0 := rfl; have := i_eq ek63; have : (nI k63).toInt = ((k63 : Nat) : Int) := nI_toInt (by omega); have : (nI sz7).toInt = ((sz7 : Nat) : Int) := nI_toInt (by omega); omega); have := i_nlt c66; have := i_rg j; have := i_eq ek67; have : (nI k67).toInt = ((k67 : Nat) : Int) := nI_toInt (by omega); have := i_lt c68; have : (nI sz46).toInt = ((sz46 : Nat) : Int) := nI_toInt (by omega); have := sub_t (x := nI sz46) (y := nI k67) (by have := i_nlt c66; have := i_rg j; have : (0 : Int32).toInt = 0 := rfl; have := i_eq ek67; have : (nI k67).toInt = ((k67 : Nat) : Int) := nI_toInt (by omega); have : (nI sz46).toInt = ((sz46 : Nat) : Int) := nI_toInt (by omega); omega) (by have := i_nlt c66; have := i_rg j; have : (0 : Int32).toInt = 0 := rfl; have := i_eq ek67; have : (nI k67).toInt = ((k67 : Nat) : Int) := nI_toInt (by omega); have : (nI sz46).toInt = ((sz46 : Nat) : Int) := nI_toInt (by omega); omega); have := i_lt q; omega)) (fun _ => ?_)
                        refine r_iload rfl rfl ?_
                        refine WR_tI (y := nI k63) ek63 ?_
                        refine r_i2l rfl ?_
                        refine WR_tL (y := lN k63) (nI_l (by have := i_nlt c58; have := i_rg i; have : (0 : Int32).toInt = 0 := rfl; have := i_nlt c59; have := i_rg m; have := i_eq ek62; have : (nI k62).toInt = ((k62 : Nat) : Int) := nI_toInt (by omega); have := i_eq ek63; have : (nI k63).toInt = ((k63 : Nat) : Int) := nI_toInt (by omega); have := i_nlt c64; have : (nI sz7).toInt = ((sz7 : Nat) : Int) := nI_toInt (by omega); have := sub_t (x := nI sz7) (y := nI k63) (by have := i_nlt c58; have := i_rg i; have : (0 : Int32).toInt = 0 := rfl; have := i_eq ek63; have : (nI k63).toInt = ((k63 : Nat) : Int) := nI_toInt (by omega); have : (nI sz7).toInt = ((sz7 : Nat) : Int) := nI_toInt (by omega); omega) (by have := i_nlt c58; have := i_rg i; have : (0 : Int32).toInt = 0 := rfl; have := i_eq ek63; have : (nI k63).toInt = ((k63 : Nat) : Int) := nI_toInt (by omega); have : (nI sz7).toInt = ((sz7 : Nat) : Int) := nI_toInt (by omega); omega); have := i_nlt c66; have := i_rg j; have := i_eq ek67; have : (nI k67).toInt = ((k67 : Nat) : Int) := nI_toInt (by omega); have := i_lt c68; have : (nI sz46).toInt = ((sz46 : Nat) : Int) := nI_toInt (by omega); have := sub_t (x := nI sz46) (y := nI k67) (by have := i_nlt c66; have := i_rg j; have : (0 : Int32).toInt = 0 := rfl; have := i_eq ek67; have : (nI k67).toInt = ((k67 : Nat) : Int) := nI_toInt (by omega); have : (nI sz46).toInt = ((sz46 : Nat) : Int) := nI_toInt (by omega); omega) (by have := i_nlt c66; have := i_rg j; have : (0 : Int32).toInt = 0 := rfl; have := i_eq ek67; have : (nI k67).toInt = ((k67 : Nat) : Int) := nI_toInt (by omega); have : (nI sz46).toInt = ((sz46 : Nat) : Int) := nI_toInt (by omega); omega); omega)) ?_
                        refine r_iload rfl rfl ?_
                        refine WR_tI (y := nI k62) ek62 ?_
                        refine r_i2l rfl ?_
                        refine WR_tL (y := lN k62) (nI_l (by have := i_nlt c58; have := i_rg i; have : (0 : Int32).toInt = 0 := rfl; have := i_nlt c59; have := i_rg m; have := i_eq ek62; have : (nI k62).toInt = ((k62 : Nat) : Int) := nI_toInt (by omega); have := i_eq ek63; have : (nI k63).toInt = ((k63 : Nat) : Int) := nI_toInt (by omega); have := i_nlt c64; have : (nI sz7).toInt = ((sz7 : Nat) : Int) := nI_toInt (by omega); have := sub_t (x := nI sz7) (y := nI k63) (by have := i_nlt c58; have := i_rg i; have : (0 : Int32).toInt = 0 := rfl; have := i_eq ek63; have : (nI k63).toInt = ((k63 : Nat) : Int) := nI_toInt (by omega); have : (nI sz7).toInt = ((sz7 : Nat) : Int) := nI_toInt (by omega); omega) (by have := i_nlt c58; have := i_rg i; have : (0 : Int32).toInt = 0 := rfl; have := i_eq ek63; have : (nI k63).toInt = ((k63 : Nat) : Int) := nI_toInt (by omega); have : (nI sz7).toInt = ((sz7 : Nat) : Int) := nI_toInt (by omega); omega); have := i_nlt c66; have := i_rg j; have := i_eq ek67; have : (nI k67).toInt = ((k67 : Nat) : Int) := nI_toInt (by omega); have := i_lt c68; have : (nI sz46).toInt = ((sz46 : Nat) : Int) := nI_toInt (by omega); have := sub_t (x := nI sz46) (y := nI k67) (by have := i_nlt c66; have := i_rg j; have : (0 : Int32).toInt = 0 := rfl; have := i_eq ek67; have : (nI k67).toInt = ((k67 : Nat) : Int) := nI_toInt (by omega); have : (nI sz46).toInt = ((sz46 : Nat) : Int) := nI_toInt (by omega); omega) (by have := i_nlt c66; have := i_rg j; have : (0 : Int32).toInt = 0 := rfl; have := i_eq ek67; have : (nI k67).toInt = ((k67 : Nat) : Int) := nI_toInt (by omega); have : (nI sz46).toInt = ((sz46 : Nat) : Int) := nI_toInt (by omega); omega); omega)) ?_
                        refine r_ladd rfl ?_
                        refine WR_tL (y := lN (k62 + k63)) (Eq.trans (lN_add k63 k62) (congrArg lN (by omega))) ?_
                        refine r_aload rfl rfl ?_
                        refine r_getA (b := ad 35) rfl ⟨rfl, rfl, rfl⟩ (fx_t30 fx) (fx_r30_4 fx) ?_
                        refine r_iload rfl rfl ?_
                        refine r_iaload rfl (.inl (fx_t35 fx)) (vp_ct (fx_n35 fx) (vp_in_nI (by omega) (by omega))) ?_
                        refine WR_tI (congrArg (hI (sI (sI h (ad 0) 6 0) (ad 0) 6 (-12)) (ad 35)) ((nI_clamp (by omega)) : _ = t7)) ?_
                        refine WR_tI (y := nI sz7) (Eq.trans (I_ne (fx_ne fx (by decide))) (Eq.trans (I_ne (fx_ne fx (by decide))) sz_7)) ?_
                        refine r_i2l rfl ?_
                        refine WR_tL (y := lN sz7) (nI_l (by have := i_nlt c58; have := i_rg i; have : (0 : Int32).toInt = 0 := rfl; have := i_nlt c59; have := i_rg m; have := i_eq ek62; have : (nI k62).toInt = ((k62 : Nat) : Int) := nI_toInt (by omega); have := i_eq ek63; have : (nI k63).toInt = ((k63 : Nat) : Int) := nI_toInt (by omega); have := i_nlt c64; have : (nI sz7).toInt = ((sz7 : Nat) : Int) := nI_toInt (by omega); have := sub_t (x := nI sz7) (y := nI k63) (by have := i_nlt c58; have := i_rg i; have : (0 : Int32).toInt = 0 := rfl; have := i_eq ek63; have : (nI k63).toInt = ((k63 : Nat) : Int) := nI_toInt (by omega); have : (nI sz7).toInt = ((sz7 : Nat) : Int) := nI_toInt (by omega); omega) (by have := i_nlt c58; have := i_rg i; have : (0 : Int32).toInt = 0 := rfl; have := i_eq ek63; have : (nI k63).toInt = ((k63 : Nat) : Int) := nI_toInt (by omega); have : (nI sz7).toInt = ((sz7 : Nat) : Int) := nI_toInt (by omega); omega); have := i_nlt c66; have := i_rg j; have := i_eq ek67; have : (nI k67).toInt = ((k67 : Nat) : Int) := nI_toInt (by omega); have := i_lt c68; have : (nI sz46).toInt = ((sz46 : Nat) : Int) := nI_toInt (by omega); have := sub_t (x := nI sz46) (y := nI k67) (by have := i_nlt c66; have := i_rg j; have : (0 : Int32).toInt = 0 := rfl; have := i_eq ek67; have : (nI k67).toInt = ((k67 : Nat) : Int) := nI_toInt (by omega); have : (nI sz46).toInt = ((sz46 : Nat) : Int) := nI_toInt (by omega); omega) (by have := i_nlt c66; have := i_rg j; have : (0 : Int32).toInt = 0 := rfl; have := i_eq ek67; have : (nI k67).toInt = ((k67 : Nat) : Int) := nI_toInt (by omega); have : (nI sz46).toInt = ((sz46 : Nat) : Int) := nI_toInt (by omega); omega); omega)) ?_
                        refine r_lif_gt (tg := 169) rfl rfl rfl (fun q => False.elim (by have := i_nlt c58; have := i_rg i; have : (0 : Int32).toInt = 0 := rfl; have := i_nlt c59; have := i_rg m; have := i_eq ek62; have : (nI k62).toInt = ((k62 : Nat) : Int) := nI_toInt (by omega); have := i_eq ek63; have : (nI k63).toInt = ((k63 : Nat) : Int) := nI_toInt (by omega); have := i_nlt c64; have : (nI sz7).toInt = ((sz7 : Nat) : Int) := nI_toInt (by omega); have := sub_t (x := nI sz7) (y := nI k63) (by have := i_nlt c58; have := i_rg i; have : (0 : Int32).toInt = 0 := rfl; have := i_eq ek63; have : (nI k63).toInt = ((k63 : Nat) : Int) := nI_toInt (by omega); have : (nI sz7).toInt = ((sz7 : Nat) : Int) := nI_toInt (by omega); omega) (by have := i_nlt c58; have := i_rg i; have : (0 : Int32).toInt = 0 := rfl; have := i_eq ek63; have : (nI k63).toInt = ((k63 : Nat) : Int) := nI_toInt (by omega); have : (nI sz7).toInt = ((sz7 : Nat) : Int) := nI_toInt (by omega); omega); have := i_nlt c66; have := i_rg j; have := i_eq ek67; have : (nI k67).toInt = ((k67 : Nat) : Int) := nI_toInt (by omega); have := i_lt c68; have : (nI sz46).toInt = ((sz46 : Nat) : Int) := nI_toInt (by omega); have := sub_t (x := nI sz46) (y := nI k67) (by have := i_nlt c66; have := i_rg j; have : (0 : Int32).toInt = 0 := rfl; have := i_eq ek67; have : (nI k67).toInt = ((k67 : Nat) : Int) := nI_toInt (by omega); have : (nI sz46).toInt = ((sz46 : Nat) : Int) := nI_toInt (by omega); omega) (by have := i_nlt c66; have := i_rg j; have : (0 : Int32).toInt = 0 := rfl; have := i_eq ek67; have : (nI k67).toInt = ((k67 : Nat) : Int) := nI_toInt (by omega); have : (nI sz46).toInt = ((sz46 : Nat) : Int) := nI_toInt (by omega); omega); have : (lN (k62 + k63)).toInt = ((k62 + k63 : Nat) : Int) := pk_lT (by omega); have : (lN sz7).toInt = ((sz7 : Nat) : Int) := lN_toInt (by omega); have := l_lt q; omega)) (fun _ => ?_)
                        refine r_iload rfl rfl ?_
                        refine WR_tI (y := nI k67) ek67 ?_
                        refine r_i2l rfl ?_
                        refine WR_tL (y := lN k67) (nI_l (by have := i_nlt c58; have := i_rg i; have : (0 : Int32).toInt = 0 := rfl; have := i_nlt c59; have := i_rg m; have := i_eq ek62; have : (nI k62).toInt = ((k62 : Nat) : Int) := nI_toInt (by omega); have := i_eq ek63; have : (nI k63).toInt = ((k63 : Nat) : Int) := nI_toInt (by omega); have := i_nlt c64; have : (nI sz7).toInt = ((sz7 : Nat) : Int) := nI_toInt (by omega); have := sub_t (x := nI sz7) (y := nI k63) (by have := i_nlt c58; have := i_rg i; have : (0 : Int32).toInt = 0 := rfl; have := i_eq ek63; have : (nI k63).toInt = ((k63 : Nat) : Int) := nI_toInt (by omega); have : (nI sz7).toInt = ((sz7 : Nat) : Int) := nI_toInt (by omega); omega) (by have := i_nlt c58; have := i_rg i; have : (0 : Int32).toInt = 0 := rfl; have := i_eq ek63; have : (nI k63).toInt = ((k63 : Nat) : Int) := nI_toInt (by omega); have : (nI sz7).toInt = ((sz7 : Nat) : Int) := nI_toInt (by omega); omega); have := i_nlt c66; have := i_rg j; have := i_eq ek67; have : (nI k67).toInt = ((k67 : Nat) : Int) := nI_toInt (by omega); have := i_lt c68; have : (nI sz46).toInt = ((sz46 : Nat) : Int) := nI_toInt (by omega); have := sub_t (x := nI sz46) (y := nI k67) (by have := i_nlt c66; have := i_rg j; have : (0 : Int32).toInt = 0 := rfl; have := i_eq ek67; have : (nI k67).toInt = ((k67 : Nat) : Int) := nI_toInt (by omega); have : (nI sz46).toInt = ((sz46 : Nat) : Int) := nI_toInt (by omega); omega) (by have := i_nlt c66; have := i_rg j; have : (0 : Int32).toInt = 0 := rfl; have := i_eq ek67; have : (nI k67).toInt = ((k67 : Nat) : Int) := nI_toInt (by omega); have : (nI sz46).toInt = ((sz46 : Nat) : Int) := nI_toInt (by omega); omega); omega)) ?_
                        refine r_iload rfl rfl ?_
                        refine WR_tI (y := nI k62) ek62 ?_
                        refine r_i2l rfl ?_
                        refine WR_tL (y := lN k62) (nI_l (by have := i_nlt c58; have := i_rg i; have : (0 : Int32).toInt = 0 := rfl; have := i_nlt c59; have := i_rg m; have := i_eq ek62; have : (nI k62).toInt = ((k62 : Nat) : Int) := nI_toInt (by omega); have := i_eq ek63; have : (nI k63).toInt = ((k63 : Nat) : Int) := nI_toInt (by omega); have := i_nlt c64; have : (nI sz7).toInt = ((sz7 : Nat) : Int) := nI_toInt (by omega); have := sub_t (x := nI sz7) (y := nI k63) (by have := i_nlt c58; have := i_rg i; have : (0 : Int32).toInt = 0 := rfl; have := i_eq ek63; have : (nI k63).toInt = ((k63 : Nat) : Int) := nI_toInt (by omega); have : (nI sz7).toInt = ((sz7 : Nat) : Int) := nI_toInt (by omega); omega) (by have := i_nlt c58; have := i_rg i; have : (0 : Int32).toInt = 0 := rfl; have := i_eq ek63; have : (nI k63).toInt = ((k63 : Nat) : Int) := nI_toInt (by omega); have : (nI sz7).toInt = ((sz7 : Nat) : Int) := nI_toInt (by omega); omega); have := i_nlt c66; have := i_rg j; have := i_eq ek67; have : (nI k67).toInt = ((k67 : Nat) : Int) := nI_toInt (by omega); have := i_lt c68; have : (nI sz46).toInt = ((sz46 : Nat) : Int) := nI_toInt (by omega); have := sub_t (x := nI sz46) (y := nI k67) (by have := i_nlt c66; have := i_rg j; have : (0 : Int32).toInt = 0 := rfl; have := i_eq ek67; have : (nI k67).toInt = ((k67 : Nat) : Int) := nI_toInt (by omega); have : (nI sz46).toInt = ((sz46 : Nat) : Int) := nI_toInt (by omega); omega) (by have := i_nlt c66; have := i_rg j; have : (0 : Int32).toInt = 0 := rfl; have := i_eq ek67; have : (nI k67).toInt = ((k67 : Nat) : Int) := nI_toInt (by omega); have : (nI sz46).toInt = ((sz46 : Nat) : Int) := nI_toInt (by omega); omega); omega)) ?_
                        refine r_ladd rfl ?_
                        refine WR_tL (y := lN (k62 + k67)) (Eq.trans (lN_add k67 k62) (congrArg lN (by omega))) ?_
                        refine r_aload rfl rfl ?_
                        refine r_getA (b := ad 35) rfl ⟨rfl, rfl, rfl⟩ (fx_t30 fx) (fx_r30_4 fx) ?_
                        refine r_iload rfl rfl ?_
                        refine r_iaload rfl (.inl (fx_t35 fx)) (vp_ct (fx_n35 fx) (vp_in_nI (by omega) (by omega))) ?_
                        refine WR_tI (congrArg (hI (sI (sI h (ad 0) 6 0) (ad 0) 6 (-12)) (ad 35)) ((nI_clamp (by omega)) : _ = t46)) ?_
                        refine WR_tI (y := nI sz46) (Eq.trans (I_ne (fx_ne fx (by decide))) (Eq.trans (I_ne (fx_ne fx (by decide))) sz_46)) ?_
                        refine r_i2l rfl ?_
                        refine WR_tL (y := lN sz46) (nI_l (by have := i_nlt c58; have := i_rg i; have : (0 : Int32).toInt = 0 := rfl; have := i_nlt c59; have := i_rg m; have := i_eq ek62; have : (nI k62).toInt = ((k62 : Nat) : Int) := nI_toInt (by omega); have := i_eq ek63; have : (nI k63).toInt = ((k63 : Nat) : Int) := nI_toInt (by omega); have := i_nlt c64; have : (nI sz7).toInt = ((sz7 : Nat) : Int) := nI_toInt (by omega); have := sub_t (x := nI sz7) (y := nI k63) (by have := i_nlt c58; have := i_rg i; have : (0 : Int32).toInt = 0 := rfl; have := i_eq ek63; have : (nI k63).toInt = ((k63 : Nat) : Int) := nI_toInt (by omega); have : (nI sz7).toInt = ((sz7 : Nat) : Int) := nI_toInt (by omega); omega) (by have := i_nlt c58; have := i_rg i; have : (0 : Int32).toInt = 0 := rfl; have := i_eq ek63; have : (nI k63).toInt = ((k63 : Nat) : Int) := nI_toInt (by omega); have : (nI sz7).toInt = ((sz7 : Nat) : Int) := nI_toInt (by omega); omega); have := i_nlt c66; have := i_rg j; have := i_eq ek67; have : (nI k67).toInt = ((k67 : Nat) : Int) := nI_toInt (by omega); have := i_lt c68; have : (nI sz46).toInt = ((sz46 : Nat) : Int) := nI_toInt (by omega); have := sub_t (x := nI sz46) (y := nI k67) (by have := i_nlt c66; have := i_rg j; have : (0 : Int32).toInt = 0 := rfl; have := i_eq ek67; have : (nI k67).toInt = ((k67 : Nat) : Int) := nI_toInt (by omega); have : (nI sz46).toInt = ((sz46 : Nat) : Int) := nI_toInt (by omega); omega) (by have := i_nlt c66; have := i_rg j; have : (0 : Int32).toInt = 0 := rfl; have := i_eq ek67; have : (nI k67).toInt = ((k67 : Nat) : Int) := nI_toInt (by omega); have : (nI sz46).toInt = ((sz46 : Nat) : Int) := nI_toInt (by omega); omega); omega)) ?_
                        refine r_lif_le (tg := 175) rfl rfl rfl (fun q => False.elim (by have := i_nlt c58; have := i_rg i; have : (0 : Int32).toInt = 0 := rfl; have := i_nlt c59; have := i_rg m; have := i_eq ek62; have : (nI k62).toInt = ((k62 : Nat) : Int) := nI_toInt (by omega); have := i_eq ek63; have : (nI k63).toInt = ((k63 : Nat) : Int) := nI_toInt (by omega); have := i_nlt c64; have : (nI sz7).toInt = ((sz7 : Nat) : Int) := nI_toInt (by omega); have := sub_t (x := nI sz7) (y := nI k63) (by have := i_nlt c58; have := i_rg i; have : (0 : Int32).toInt = 0 := rfl; have := i_eq ek63; have : (nI k63).toInt = ((k63 : Nat) : Int) := nI_toInt (by omega); have : (nI sz7).toInt = ((sz7 : Nat) : Int) := nI_toInt (by omega); omega) (by have := i_nlt c58; have := i_rg i; have : (0 : Int32).toInt = 0 := rfl; have := i_eq ek63; have : (nI k63).toInt = ((k63 : Nat) : Int) := nI_toInt (by omega); have : (nI sz7).toInt = ((sz7 : Nat) : Int) := nI_toInt (by omega); omega); have := i_nlt c66; have := i_rg j; have := i_eq ek67; have : (nI k67).toInt = ((k67 : Nat) : Int) := nI_toInt (by omega); have := i_lt c68; have : (nI sz46).toInt = ((sz46 : Nat) : Int) := nI_toInt (by omega); have := sub_t (x := nI sz46) (y := nI k67) (by have := i_nlt c66; have := i_rg j; have : (0 : Int32).toInt = 0 := rfl; have := i_eq ek67; have : (nI k67).toInt = ((k67 : Nat) : Int) := nI_toInt (by omega); have : (nI sz46).toInt = ((sz46 : Nat) : Int) := nI_toInt (by omega); omega) (by have := i_nlt c66; have := i_rg j; have : (0 : Int32).toInt = 0 := rfl; have := i_eq ek67; have : (nI k67).toInt = ((k67 : Nat) : Int) := nI_toInt (by omega); have : (nI sz46).toInt = ((sz46 : Nat) : Int) := nI_toInt (by omega); omega); have : (lN (k62 + k67)).toInt = ((k62 + k67 : Nat) : Int) := pk_lT (by omega); have : (lN sz46).toInt = ((sz46 : Nat) : Int) := lN_toInt (by omega); have := l_le q; omega)) (fun _ => ?_)
                        refine r_aload rfl rfl ?_
                        refine r_ic (x := 2) rfl rfl ?_
                        refine r_cv (y := 156) (ra := [.int 2]) (rest := []) rfl ⟨⟨rfl, rfl⟩, rfl, by decide⟩ (fx_t30 fx) rfl rfl (Nat.le_of_ble_eq_true rfl) ?_
                        refine in_156 (Nat.le_of_ble_eq_true rfl) ?_
                        show WR _ cd_156 0 [some (.ref (ad 30)), some (.int 2)] [] (sI (sI h (ad 0) 6 0) (ad 0) 6 (-12)) _
                        refine r_aload rfl rfl ?_
                        refine r_ic (x := (-10)) rfl rfl ?_
                        refine r_iload rfl rfl ?_
                        refine r_isub rfl ?_
                        refine WR_tI (y := (-12)) rfl ?_
                        refine r_cv (y := 154) (ra := [.int (-12)]) (rest := []) rfl ⟨⟨rfl, rfl⟩, rfl, by decide⟩ (fx_t30 fx) rfl rfl (Nat.le_of_ble_eq_true rfl) ?_
                        refine in_154 (Nat.le_of_ble_eq_true rfl) ?_
                        show WR _ cd_154 0 [some (.ref (ad 30)), some (.int (-12))] [] (sI (sI h (ad 0) 6 0) (ad 0) 6 (-12)) _
                        refine r_aload rfl rfl ?_
                        refine r_iload rfl rfl ?_
                        refine r_ic (x := (-1)) rfl rfl ?_
                        refine r_icmp_ge (tg := 10) rfl rfl (fun q => absurd q (by decide)) (fun _ => ?_)
                        refine r_iload rfl rfl ?_
                        refine r_goto (tg := 11) rfl rfl ?_
                        refine r_putI rfl ⟨rfl, rfl, rfl⟩ (fx_t30 fx) ?_
                        have fx : FX n ad sa z0 (sI (sI (sI h (ad 0) 6 0) (ad 0) 6 (-12)) (ad 30) 11 (-12)) := (FX.sI fx)
                        refine r_iload rfl rfl ?_
                        refine r_iret rfl ?_
                        show WR _ cd_156 8 [some (.ref (ad 30)), some (.int 2)] [.int (-12)] (sI (sI (sI h (ad 0) 6 0) (ad 0) 6 (-12)) (ad 30) 11 (-12)) _
                        refine r_iret rfl ?_
                        show WR _ cd_179 174 [some (.ref (ad 30)), some (.int c), some (.int i), some (.int d), some (.int j), some (.int m), some (.int (nI t7)), some (.int (nI t46)), none, none, none] [.int (-12)] (sI (sI (sI h (ad 0) 6 0) (ad 0) 6 (-12)) (ad 30) 11 (-12)) _
                        refine r_iret rfl ?_
                        exact ⟨rfl, Rel.why r (((Chg.rf.sI (fx_j fx) (.inl (by decide))).sI (fx_j fx) (.inl (by decide))).sI (fx_j fx) (.inl (by decide))) ⟨rfl, by decide⟩ (Eq.trans (Eq.trans (I_ne (fx_ne fx (by decide))) I_eq) (Eq.symm I_eq)), (by (try simp only [hZ_sI, hZ_sL, hZ_sD, hZ_sR]); omega), (by (try simp only [hU_sI, hU_sL, hU_sD, hU_sR]); omega)⟩
                      · refine r_ic (x := 1) rfl rfl ?_
                        refine r_goto (tg := 23) rfl rfl ?_
                        refine r_zret rfl (.inr rfl) ?_
                        show WR _ cd_51 96 [some (.ref (ad 0)), some (.int c), some (.int i), some (.int d), some (.int j), some (.int m), some (.ref (mid t7)), some (.ref (mid t46)), none] [.int 1] (sI h (ad 0) 6 0) _
                        refine r_if_ne (tg := 106) rfl rfl (fun _ => ?_) (fun q => absurd q (by decide))
                        have b0 : k2 < 24 := (by have := i_nlt c1; have := i_rg c; have : (0 : Int32).toInt = 0 := rfl; have := i_eq ek2; have : (nI k2).toInt = ((k2 : Nat) : Int) := nI_toInt (by omega); have := i_nle c3; have : (24 : Int32).toInt = 24 := rfl; omega)
                        have b1 : k5 < 24 := (by have := i_nlt c4; have := i_rg d; have : (0 : Int32).toInt = 0 := rfl; have := i_eq ek5; have : (nI k5).toInt = ((k5 : Nat) : Int) := nI_toInt (by omega); have := i_nle c6; have : (24 : Int32).toInt = 24 := rfl; omega)
                        have b2 : k63 + k62 ≤ sz7 := (by have := i_nlt c58; have := i_rg i; have : (0 : Int32).toInt = 0 := rfl; have := i_nlt c59; have := i_rg m; have := i_eq ek62; have : (nI k62).toInt = ((k62 : Nat) : Int) := nI_toInt (by omega); have := i_eq ek63; have : (nI k63).toInt = ((k63 : Nat) : Int) := nI_toInt (by omega); have := i_nlt c64; have : (nI sz7).toInt = ((sz7 : Nat) : Int) := nI_toInt (by omega); have := sub_t (x := nI sz7) (y := nI k63) (by have := i_nlt c58; have := i_rg i; have : (0 : Int32).toInt = 0 := rfl; have := i_eq ek63; have : (nI k63).toInt = ((k63 : Nat) : Int) := nI_toInt (by omega); have : (nI sz7).toInt = ((sz7 : Nat) : Int) := nI_toInt (by omega); omega) (by have := i_nlt c58; have := i_rg i; have : (0 : Int32).toInt = 0 := rfl; have := i_eq ek63; have : (nI k63).toInt = ((k63 : Nat) : Int) := nI_toInt (by omega); have : (nI sz7).toInt = ((sz7 : Nat) : Int) := nI_toInt (by omega); omega); have := i_nlt c66; have := i_rg j; have := i_eq ek67; have : (nI k67).toInt = ((k67 : Nat) : Int) := nI_toInt (by omega); have := i_nlt c68; have : (nI sz46).toInt = ((sz46 : Nat) : Int) := nI_toInt (by omega); have := sub_t (x := nI sz46) (y := nI k67) (by have := i_nlt c66; have := i_rg j; have : (0 : Int32).toInt = 0 := rfl; have := i_eq ek67; have : (nI k67).toInt = ((k67 : Nat) : Int) := nI_toInt (by omega); have : (nI sz46).toInt = ((sz46 : Nat) : Int) := nI_toInt (by omega); omega) (by have := i_nlt c66; have := i_rg j; have : (0 : Int32).toInt = 0 := rfl; have := i_eq ek67; have : (nI k67).toInt = ((k67 : Nat) : Int) := nI_toInt (by omega); have : (nI sz46).toInt = ((sz46 : Nat) : Int) := nI_toInt (by omega); omega); omega)
                        have b3 : k67 + k62 ≤ sz46 := (by have := i_nlt c58; have := i_rg i; have : (0 : Int32).toInt = 0 := rfl; have := i_nlt c59; have := i_rg m; have := i_eq ek62; have : (nI k62).toInt = ((k62 : Nat) : Int) := nI_toInt (by omega); have := i_eq ek63; have : (nI k63).toInt = ((k63 : Nat) : Int) := nI_toInt (by omega); have := i_nlt c64; have : (nI sz7).toInt = ((sz7 : Nat) : Int) := nI_toInt (by omega); have := sub_t (x := nI sz7) (y := nI k63) (by have := i_nlt c58; have := i_rg i; have : (0 : Int32).toInt = 0 := rfl; have := i_eq ek63; have : (nI k63).toInt = ((k63 : Nat) : Int) := nI_toInt (by omega); have : (nI sz7).toInt = ((sz7 : Nat) : Int) := nI_toInt (by omega); omega) (by have := i_nlt c58; have := i_rg i; have : (0 : Int32).toInt = 0 := rfl; have := i_eq ek63; have : (nI k63).toInt = ((k63 : Nat) : Int) := nI_toInt (by omega); have : (nI sz7).toInt = ((sz7 : Nat) : Int) := nI_toInt (by omega); omega); have := i_nlt c66; have := i_rg j; have := i_eq ek67; have : (nI k67).toInt = ((k67 : Nat) : Int) := nI_toInt (by omega); have := i_nlt c68; have : (nI sz46).toInt = ((sz46 : Nat) : Int) := nI_toInt (by omega); have := sub_t (x := nI sz46) (y := nI k67) (by have := i_nlt c66; have := i_rg j; have : (0 : Int32).toInt = 0 := rfl; have := i_eq ek67; have : (nI k67).toInt = ((k67 : Nat) : Int) := nI_toInt (by omega); have : (nI sz46).toInt = ((sz46 : Nat) : Int) := nI_toInt (by omega); omega) (by have := i_nlt c66; have := i_rg j; have : (0 : Int32).toInt = 0 := rfl; have := i_eq ek67; have : (nI k67).toInt = ((k67 : Nat) : Int) := nI_toInt (by omega); have : (nI sz46).toInt = ((sz46 : Nat) : Int) := nI_toInt (by omega); omega); omega)
                        subst ek2; subst ek63; subst ek5; subst ek67; subst ek62
                        exact t_cCC fx0 rt ra rp rf rst ru rs b0 b1 ht7 ht46 v7 v46 rw7 hk_7 k2_7 rw46 hk_46 k2_46 sz_7 sz_46 b2 b3 hs_7 hs_46

/-! ===== step; printed ===== -/
set_option maxHeartbeats 2000000 in
theorem k_step {n : Nat} {ad sa : Nat → Nat} {z0 : Nat} {h : mH} (r : Rel n ad sa z0 h) (p : Int32) (o : Int32) (a : Int32) (b : Int32) (c : Int32) : AP n ad sa z0 h 92 203 [.int p, .int o, .int a, .int b, .int c] := by
  obtain ⟨mid, pa, np, fx, ry, rt, ra, rp, rf, rst, ru, rs⟩ := id r
  have fx0 := fx
  have hn_ := fx_k fx
  unfold AP
  refine in_92 (Nat.le_of_ble_eq_true rfl) ?_
  show WR _ cd_92 0 [some (.ref (ad 0)), some (.int p), some (.int o), some (.int a), some (.int b), some (.int c)] [] h _
  refine r_aload rfl rfl ?_
  refine r_ic (x := 0) rfl rfl ?_
  refine r_putI rfl ⟨rfl, rfl, rfl⟩ (fx_t0 fx) ?_
  have fx : FX n ad sa z0 (sI h (ad 0) 6 0) := (FX.sI fx)
  refine r_iload rfl rfl ?_
  refine r_cs (y := 93) (ra := [.int p]) (rest := []) rfl ⟨⟨rfl, rfl⟩, by decide⟩ rfl rfl (Nat.le_of_ble_eq_true rfl) ?_
  refine in_93 (Nat.le_of_ble_eq_true rfl) ?_
  show WR _ cd_93 0 [some (.int p)] [] (sI h (ad 0) 6 0) _
  refine r_iload rfl rfl ?_
  refine r_if_lt (tg := 14) rfl rfl (fun c1 => ?_) (fun c1 => ?_)
  · refine r_ic (x := 0) rfl rfl ?_
    refine r_zret rfl (.inl rfl) ?_
    show WR _ cd_92 9 [some (.ref (ad 0)), some (.int p), some (.int o), some (.int a), some (.int b), some (.int c)] [.int 0] (sI h (ad 0) 6 0) _
    refine r_if_ne (tg := 19) rfl rfl (fun q => absurd q (by decide)) (fun _ => ?_)
    refine r_aload rfl rfl ?_
    refine r_ic (x := (-2)) rfl rfl ?_
    refine r_cv (y := 13) (ra := [.int (-2)]) (rest := []) rfl ⟨⟨rfl, rfl⟩, rfl, by decide⟩ (fx_t0 fx) rfl rfl (Nat.le_of_ble_eq_true rfl) ?_
    refine in_13 (Nat.le_of_ble_eq_true rfl) ?_
    show WR _ cd_13 0 [some (.ref (ad 0)), some (.int (-2))] [] (sI h (ad 0) 6 0) _
    refine r_aload rfl rfl ?_
    refine r_iload rfl rfl ?_
    refine r_putI rfl ⟨rfl, rfl, rfl⟩ (fx_t0 fx) ?_
    have fx : FX n ad sa z0 (sI (sI h (ad 0) 6 0) (ad 0) 6 (-2)) := (FX.sI fx)
    refine r_iload rfl rfl ?_
    refine r_iret rfl ?_
    show WR _ cd_92 18 [some (.ref (ad 0)), some (.int p), some (.int o), some (.int a), some (.int b), some (.int c)] [.int (-2)] (sI (sI h (ad 0) 6 0) (ad 0) 6 (-2)) _
    refine r_iret rfl ?_
    show EV _ 203 [.ref (ad 30), .int p, .int o, .int a, .int b, .int c] (sI (sI h (ad 0) 6 0) (ad 0) 6 (-2)) _
    refine in_203 (Nat.le_of_ble_eq_true rfl) ?_
    show WR _ cd_203 0 [some (.ref (ad 30)), some (.int p), some (.int o), some (.int a), some (.int b), some (.int c), none] [] (sI (sI h (ad 0) 6 0) (ad 0) 6 (-2)) _
    refine r_iload rfl rfl ?_
    refine r_cs (y := 204) (ra := [.int p]) (rest := []) rfl ⟨⟨rfl, rfl⟩, by decide⟩ rfl rfl (Nat.le_of_ble_eq_true rfl) ?_
    refine in_204 (Nat.le_of_ble_eq_true rfl) ?_
    show WR _ cd_204 0 [some (.int p)] [] (sI (sI h (ad 0) 6 0) (ad 0) 6 (-2)) _
    refine r_iload rfl rfl ?_
    refine r_if_lt (tg := 14) rfl rfl (fun _ => ?_) (fun q => False.elim (by have := i_lt c1; have := i_rg p; have : (0 : Int32).toInt = 0 := rfl; have := i_nlt q; omega))
    refine r_ic (x := 0) rfl rfl ?_
    refine r_zret rfl (.inl rfl) ?_
    show WR _ cd_203 4 [some (.ref (ad 30)), some (.int p), some (.int o), some (.int a), some (.int b), some (.int c), none] [.int 0] (sI (sI h (ad 0) 6 0) (ad 0) 6 (-2)) _
    refine r_if_ne (tg := 14) rfl rfl (fun q => absurd q (by decide)) (fun _ => ?_)
    refine r_aload rfl rfl ?_
    refine r_ic (x := (-2)) rfl rfl ?_
    refine r_cv (y := 154) (ra := [.int (-2)]) (rest := []) rfl ⟨⟨rfl, rfl⟩, rfl, by decide⟩ (fx_t30 fx) rfl rfl (Nat.le_of_ble_eq_true rfl) ?_
    refine in_154 (Nat.le_of_ble_eq_true rfl) ?_
    show WR _ cd_154 0 [some (.ref (ad 30)), some (.int (-2))] [] (sI (sI h (ad 0) 6 0) (ad 0) 6 (-2)) _
    refine r_aload rfl rfl ?_
    refine r_iload rfl rfl ?_
    refine r_ic (x := (-1)) rfl rfl ?_
    refine r_icmp_ge (tg := 10) rfl rfl (fun q => absurd q (by decide)) (fun _ => ?_)
    refine r_iload rfl rfl ?_
    refine r_goto (tg := 11) rfl rfl ?_
    refine r_putI rfl ⟨rfl, rfl, rfl⟩ (fx_t30 fx) ?_
    have fx : FX n ad sa z0 (sI (sI (sI h (ad 0) 6 0) (ad 0) 6 (-2)) (ad 30) 11 (-2)) := (FX.sI fx)
    refine r_iload rfl rfl ?_
    refine r_iret rfl ?_
    show WR _ cd_203 13 [some (.ref (ad 30)), some (.int p), some (.int o), some (.int a), some (.int b), some (.int c), none] [.int (-2)] (sI (sI (sI h (ad 0) 6 0) (ad 0) 6 (-2)) (ad 30) 11 (-2)) _
    refine r_iret rfl ?_
    exact ⟨rfl, Rel.why r (((Chg.rf.sI (fx_j fx) (.inl (by decide))).sI (fx_j fx) (.inl (by decide))).sI (fx_j fx) (.inl (by decide))) ⟨rfl, by decide⟩ (Eq.trans (Eq.trans (I_ne (fx_ne fx (by decide))) I_eq) (Eq.symm I_eq)), Nat.le_add_right _ _, Nat.le_add_right _ _⟩
  · obtain ⟨k2, hk2, ek2⟩ := ix_of (x := p) (n := 2147483648) (by have := i_nlt c1; have := i_rg p; have : (0 : Int32).toInt = 0 := rfl; omega) (by have := i_nlt c1; have := i_rg p; have : (0 : Int32).toInt = 0 := rfl; omega)
    refine r_iload rfl rfl ?_
    refine WR_tI (y := nI k2) ek2 ?_
    refine r_ic (x := 10) rfl rfl ?_
    refine r_icmp_ge (tg := 14) rfl rfl (fun c3 => ?_) (fun c3 => ?_)
    · refine r_ic (x := 0) rfl rfl ?_
      refine r_zret rfl (.inl rfl) ?_
      show WR _ cd_92 9 [some (.ref (ad 0)), some (.int p), some (.int o), some (.int a), some (.int b), some (.int c)] [.int 0] (sI h (ad 0) 6 0) _
      refine r_if_ne (tg := 19) rfl rfl (fun q => absurd q (by decide)) (fun _ => ?_)
      refine r_aload rfl rfl ?_
      refine r_ic (x := (-2)) rfl rfl ?_
      refine r_cv (y := 13) (ra := [.int (-2)]) (rest := []) rfl ⟨⟨rfl, rfl⟩, rfl, by decide⟩ (fx_t0 fx) rfl rfl (Nat.le_of_ble_eq_true rfl) ?_
      refine in_13 (Nat.le_of_ble_eq_true rfl) ?_
      show WR _ cd_13 0 [some (.ref (ad 0)), some (.int (-2))] [] (sI h (ad 0) 6 0) _
      refine r_aload rfl rfl ?_
      refine r_iload rfl rfl ?_
      refine r_putI rfl ⟨rfl, rfl, rfl⟩ (fx_t0 fx) ?_
      have fx : FX n ad sa z0 (sI (sI h (ad 0) 6 0) (ad 0) 6 (-2)) := (FX.sI fx)
      refine r_iload rfl rfl ?_
      refine r_iret rfl ?_
      show WR _ cd_92 18 [some (.ref (ad 0)), some (.int p), some (.int o), some (.int a), some (.int b), some (.int c)] [.int (-2)] (sI (sI h (ad 0) 6 0) (ad 0) 6 (-2)) _
      refine r_iret rfl ?_
      show EV _ 203 [.ref (ad 30), .int p, .int o, .int a, .int b, .int c] (sI (sI h (ad 0) 6 0) (ad 0) 6 (-2)) _
      refine in_203 (Nat.le_of_ble_eq_true rfl) ?_
      show WR _ cd_203 0 [some (.ref (ad 30)), some (.int p), some (.int o), some (.int a), some (.int b), some (.int c), none] [] (sI (sI h (ad 0) 6 0) (ad 0) 6 (-2)) _
      refine r_iload rfl rfl ?_
      refine WR_tI (y := nI k2) ek2 ?_
      refine r_cs (y := 204) (ra := [.int (nI k2)]) (rest := []) rfl ⟨⟨rfl, rfl⟩, by decide⟩ rfl rfl (Nat.le_of_ble_eq_true rfl) ?_
      refine in_204 (Nat.le_of_ble_eq_true rfl) ?_
      show WR _ cd_204 0 [some (.int (nI k2))] [] (sI (sI h (ad 0) 6 0) (ad 0) 6 (-2)) _
      refine r_iload rfl rfl ?_
      refine r_if_lt (tg := 14) rfl rfl (fun q => False.elim (by have := i_nlt c1; have := i_rg p; have : (0 : Int32).toInt = 0 := rfl; have := i_eq ek2; have : (nI k2).toInt = ((k2 : Nat) : Int) := nI_toInt (by omega); have := i_le c3; have : (10 : Int32).toInt = 10 := rfl; have := i_lt q; omega)) (fun _ => ?_)
      refine r_iload rfl rfl ?_
      refine r_ic (x := 10) rfl rfl ?_
      refine r_icmp_ge (tg := 14) rfl rfl (fun _ => ?_) (fun q => False.elim (by have := i_nlt c1; have := i_rg p; have : (0 : Int32).toInt = 0 := rfl; have := i_eq ek2; have : (nI k2).toInt = ((k2 : Nat) : Int) := nI_toInt (by omega); have := i_le c3; have : (10 : Int32).toInt = 10 := rfl; have := i_nle q; omega))
      refine r_ic (x := 0) rfl rfl ?_
      refine r_zret rfl (.inl rfl) ?_
      show WR _ cd_203 4 [some (.ref (ad 30)), some (.int p), some (.int o), some (.int a), some (.int b), some (.int c), none] [.int 0] (sI (sI h (ad 0) 6 0) (ad 0) 6 (-2)) _
      refine r_if_ne (tg := 14) rfl rfl (fun q => absurd q (by decide)) (fun _ => ?_)
      refine r_aload rfl rfl ?_
      refine r_ic (x := (-2)) rfl rfl ?_
      refine r_cv (y := 154) (ra := [.int (-2)]) (rest := []) rfl ⟨⟨rfl, rfl⟩, rfl, by decide⟩ (fx_t30 fx) rfl rfl (Nat.le_of_ble_eq_true rfl) ?_
      refine in_154 (Nat.le_of_ble_eq_true rfl) ?_
      show WR _ cd_154 0 [some (.ref (ad 30)), some (.int (-2))] [] (sI (sI h (ad 0) 6 0) (ad 0) 6 (-2)) _
      refine r_aload rfl rfl ?_
      refine r_iload rfl rfl ?_
      refine r_ic (x := (-1)) rfl rfl ?_
      refine r_icmp_ge (tg := 10) rfl rfl (fun q => absurd q (by decide)) (fun _ => ?_)
      refine r_iload rfl rfl ?_
      refine r_goto (tg := 11) rfl rfl ?_
      refine r_putI rfl ⟨rfl, rfl, rfl⟩ (fx_t30 fx) ?_
      have fx : FX n ad sa z0 (sI (sI (sI h (ad 0) 6 0) (ad 0) 6 (-2)) (ad 30) 11 (-2)) := (FX.sI fx)
      refine r_iload rfl rfl ?_
      refine r_iret rfl ?_
      show WR _ cd_203 13 [some (.ref (ad 30)), some (.int p), some (.int o), some (.int a), some (.int b), some (.int c), none] [.int (-2)] (sI (sI (sI h (ad 0) 6 0) (ad 0) 6 (-2)) (ad 30) 11 (-2)) _
      refine r_iret rfl ?_
      exact ⟨rfl, Rel.why r (((Chg.rf.sI (fx_j fx) (.inl (by decide))).sI (fx_j fx) (.inl (by decide))).sI (fx_j fx) (.inl (by decide))) ⟨rfl, by decide⟩ (Eq.trans (Eq.trans (I_ne (fx_ne fx (by decide))) I_eq) (Eq.symm I_eq)), Nat.le_add_right _ _, Nat.le_add_right _ _⟩
    · refine r_ic (x := 1) rfl rfl ?_
      refine r_goto (tg := 15) rfl rfl ?_
      refine r_zret rfl (.inr rfl) ?_
      show WR _ cd_92 9 [some (.ref (ad 0)), some (.int p), some (.int o), some (.int a), some (.int b), some (.int c)] [.int 1] (sI h (ad 0) 6 0) _
      refine r_if_ne (tg := 19) rfl rfl (fun _ => ?_) (fun q => absurd q (by decide))
      refine r_iload rfl rfl ?_
      refine r_if_lt (tg := 29) rfl rfl (fun c4 => ?_) (fun c4 => ?_)
      · refine r_aload rfl rfl ?_
        refine r_ic (x := (-3)) rfl rfl ?_
        refine r_cv (y := 13) (ra := [.int (-3)]) (rest := []) rfl ⟨⟨rfl, rfl⟩, rfl, by decide⟩ (fx_t0 fx) rfl rfl (Nat.le_of_ble_eq_true rfl) ?_
        refine in_13 (Nat.le_of_ble_eq_true rfl) ?_
        show WR _ cd_13 0 [some (.ref (ad 0)), some (.int (-3))] [] (sI h (ad 0) 6 0) _
        refine r_aload rfl rfl ?_
        refine r_iload rfl rfl ?_
        refine r_putI rfl ⟨rfl, rfl, rfl⟩ (fx_t0 fx) ?_
        have fx : FX n ad sa z0 (sI (sI h (ad 0) 6 0) (ad 0) 6 (-3)) := (FX.sI fx)
        refine r_iload rfl rfl ?_
        refine r_iret rfl ?_
        show WR _ cd_92 35 [some (.ref (ad 0)), some (.int p), some (.int o), some (.int a), some (.int b), some (.int c)] [.int (-3)] (sI (sI h (ad 0) 6 0) (ad 0) 6 (-3)) _
        refine r_iret rfl ?_
        show EV _ 203 [.ref (ad 30), .int p, .int o, .int a, .int b, .int c] (sI (sI h (ad 0) 6 0) (ad 0) 6 (-3)) _
        refine in_203 (Nat.le_of_ble_eq_true rfl) ?_
        show WR _ cd_203 0 [some (.ref (ad 30)), some (.int p), some (.int o), some (.int a), some (.int b), some (.int c), none] [] (sI (sI h (ad 0) 6 0) (ad 0) 6 (-3)) _
        refine r_iload rfl rfl ?_
        refine WR_tI (y := nI k2) ek2 ?_
        refine r_cs (y := 204) (ra := [.int (nI k2)]) (rest := []) rfl ⟨⟨rfl, rfl⟩, by decide⟩ rfl rfl (Nat.le_of_ble_eq_true rfl) ?_
        refine in_204 (Nat.le_of_ble_eq_true rfl) ?_
        show WR _ cd_204 0 [some (.int (nI k2))] [] (sI (sI h (ad 0) 6 0) (ad 0) 6 (-3)) _
        refine r_iload rfl rfl ?_
        refine r_if_lt (tg := 14) rfl rfl (fun q => False.elim (by have := i_nlt c1; have := i_rg p; have : (0 : Int32).toInt = 0 := rfl; have := i_eq ek2; have : (nI k2).toInt = ((k2 : Nat) : Int) := nI_toInt (by omega); have := i_nle c3; have : (10 : Int32).toInt = 10 := rfl; have := i_lt q; omega)) (fun _ => ?_)
        refine r_iload rfl rfl ?_
        refine r_ic (x := 10) rfl rfl ?_
        refine r_icmp_ge (tg := 14) rfl rfl (fun q => False.elim (by have := i_nlt c1; have := i_rg p; have : (0 : Int32).toInt = 0 := rfl; have := i_eq ek2; have : (nI k2).toInt = ((k2 : Nat) : Int) := nI_toInt (by omega); have := i_nle c3; have : (10 : Int32).toInt = 10 := rfl; have := i_le q; omega)) (fun _ => ?_)
        refine r_ic (x := 1) rfl rfl ?_
        refine r_goto (tg := 15) rfl rfl ?_
        refine r_zret rfl (.inr rfl) ?_
        show WR _ cd_203 4 [some (.ref (ad 30)), some (.int p), some (.int o), some (.int a), some (.int b), some (.int c), none] [.int 1] (sI (sI h (ad 0) 6 0) (ad 0) 6 (-3)) _
        refine r_if_ne (tg := 14) rfl rfl (fun _ => ?_) (fun q => absurd q (by decide))
        refine r_iload rfl rfl ?_
        refine r_i2l rfl ?_
        refine r_lc (x := 0) rfl rfl ?_
        refine r_ldc (x := .long 13) rfl rfl ?_
        refine r_cs (y := 155) (ra := [.long 13, .long 0, .long o.toInt64]) (rest := []) rfl ⟨⟨rfl, rfl⟩, by decide⟩ rfl rfl (Nat.le_of_ble_eq_true rfl) ?_
        refine in_155 (Nat.le_of_ble_eq_true rfl) ?_
        show WR _ cd_155 0 [some (.long o.toInt64), none, some (.long 0), none, some (.long 13), none] [] (sI (sI h (ad 0) 6 0) (ad 0) 6 (-3)) _
        refine r_lload rfl rfl ?_
        refine r_lload rfl rfl ?_
        refine r_lif_lt (tg := 17) rfl rfl rfl (fun _ => ?_) (fun q => False.elim (by have := i_lt c4; have := i_rg o; have : (0 : Int32).toInt = 0 := rfl; have := w_t o; have : (0 : Int64).toInt = 0 := rfl; have := l_nlt q; omega))
        refine r_ic (x := 0) rfl rfl ?_
        refine r_zret rfl (.inl rfl) ?_
        show WR _ cd_203 23 [some (.ref (ad 30)), some (.int p), some (.int o), some (.int a), some (.int b), some (.int c), none] [.int 0] (sI (sI h (ad 0) 6 0) (ad 0) 6 (-3)) _
        refine r_if_ne (tg := 33) rfl rfl (fun q => absurd q (by decide)) (fun _ => ?_)
        refine r_aload rfl rfl ?_
        refine r_ic (x := (-3)) rfl rfl ?_
        refine r_cv (y := 154) (ra := [.int (-3)]) (rest := []) rfl ⟨⟨rfl, rfl⟩, rfl, by decide⟩ (fx_t30 fx) rfl rfl (Nat.le_of_ble_eq_true rfl) ?_
        refine in_154 (Nat.le_of_ble_eq_true rfl) ?_
        show WR _ cd_154 0 [some (.ref (ad 30)), some (.int (-3))] [] (sI (sI h (ad 0) 6 0) (ad 0) 6 (-3)) _
        refine r_aload rfl rfl ?_
        refine r_iload rfl rfl ?_
        refine r_ic (x := (-1)) rfl rfl ?_
        refine r_icmp_ge (tg := 10) rfl rfl (fun q => absurd q (by decide)) (fun _ => ?_)
        refine r_iload rfl rfl ?_
        refine r_goto (tg := 11) rfl rfl ?_
        refine r_putI rfl ⟨rfl, rfl, rfl⟩ (fx_t30 fx) ?_
        have fx : FX n ad sa z0 (sI (sI (sI h (ad 0) 6 0) (ad 0) 6 (-3)) (ad 30) 11 (-3)) := (FX.sI fx)
        refine r_iload rfl rfl ?_
        refine r_iret rfl ?_
        show WR _ cd_203 32 [some (.ref (ad 30)), some (.int p), some (.int o), some (.int a), some (.int b), some (.int c), none] [.int (-3)] (sI (sI (sI h (ad 0) 6 0) (ad 0) 6 (-3)) (ad 30) 11 (-3)) _
        refine r_iret rfl ?_
        exact ⟨rfl, Rel.why r (((Chg.rf.sI (fx_j fx) (.inl (by decide))).sI (fx_j fx) (.inl (by decide))).sI (fx_j fx) (.inl (by decide))) ⟨rfl, by decide⟩ (Eq.trans (Eq.trans (I_ne (fx_ne fx (by decide))) I_eq) (Eq.symm I_eq)), Nat.le_add_right _ _, Nat.le_add_right _ _⟩
      · obtain ⟨k5, hk5, ek5⟩ := ix_of (x := o) (n := 2147483648) (by have := i_nlt c4; have := i_rg o; have : (0 : Int32).toInt = 0 := rfl; omega) (by have := i_nlt c4; have := i_rg o; have : (0 : Int32).toInt = 0 := rfl; omega)
        refine r_iload rfl rfl ?_
        refine WR_tI (y := nI k5) ek5 ?_
        refine r_ic (x := 13) rfl rfl ?_
        refine r_icmp_le (tg := 36) rfl rfl (fun c6 => ?_) (fun c6 => ?_)
        · refine r_aload rfl rfl ?_
          refine r_iload rfl rfl ?_
          refine WR_tI (y := nI k5) ek5 ?_
          refine r_iload rfl rfl ?_
          refine r_iload rfl rfl ?_
          refine r_iload rfl rfl ?_
          refine r_cv (y := 94) (ra := [.int c, .int b, .int a, .int (nI k5)]) (rest := []) rfl ⟨⟨rfl, rfl⟩, rfl, by decide⟩ (fx_t0 fx) rfl rfl (Nat.le_of_ble_eq_true rfl) ?_
          refine c_known (h := sI h (ad 0) 6 0) (o := nI k5) fx (by have := i_nlt c4; have := i_rg o; have : (0 : Int32).toInt = 0 := rfl; have := i_eq ek5; have : (nI k5).toInt = ((k5 : Nat) : Int) := nI_toInt (by omega); have := i_le c6; have : (13 : Int32).toInt = 13 := rfl; omega) (fun kn => ?_) (fun kn => ?_)
          · show WR _ cd_92 46 [some (.ref (ad 0)), some (.int p), some (.int o), some (.int a), some (.int b), some (.int c)] [.int 1] (sI h (ad 0) 6 0) _
            refine r_if_ne (tg := 56) rfl rfl (fun _ => ?_) (fun q => absurd q (by decide))
            refine r_iload rfl rfl ?_
            refine WR_tI (y := nI k5) ek5 ?_
            refine r_ic (x := 6) rfl rfl ?_
            refine r_icmp_ne (tg := 73) rfl rfl (fun c7 => ?_) (fun c7 => ?_)
            · refine r_iload rfl rfl ?_
              refine WR_tI (y := nI k5) ek5 ?_
              refine r_ic (x := 8) rfl rfl ?_
              refine r_icmp_ne (tg := 98) rfl rfl (fun c8 => ?_) (fun c8 => ?_)
              · refine r_aload rfl rfl ?_
                refine r_getA (b := ad 9) rfl ⟨rfl, rfl, rfl⟩ (fx_t0 fx) (fx_r0_3 fx) ?_
                refine r_getA (b := ad 11) rfl ⟨rfl, rfl, rfl⟩ (fx_t9 fx) (fx_r9_1 fx) ?_
                refine r_iload rfl rfl ?_
                refine WR_tI (y := nI k2) ek2 ?_
                refine r_iaload rfl (.inl (fx_t11 fx)) (vp_ct (fx_n11 fx) (vp_in_nI (by have := i_nlt c1; have := i_rg p; have : (0 : Int32).toInt = 0 := rfl; have := i_eq ek2; have : (nI k2).toInt = ((k2 : Nat) : Int) := nI_toInt (by omega); have := i_nle c3; have : (10 : Int32).toInt = 10 := rfl; omega) (by omega))) ?_
                refine WR_tI (congrArg (hI (sI h (ad 0) 6 0) (ad 11)) ((nI_clamp (by have := i_nlt c1; have := i_rg p; have : (0 : Int32).toInt = 0 := rfl; have := i_eq ek2; have : (nI k2).toInt = ((k2 : Nat) : Int) := nI_toInt (by omega); have := i_nle c3; have : (10 : Int32).toInt = 10 := rfl; omega)) : _ = k2)) ?_
                obtain ⟨l9, hl9, p1_9, p2_9, p3_9⟩ := rp k2 (by have := i_nlt c1; have := i_rg p; have : (0 : Int32).toInt = 0 := rfl; have := i_eq ek2; have : (nI k2).toInt = ((k2 : Nat) : Int) := nI_toInt (by omega); have := i_nle c3; have : (10 : Int32).toInt = 10 := rfl; omega)
                refine WR_tI (y := nI l9) (Eq.trans (I_ne (fx_ne fx (by decide))) p1_9) ?_
                refine r_ic (x := 16) rfl rfl ?_
                refine r_icmp_lt (tg := 119) rfl rfl (fun c10 => ?_) (fun c10 => ?_)
                · refine r_aload rfl rfl ?_
                  refine r_getA (b := ad 9) rfl ⟨rfl, rfl, rfl⟩ (fx_t0 fx) (fx_r0_3 fx) ?_
                  refine r_iload rfl rfl ?_
                  refine WR_tI (y := nI k2) ek2 ?_
                  refine r_iload rfl rfl ?_
                  refine WR_tI (y := nI k5) ek5 ?_
                  refine r_iload rfl rfl ?_
                  refine r_iload rfl rfl ?_
                  refine r_iload rfl rfl ?_
                  refine r_cv (y := 96) (ra := [.int c, .int b, .int a, .int (nI k5), .int (nI k2)]) (rest := []) rfl ⟨⟨rfl, rfl⟩, rfl, by decide⟩ (fx_t9 fx) rfl rfl (Nat.le_of_ble_eq_true rfl) ?_
                  refine c_addStep (h := sI h (ad 0) 6 0) (p := k2) (l := l9) fx (by have := i_nlt c1; have := i_rg p; have : (0 : Int32).toInt = 0 := rfl; have := i_eq ek2; have : (nI k2).toInt = ((k2 : Nat) : Int) := nI_toInt (by omega); have := i_nle c3; have : (10 : Int32).toInt = 10 := rfl; omega) (by have := i_lt c10; have : (nI l9).toInt = ((l9 : Nat) : Int) := nI_toInt (by omega); have : (16 : Int32).toInt = 16 := rfl; omega) (Eq.trans (I_ne (fx_ne fx (by decide))) p1_9) ?_
                  show WR _ cd_92 133 [some (.ref (ad 0)), some (.int p), some (.int o), some (.int a), some (.int b), some (.int c)] [.int (nI (l9 + 1))] (sI (sI (sI (sI (sI (sI h (ad 0) 6 0) (ad 10) (64 * k2 + 4 * l9) (nI k5)) (ad 10) (64 * k2 + 4 * l9 + 1) a) (ad 10) (64 * k2 + 4 * l9 + 2) b) (ad 10) (64 * k2 + 4 * l9 + 3) c) (ad 11) k2 (nI (l9 + 1))) _
                  have fx : FX n ad sa z0 (sI (sI (sI (sI (sI (sI h (ad 0) 6 0) (ad 10) (64 * k2 + 4 * l9) (nI k5)) (ad 10) (64 * k2 + 4 * l9 + 1) a) (ad 10) (64 * k2 + 4 * l9 + 2) b) (ad 10) (64 * k2 + 4 * l9 + 3) c) (ad 11) k2 (nI (l9 + 1))) := (FX.sI (FX.sI (FX.sI (FX.sI (FX.sI fx)))))
                  refine r_iret rfl ?_
                  show EV _ 203 [.ref (ad 30), .int p, .int o, .int a, .int b, .int c] (sI (sI (sI (sI (sI (sI h (ad 0) 6 0) (ad 10) (64 * k2 + 4 * l9) (nI k5)) (ad 10) (64 * k2 + 4 * l9 + 1) a) (ad 10) (64 * k2 + 4 * l9 + 2) b) (ad 10) (64 * k2 + 4 * l9 + 3) c) (ad 11) k2 (nI (l9 + 1))) _
                  refine in_203 (Nat.le_of_ble_eq_true rfl) ?_
                  show WR _ cd_203 0 [some (.ref (ad 30)), some (.int p), some (.int o), some (.int a), some (.int b), some (.int c), none] [] (sI (sI (sI (sI (sI (sI h (ad 0) 6 0) (ad 10) (64 * k2 + 4 * l9) (nI k5)) (ad 10) (64 * k2 + 4 * l9 + 1) a) (ad 10) (64 * k2 + 4 * l9 + 2) b) (ad 10) (64 * k2 + 4 * l9 + 3) c) (ad 11) k2 (nI (l9 + 1))) _
                  refine r_iload rfl rfl ?_
                  refine WR_tI (y := nI k2) ek2 ?_
                  refine r_cs (y := 204) (ra := [.int (nI k2)]) (rest := []) rfl ⟨⟨rfl, rfl⟩, by decide⟩ rfl rfl (Nat.le_of_ble_eq_true rfl) ?_
                  refine in_204 (Nat.le_of_ble_eq_true rfl) ?_
                  show WR _ cd_204 0 [some (.int (nI k2))] [] (sI (sI (sI (sI (sI (sI h (ad 0) 6 0) (ad 10) (64 * k2 + 4 * l9) (nI k5)) (ad 10) (64 * k2 + 4 * l9 + 1) a) (ad 10) (64 * k2 + 4 * l9 + 2) b) (ad 10) (64 * k2 + 4 * l9 + 3) c) (ad 11) k2 (nI (l9 + 1))) _
                  refine r_iload rfl rfl ?_
                  refine r_if_lt (tg := 14) rfl rfl (fun q => False.elim (by have := i_nlt c1; have := i_rg p; have : (0 : Int32).toInt = 0 := rfl; have := i_eq ek2; have : (nI k2).toInt = ((k2 : Nat) : Int) := nI_toInt (by omega); have := i_nle c3; have : (10 : Int32).toInt = 10 := rfl; have := i_lt q; omega)) (fun _ => ?_)
                  refine r_iload rfl rfl ?_
                  refine r_ic (x := 10) rfl rfl ?_
                  refine r_icmp_ge (tg := 14) rfl rfl (fun q => False.elim (by have := i_nlt c1; have := i_rg p; have : (0 : Int32).toInt = 0 := rfl; have := i_eq ek2; have : (nI k2).toInt = ((k2 : Nat) : Int) := nI_toInt (by omega); have := i_nle c3; have : (10 : Int32).toInt = 10 := rfl; have := i_le q; omega)) (fun _ => ?_)
                  refine r_ic (x := 1) rfl rfl ?_
                  refine r_goto (tg := 15) rfl rfl ?_
                  refine r_zret rfl (.inr rfl) ?_
                  show WR _ cd_203 4 [some (.ref (ad 30)), some (.int p), some (.int o), some (.int a), some (.int b), some (.int c), none] [.int 1] (sI (sI (sI (sI (sI (sI h (ad 0) 6 0) (ad 10) (64 * k2 + 4 * l9) (nI k5)) (ad 10) (64 * k2 + 4 * l9 + 1) a) (ad 10) (64 * k2 + 4 * l9 + 2) b) (ad 10) (64 * k2 + 4 * l9 + 3) c) (ad 11) k2 (nI (l9 + 1))) _
                  refine r_if_ne (tg := 14) rfl rfl (fun _ => ?_) (fun q => absurd q (by decide))
                  refine r_iload rfl rfl ?_
                  refine WR_tI (y := nI k5) ek5 ?_
                  refine r_i2l rfl ?_
                  refine WR_tL (y := lN k5) (nI_l (by have := i_nlt c4; have := i_rg o; have : (0 : Int32).toInt = 0 := rfl; have := i_eq ek5; have : (nI k5).toInt = ((k5 : Nat) : Int) := nI_toInt (by omega); have := i_le c6; have : (13 : Int32).toInt = 13 := rfl; omega)) ?_
                  refine r_lc (x := 0) rfl rfl ?_
                  refine r_ldc (x := .long 13) rfl rfl ?_
                  refine r_cs (y := 155) (ra := [.long 13, .long 0, .long (lN k5)]) (rest := []) rfl ⟨⟨rfl, rfl⟩, by decide⟩ rfl rfl (Nat.le_of_ble_eq_true rfl) ?_
                  refine in_155 (Nat.le_of_ble_eq_true rfl) ?_
                  show WR _ cd_155 0 [some (.long (lN k5)), none, some (.long 0), none, some (.long 13), none] [] (sI (sI (sI (sI (sI (sI h (ad 0) 6 0) (ad 10) (64 * k2 + 4 * l9) (nI k5)) (ad 10) (64 * k2 + 4 * l9 + 1) a) (ad 10) (64 * k2 + 4 * l9 + 2) b) (ad 10) (64 * k2 + 4 * l9 + 3) c) (ad 11) k2 (nI (l9 + 1))) _
                  refine r_lload rfl rfl ?_
                  refine r_lload rfl rfl ?_
                  refine r_lif_lt (tg := 17) rfl rfl rfl (fun q => False.elim (by have := i_nlt c4; have := i_rg o; have : (0 : Int32).toInt = 0 := rfl; have := i_eq ek5; have : (nI k5).toInt = ((k5 : Nat) : Int) := nI_toInt (by omega); have := i_le c6; have : (13 : Int32).toInt = 13 := rfl; have : (lN k5).toInt = ((k5 : Nat) : Int) := lN_toInt (by omega); have : (0 : Int64).toInt = 0 := rfl; have := l_lt q; omega)) (fun _ => ?_)
                  refine r_lload rfl rfl ?_
                  refine r_lload rfl rfl ?_
                  refine r_lif_gt (tg := 17) rfl rfl rfl (fun q => False.elim (by have := i_nlt c4; have := i_rg o; have : (0 : Int32).toInt = 0 := rfl; have := i_eq ek5; have : (nI k5).toInt = ((k5 : Nat) : Int) := nI_toInt (by omega); have := i_le c6; have : (13 : Int32).toInt = 13 := rfl; have : (lN k5).toInt = ((k5 : Nat) : Int) := lN_toInt (by omega); have : (13 : Int64).toInt = 13 := rfl; have := l_lt q; omega)) (fun _ => ?_)
                  refine r_ic (x := 1) rfl rfl ?_
                  refine r_goto (tg := 18) rfl rfl ?_
                  refine r_zret rfl (.inr rfl) ?_
                  show WR _ cd_203 23 [some (.ref (ad 30)), some (.int p), some (.int o), some (.int a), some (.int b), some (.int c), none] [.int 1] (sI (sI (sI (sI (sI (sI h (ad 0) 6 0) (ad 10) (64 * k2 + 4 * l9) (nI k5)) (ad 10) (64 * k2 + 4 * l9 + 1) a) (ad 10) (64 * k2 + 4 * l9 + 2) b) (ad 10) (64 * k2 + 4 * l9 + 3) c) (ad 11) k2 (nI (l9 + 1))) _
                  refine r_if_ne (tg := 33) rfl rfl (fun _ => ?_) (fun q => absurd q (by decide))
                  refine r_aload rfl rfl ?_
                  refine r_iload rfl rfl ?_
                  refine WR_tI (y := nI k5) ek5 ?_
                  refine r_iload rfl rfl ?_
                  refine r_iload rfl rfl ?_
                  refine r_iload rfl rfl ?_
                  refine r_cv (y := 205) (ra := [.int c, .int b, .int a, .int (nI k5)]) (rest := []) rfl ⟨⟨rfl, rfl⟩, rfl, by decide⟩ (fx_t30 fx) rfl rfl (Nat.le_of_ble_eq_true rfl) ?_
                  try rw [ek5] at kn
                  refine c_mknown (h := sI (sI (sI (sI (sI (sI h (ad 0) 6 0) (ad 10) (64 * k2 + 4 * l9) (nI k5)) (ad 10) (64 * k2 + 4 * l9 + 1) a) (ad 10) (64 * k2 + 4 * l9 + 2) b) (ad 10) (64 * k2 + 4 * l9 + 3) c) (ad 11) k2 (nI (l9 + 1))) (o := nI k5) fx (Eq.trans (I_ne (fx_ne fx (by decide))) (Eq.trans (I_ne (fx_ne fx (by decide))) (Eq.trans (I_ne (fx_ne fx (by decide))) (Eq.trans (I_ne (fx_ne fx (by decide))) (Eq.trans (I_ne (fx_ne fx (by decide))) (Eq.trans (I_ne (fx_ne fx (by decide))) ru.1)))))) (by have := i_nlt c4; have := i_rg o; have : (0 : Int32).toInt = 0 := rfl; have := i_eq ek5; have : (nI k5).toInt = ((k5 : Nat) : Int) := nI_toInt (by omega); have := i_le c6; have : (13 : Int32).toInt = 13 := rfl; omega) (fun _ => ?_) (fun z => absurd kn z)
                  show WR _ cd_203 43 [some (.ref (ad 30)), some (.int p), some (.int o), some (.int a), some (.int b), some (.int c), none] [.int 1] (sI (sI (sI (sI (sI (sI h (ad 0) 6 0) (ad 10) (64 * k2 + 4 * l9) (nI k5)) (ad 10) (64 * k2 + 4 * l9 + 1) a) (ad 10) (64 * k2 + 4 * l9 + 2) b) (ad 10) (64 * k2 + 4 * l9 + 3) c) (ad 11) k2 (nI (l9 + 1))) _
                  refine r_if_ne (tg := 53) rfl rfl (fun _ => ?_) (fun q => absurd q (by decide))
                  refine r_iload rfl rfl ?_
                  refine WR_tI (y := nI k5) ek5 ?_
                  refine r_ic (x := 6) rfl rfl ?_
                  refine r_icmp_ne (tg := 71) rfl rfl (fun _ => ?_) (fun q => False.elim (by have := i_nlt c4; have := i_rg o; have : (0 : Int32).toInt = 0 := rfl; have := i_eq ek5; have : (nI k5).toInt = ((k5 : Nat) : Int) := nI_toInt (by omega); have := i_le c6; have : (13 : Int32).toInt = 13 := rfl; have := i_neq c7; have : (6 : Int32).toInt = 6 := rfl; have := i_eq q; omega))
                  refine r_iload rfl rfl ?_
                  refine WR_tI (y := nI k5) ek5 ?_
                  refine r_ic (x := 8) rfl rfl ?_
                  refine r_icmp_ne (tg := 97) rfl rfl (fun _ => ?_) (fun q => False.elim (by have := i_nlt c4; have := i_rg o; have : (0 : Int32).toInt = 0 := rfl; have := i_eq ek5; have : (nI k5).toInt = ((k5 : Nat) : Int) := nI_toInt (by omega); have := i_le c6; have : (13 : Int32).toInt = 13 := rfl; have := i_neq c8; have : (8 : Int32).toInt = 8 := rfl; have := i_eq q; omega))
                  refine r_aload rfl rfl ?_
                  refine r_getA (b := ad 43) rfl ⟨rfl, rfl, rfl⟩ (fx_t30 fx) (fx_r30_18 fx) ?_
                  refine r_iload rfl rfl ?_
                  refine WR_tI (y := nI k2) ek2 ?_
                  refine r_iaload rfl (.inl (fx_t43 fx)) (vp_ct (fx_n43 fx) (vp_in_nI (by have := i_nlt c1; have := i_rg p; have : (0 : Int32).toInt = 0 := rfl; have := i_eq ek2; have : (nI k2).toInt = ((k2 : Nat) : Int) := nI_toInt (by omega); have := i_nle c3; have : (10 : Int32).toInt = 10 := rfl; omega) (by omega))) ?_
                  refine WR_tI (congrArg (hI (sI (sI (sI (sI (sI (sI h (ad 0) 6 0) (ad 10) (64 * k2 + 4 * l9) (nI k5)) (ad 10) (64 * k2 + 4 * l9 + 1) a) (ad 10) (64 * k2 + 4 * l9 + 2) b) (ad 10) (64 * k2 + 4 * l9 + 3) c) (ad 11) k2 (nI (l9 + 1))) (ad 43)) ((nI_clamp (by have := i_nlt c1; have := i_rg p; have : (0 : Int32).toInt = 0 := rfl; have := i_eq ek2; have : (nI k2).toInt = ((k2 : Nat) : Int) := nI_toInt (by omega); have := i_nle c3; have : (10 : Int32).toInt = 10 := rfl; omega)) : _ = k2)) ?_
                  refine WR_tI (y := nI l9) (Eq.trans (I_ne (fx_ne fx (by decide))) (Eq.trans (I_ne (fx_ne fx (by decide))) (Eq.trans (I_ne (fx_ne fx (by decide))) (Eq.trans (I_ne (fx_ne fx (by decide))) (Eq.trans (I_ne (fx_ne fx (by decide))) (Eq.trans (I_ne (fx_ne fx (by decide))) p2_9)))))) ?_
                  refine r_ic (x := 16) rfl rfl ?_
                  refine r_icmp_ne (tg := 115) rfl rfl (fun _ => ?_) (fun q => False.elim (by have := i_lt c10; have : (nI l9).toInt = ((l9 : Nat) : Int) := nI_toInt (by omega); have : (16 : Int32).toInt = 16 := rfl; have := i_eq q; omega))
                  refine WR_lv (lv2 := [some (.ref (ad 30)), some (.int (nI k2)), some (.int (nI k5)), some (.int a), some (.int b), some (.int c), none]) (by rw [ek2, ek5]) ?_
                  refine c_mstepT (h := sI (sI (sI (sI (sI (sI h (ad 0) 6 0) (ad 10) (64 * k2 + 4 * l9) (nI k5)) (ad 10) (64 * k2 + 4 * l9 + 1) a) (ad 10) (64 * k2 + 4 * l9 + 2) b) (ad 10) (64 * k2 + 4 * l9 + 3) c) (ad 11) k2 (nI (l9 + 1))) (p := k2) (l := l9) fx (by have := i_nlt c1; have := i_rg p; have : (0 : Int32).toInt = 0 := rfl; have := i_eq ek2; have : (nI k2).toInt = ((k2 : Nat) : Int) := nI_toInt (by omega); have := i_nle c3; have : (10 : Int32).toInt = 10 := rfl; omega) (by have := i_lt c10; have : (nI l9).toInt = ((l9 : Nat) : Int) := nI_toInt (by omega); have : (16 : Int32).toInt = 16 := rfl; omega) (Eq.trans (I_ne (fx_ne fx (by decide))) (Eq.trans (I_ne (fx_ne fx (by decide))) (Eq.trans (I_ne (fx_ne fx (by decide))) (Eq.trans (I_ne (fx_ne fx (by decide))) (Eq.trans (I_ne (fx_ne fx (by decide))) (Eq.trans (I_ne (fx_ne fx (by decide))) p2_9)))))) ?_
                  have fx : FX n ad sa z0 (sI (sI (sI (sI (sI (sI (sI (sI (sI (sI (sI (sI h (ad 0) 6 0) (ad 10) (64 * k2 + 4 * l9) (nI k5)) (ad 10) (64 * k2 + 4 * l9 + 1) a) (ad 10) (64 * k2 + 4 * l9 + 2) b) (ad 10) (64 * k2 + 4 * l9 + 3) c) (ad 11) k2 (nI (l9 + 1))) (ad 44) (16 * k2 + l9) (nI k5)) (ad 45) (16 * k2 + l9) a) (ad 46) (16 * k2 + l9) b) (ad 47) (16 * k2 + l9) c) (ad 43) k2 (nI (l9 + 1))) (ad 30) 11 0) := (FX.sI (FX.sI (FX.sI (FX.sI (FX.sI (FX.sI fx))))))
                  have cg : Chg n ad [(30, 11), (0, 6)] [43, 47, 46, 45, 44, 11, 10, 10, 10, 10] h (sI (sI (sI (sI (sI (sI (sI (sI (sI (sI (sI (sI h (ad 0) 6 0) (ad 10) (64 * k2 + 4 * l9) (nI k5)) (ad 10) (64 * k2 + 4 * l9 + 1) a) (ad 10) (64 * k2 + 4 * l9 + 2) b) (ad 10) (64 * k2 + 4 * l9 + 3) c) (ad 11) k2 (nI (l9 + 1))) (ad 44) (16 * k2 + l9) (nI k5)) (ad 45) (16 * k2 + l9) a) (ad 46) (16 * k2 + l9) b) (ad 47) (16 * k2 + l9) c) (ad 43) k2 (nI (l9 + 1))) (ad 30) 11 0) := ((((((((((((Chg.rf.sI (fx_j fx0) (k := 6) (v := 0) (.inl (by decide))).sI (fx_j fx0) (k := 64 * k2 + 4 * l9) (v := nI k5) (.inl (by decide))).row.sI (fx_j fx0) (k := 64 * k2 + 4 * l9 + 1) (v := a) (.inl (by decide))).row.sI (fx_j fx0) (k := 64 * k2 + 4 * l9 + 2) (v := b) (.inl (by decide))).row.sI (fx_j fx0) (k := 64 * k2 + 4 * l9 + 3) (v := c) (.inl (by decide))).row.sI (fx_j fx0) (k := k2) (v := nI (l9 + 1)) (.inl (by decide))).row.sI (fx_j fx0) (k := 16 * k2 + l9) (v := nI k5) (.inl (by decide))).row.sI (fx_j fx0) (k := 16 * k2 + l9) (v := a) (.inl (by decide))).row.sI (fx_j fx0) (k := 16 * k2 + l9) (v := b) (.inl (by decide))).row.sI (fx_j fx0) (k := 16 * k2 + l9) (v := c) (.inl (by decide))).row.sI (fx_j fx0) (k := k2) (v := nI (l9 + 1)) (.inl (by decide))).row.sI (fx_j fx0) (k := 11) (v := 0) (.inl (by decide)))
                  refine ⟨rfl, ⟨mid, pa, np, FX.k fx0 cg.1 cg.2.1 cg.2.2 (by decide +kernel), Eq.trans (Eq.trans (I_ne (fx_ne fx (by decide +kernel))) (Eq.trans (I_ne (fx_ne fx (by decide +kernel))) (Eq.trans (I_ne (fx_ne fx (by decide +kernel))) (Eq.trans (I_ne (fx_ne fx (by decide +kernel))) (Eq.trans (I_ne (fx_ne fx (by decide +kernel))) (Eq.trans (I_ne (fx_ne fx (by decide +kernel))) (Eq.trans (I_ne (fx_ne fx (by decide +kernel))) (Eq.trans (I_ne (fx_ne fx (by decide +kernel))) (Eq.trans (I_ne (fx_ne fx (by decide +kernel))) (Eq.trans (I_ne (fx_ne fx (by decide +kernel))) (Eq.trans (I_ne (fx_ne fx (by decide +kernel))) I_eq))))))))))) (Eq.symm I_eq), rt.k cg.2.1 (by decide +kernel), ra.k cg.2.1 (by decide +kernel), ?_, rf.k cg.2.1 (by decide +kernel), Rst.k fx0 rst cg.2.2, Ru.k fx0 ru cg.2.1 (by decide +kernel), Rs.k fx0 rs cg.1 cg.2.1 cg.2.2 (by decide +kernel)⟩, ?_, ?_⟩
                  · refine Rp.push rp (p := k2) (l := l9) (op := nI k5) (a := a) (b := b) (c := c) (by have := i_nlt c1; have := i_rg p; have : (0 : Int32).toInt = 0 := rfl; have := i_eq ek2; have : (nI k2).toInt = ((k2 : Nat) : Int) := nI_toInt (by omega); have := i_nle c3; have : (10 : Int32).toInt = 10 := rfl; omega) (by have := i_lt c10; have : (nI l9).toInt = ((l9 : Nat) : Int) := nI_toInt (by omega); have : (16 : Int32).toInt = 16 := rfl; omega) p1_9 ⟨⟨(fun q_ => False.elim (by have := i_nlt c4; have := i_rg o; have : (0 : Int32).toInt = 0 := rfl; have := i_eq ek5; have : (nI k5).toInt = ((k5 : Nat) : Int) := nI_toInt (by omega); have := i_le c6; have : (13 : Int32).toInt = 13 := rfl; have := i_lt q_; omega)), (Int32.le_iff_toInt_le.mpr (by have := i_nlt c4; have := i_rg o; have : (0 : Int32).toInt = 0 := rfl; have := i_eq ek5; have : (nI k5).toInt = ((k5 : Nat) : Int) := nI_toInt (by omega); have := i_le c6; have : (13 : Int32).toInt = 13 := rfl; omega))⟩, kn.1, kn.2.1, (fun e_ => False.elim (by have := i_nlt c4; have := i_rg o; have : (0 : Int32).toInt = 0 := rfl; have := i_eq ek5; have : (nI k5).toInt = ((k5 : Nat) : Int) := nI_toInt (by omega); have := i_le c6; have : (13 : Int32).toInt = 13 := rfl; have := i_neq c8; have : (8 : Int32).toInt = 8 := rfl; have := i_eq e_; have : (8 : Int32).toInt = 8 := rfl; omega)), kn.2.2.2.1, kn.2.2.2.2.1, kn.2.2.2.2.2.1, kn.2.2.2.2.2.2, (fun e_ => False.elim (by have := i_nlt c4; have := i_rg o; have : (0 : Int32).toInt = 0 := rfl; have := i_eq ek5; have : (nI k5).toInt = ((k5 : Nat) : Int) := nI_toInt (by omega); have := i_le c6; have : (13 : Int32).toInt = 13 := rfl; have := i_neq c7; have : (6 : Int32).toInt = 6 := rfl; have := i_eq e_; have : (6 : Int32).toInt = 6 := rfl; omega))⟩ ?_ ?_ ?_ ?_ ?_ ?_ ?_
                    · intro q_; simp only [hI_sI, fx_ij fx0, Nat.reduceEqDiff, false_and, true_and, if_false]
                    · intro q_; simp only [hI_sI, fx_ij fx0, Nat.reduceEqDiff, false_and, true_and, if_false]
                    · intro q_; simp only [hI_sI, fx_ij fx0, Nat.reduceEqDiff, false_and, true_and, if_false]
                    · intro q_; simp only [hI_sI, fx_ij fx0, Nat.reduceEqDiff, false_and, true_and, if_false]
                    · intro q_; simp only [hI_sI, fx_ij fx0, Nat.reduceEqDiff, false_and, true_and, if_false]
                    · intro q_; simp only [hI_sI, fx_ij fx0, Nat.reduceEqDiff, false_and, true_and, if_false]
                    · intro q_; simp only [hI_sI, fx_ij fx0, Nat.reduceEqDiff, false_and, true_and, if_false]
                  · simp only [hZ_sI, hZ_sL, hZ_sD, hZ_sR]; omega
                  · simp only [hU_sI, hU_sL, hU_sD, hU_sR]; omega
                · refine r_aload rfl rfl ?_
                  refine r_ic (x := (-5)) rfl rfl ?_
                  refine r_cv (y := 13) (ra := [.int (-5)]) (rest := []) rfl ⟨⟨rfl, rfl⟩, rfl, by decide⟩ (fx_t0 fx) rfl rfl (Nat.le_of_ble_eq_true rfl) ?_
                  refine in_13 (Nat.le_of_ble_eq_true rfl) ?_
                  show WR _ cd_13 0 [some (.ref (ad 0)), some (.int (-5))] [] (sI h (ad 0) 6 0) _
                  refine r_aload rfl rfl ?_
                  refine r_iload rfl rfl ?_
                  refine r_putI rfl ⟨rfl, rfl, rfl⟩ (fx_t0 fx) ?_
                  have fx : FX n ad sa z0 (sI (sI h (ad 0) 6 0) (ad 0) 6 (-5)) := (FX.sI fx)
                  refine r_iload rfl rfl ?_
                  refine r_iret rfl ?_
                  show WR _ cd_92 118 [some (.ref (ad 0)), some (.int p), some (.int o), some (.int a), some (.int b), some (.int c)] [.int (-5)] (sI (sI h (ad 0) 6 0) (ad 0) 6 (-5)) _
                  refine r_iret rfl ?_
                  show EV _ 203 [.ref (ad 30), .int p, .int o, .int a, .int b, .int c] (sI (sI h (ad 0) 6 0) (ad 0) 6 (-5)) _
                  refine in_203 (Nat.le_of_ble_eq_true rfl) ?_
                  show WR _ cd_203 0 [some (.ref (ad 30)), some (.int p), some (.int o), some (.int a), some (.int b), some (.int c), none] [] (sI (sI h (ad 0) 6 0) (ad 0) 6 (-5)) _
                  refine r_iload rfl rfl ?_
                  refine WR_tI (y := nI k2) ek2 ?_
                  refine r_cs (y := 204) (ra := [.int (nI k2)]) (rest := []) rfl ⟨⟨rfl, rfl⟩, by decide⟩ rfl rfl (Nat.le_of_ble_eq_true rfl) ?_
                  refine in_204 (Nat.le_of_ble_eq_true rfl) ?_
                  show WR _ cd_204 0 [some (.int (nI k2))] [] (sI (sI h (ad 0) 6 0) (ad 0) 6 (-5)) _
                  refine r_iload rfl rfl ?_
                  refine r_if_lt (tg := 14) rfl rfl (fun q => False.elim (by have := i_nlt c1; have := i_rg p; have : (0 : Int32).toInt = 0 := rfl; have := i_eq ek2; have : (nI k2).toInt = ((k2 : Nat) : Int) := nI_toInt (by omega); have := i_nle c3; have : (10 : Int32).toInt = 10 := rfl; have := i_lt q; omega)) (fun _ => ?_)
                  refine r_iload rfl rfl ?_
                  refine r_ic (x := 10) rfl rfl ?_
                  refine r_icmp_ge (tg := 14) rfl rfl (fun q => False.elim (by have := i_nlt c1; have := i_rg p; have : (0 : Int32).toInt = 0 := rfl; have := i_eq ek2; have : (nI k2).toInt = ((k2 : Nat) : Int) := nI_toInt (by omega); have := i_nle c3; have : (10 : Int32).toInt = 10 := rfl; have := i_le q; omega)) (fun _ => ?_)
                  refine r_ic (x := 1) rfl rfl ?_
                  refine r_goto (tg := 15) rfl rfl ?_
                  refine r_zret rfl (.inr rfl) ?_
                  show WR _ cd_203 4 [some (.ref (ad 30)), some (.int p), some (.int o), some (.int a), some (.int b), some (.int c), none] [.int 1] (sI (sI h (ad 0) 6 0) (ad 0) 6 (-5)) _
                  refine r_if_ne (tg := 14) rfl rfl (fun _ => ?_) (fun q => absurd q (by decide))
                  refine r_iload rfl rfl ?_
                  refine WR_tI (y := nI k5) ek5 ?_
                  refine r_i2l rfl ?_
                  refine WR_tL (y := lN k5) (nI_l (by have := i_nlt c4; have := i_rg o; have : (0 : Int32).toInt = 0 := rfl; have := i_eq ek5; have : (nI k5).toInt = ((k5 : Nat) : Int) := nI_toInt (by omega); have := i_le c6; have : (13 : Int32).toInt = 13 := rfl; omega)) ?_
                  refine r_lc (x := 0) rfl rfl ?_
                  refine r_ldc (x := .long 13) rfl rfl ?_
                  refine r_cs (y := 155) (ra := [.long 13, .long 0, .long (lN k5)]) (rest := []) rfl ⟨⟨rfl, rfl⟩, by decide⟩ rfl rfl (Nat.le_of_ble_eq_true rfl) ?_
                  refine in_155 (Nat.le_of_ble_eq_true rfl) ?_
                  show WR _ cd_155 0 [some (.long (lN k5)), none, some (.long 0), none, some (.long 13), none] [] (sI (sI h (ad 0) 6 0) (ad 0) 6 (-5)) _
                  refine r_lload rfl rfl ?_
                  refine r_lload rfl rfl ?_
                  refine r_lif_lt (tg := 17) rfl rfl rfl (fun q => False.elim (by have := i_nlt c4; have := i_rg o; have : (0 : Int32).toInt = 0 := rfl; have := i_eq ek5; have : (nI k5).toInt = ((k5 : Nat) : Int) := nI_toInt (by omega); have := i_le c6; have : (13 : Int32).toInt = 13 := rfl; have : (lN k5).toInt = ((k5 : Nat) : Int) := lN_toInt (by omega); have : (0 : Int64).toInt = 0 := rfl; have := l_lt q; omega)) (fun _ => ?_)
                  refine r_lload rfl rfl ?_
                  refine r_lload rfl rfl ?_
                  refine r_lif_gt (tg := 17) rfl rfl rfl (fun q => False.elim (by have := i_nlt c4; have := i_rg o; have : (0 : Int32).toInt = 0 := rfl; have := i_eq ek5; have : (nI k5).toInt = ((k5 : Nat) : Int) := nI_toInt (by omega); have := i_le c6; have : (13 : Int32).toInt = 13 := rfl; have : (lN k5).toInt = ((k5 : Nat) : Int) := lN_toInt (by omega); have : (13 : Int64).toInt = 13 := rfl; have := l_lt q; omega)) (fun _ => ?_)
                  refine r_ic (x := 1) rfl rfl ?_
                  refine r_goto (tg := 18) rfl rfl ?_
                  refine r_zret rfl (.inr rfl) ?_
                  show WR _ cd_203 23 [some (.ref (ad 30)), some (.int p), some (.int o), some (.int a), some (.int b), some (.int c), none] [.int 1] (sI (sI h (ad 0) 6 0) (ad 0) 6 (-5)) _
                  refine r_if_ne (tg := 33) rfl rfl (fun _ => ?_) (fun q => absurd q (by decide))
                  refine r_aload rfl rfl ?_
                  refine r_iload rfl rfl ?_
                  refine WR_tI (y := nI k5) ek5 ?_
                  refine r_iload rfl rfl ?_
                  refine r_iload rfl rfl ?_
                  refine r_iload rfl rfl ?_
                  refine r_cv (y := 205) (ra := [.int c, .int b, .int a, .int (nI k5)]) (rest := []) rfl ⟨⟨rfl, rfl⟩, rfl, by decide⟩ (fx_t30 fx) rfl rfl (Nat.le_of_ble_eq_true rfl) ?_
                  try rw [ek5] at kn
                  refine c_mknown (h := sI (sI h (ad 0) 6 0) (ad 0) 6 (-5)) (o := nI k5) fx (Eq.trans (I_ne (fx_ne fx (by decide))) (Eq.trans (I_ne (fx_ne fx (by decide))) ru.1)) (by have := i_nlt c4; have := i_rg o; have : (0 : Int32).toInt = 0 := rfl; have := i_eq ek5; have : (nI k5).toInt = ((k5 : Nat) : Int) := nI_toInt (by omega); have := i_le c6; have : (13 : Int32).toInt = 13 := rfl; omega) (fun _ => ?_) (fun z => absurd kn z)
                  show WR _ cd_203 43 [some (.ref (ad 30)), some (.int p), some (.int o), some (.int a), some (.int b), some (.int c), none] [.int 1] (sI (sI h (ad 0) 6 0) (ad 0) 6 (-5)) _
                  refine r_if_ne (tg := 53) rfl rfl (fun _ => ?_) (fun q => absurd q (by decide))
                  refine r_iload rfl rfl ?_
                  refine WR_tI (y := nI k5) ek5 ?_
                  refine r_ic (x := 6) rfl rfl ?_
                  refine r_icmp_ne (tg := 71) rfl rfl (fun _ => ?_) (fun q => False.elim (by have := i_nlt c4; have := i_rg o; have : (0 : Int32).toInt = 0 := rfl; have := i_eq ek5; have : (nI k5).toInt = ((k5 : Nat) : Int) := nI_toInt (by omega); have := i_le c6; have : (13 : Int32).toInt = 13 := rfl; have := i_neq c7; have : (6 : Int32).toInt = 6 := rfl; have := i_eq q; omega))
                  refine r_iload rfl rfl ?_
                  refine WR_tI (y := nI k5) ek5 ?_
                  refine r_ic (x := 8) rfl rfl ?_
                  refine r_icmp_ne (tg := 97) rfl rfl (fun _ => ?_) (fun q => False.elim (by have := i_nlt c4; have := i_rg o; have : (0 : Int32).toInt = 0 := rfl; have := i_eq ek5; have : (nI k5).toInt = ((k5 : Nat) : Int) := nI_toInt (by omega); have := i_le c6; have : (13 : Int32).toInt = 13 := rfl; have := i_neq c8; have : (8 : Int32).toInt = 8 := rfl; have := i_eq q; omega))
                  refine r_aload rfl rfl ?_
                  refine r_getA (b := ad 43) rfl ⟨rfl, rfl, rfl⟩ (fx_t30 fx) (fx_r30_18 fx) ?_
                  refine r_iload rfl rfl ?_
                  refine WR_tI (y := nI k2) ek2 ?_
                  refine r_iaload rfl (.inl (fx_t43 fx)) (vp_ct (fx_n43 fx) (vp_in_nI (by have := i_nlt c1; have := i_rg p; have : (0 : Int32).toInt = 0 := rfl; have := i_eq ek2; have : (nI k2).toInt = ((k2 : Nat) : Int) := nI_toInt (by omega); have := i_nle c3; have : (10 : Int32).toInt = 10 := rfl; omega) (by omega))) ?_
                  refine WR_tI (congrArg (hI (sI (sI h (ad 0) 6 0) (ad 0) 6 (-5)) (ad 43)) ((nI_clamp (by have := i_nlt c1; have := i_rg p; have : (0 : Int32).toInt = 0 := rfl; have := i_eq ek2; have : (nI k2).toInt = ((k2 : Nat) : Int) := nI_toInt (by omega); have := i_nle c3; have : (10 : Int32).toInt = 10 := rfl; omega)) : _ = k2)) ?_
                  refine WR_tI (y := nI l9) (Eq.trans (I_ne (fx_ne fx (by decide))) (Eq.trans (I_ne (fx_ne fx (by decide))) p2_9)) ?_
                  refine r_ic (x := 16) rfl rfl ?_
                  refine r_icmp_ne (tg := 115) rfl rfl (fun q => False.elim (by have := i_nlt c10; have : (nI l9).toInt = ((l9 : Nat) : Int) := nI_toInt (by omega); have : (16 : Int32).toInt = 16 := rfl; have := i_neq q; omega)) (fun _ => ?_)
                  refine r_aload rfl rfl ?_
                  refine r_ic (x := (-5)) rfl rfl ?_
                  refine r_cv (y := 154) (ra := [.int (-5)]) (rest := []) rfl ⟨⟨rfl, rfl⟩, rfl, by decide⟩ (fx_t30 fx) rfl rfl (Nat.le_of_ble_eq_true rfl) ?_
                  refine in_154 (Nat.le_of_ble_eq_true rfl) ?_
                  show WR _ cd_154 0 [some (.ref (ad 30)), some (.int (-5))] [] (sI (sI h (ad 0) 6 0) (ad 0) 6 (-5)) _
                  refine r_aload rfl rfl ?_
                  refine r_iload rfl rfl ?_
                  refine r_ic (x := (-1)) rfl rfl ?_
                  refine r_icmp_ge (tg := 10) rfl rfl (fun q => absurd q (by decide)) (fun _ => ?_)
                  refine r_iload rfl rfl ?_
                  refine r_goto (tg := 11) rfl rfl ?_
                  refine r_putI rfl ⟨rfl, rfl, rfl⟩ (fx_t30 fx) ?_
                  have fx : FX n ad sa z0 (sI (sI (sI h (ad 0) 6 0) (ad 0) 6 (-5)) (ad 30) 11 (-5)) := (FX.sI fx)
                  refine r_iload rfl rfl ?_
                  refine r_iret rfl ?_
                  show WR _ cd_203 114 [some (.ref (ad 30)), some (.int p), some (.int o), some (.int a), some (.int b), some (.int c), none] [.int (-5)] (sI (sI (sI h (ad 0) 6 0) (ad 0) 6 (-5)) (ad 30) 11 (-5)) _
                  refine r_iret rfl ?_
                  exact ⟨rfl, Rel.why r (((Chg.rf.sI (fx_j fx) (.inl (by decide))).sI (fx_j fx) (.inl (by decide))).sI (fx_j fx) (.inl (by decide))) ⟨rfl, by decide⟩ (Eq.trans (Eq.trans (I_ne (fx_ne fx (by decide))) I_eq) (Eq.symm I_eq)), Nat.le_add_right _ _, Nat.le_add_right _ _⟩
              · refine r_iload rfl rfl ?_
                refine r_if_lt (tg := 91) rfl rfl (fun c11 => ?_) (fun c11 => ?_)
                · refine r_aload rfl rfl ?_
                  refine r_ic (x := (-3)) rfl rfl ?_
                  refine r_cv (y := 13) (ra := [.int (-3)]) (rest := []) rfl ⟨⟨rfl, rfl⟩, rfl, by decide⟩ (fx_t0 fx) rfl rfl (Nat.le_of_ble_eq_true rfl) ?_
                  refine in_13 (Nat.le_of_ble_eq_true rfl) ?_
                  show WR _ cd_13 0 [some (.ref (ad 0)), some (.int (-3))] [] (sI h (ad 0) 6 0) _
                  refine r_aload rfl rfl ?_
                  refine r_iload rfl rfl ?_
                  refine r_putI rfl ⟨rfl, rfl, rfl⟩ (fx_t0 fx) ?_
                  have fx : FX n ad sa z0 (sI (sI h (ad 0) 6 0) (ad 0) 6 (-3)) := (FX.sI fx)
                  refine r_iload rfl rfl ?_
                  refine r_iret rfl ?_
                  show WR _ cd_92 97 [some (.ref (ad 0)), some (.int p), some (.int o), some (.int a), some (.int b), some (.int c)] [.int (-3)] (sI (sI h (ad 0) 6 0) (ad 0) 6 (-3)) _
                  refine r_iret rfl ?_
                  show EV _ 203 [.ref (ad 30), .int p, .int o, .int a, .int b, .int c] (sI (sI h (ad 0) 6 0) (ad 0) 6 (-3)) _
                  refine in_203 (Nat.le_of_ble_eq_true rfl) ?_
                  show WR _ cd_203 0 [some (.ref (ad 30)), some (.int p), some (.int o), some (.int a), some (.int b), some (.int c), none] [] (sI (sI h (ad 0) 6 0) (ad 0) 6 (-3)) _
                  refine r_iload rfl rfl ?_
                  refine WR_tI (y := nI k2) ek2 ?_
                  refine r_cs (y := 204) (ra := [.int (nI k2)]) (rest := []) rfl ⟨⟨rfl, rfl⟩, by decide⟩ rfl rfl (Nat.le_of_ble_eq_true rfl) ?_
                  refine in_204 (Nat.le_of_ble_eq_true rfl) ?_
                  show WR _ cd_204 0 [some (.int (nI k2))] [] (sI (sI h (ad 0) 6 0) (ad 0) 6 (-3)) _
                  refine r_iload rfl rfl ?_
                  refine r_if_lt (tg := 14) rfl rfl (fun q => False.elim (by have := i_nlt c1; have := i_rg p; have : (0 : Int32).toInt = 0 := rfl; have := i_eq ek2; have : (nI k2).toInt = ((k2 : Nat) : Int) := nI_toInt (by omega); have := i_nle c3; have : (10 : Int32).toInt = 10 := rfl; have := i_lt q; omega)) (fun _ => ?_)
                  refine r_iload rfl rfl ?_
                  refine r_ic (x := 10) rfl rfl ?_
                  refine r_icmp_ge (tg := 14) rfl rfl (fun q => False.elim (by have := i_nlt c1; have := i_rg p; have : (0 : Int32).toInt = 0 := rfl; have := i_eq ek2; have : (nI k2).toInt = ((k2 : Nat) : Int) := nI_toInt (by omega); have := i_nle c3; have : (10 : Int32).toInt = 10 := rfl; have := i_le q; omega)) (fun _ => ?_)
                  refine r_ic (x := 1) rfl rfl ?_
                  refine r_goto (tg := 15) rfl rfl ?_
                  refine r_zret rfl (.inr rfl) ?_
                  show WR _ cd_203 4 [some (.ref (ad 30)), some (.int p), some (.int o), some (.int a), some (.int b), some (.int c), none] [.int 1] (sI (sI h (ad 0) 6 0) (ad 0) 6 (-3)) _
                  refine r_if_ne (tg := 14) rfl rfl (fun _ => ?_) (fun q => absurd q (by decide))
                  refine r_iload rfl rfl ?_
                  refine WR_tI (y := nI k5) ek5 ?_
                  refine r_i2l rfl ?_
                  refine WR_tL (y := lN k5) (nI_l (by have := i_nlt c4; have := i_rg o; have : (0 : Int32).toInt = 0 := rfl; have := i_eq ek5; have : (nI k5).toInt = ((k5 : Nat) : Int) := nI_toInt (by omega); have := i_le c6; have : (13 : Int32).toInt = 13 := rfl; have := i_eq c8; have : (8 : Int32).toInt = 8 := rfl; omega)) ?_
                  refine r_lc (x := 0) rfl rfl ?_
                  refine r_ldc (x := .long 13) rfl rfl ?_
                  refine r_cs (y := 155) (ra := [.long 13, .long 0, .long (lN k5)]) (rest := []) rfl ⟨⟨rfl, rfl⟩, by decide⟩ rfl rfl (Nat.le_of_ble_eq_true rfl) ?_
                  refine in_155 (Nat.le_of_ble_eq_true rfl) ?_
                  show WR _ cd_155 0 [some (.long (lN k5)), none, some (.long 0), none, some (.long 13), none] [] (sI (sI h (ad 0) 6 0) (ad 0) 6 (-3)) _
                  refine r_lload rfl rfl ?_
                  refine r_lload rfl rfl ?_
                  refine r_lif_lt (tg := 17) rfl rfl rfl (fun q => False.elim (by have := i_nlt c4; have := i_rg o; have : (0 : Int32).toInt = 0 := rfl; have := i_eq ek5; have : (nI k5).toInt = ((k5 : Nat) : Int) := nI_toInt (by omega); have := i_le c6; have : (13 : Int32).toInt = 13 := rfl; have := i_eq c8; have : (8 : Int32).toInt = 8 := rfl; have : (lN k5).toInt = ((k5 : Nat) : Int) := lN_toInt (by omega); have : (0 : Int64).toInt = 0 := rfl; have := l_lt q; omega)) (fun _ => ?_)
                  refine r_lload rfl rfl ?_
                  refine r_lload rfl rfl ?_
                  refine r_lif_gt (tg := 17) rfl rfl rfl (fun q => False.elim (by have := i_nlt c4; have := i_rg o; have : (0 : Int32).toInt = 0 := rfl; have := i_eq ek5; have : (nI k5).toInt = ((k5 : Nat) : Int) := nI_toInt (by omega); have := i_le c6; have : (13 : Int32).toInt = 13 := rfl; have := i_eq c8; have : (8 : Int32).toInt = 8 := rfl; have : (lN k5).toInt = ((k5 : Nat) : Int) := lN_toInt (by omega); have : (13 : Int64).toInt = 13 := rfl; have := l_lt q; omega)) (fun _ => ?_)
                  refine r_ic (x := 1) rfl rfl ?_
                  refine r_goto (tg := 18) rfl rfl ?_
                  refine r_zret rfl (.inr rfl) ?_
                  show WR _ cd_203 23 [some (.ref (ad 30)), some (.int p), some (.int o), some (.int a), some (.int b), some (.int c), none] [.int 1] (sI (sI h (ad 0) 6 0) (ad 0) 6 (-3)) _
                  refine r_if_ne (tg := 33) rfl rfl (fun _ => ?_) (fun q => absurd q (by decide))
                  refine r_aload rfl rfl ?_
                  refine r_iload rfl rfl ?_
                  refine WR_tI (y := nI k5) ek5 ?_
                  refine r_iload rfl rfl ?_
                  refine r_iload rfl rfl ?_
                  refine r_iload rfl rfl ?_
                  refine r_cv (y := 205) (ra := [.int c, .int b, .int a, .int (nI k5)]) (rest := []) rfl ⟨⟨rfl, rfl⟩, rfl, by decide⟩ (fx_t30 fx) rfl rfl (Nat.le_of_ble_eq_true rfl) ?_
                  try rw [ek5] at kn
                  refine c_mknown (h := sI (sI h (ad 0) 6 0) (ad 0) 6 (-3)) (o := nI k5) fx (Eq.trans (I_ne (fx_ne fx (by decide))) (Eq.trans (I_ne (fx_ne fx (by decide))) ru.1)) (by have := i_nlt c4; have := i_rg o; have : (0 : Int32).toInt = 0 := rfl; have := i_eq ek5; have : (nI k5).toInt = ((k5 : Nat) : Int) := nI_toInt (by omega); have := i_le c6; have : (13 : Int32).toInt = 13 := rfl; have := i_eq c8; have : (8 : Int32).toInt = 8 := rfl; omega) (fun _ => ?_) (fun z => absurd kn z)
                  show WR _ cd_203 43 [some (.ref (ad 30)), some (.int p), some (.int o), some (.int a), some (.int b), some (.int c), none] [.int 1] (sI (sI h (ad 0) 6 0) (ad 0) 6 (-3)) _
                  refine r_if_ne (tg := 53) rfl rfl (fun _ => ?_) (fun q => absurd q (by decide))
                  refine r_iload rfl rfl ?_
                  refine WR_tI (y := nI k5) ek5 ?_
                  refine r_ic (x := 6) rfl rfl ?_
                  refine r_icmp_ne (tg := 71) rfl rfl (fun _ => ?_) (fun q => False.elim (by have := i_nlt c4; have := i_rg o; have : (0 : Int32).toInt = 0 := rfl; have := i_eq ek5; have : (nI k5).toInt = ((k5 : Nat) : Int) := nI_toInt (by omega); have := i_le c6; have : (13 : Int32).toInt = 13 := rfl; have := i_eq c8; have : (8 : Int32).toInt = 8 := rfl; have := i_neq c7; have : (6 : Int32).toInt = 6 := rfl; have := i_eq q; omega))
                  refine r_iload rfl rfl ?_
                  refine WR_tI (y := nI k5) ek5 ?_
                  refine r_ic (x := 8) rfl rfl ?_
                  refine r_icmp_ne (tg := 97) rfl rfl (fun q => False.elim (by have := i_nlt c4; have := i_rg o; have : (0 : Int32).toInt = 0 := rfl; have := i_eq ek5; have : (nI k5).toInt = ((k5 : Nat) : Int) := nI_toInt (by omega); have := i_le c6; have : (13 : Int32).toInt = 13 := rfl; have := i_eq c8; have : (8 : Int32).toInt = 8 := rfl; have := i_neq q; omega)) (fun _ => ?_)
                  refine r_iload rfl rfl ?_
                  refine r_i2l rfl ?_
                  refine r_lc (x := 0) rfl rfl ?_
                  refine r_ldc (x := .long 8) rfl rfl ?_
                  refine r_cs (y := 155) (ra := [.long 8, .long 0, .long b.toInt64]) (rest := []) rfl ⟨⟨rfl, rfl⟩, by decide⟩ rfl rfl (Nat.le_of_ble_eq_true rfl) ?_
                  refine in_155 (Nat.le_of_ble_eq_true rfl) ?_
                  show WR _ cd_155 0 [some (.long b.toInt64), none, some (.long 0), none, some (.long 8), none] [] (sI (sI h (ad 0) 6 0) (ad 0) 6 (-3)) _
                  refine r_lload rfl rfl ?_
                  refine r_lload rfl rfl ?_
                  refine r_lif_lt (tg := 17) rfl rfl rfl (fun _ => ?_) (fun q => False.elim (by have := i_lt c11; have := i_rg b; have : (0 : Int32).toInt = 0 := rfl; have := w_t b; have : (0 : Int64).toInt = 0 := rfl; have := l_nlt q; omega))
                  refine r_ic (x := 0) rfl rfl ?_
                  refine r_zret rfl (.inl rfl) ?_
                  show WR _ cd_203 87 [some (.ref (ad 30)), some (.int p), some (.int o), some (.int a), some (.int b), some (.int c), none] [.int 0] (sI (sI h (ad 0) 6 0) (ad 0) 6 (-3)) _
                  refine r_if_ne (tg := 97) rfl rfl (fun q => absurd q (by decide)) (fun _ => ?_)
                  refine r_aload rfl rfl ?_
                  refine r_ic (x := (-3)) rfl rfl ?_
                  refine r_cv (y := 154) (ra := [.int (-3)]) (rest := []) rfl ⟨⟨rfl, rfl⟩, rfl, by decide⟩ (fx_t30 fx) rfl rfl (Nat.le_of_ble_eq_true rfl) ?_
                  refine in_154 (Nat.le_of_ble_eq_true rfl) ?_
                  show WR _ cd_154 0 [some (.ref (ad 30)), some (.int (-3))] [] (sI (sI h (ad 0) 6 0) (ad 0) 6 (-3)) _
                  refine r_aload rfl rfl ?_
                  refine r_iload rfl rfl ?_
                  refine r_ic (x := (-1)) rfl rfl ?_
                  refine r_icmp_ge (tg := 10) rfl rfl (fun q => absurd q (by decide)) (fun _ => ?_)
                  refine r_iload rfl rfl ?_
                  refine r_goto (tg := 11) rfl rfl ?_
                  refine r_putI rfl ⟨rfl, rfl, rfl⟩ (fx_t30 fx) ?_
                  have fx : FX n ad sa z0 (sI (sI (sI h (ad 0) 6 0) (ad 0) 6 (-3)) (ad 30) 11 (-3)) := (FX.sI fx)
                  refine r_iload rfl rfl ?_
                  refine r_iret rfl ?_
                  show WR _ cd_203 96 [some (.ref (ad 30)), some (.int p), some (.int o), some (.int a), some (.int b), some (.int c), none] [.int (-3)] (sI (sI (sI h (ad 0) 6 0) (ad 0) 6 (-3)) (ad 30) 11 (-3)) _
                  refine r_iret rfl ?_
                  exact ⟨rfl, Rel.why r (((Chg.rf.sI (fx_j fx) (.inl (by decide))).sI (fx_j fx) (.inl (by decide))).sI (fx_j fx) (.inl (by decide))) ⟨rfl, by decide⟩ (Eq.trans (Eq.trans (I_ne (fx_ne fx (by decide))) I_eq) (Eq.symm I_eq)), Nat.le_add_right _ _, Nat.le_add_right _ _⟩
                · obtain ⟨k12, hk12, ek12⟩ := ix_of (x := b) (n := 2147483648) (by have := i_nlt c11; have := i_rg b; have : (0 : Int32).toInt = 0 := rfl; omega) (by have := i_nlt c11; have := i_rg b; have : (0 : Int32).toInt = 0 := rfl; omega)
                  refine r_iload rfl rfl ?_
                  refine WR_tI (y := nI k12) ek12 ?_
                  refine r_ic (x := 8) rfl rfl ?_
                  refine r_icmp_le (tg := 98) rfl rfl (fun c13 => ?_) (fun c13 => ?_)
                  · refine r_aload rfl rfl ?_
                    refine r_getA (b := ad 9) rfl ⟨rfl, rfl, rfl⟩ (fx_t0 fx) (fx_r0_3 fx) ?_
                    refine r_getA (b := ad 11) rfl ⟨rfl, rfl, rfl⟩ (fx_t9 fx) (fx_r9_1 fx) ?_
                    refine r_iload rfl rfl ?_
                    refine WR_tI (y := nI k2) ek2 ?_
                    refine r_iaload rfl (.inl (fx_t11 fx)) (vp_ct (fx_n11 fx) (vp_in_nI (by have := i_nlt c1; have := i_rg p; have : (0 : Int32).toInt = 0 := rfl; have := i_eq ek2; have : (nI k2).toInt = ((k2 : Nat) : Int) := nI_toInt (by omega); have := i_nle c3; have : (10 : Int32).toInt = 10 := rfl; omega) (by omega))) ?_
                    refine WR_tI (congrArg (hI (sI h (ad 0) 6 0) (ad 11)) ((nI_clamp (by have := i_nlt c1; have := i_rg p; have : (0 : Int32).toInt = 0 := rfl; have := i_eq ek2; have : (nI k2).toInt = ((k2 : Nat) : Int) := nI_toInt (by omega); have := i_nle c3; have : (10 : Int32).toInt = 10 := rfl; omega)) : _ = k2)) ?_
                    obtain ⟨l14, hl14, p1_14, p2_14, p3_14⟩ := rp k2 (by have := i_nlt c1; have := i_rg p; have : (0 : Int32).toInt = 0 := rfl; have := i_eq ek2; have : (nI k2).toInt = ((k2 : Nat) : Int) := nI_toInt (by omega); have := i_nle c3; have : (10 : Int32).toInt = 10 := rfl; omega)
                    refine WR_tI (y := nI l14) (Eq.trans (I_ne (fx_ne fx (by decide))) p1_14) ?_
                    refine r_ic (x := 16) rfl rfl ?_
                    refine r_icmp_lt (tg := 119) rfl rfl (fun c15 => ?_) (fun c15 => ?_)
                    · refine r_aload rfl rfl ?_
                      refine r_getA (b := ad 9) rfl ⟨rfl, rfl, rfl⟩ (fx_t0 fx) (fx_r0_3 fx) ?_
                      refine r_iload rfl rfl ?_
                      refine WR_tI (y := nI k2) ek2 ?_
                      refine r_iload rfl rfl ?_
                      refine WR_tI (y := nI k5) ek5 ?_
                      refine r_iload rfl rfl ?_
                      refine r_iload rfl rfl ?_
                      refine WR_tI (y := nI k12) ek12 ?_
                      refine r_iload rfl rfl ?_
                      refine r_cv (y := 96) (ra := [.int c, .int (nI k12), .int a, .int (nI k5), .int (nI k2)]) (rest := []) rfl ⟨⟨rfl, rfl⟩, rfl, by decide⟩ (fx_t9 fx) rfl rfl (Nat.le_of_ble_eq_true rfl) ?_
                      refine c_addStep (h := sI h (ad 0) 6 0) (p := k2) (l := l14) fx (by have := i_nlt c1; have := i_rg p; have : (0 : Int32).toInt = 0 := rfl; have := i_eq ek2; have : (nI k2).toInt = ((k2 : Nat) : Int) := nI_toInt (by omega); have := i_nle c3; have : (10 : Int32).toInt = 10 := rfl; omega) (by have := i_lt c15; have : (nI l14).toInt = ((l14 : Nat) : Int) := nI_toInt (by omega); have : (16 : Int32).toInt = 16 := rfl; omega) (Eq.trans (I_ne (fx_ne fx (by decide))) p1_14) ?_
                      show WR _ cd_92 133 [some (.ref (ad 0)), some (.int p), some (.int o), some (.int a), some (.int b), some (.int c)] [.int (nI (l14 + 1))] (sI (sI (sI (sI (sI (sI h (ad 0) 6 0) (ad 10) (64 * k2 + 4 * l14) (nI k5)) (ad 10) (64 * k2 + 4 * l14 + 1) a) (ad 10) (64 * k2 + 4 * l14 + 2) (nI k12)) (ad 10) (64 * k2 + 4 * l14 + 3) c) (ad 11) k2 (nI (l14 + 1))) _
                      have fx : FX n ad sa z0 (sI (sI (sI (sI (sI (sI h (ad 0) 6 0) (ad 10) (64 * k2 + 4 * l14) (nI k5)) (ad 10) (64 * k2 + 4 * l14 + 1) a) (ad 10) (64 * k2 + 4 * l14 + 2) (nI k12)) (ad 10) (64 * k2 + 4 * l14 + 3) c) (ad 11) k2 (nI (l14 + 1))) := (FX.sI (FX.sI (FX.sI (FX.sI (FX.sI fx)))))
                      refine r_iret rfl ?_
                      show EV _ 203 [.ref (ad 30), .int p, .int o, .int a, .int b, .int c] (sI (sI (sI (sI (sI (sI h (ad 0) 6 0) (ad 10) (64 * k2 + 4 * l14) (nI k5)) (ad 10) (64 * k2 + 4 * l14 + 1) a) (ad 10) (64 * k2 + 4 * l14 + 2) (nI k12)) (ad 10) (64 * k2 + 4 * l14 + 3) c) (ad 11) k2 (nI (l14 + 1))) _
                      refine in_203 (Nat.le_of_ble_eq_true rfl) ?_
                      show WR _ cd_203 0 [some (.ref (ad 30)), some (.int p), some (.int o), some (.int a), some (.int b), some (.int c), none] [] (sI (sI (sI (sI (sI (sI h (ad 0) 6 0) (ad 10) (64 * k2 + 4 * l14) (nI k5)) (ad 10) (64 * k2 + 4 * l14 + 1) a) (ad 10) (64 * k2 + 4 * l14 + 2) (nI k12)) (ad 10) (64 * k2 + 4 * l14 + 3) c) (ad 11) k2 (nI (l14 + 1))) _
                      refine r_iload rfl rfl ?_
                      refine WR_tI (y := nI k2) ek2 ?_
                      refine r_cs (y := 204) (ra := [.int (nI k2)]) (rest := []) rfl ⟨⟨rfl, rfl⟩, by decide⟩ rfl rfl (Nat.le_of_ble_eq_true rfl) ?_
                      refine in_204 (Nat.le_of_ble_eq_true rfl) ?_
                      show WR _ cd_204 0 [some (.int (nI k2))] [] (sI (sI (sI (sI (sI (sI h (ad 0) 6 0) (ad 10) (64 * k2 + 4 * l14) (nI k5)) (ad 10) (64 * k2 + 4 * l14 + 1) a) (ad 10) (64 * k2 + 4 * l14 + 2) (nI k12)) (ad 10) (64 * k2 + 4 * l14 + 3) c) (ad 11) k2 (nI (l14 + 1))) _
                      refine r_iload rfl rfl ?_
                      refine r_if_lt (tg := 14) rfl rfl (fun q => False.elim (by have := i_nlt c1; have := i_rg p; have : (0 : Int32).toInt = 0 := rfl; have := i_eq ek2; have : (nI k2).toInt = ((k2 : Nat) : Int) := nI_toInt (by omega); have := i_nle c3; have : (10 : Int32).toInt = 10 := rfl; have := i_lt q; omega)) (fun _ => ?_)
                      refine r_iload rfl rfl ?_
                      refine r_ic (x := 10) rfl rfl ?_
                      refine r_icmp_ge (tg := 14) rfl rfl (fun q => False.elim (by have := i_nlt c1; have := i_rg p; have : (0 : Int32).toInt = 0 := rfl; have := i_eq ek2; have : (nI k2).toInt = ((k2 : Nat) : Int) := nI_toInt (by omega); have := i_nle c3; have : (10 : Int32).toInt = 10 := rfl; have := i_le q; omega)) (fun _ => ?_)
                      refine r_ic (x := 1) rfl rfl ?_
                      refine r_goto (tg := 15) rfl rfl ?_
                      refine r_zret rfl (.inr rfl) ?_
                      show WR _ cd_203 4 [some (.ref (ad 30)), some (.int p), some (.int o), some (.int a), some (.int b), some (.int c), none] [.int 1] (sI (sI (sI (sI (sI (sI h (ad 0) 6 0) (ad 10) (64 * k2 + 4 * l14) (nI k5)) (ad 10) (64 * k2 + 4 * l14 + 1) a) (ad 10) (64 * k2 + 4 * l14 + 2) (nI k12)) (ad 10) (64 * k2 + 4 * l14 + 3) c) (ad 11) k2 (nI (l14 + 1))) _
                      refine r_if_ne (tg := 14) rfl rfl (fun _ => ?_) (fun q => absurd q (by decide))
                      refine r_iload rfl rfl ?_
                      refine WR_tI (y := nI k5) ek5 ?_
                      refine r_i2l rfl ?_
                      refine WR_tL (y := lN k5) (nI_l (by have := i_nlt c4; have := i_rg o; have : (0 : Int32).toInt = 0 := rfl; have := i_eq ek5; have : (nI k5).toInt = ((k5 : Nat) : Int) := nI_toInt (by omega); have := i_le c6; have : (13 : Int32).toInt = 13 := rfl; have := i_eq c8; have : (8 : Int32).toInt = 8 := rfl; omega)) ?_
                      refine r_lc (x := 0) rfl rfl ?_
                      refine r_ldc (x := .long 13) rfl rfl ?_
                      refine r_cs (y := 155) (ra := [.long 13, .long 0, .long (lN k5)]) (rest := []) rfl ⟨⟨rfl, rfl⟩, by decide⟩ rfl rfl (Nat.le_of_ble_eq_true rfl) ?_
                      refine in_155 (Nat.le_of_ble_eq_true rfl) ?_
                      show WR _ cd_155 0 [some (.long (lN k5)), none, some (.long 0), none, some (.long 13), none] [] (sI (sI (sI (sI (sI (sI h (ad 0) 6 0) (ad 10) (64 * k2 + 4 * l14) (nI k5)) (ad 10) (64 * k2 + 4 * l14 + 1) a) (ad 10) (64 * k2 + 4 * l14 + 2) (nI k12)) (ad 10) (64 * k2 + 4 * l14 + 3) c) (ad 11) k2 (nI (l14 + 1))) _
                      refine r_lload rfl rfl ?_
                      refine r_lload rfl rfl ?_
                      refine r_lif_lt (tg := 17) rfl rfl rfl (fun q => False.elim (by have := i_nlt c4; have := i_rg o; have : (0 : Int32).toInt = 0 := rfl; have := i_eq ek5; have : (nI k5).toInt = ((k5 : Nat) : Int) := nI_toInt (by omega); have := i_le c6; have : (13 : Int32).toInt = 13 := rfl; have := i_eq c8; have : (8 : Int32).toInt = 8 := rfl; have : (lN k5).toInt = ((k5 : Nat) : Int) := lN_toInt (by omega); have : (0 : Int64).toInt = 0 := rfl; have := l_lt q; omega)) (fun _ => ?_)
                      refine r_lload rfl rfl ?_
                      refine r_lload rfl rfl ?_
                      refine r_lif_gt (tg := 17) rfl rfl rfl (fun q => False.elim (by have := i_nlt c4; have := i_rg o; have : (0 : Int32).toInt = 0 := rfl; have := i_eq ek5; have : (nI k5).toInt = ((k5 : Nat) : Int) := nI_toInt (by omega); have := i_le c6; have : (13 : Int32).toInt = 13 := rfl; have := i_eq c8; have : (8 : Int32).toInt = 8 := rfl; have : (lN k5).toInt = ((k5 : Nat) : Int) := lN_toInt (by omega); have : (13 : Int64).toInt = 13 := rfl; have := l_lt q; omega)) (fun _ => ?_)
                      refine r_ic (x := 1) rfl rfl ?_
                      refine r_goto (tg := 18) rfl rfl ?_
                      refine r_zret rfl (.inr rfl) ?_
                      show WR _ cd_203 23 [some (.ref (ad 30)), some (.int p), some (.int o), some (.int a), some (.int b), some (.int c), none] [.int 1] (sI (sI (sI (sI (sI (sI h (ad 0) 6 0) (ad 10) (64 * k2 + 4 * l14) (nI k5)) (ad 10) (64 * k2 + 4 * l14 + 1) a) (ad 10) (64 * k2 + 4 * l14 + 2) (nI k12)) (ad 10) (64 * k2 + 4 * l14 + 3) c) (ad 11) k2 (nI (l14 + 1))) _
                      refine r_if_ne (tg := 33) rfl rfl (fun _ => ?_) (fun q => absurd q (by decide))
                      refine r_aload rfl rfl ?_
                      refine r_iload rfl rfl ?_
                      refine WR_tI (y := nI k5) ek5 ?_
                      refine r_iload rfl rfl ?_
                      refine r_iload rfl rfl ?_
                      refine WR_tI (y := nI k12) ek12 ?_
                      refine r_iload rfl rfl ?_
                      refine r_cv (y := 205) (ra := [.int c, .int (nI k12), .int a, .int (nI k5)]) (rest := []) rfl ⟨⟨rfl, rfl⟩, rfl, by decide⟩ (fx_t30 fx) rfl rfl (Nat.le_of_ble_eq_true rfl) ?_
                      try rw [ek5] at kn
                      try rw [ek12] at kn
                      refine c_mknown (h := sI (sI (sI (sI (sI (sI h (ad 0) 6 0) (ad 10) (64 * k2 + 4 * l14) (nI k5)) (ad 10) (64 * k2 + 4 * l14 + 1) a) (ad 10) (64 * k2 + 4 * l14 + 2) (nI k12)) (ad 10) (64 * k2 + 4 * l14 + 3) c) (ad 11) k2 (nI (l14 + 1))) (o := nI k5) fx (Eq.trans (I_ne (fx_ne fx (by decide))) (Eq.trans (I_ne (fx_ne fx (by decide))) (Eq.trans (I_ne (fx_ne fx (by decide))) (Eq.trans (I_ne (fx_ne fx (by decide))) (Eq.trans (I_ne (fx_ne fx (by decide))) (Eq.trans (I_ne (fx_ne fx (by decide))) ru.1)))))) (by have := i_nlt c4; have := i_rg o; have : (0 : Int32).toInt = 0 := rfl; have := i_eq ek5; have : (nI k5).toInt = ((k5 : Nat) : Int) := nI_toInt (by omega); have := i_le c6; have : (13 : Int32).toInt = 13 := rfl; have := i_eq c8; have : (8 : Int32).toInt = 8 := rfl; omega) (fun _ => ?_) (fun z => absurd kn z)
                      show WR _ cd_203 43 [some (.ref (ad 30)), some (.int p), some (.int o), some (.int a), some (.int b), some (.int c), none] [.int 1] (sI (sI (sI (sI (sI (sI h (ad 0) 6 0) (ad 10) (64 * k2 + 4 * l14) (nI k5)) (ad 10) (64 * k2 + 4 * l14 + 1) a) (ad 10) (64 * k2 + 4 * l14 + 2) (nI k12)) (ad 10) (64 * k2 + 4 * l14 + 3) c) (ad 11) k2 (nI (l14 + 1))) _
                      refine r_if_ne (tg := 53) rfl rfl (fun _ => ?_) (fun q => absurd q (by decide))
                      refine r_iload rfl rfl ?_
                      refine WR_tI (y := nI k5) ek5 ?_
                      refine r_ic (x := 6) rfl rfl ?_
                      refine r_icmp_ne (tg := 71) rfl rfl (fun _ => ?_) (fun q => False.elim (by have := i_nlt c4; have := i_rg o; have : (0 : Int32).toInt = 0 := rfl; have := i_eq ek5; have : (nI k5).toInt = ((k5 : Nat) : Int) := nI_toInt (by omega); have := i_le c6; have : (13 : Int32).toInt = 13 := rfl; have := i_eq c8; have : (8 : Int32).toInt = 8 := rfl; have := i_neq c7; have : (6 : Int32).toInt = 6 := rfl; have := i_eq q; omega))
                      refine r_iload rfl rfl ?_
                      refine WR_tI (y := nI k5) ek5 ?_
                      refine r_ic (x := 8) rfl rfl ?_
                      refine r_icmp_ne (tg := 97) rfl rfl (fun q => False.elim (by have := i_nlt c4; have := i_rg o; have : (0 : Int32).toInt = 0 := rfl; have := i_eq ek5; have : (nI k5).toInt = ((k5 : Nat) : Int) := nI_toInt (by omega); have := i_le c6; have : (13 : Int32).toInt = 13 := rfl; have := i_eq c8; have : (8 : Int32).toInt = 8 := rfl; have := i_neq q; omega)) (fun _ => ?_)
                      refine r_iload rfl rfl ?_
                      refine WR_tI (y := nI k12) ek12 ?_
                      refine r_i2l rfl ?_
                      refine WR_tL (y := lN k12) (nI_l (by have := i_nlt c11; have := i_rg b; have : (0 : Int32).toInt = 0 := rfl; have := i_eq ek12; have : (nI k12).toInt = ((k12 : Nat) : Int) := nI_toInt (by omega); have := i_le c13; have : (8 : Int32).toInt = 8 := rfl; omega)) ?_
                      refine r_lc (x := 0) rfl rfl ?_
                      refine r_ldc (x := .long 8) rfl rfl ?_
                      refine r_cs (y := 155) (ra := [.long 8, .long 0, .long (lN k12)]) (rest := []) rfl ⟨⟨rfl, rfl⟩, by decide⟩ rfl rfl (Nat.le_of_ble_eq_true rfl) ?_
                      refine in_155 (Nat.le_of_ble_eq_true rfl) ?_
                      show WR _ cd_155 0 [some (.long (lN k12)), none, some (.long 0), none, some (.long 8), none] [] (sI (sI (sI (sI (sI (sI h (ad 0) 6 0) (ad 10) (64 * k2 + 4 * l14) (nI k5)) (ad 10) (64 * k2 + 4 * l14 + 1) a) (ad 10) (64 * k2 + 4 * l14 + 2) (nI k12)) (ad 10) (64 * k2 + 4 * l14 + 3) c) (ad 11) k2 (nI (l14 + 1))) _
                      refine r_lload rfl rfl ?_
                      refine r_lload rfl rfl ?_
                      refine r_lif_lt (tg := 17) rfl rfl rfl (fun q => False.elim (by have := i_nlt c11; have := i_rg b; have : (0 : Int32).toInt = 0 := rfl; have := i_eq ek12; have : (nI k12).toInt = ((k12 : Nat) : Int) := nI_toInt (by omega); have := i_le c13; have : (8 : Int32).toInt = 8 := rfl; have : (lN k12).toInt = ((k12 : Nat) : Int) := lN_toInt (by omega); have : (0 : Int64).toInt = 0 := rfl; have := l_lt q; omega)) (fun _ => ?_)
                      refine r_lload rfl rfl ?_
                      refine r_lload rfl rfl ?_
                      refine r_lif_gt (tg := 17) rfl rfl rfl (fun q => False.elim (by have := i_nlt c11; have := i_rg b; have : (0 : Int32).toInt = 0 := rfl; have := i_eq ek12; have : (nI k12).toInt = ((k12 : Nat) : Int) := nI_toInt (by omega); have := i_le c13; have : (8 : Int32).toInt = 8 := rfl; have : (lN k12).toInt = ((k12 : Nat) : Int) := lN_toInt (by omega); have : (8 : Int64).toInt = 8 := rfl; have := l_lt q; omega)) (fun _ => ?_)
                      refine r_ic (x := 1) rfl rfl ?_
                      refine r_goto (tg := 18) rfl rfl ?_
                      refine r_zret rfl (.inr rfl) ?_
                      show WR _ cd_203 87 [some (.ref (ad 30)), some (.int p), some (.int o), some (.int a), some (.int b), some (.int c), none] [.int 1] (sI (sI (sI (sI (sI (sI h (ad 0) 6 0) (ad 10) (64 * k2 + 4 * l14) (nI k5)) (ad 10) (64 * k2 + 4 * l14 + 1) a) (ad 10) (64 * k2 + 4 * l14 + 2) (nI k12)) (ad 10) (64 * k2 + 4 * l14 + 3) c) (ad 11) k2 (nI (l14 + 1))) _
                      refine r_if_ne (tg := 97) rfl rfl (fun _ => ?_) (fun q => absurd q (by decide))
                      refine r_aload rfl rfl ?_
                      refine r_getA (b := ad 43) rfl ⟨rfl, rfl, rfl⟩ (fx_t30 fx) (fx_r30_18 fx) ?_
                      refine r_iload rfl rfl ?_
                      refine WR_tI (y := nI k2) ek2 ?_
                      refine r_iaload rfl (.inl (fx_t43 fx)) (vp_ct (fx_n43 fx) (vp_in_nI (by have := i_nlt c1; have := i_rg p; have : (0 : Int32).toInt = 0 := rfl; have := i_eq ek2; have : (nI k2).toInt = ((k2 : Nat) : Int) := nI_toInt (by omega); have := i_nle c3; have : (10 : Int32).toInt = 10 := rfl; omega) (by omega))) ?_
                      refine WR_tI (congrArg (hI (sI (sI (sI (sI (sI (sI h (ad 0) 6 0) (ad 10) (64 * k2 + 4 * l14) (nI k5)) (ad 10) (64 * k2 + 4 * l14 + 1) a) (ad 10) (64 * k2 + 4 * l14 + 2) (nI k12)) (ad 10) (64 * k2 + 4 * l14 + 3) c) (ad 11) k2 (nI (l14 + 1))) (ad 43)) ((nI_clamp (by have := i_nlt c1; have := i_rg p; have : (0 : Int32).toInt = 0 := rfl; have := i_eq ek2; have : (nI k2).toInt = ((k2 : Nat) : Int) := nI_toInt (by omega); have := i_nle c3; have : (10 : Int32).toInt = 10 := rfl; omega)) : _ = k2)) ?_
                      refine WR_tI (y := nI l14) (Eq.trans (I_ne (fx_ne fx (by decide))) (Eq.trans (I_ne (fx_ne fx (by decide))) (Eq.trans (I_ne (fx_ne fx (by decide))) (Eq.trans (I_ne (fx_ne fx (by decide))) (Eq.trans (I_ne (fx_ne fx (by decide))) (Eq.trans (I_ne (fx_ne fx (by decide))) p2_14)))))) ?_
                      refine r_ic (x := 16) rfl rfl ?_
                      refine r_icmp_ne (tg := 115) rfl rfl (fun _ => ?_) (fun q => False.elim (by have := i_lt c15; have : (nI l14).toInt = ((l14 : Nat) : Int) := nI_toInt (by omega); have : (16 : Int32).toInt = 16 := rfl; have := i_eq q; omega))
                      refine WR_lv (lv2 := [some (.ref (ad 30)), some (.int (nI k2)), some (.int (nI k5)), some (.int a), some (.int (nI k12)), some (.int c), none]) (by rw [ek2, ek5, ek12]) ?_
                      refine c_mstepT (h := sI (sI (sI (sI (sI (sI h (ad 0) 6 0) (ad 10) (64 * k2 + 4 * l14) (nI k5)) (ad 10) (64 * k2 + 4 * l14 + 1) a) (ad 10) (64 * k2 + 4 * l14 + 2) (nI k12)) (ad 10) (64 * k2 + 4 * l14 + 3) c) (ad 11) k2 (nI (l14 + 1))) (p := k2) (l := l14) fx (by have := i_nlt c1; have := i_rg p; have : (0 : Int32).toInt = 0 := rfl; have := i_eq ek2; have : (nI k2).toInt = ((k2 : Nat) : Int) := nI_toInt (by omega); have := i_nle c3; have : (10 : Int32).toInt = 10 := rfl; omega) (by have := i_lt c15; have : (nI l14).toInt = ((l14 : Nat) : Int) := nI_toInt (by omega); have : (16 : Int32).toInt = 16 := rfl; omega) (Eq.trans (I_ne (fx_ne fx (by decide))) (Eq.trans (I_ne (fx_ne fx (by decide))) (Eq.trans (I_ne (fx_ne fx (by decide))) (Eq.trans (I_ne (fx_ne fx (by decide))) (Eq.trans (I_ne (fx_ne fx (by decide))) (Eq.trans (I_ne (fx_ne fx (by decide))) p2_14)))))) ?_
                      have fx : FX n ad sa z0 (sI (sI (sI (sI (sI (sI (sI (sI (sI (sI (sI (sI h (ad 0) 6 0) (ad 10) (64 * k2 + 4 * l14) (nI k5)) (ad 10) (64 * k2 + 4 * l14 + 1) a) (ad 10) (64 * k2 + 4 * l14 + 2) (nI k12)) (ad 10) (64 * k2 + 4 * l14 + 3) c) (ad 11) k2 (nI (l14 + 1))) (ad 44) (16 * k2 + l14) (nI k5)) (ad 45) (16 * k2 + l14) a) (ad 46) (16 * k2 + l14) (nI k12)) (ad 47) (16 * k2 + l14) c) (ad 43) k2 (nI (l14 + 1))) (ad 30) 11 0) := (FX.sI (FX.sI (FX.sI (FX.sI (FX.sI (FX.sI fx))))))
                      have cg : Chg n ad [(30, 11), (0, 6)] [43, 47, 46, 45, 44, 11, 10, 10, 10, 10] h (sI (sI (sI (sI (sI (sI (sI (sI (sI (sI (sI (sI h (ad 0) 6 0) (ad 10) (64 * k2 + 4 * l14) (nI k5)) (ad 10) (64 * k2 + 4 * l14 + 1) a) (ad 10) (64 * k2 + 4 * l14 + 2) (nI k12)) (ad 10) (64 * k2 + 4 * l14 + 3) c) (ad 11) k2 (nI (l14 + 1))) (ad 44) (16 * k2 + l14) (nI k5)) (ad 45) (16 * k2 + l14) a) (ad 46) (16 * k2 + l14) (nI k12)) (ad 47) (16 * k2 + l14) c) (ad 43) k2 (nI (l14 + 1))) (ad 30) 11 0) := ((((((((((((Chg.rf.sI (fx_j fx0) (k := 6) (v := 0) (.inl (by decide))).sI (fx_j fx0) (k := 64 * k2 + 4 * l14) (v := nI k5) (.inl (by decide))).row.sI (fx_j fx0) (k := 64 * k2 + 4 * l14 + 1) (v := a) (.inl (by decide))).row.sI (fx_j fx0) (k := 64 * k2 + 4 * l14 + 2) (v := nI k12) (.inl (by decide))).row.sI (fx_j fx0) (k := 64 * k2 + 4 * l14 + 3) (v := c) (.inl (by decide))).row.sI (fx_j fx0) (k := k2) (v := nI (l14 + 1)) (.inl (by decide))).row.sI (fx_j fx0) (k := 16 * k2 + l14) (v := nI k5) (.inl (by decide))).row.sI (fx_j fx0) (k := 16 * k2 + l14) (v := a) (.inl (by decide))).row.sI (fx_j fx0) (k := 16 * k2 + l14) (v := nI k12) (.inl (by decide))).row.sI (fx_j fx0) (k := 16 * k2 + l14) (v := c) (.inl (by decide))).row.sI (fx_j fx0) (k := k2) (v := nI (l14 + 1)) (.inl (by decide))).row.sI (fx_j fx0) (k := 11) (v := 0) (.inl (by decide)))
                      refine ⟨rfl, ⟨mid, pa, np, FX.k fx0 cg.1 cg.2.1 cg.2.2 (by decide +kernel), Eq.trans (Eq.trans (I_ne (fx_ne fx (by decide +kernel))) (Eq.trans (I_ne (fx_ne fx (by decide +kernel))) (Eq.trans (I_ne (fx_ne fx (by decide +kernel))) (Eq.trans (I_ne (fx_ne fx (by decide +kernel))) (Eq.trans (I_ne (fx_ne fx (by decide +kernel))) (Eq.trans (I_ne (fx_ne fx (by decide +kernel))) (Eq.trans (I_ne (fx_ne fx (by decide +kernel))) (Eq.trans (I_ne (fx_ne fx (by decide +kernel))) (Eq.trans (I_ne (fx_ne fx (by decide +kernel))) (Eq.trans (I_ne (fx_ne fx (by decide +kernel))) (Eq.trans (I_ne (fx_ne fx (by decide +kernel))) I_eq))))))))))) (Eq.symm I_eq), rt.k cg.2.1 (by decide +kernel), ra.k cg.2.1 (by decide +kernel), ?_, rf.k cg.2.1 (by decide +kernel), Rst.k fx0 rst cg.2.2, Ru.k fx0 ru cg.2.1 (by decide +kernel), Rs.k fx0 rs cg.1 cg.2.1 cg.2.2 (by decide +kernel)⟩, ?_, ?_⟩
                      · refine Rp.push rp (p := k2) (l := l14) (op := nI k5) (a := a) (b := nI k12) (c := c) (by have := i_nlt c1; have := i_rg p; have : (0 : Int32).toInt = 0 := rfl; have := i_eq ek2; have : (nI k2).toInt = ((k2 : Nat) : Int) := nI_toInt (by omega); have := i_nle c3; have : (10 : Int32).toInt = 10 := rfl; omega) (by have := i_lt c15; have : (nI l14).toInt = ((l14 : Nat) : Int) := nI_toInt (by omega); have : (16 : Int32).toInt = 16 := rfl; omega) p1_14 ⟨⟨(fun q_ => False.elim (by have := i_nlt c4; have := i_rg o; have : (0 : Int32).toInt = 0 := rfl; have := i_eq ek5; have : (nI k5).toInt = ((k5 : Nat) : Int) := nI_toInt (by omega); have := i_le c6; have : (13 : Int32).toInt = 13 := rfl; have := i_eq c8; have : (8 : Int32).toInt = 8 := rfl; have := i_lt q_; omega)), (Int32.le_iff_toInt_le.mpr (by have := i_nlt c4; have := i_rg o; have : (0 : Int32).toInt = 0 := rfl; have := i_eq ek5; have : (nI k5).toInt = ((k5 : Nat) : Int) := nI_toInt (by omega); have := i_le c6; have : (13 : Int32).toInt = 13 := rfl; have := i_eq c8; have : (8 : Int32).toInt = 8 := rfl; omega))⟩, kn.1, kn.2.1, (fun e_ => ⟨(kn.2.2.1 e_).1, (kn.2.2.1 e_).2, (fun q_ => False.elim (by have := i_nlt c11; have := i_rg b; have : (0 : Int32).toInt = 0 := rfl; have := i_eq ek12; have : (nI k12).toInt = ((k12 : Nat) : Int) := nI_toInt (by omega); have := i_le c13; have : (8 : Int32).toInt = 8 := rfl; have := i_lt q_; omega)), (Int32.le_iff_toInt_le.mpr (by have := i_nlt c11; have := i_rg b; have : (0 : Int32).toInt = 0 := rfl; have := i_eq ek12; have : (nI k12).toInt = ((k12 : Nat) : Int) := nI_toInt (by omega); have := i_le c13; have : (8 : Int32).toInt = 8 := rfl; omega))⟩), kn.2.2.2.1, kn.2.2.2.2.1, kn.2.2.2.2.2.1, kn.2.2.2.2.2.2, (fun e_ => False.elim (by have := i_nlt c4; have := i_rg o; have : (0 : Int32).toInt = 0 := rfl; have := i_eq ek5; have : (nI k5).toInt = ((k5 : Nat) : Int) := nI_toInt (by omega); have := i_le c6; have : (13 : Int32).toInt = 13 := rfl; have := i_eq c8; have : (8 : Int32).toInt = 8 := rfl; have := i_neq c7; have : (6 : Int32).toInt = 6 := rfl; have := i_eq e_; have : (6 : Int32).toInt = 6 := rfl; omega))⟩ ?_ ?_ ?_ ?_ ?_ ?_ ?_
                        · intro q_; simp only [hI_sI, fx_ij fx0, Nat.reduceEqDiff, false_and, true_and, if_false]
                        · intro q_; simp only [hI_sI, fx_ij fx0, Nat.reduceEqDiff, false_and, true_and, if_false]
                        · intro q_; simp only [hI_sI, fx_ij fx0, Nat.reduceEqDiff, false_and, true_and, if_false]
                        · intro q_; simp only [hI_sI, fx_ij fx0, Nat.reduceEqDiff, false_and, true_and, if_false]
                        · intro q_; simp only [hI_sI, fx_ij fx0, Nat.reduceEqDiff, false_and, true_and, if_false]
                        · intro q_; simp only [hI_sI, fx_ij fx0, Nat.reduceEqDiff, false_and, true_and, if_false]
                        · intro q_; simp only [hI_sI, fx_ij fx0, Nat.reduceEqDiff, false_and, true_and, if_false]
                      · simp only [hZ_sI, hZ_sL, hZ_sD, hZ_sR]; omega
                      · simp only [hU_sI, hU_sL, hU_sD, hU_sR]; omega
                    · refine r_aload rfl rfl ?_
                      refine r_ic (x := (-5)) rfl rfl ?_
                      refine r_cv (y := 13) (ra := [.int (-5)]) (rest := []) rfl ⟨⟨rfl, rfl⟩, rfl, by decide⟩ (fx_t0 fx) rfl rfl (Nat.le_of_ble_eq_true rfl) ?_
                      refine in_13 (Nat.le_of_ble_eq_true rfl) ?_
                      show WR _ cd_13 0 [some (.ref (ad 0)), some (.int (-5))] [] (sI h (ad 0) 6 0) _
                      refine r_aload rfl rfl ?_
                      refine r_iload rfl rfl ?_
                      refine r_putI rfl ⟨rfl, rfl, rfl⟩ (fx_t0 fx) ?_
                      have fx : FX n ad sa z0 (sI (sI h (ad 0) 6 0) (ad 0) 6 (-5)) := (FX.sI fx)
                      refine r_iload rfl rfl ?_
                      refine r_iret rfl ?_
                      show WR _ cd_92 118 [some (.ref (ad 0)), some (.int p), some (.int o), some (.int a), some (.int b), some (.int c)] [.int (-5)] (sI (sI h (ad 0) 6 0) (ad 0) 6 (-5)) _
                      refine r_iret rfl ?_
                      show EV _ 203 [.ref (ad 30), .int p, .int o, .int a, .int b, .int c] (sI (sI h (ad 0) 6 0) (ad 0) 6 (-5)) _
                      refine in_203 (Nat.le_of_ble_eq_true rfl) ?_
                      show WR _ cd_203 0 [some (.ref (ad 30)), some (.int p), some (.int o), some (.int a), some (.int b), some (.int c), none] [] (sI (sI h (ad 0) 6 0) (ad 0) 6 (-5)) _
                      refine r_iload rfl rfl ?_
                      refine WR_tI (y := nI k2) ek2 ?_
                      refine r_cs (y := 204) (ra := [.int (nI k2)]) (rest := []) rfl ⟨⟨rfl, rfl⟩, by decide⟩ rfl rfl (Nat.le_of_ble_eq_true rfl) ?_
                      refine in_204 (Nat.le_of_ble_eq_true rfl) ?_
                      show WR _ cd_204 0 [some (.int (nI k2))] [] (sI (sI h (ad 0) 6 0) (ad 0) 6 (-5)) _
                      refine r_iload rfl rfl ?_
                      refine r_if_lt (tg := 14) rfl rfl (fun q => False.elim (by have := i_nlt c1; have := i_rg p; have : (0 : Int32).toInt = 0 := rfl; have := i_eq ek2; have : (nI k2).toInt = ((k2 : Nat) : Int) := nI_toInt (by omega); have := i_nle c3; have : (10 : Int32).toInt = 10 := rfl; have := i_lt q; omega)) (fun _ => ?_)
                      refine r_iload rfl rfl ?_
                      refine r_ic (x := 10) rfl rfl ?_
                      refine r_icmp_ge (tg := 14) rfl rfl (fun q => False.elim (by have := i_nlt c1; have := i_rg p; have : (0 : Int32).toInt = 0 := rfl; have := i_eq ek2; have : (nI k2).toInt = ((k2 : Nat) : Int) := nI_toInt (by omega); have := i_nle c3; have : (10 : Int32).toInt = 10 := rfl; have := i_le q; omega)) (fun _ => ?_)
                      refine r_ic (x := 1) rfl rfl ?_
                      refine r_goto (tg := 15) rfl rfl ?_
                      refine r_zret rfl (.inr rfl) ?_
                      show WR _ cd_203 4 [some (.ref (ad 30)), some (.int p), some (.int o), some (.int a), some (.int b), some (.int c), none] [.int 1] (sI (sI h (ad 0) 6 0) (ad 0) 6 (-5)) _
                      refine r_if_ne (tg := 14) rfl rfl (fun _ => ?_) (fun q => absurd q (by decide))
                      refine r_iload rfl rfl ?_
                      refine WR_tI (y := nI k5) ek5 ?_
                      refine r_i2l rfl ?_
                      refine WR_tL (y := lN k5) (nI_l (by have := i_nlt c4; have := i_rg o; have : (0 : Int32).toInt = 0 := rfl; have := i_eq ek5; have : (nI k5).toInt = ((k5 : Nat) : Int) := nI_toInt (by omega); have := i_le c6; have : (13 : Int32).toInt = 13 := rfl; have := i_eq c8; have : (8 : Int32).toInt = 8 := rfl; omega)) ?_
                      refine r_lc (x := 0) rfl rfl ?_
                      refine r_ldc (x := .long 13) rfl rfl ?_
                      refine r_cs (y := 155) (ra := [.long 13, .long 0, .long (lN k5)]) (rest := []) rfl ⟨⟨rfl, rfl⟩, by decide⟩ rfl rfl (Nat.le_of_ble_eq_true rfl) ?_
                      refine in_155 (Nat.le_of_ble_eq_true rfl) ?_
                      show WR _ cd_155 0 [some (.long (lN k5)), none, some (.long 0), none, some (.long 13), none] [] (sI (sI h (ad 0) 6 0) (ad 0) 6 (-5)) _
                      refine r_lload rfl rfl ?_
                      refine r_lload rfl rfl ?_
                      refine r_lif_lt (tg := 17) rfl rfl rfl (fun q => False.elim (by have := i_nlt c4; have := i_rg o; have : (0 : Int32).toInt = 0 := rfl; have := i_eq ek5; have : (nI k5).toInt = ((k5 : Nat) : Int) := nI_toInt (by omega); have := i_le c6; have : (13 : Int32).toInt = 13 := rfl; have := i_eq c8; have : (8 : Int32).toInt = 8 := rfl; have : (lN k5).toInt = ((k5 : Nat) : Int) := lN_toInt (by omega); have : (0 : Int64).toInt = 0 := rfl; have := l_lt q; omega)) (fun _ => ?_)
                      refine r_lload rfl rfl ?_
                      refine r_lload rfl rfl ?_
                      refine r_lif_gt (tg := 17) rfl rfl rfl (fun q => False.elim (by have := i_nlt c4; have := i_rg o; have : (0 : Int32).toInt = 0 := rfl; have := i_eq ek5; have : (nI k5).toInt = ((k5 : Nat) : Int) := nI_toInt (by omega); have := i_le c6; have : (13 : Int32).toInt = 13 := rfl; have := i_eq c8; have : (8 : Int32).toInt = 8 := rfl; have : (lN k5).toInt = ((k5 : Nat) : Int) := lN_toInt (by omega); have : (13 : Int64).toInt = 13 := rfl; have := l_lt q; omega)) (fun _ => ?_)
                      refine r_ic (x := 1) rfl rfl ?_
                      refine r_goto (tg := 18) rfl rfl ?_
                      refine r_zret rfl (.inr rfl) ?_
                      show WR _ cd_203 23 [some (.ref (ad 30)), some (.int p), some (.int o), some (.int a), some (.int b), some (.int c), none] [.int 1] (sI (sI h (ad 0) 6 0) (ad 0) 6 (-5)) _
                      refine r_if_ne (tg := 33) rfl rfl (fun _ => ?_) (fun q => absurd q (by decide))
                      refine r_aload rfl rfl ?_
                      refine r_iload rfl rfl ?_
                      refine WR_tI (y := nI k5) ek5 ?_
                      refine r_iload rfl rfl ?_
                      refine r_iload rfl rfl ?_
                      refine WR_tI (y := nI k12) ek12 ?_
                      refine r_iload rfl rfl ?_
                      refine r_cv (y := 205) (ra := [.int c, .int (nI k12), .int a, .int (nI k5)]) (rest := []) rfl ⟨⟨rfl, rfl⟩, rfl, by decide⟩ (fx_t30 fx) rfl rfl (Nat.le_of_ble_eq_true rfl) ?_
                      try rw [ek5] at kn
                      try rw [ek12] at kn
                      refine c_mknown (h := sI (sI h (ad 0) 6 0) (ad 0) 6 (-5)) (o := nI k5) fx (Eq.trans (I_ne (fx_ne fx (by decide))) (Eq.trans (I_ne (fx_ne fx (by decide))) ru.1)) (by have := i_nlt c4; have := i_rg o; have : (0 : Int32).toInt = 0 := rfl; have := i_eq ek5; have : (nI k5).toInt = ((k5 : Nat) : Int) := nI_toInt (by omega); have := i_le c6; have : (13 : Int32).toInt = 13 := rfl; have := i_eq c8; have : (8 : Int32).toInt = 8 := rfl; omega) (fun _ => ?_) (fun z => absurd kn z)
                      show WR _ cd_203 43 [some (.ref (ad 30)), some (.int p), some (.int o), some (.int a), some (.int b), some (.int c), none] [.int 1] (sI (sI h (ad 0) 6 0) (ad 0) 6 (-5)) _
                      refine r_if_ne (tg := 53) rfl rfl (fun _ => ?_) (fun q => absurd q (by decide))
                      refine r_iload rfl rfl ?_
                      refine WR_tI (y := nI k5) ek5 ?_
                      refine r_ic (x := 6) rfl rfl ?_
                      refine r_icmp_ne (tg := 71) rfl rfl (fun _ => ?_) (fun q => False.elim (by have := i_nlt c4; have := i_rg o; have : (0 : Int32).toInt = 0 := rfl; have := i_eq ek5; have : (nI k5).toInt = ((k5 : Nat) : Int) := nI_toInt (by omega); have := i_le c6; have : (13 : Int32).toInt = 13 := rfl; have := i_eq c8; have : (8 : Int32).toInt = 8 := rfl; have := i_neq c7; have : (6 : Int32).toInt = 6 := rfl; have := i_eq q; omega))
                      refine r_iload rfl rfl ?_
                      refine WR_tI (y := nI k5) ek5 ?_
                      refine r_ic (x := 8) rfl rfl ?_
                      refine r_icmp_ne (tg := 97) rfl rfl (fun q => False.elim (by have := i_nlt c4; have := i_rg o; have : (0 : Int32).toInt = 0 := rfl; have := i_eq ek5; have : (nI k5).toInt = ((k5 : Nat) : Int) := nI_toInt (by omega); have := i_le c6; have : (13 : Int32).toInt = 13 := rfl; have := i_eq c8; have : (8 : Int32).toInt = 8 := rfl; have := i_neq q; omega)) (fun _ => ?_)
                      refine r_iload rfl rfl ?_
                      refine WR_tI (y := nI k12) ek12 ?_
                      refine r_i2l rfl ?_
                      refine WR_tL (y := lN k12) (nI_l (by have := i_nlt c11; have := i_rg b; have : (0 : Int32).toInt = 0 := rfl; have := i_eq ek12; have : (nI k12).toInt = ((k12 : Nat) : Int) := nI_toInt (by omega); have := i_le c13; have : (8 : Int32).toInt = 8 := rfl; omega)) ?_
                      refine r_lc (x := 0) rfl rfl ?_
                      refine r_ldc (x := .long 8) rfl rfl ?_
                      refine r_cs (y := 155) (ra := [.long 8, .long 0, .long (lN k12)]) (rest := []) rfl ⟨⟨rfl, rfl⟩, by decide⟩ rfl rfl (Nat.le_of_ble_eq_true rfl) ?_
                      refine in_155 (Nat.le_of_ble_eq_true rfl) ?_
                      show WR _ cd_155 0 [some (.long (lN k12)), none, some (.long 0), none, some (.long 8), none] [] (sI (sI h (ad 0) 6 0) (ad 0) 6 (-5)) _
                      refine r_lload rfl rfl ?_
                      refine r_lload rfl rfl ?_
                      refine r_lif_lt (tg := 17) rfl rfl rfl (fun q => False.elim (by have := i_nlt c11; have := i_rg b; have : (0 : Int32).toInt = 0 := rfl; have := i_eq ek12; have : (nI k12).toInt = ((k12 : Nat) : Int) := nI_toInt (by omega); have := i_le c13; have : (8 : Int32).toInt = 8 := rfl; have : (lN k12).toInt = ((k12 : Nat) : Int) := lN_toInt (by omega); have : (0 : Int64).toInt = 0 := rfl; have := l_lt q; omega)) (fun _ => ?_)
                      refine r_lload rfl rfl ?_
                      refine r_lload rfl rfl ?_
                      refine r_lif_gt (tg := 17) rfl rfl rfl (fun q => False.elim (by have := i_nlt c11; have := i_rg b; have : (0 : Int32).toInt = 0 := rfl; have := i_eq ek12; have : (nI k12).toInt = ((k12 : Nat) : Int) := nI_toInt (by omega); have := i_le c13; have : (8 : Int32).toInt = 8 := rfl; have : (lN k12).toInt = ((k12 : Nat) : Int) := lN_toInt (by omega); have : (8 : Int64).toInt = 8 := rfl; have := l_lt q; omega)) (fun _ => ?_)
                      refine r_ic (x := 1) rfl rfl ?_
                      refine r_goto (tg := 18) rfl rfl ?_
                      refine r_zret rfl (.inr rfl) ?_
                      show WR _ cd_203 87 [some (.ref (ad 30)), some (.int p), some (.int o), some (.int a), some (.int b), some (.int c), none] [.int 1] (sI (sI h (ad 0) 6 0) (ad 0) 6 (-5)) _
                      refine r_if_ne (tg := 97) rfl rfl (fun _ => ?_) (fun q => absurd q (by decide))
                      refine r_aload rfl rfl ?_
                      refine r_getA (b := ad 43) rfl ⟨rfl, rfl, rfl⟩ (fx_t30 fx) (fx_r30_18 fx) ?_
                      refine r_iload rfl rfl ?_
                      refine WR_tI (y := nI k2) ek2 ?_
                      refine r_iaload rfl (.inl (fx_t43 fx)) (vp_ct (fx_n43 fx) (vp_in_nI (by have := i_nlt c1; have := i_rg p; have : (0 : Int32).toInt = 0 := rfl; have := i_eq ek2; have : (nI k2).toInt = ((k2 : Nat) : Int) := nI_toInt (by omega); have := i_nle c3; have : (10 : Int32).toInt = 10 := rfl; omega) (by omega))) ?_
                      refine WR_tI (congrArg (hI (sI (sI h (ad 0) 6 0) (ad 0) 6 (-5)) (ad 43)) ((nI_clamp (by have := i_nlt c1; have := i_rg p; have : (0 : Int32).toInt = 0 := rfl; have := i_eq ek2; have : (nI k2).toInt = ((k2 : Nat) : Int) := nI_toInt (by omega); have := i_nle c3; have : (10 : Int32).toInt = 10 := rfl; omega)) : _ = k2)) ?_
                      refine WR_tI (y := nI l14) (Eq.trans (I_ne (fx_ne fx (by decide))) (Eq.trans (I_ne (fx_ne fx (by decide))) p2_14)) ?_
                      refine r_ic (x := 16) rfl rfl ?_
                      refine r_icmp_ne (tg := 115) rfl rfl (fun q => False.elim (by have := i_nlt c15; have : (nI l14).toInt = ((l14 : Nat) : Int) := nI_toInt (by omega); have : (16 : Int32).toInt = 16 := rfl; have := i_neq q; omega)) (fun _ => ?_)
                      refine r_aload rfl rfl ?_
                      refine r_ic (x := (-5)) rfl rfl ?_
                      refine r_cv (y := 154) (ra := [.int (-5)]) (rest := []) rfl ⟨⟨rfl, rfl⟩, rfl, by decide⟩ (fx_t30 fx) rfl rfl (Nat.le_of_ble_eq_true rfl) ?_
                      refine in_154 (Nat.le_of_ble_eq_true rfl) ?_
                      show WR _ cd_154 0 [some (.ref (ad 30)), some (.int (-5))] [] (sI (sI h (ad 0) 6 0) (ad 0) 6 (-5)) _
                      refine r_aload rfl rfl ?_
                      refine r_iload rfl rfl ?_
                      refine r_ic (x := (-1)) rfl rfl ?_
                      refine r_icmp_ge (tg := 10) rfl rfl (fun q => absurd q (by decide)) (fun _ => ?_)
                      refine r_iload rfl rfl ?_
                      refine r_goto (tg := 11) rfl rfl ?_
                      refine r_putI rfl ⟨rfl, rfl, rfl⟩ (fx_t30 fx) ?_
                      have fx : FX n ad sa z0 (sI (sI (sI h (ad 0) 6 0) (ad 0) 6 (-5)) (ad 30) 11 (-5)) := (FX.sI fx)
                      refine r_iload rfl rfl ?_
                      refine r_iret rfl ?_
                      show WR _ cd_203 114 [some (.ref (ad 30)), some (.int p), some (.int o), some (.int a), some (.int b), some (.int c), none] [.int (-5)] (sI (sI (sI h (ad 0) 6 0) (ad 0) 6 (-5)) (ad 30) 11 (-5)) _
                      refine r_iret rfl ?_
                      exact ⟨rfl, Rel.why r (((Chg.rf.sI (fx_j fx) (.inl (by decide))).sI (fx_j fx) (.inl (by decide))).sI (fx_j fx) (.inl (by decide))) ⟨rfl, by decide⟩ (Eq.trans (Eq.trans (I_ne (fx_ne fx (by decide))) I_eq) (Eq.symm I_eq)), Nat.le_add_right _ _, Nat.le_add_right _ _⟩
                  · refine r_aload rfl rfl ?_
                    refine r_ic (x := (-3)) rfl rfl ?_
                    refine r_cv (y := 13) (ra := [.int (-3)]) (rest := []) rfl ⟨⟨rfl, rfl⟩, rfl, by decide⟩ (fx_t0 fx) rfl rfl (Nat.le_of_ble_eq_true rfl) ?_
                    refine in_13 (Nat.le_of_ble_eq_true rfl) ?_
                    show WR _ cd_13 0 [some (.ref (ad 0)), some (.int (-3))] [] (sI h (ad 0) 6 0) _
                    refine r_aload rfl rfl ?_
                    refine r_iload rfl rfl ?_
                    refine r_putI rfl ⟨rfl, rfl, rfl⟩ (fx_t0 fx) ?_
                    have fx : FX n ad sa z0 (sI (sI h (ad 0) 6 0) (ad 0) 6 (-3)) := (FX.sI fx)
                    refine r_iload rfl rfl ?_
                    refine r_iret rfl ?_
                    show WR _ cd_92 97 [some (.ref (ad 0)), some (.int p), some (.int o), some (.int a), some (.int b), some (.int c)] [.int (-3)] (sI (sI h (ad 0) 6 0) (ad 0) 6 (-3)) _
                    refine r_iret rfl ?_
                    show EV _ 203 [.ref (ad 30), .int p, .int o, .int a, .int b, .int c] (sI (sI h (ad 0) 6 0) (ad 0) 6 (-3)) _
                    refine in_203 (Nat.le_of_ble_eq_true rfl) ?_
                    show WR _ cd_203 0 [some (.ref (ad 30)), some (.int p), some (.int o), some (.int a), some (.int b), some (.int c), none] [] (sI (sI h (ad 0) 6 0) (ad 0) 6 (-3)) _
                    refine r_iload rfl rfl ?_
                    refine WR_tI (y := nI k2) ek2 ?_
                    refine r_cs (y := 204) (ra := [.int (nI k2)]) (rest := []) rfl ⟨⟨rfl, rfl⟩, by decide⟩ rfl rfl (Nat.le_of_ble_eq_true rfl) ?_
                    refine in_204 (Nat.le_of_ble_eq_true rfl) ?_
                    show WR _ cd_204 0 [some (.int (nI k2))] [] (sI (sI h (ad 0) 6 0) (ad 0) 6 (-3)) _
                    refine r_iload rfl rfl ?_
                    refine r_if_lt (tg := 14) rfl rfl (fun q => False.elim (by have := i_nlt c1; have := i_rg p; have : (0 : Int32).toInt = 0 := rfl; have := i_eq ek2; have : (nI k2).toInt = ((k2 : Nat) : Int) := nI_toInt (by omega); have := i_nle c3; have : (10 : Int32).toInt = 10 := rfl; have := i_lt q; omega)) (fun _ => ?_)
                    refine r_iload rfl rfl ?_
                    refine r_ic (x := 10) rfl rfl ?_
                    refine r_icmp_ge (tg := 14) rfl rfl (fun q => False.elim (by have := i_nlt c1; have := i_rg p; have : (0 : Int32).toInt = 0 := rfl; have := i_eq ek2; have : (nI k2).toInt = ((k2 : Nat) : Int) := nI_toInt (by omega); have := i_nle c3; have : (10 : Int32).toInt = 10 := rfl; have := i_le q; omega)) (fun _ => ?_)
                    refine r_ic (x := 1) rfl rfl ?_
                    refine r_goto (tg := 15) rfl rfl ?_
                    refine r_zret rfl (.inr rfl) ?_
                    show WR _ cd_203 4 [some (.ref (ad 30)), some (.int p), some (.int o), some (.int a), some (.int b), some (.int c), none] [.int 1] (sI (sI h (ad 0) 6 0) (ad 0) 6 (-3)) _
                    refine r_if_ne (tg := 14) rfl rfl (fun _ => ?_) (fun q => absurd q (by decide))
                    refine r_iload rfl rfl ?_
                    refine WR_tI (y := nI k5) ek5 ?_
                    refine r_i2l rfl ?_
                    refine WR_tL (y := lN k5) (nI_l (by have := i_nlt c4; have := i_rg o; have : (0 : Int32).toInt = 0 := rfl; have := i_eq ek5; have : (nI k5).toInt = ((k5 : Nat) : Int) := nI_toInt (by omega); have := i_le c6; have : (13 : Int32).toInt = 13 := rfl; have := i_eq c8; have : (8 : Int32).toInt = 8 := rfl; omega)) ?_
                    refine r_lc (x := 0) rfl rfl ?_
                    refine r_ldc (x := .long 13) rfl rfl ?_
                    refine r_cs (y := 155) (ra := [.long 13, .long 0, .long (lN k5)]) (rest := []) rfl ⟨⟨rfl, rfl⟩, by decide⟩ rfl rfl (Nat.le_of_ble_eq_true rfl) ?_
                    refine in_155 (Nat.le_of_ble_eq_true rfl) ?_
                    show WR _ cd_155 0 [some (.long (lN k5)), none, some (.long 0), none, some (.long 13), none] [] (sI (sI h (ad 0) 6 0) (ad 0) 6 (-3)) _
                    refine r_lload rfl rfl ?_
                    refine r_lload rfl rfl ?_
                    refine r_lif_lt (tg := 17) rfl rfl rfl (fun q => False.elim (by have := i_nlt c4; have := i_rg o; have : (0 : Int32).toInt = 0 := rfl; have := i_eq ek5; have : (nI k5).toInt = ((k5 : Nat) : Int) := nI_toInt (by omega); have := i_le c6; have : (13 : Int32).toInt = 13 := rfl; have := i_eq c8; have : (8 : Int32).toInt = 8 := rfl; have : (lN k5).toInt = ((k5 : Nat) : Int) := lN_toInt (by omega); have : (0 : Int64).toInt = 0 := rfl; have := l_lt q; omega)) (fun _ => ?_)
                    refine r_lload rfl rfl ?_
                    refine r_lload rfl rfl ?_
                    refine r_lif_gt (tg := 17) rfl rfl rfl (fun q => False.elim (by have := i_nlt c4; have := i_rg o; have : (0 : Int32).toInt = 0 := rfl; have := i_eq ek5; have : (nI k5).toInt = ((k5 : Nat) : Int) := nI_toInt (by omega); have := i_le c6; have : (13 : Int32).toInt = 13 := rfl; have := i_eq c8; have : (8 : Int32).toInt = 8 := rfl; have : (lN k5).toInt = ((k5 : Nat) : Int) := lN_toInt (by omega); have : (13 : Int64).toInt = 13 := rfl; have := l_lt q; omega)) (fun _ => ?_)
                    refine r_ic (x := 1) rfl rfl ?_
                    refine r_goto (tg := 18) rfl rfl ?_
                    refine r_zret rfl (.inr rfl) ?_
                    show WR _ cd_203 23 [some (.ref (ad 30)), some (.int p), some (.int o), some (.int a), some (.int b), some (.int c), none] [.int 1] (sI (sI h (ad 0) 6 0) (ad 0) 6 (-3)) _
                    refine r_if_ne (tg := 33) rfl rfl (fun _ => ?_) (fun q => absurd q (by decide))
                    refine r_aload rfl rfl ?_
                    refine r_iload rfl rfl ?_
                    refine WR_tI (y := nI k5) ek5 ?_
                    refine r_iload rfl rfl ?_
                    refine r_iload rfl rfl ?_
                    refine WR_tI (y := nI k12) ek12 ?_
                    refine r_iload rfl rfl ?_
                    refine r_cv (y := 205) (ra := [.int c, .int (nI k12), .int a, .int (nI k5)]) (rest := []) rfl ⟨⟨rfl, rfl⟩, rfl, by decide⟩ (fx_t30 fx) rfl rfl (Nat.le_of_ble_eq_true rfl) ?_
                    try rw [ek5] at kn
                    try rw [ek12] at kn
                    refine c_mknown (h := sI (sI h (ad 0) 6 0) (ad 0) 6 (-3)) (o := nI k5) fx (Eq.trans (I_ne (fx_ne fx (by decide))) (Eq.trans (I_ne (fx_ne fx (by decide))) ru.1)) (by have := i_nlt c4; have := i_rg o; have : (0 : Int32).toInt = 0 := rfl; have := i_eq ek5; have : (nI k5).toInt = ((k5 : Nat) : Int) := nI_toInt (by omega); have := i_le c6; have : (13 : Int32).toInt = 13 := rfl; have := i_eq c8; have : (8 : Int32).toInt = 8 := rfl; omega) (fun _ => ?_) (fun z => absurd kn z)
                    show WR _ cd_203 43 [some (.ref (ad 30)), some (.int p), some (.int o), some (.int a), some (.int b), some (.int c), none] [.int 1] (sI (sI h (ad 0) 6 0) (ad 0) 6 (-3)) _
                    refine r_if_ne (tg := 53) rfl rfl (fun _ => ?_) (fun q => absurd q (by decide))
                    refine r_iload rfl rfl ?_
                    refine WR_tI (y := nI k5) ek5 ?_
                    refine r_ic (x := 6) rfl rfl ?_
                    refine r_icmp_ne (tg := 71) rfl rfl (fun _ => ?_) (fun q => False.elim (by have := i_nlt c4; have := i_rg o; have : (0 : Int32).toInt = 0 := rfl; have := i_eq ek5; have : (nI k5).toInt = ((k5 : Nat) : Int) := nI_toInt (by omega); have := i_le c6; have : (13 : Int32).toInt = 13 := rfl; have := i_eq c8; have : (8 : Int32).toInt = 8 := rfl; have := i_neq c7; have : (6 : Int32).toInt = 6 := rfl; have := i_eq q; omega))
                    refine r_iload rfl rfl ?_
                    refine WR_tI (y := nI k5) ek5 ?_
                    refine r_ic (x := 8) rfl rfl ?_
                    refine r_icmp_ne (tg := 97) rfl rfl (fun q => False.elim (by have := i_nlt c4; have := i_rg o; have : (0 : Int32).toInt = 0 := rfl; have := i_eq ek5; have : (nI k5).toInt = ((k5 : Nat) : Int) := nI_toInt (by omega); have := i_le c6; have : (13 : Int32).toInt = 13 := rfl; have := i_eq c8; have : (8 : Int32).toInt = 8 := rfl; have := i_neq q; omega)) (fun _ => ?_)
                    refine r_iload rfl rfl ?_
                    refine WR_tI (y := nI k12) ek12 ?_
                    refine r_i2l rfl ?_
                    refine WR_tL (y := lN k12) (nI_l (by have := i_nlt c11; have := i_rg b; have : (0 : Int32).toInt = 0 := rfl; have := i_eq ek12; have : (nI k12).toInt = ((k12 : Nat) : Int) := nI_toInt (by omega); have := i_nle c13; have : (8 : Int32).toInt = 8 := rfl; omega)) ?_
                    refine r_lc (x := 0) rfl rfl ?_
                    refine r_ldc (x := .long 8) rfl rfl ?_
                    refine r_cs (y := 155) (ra := [.long 8, .long 0, .long (lN k12)]) (rest := []) rfl ⟨⟨rfl, rfl⟩, by decide⟩ rfl rfl (Nat.le_of_ble_eq_true rfl) ?_
                    refine in_155 (Nat.le_of_ble_eq_true rfl) ?_
                    show WR _ cd_155 0 [some (.long (lN k12)), none, some (.long 0), none, some (.long 8), none] [] (sI (sI h (ad 0) 6 0) (ad 0) 6 (-3)) _
                    refine r_lload rfl rfl ?_
                    refine r_lload rfl rfl ?_
                    refine r_lif_lt (tg := 17) rfl rfl rfl (fun q => False.elim (by have := i_nlt c11; have := i_rg b; have : (0 : Int32).toInt = 0 := rfl; have := i_eq ek12; have : (nI k12).toInt = ((k12 : Nat) : Int) := nI_toInt (by omega); have := i_nle c13; have : (8 : Int32).toInt = 8 := rfl; have : (lN k12).toInt = ((k12 : Nat) : Int) := lN_toInt (by omega); have : (0 : Int64).toInt = 0 := rfl; have := l_lt q; omega)) (fun _ => ?_)
                    refine r_lload rfl rfl ?_
                    refine r_lload rfl rfl ?_
                    refine r_lif_gt (tg := 17) rfl rfl rfl (fun _ => ?_) (fun q => False.elim (by have := i_nlt c11; have := i_rg b; have : (0 : Int32).toInt = 0 := rfl; have := i_eq ek12; have : (nI k12).toInt = ((k12 : Nat) : Int) := nI_toInt (by omega); have := i_nle c13; have : (8 : Int32).toInt = 8 := rfl; have : (lN k12).toInt = ((k12 : Nat) : Int) := lN_toInt (by omega); have : (8 : Int64).toInt = 8 := rfl; have := l_nlt q; omega))
                    refine r_ic (x := 0) rfl rfl ?_
                    refine r_zret rfl (.inl rfl) ?_
                    show WR _ cd_203 87 [some (.ref (ad 30)), some (.int p), some (.int o), some (.int a), some (.int b), some (.int c), none] [.int 0] (sI (sI h (ad 0) 6 0) (ad 0) 6 (-3)) _
                    refine r_if_ne (tg := 97) rfl rfl (fun q => absurd q (by decide)) (fun _ => ?_)
                    refine r_aload rfl rfl ?_
                    refine r_ic (x := (-3)) rfl rfl ?_
                    refine r_cv (y := 154) (ra := [.int (-3)]) (rest := []) rfl ⟨⟨rfl, rfl⟩, rfl, by decide⟩ (fx_t30 fx) rfl rfl (Nat.le_of_ble_eq_true rfl) ?_
                    refine in_154 (Nat.le_of_ble_eq_true rfl) ?_
                    show WR _ cd_154 0 [some (.ref (ad 30)), some (.int (-3))] [] (sI (sI h (ad 0) 6 0) (ad 0) 6 (-3)) _
                    refine r_aload rfl rfl ?_
                    refine r_iload rfl rfl ?_
                    refine r_ic (x := (-1)) rfl rfl ?_
                    refine r_icmp_ge (tg := 10) rfl rfl (fun q => absurd q (by decide)) (fun _ => ?_)
                    refine r_iload rfl rfl ?_
                    refine r_goto (tg := 11) rfl rfl ?_
                    refine r_putI rfl ⟨rfl, rfl, rfl⟩ (fx_t30 fx) ?_
                    have fx : FX n ad sa z0 (sI (sI (sI h (ad 0) 6 0) (ad 0) 6 (-3)) (ad 30) 11 (-3)) := (FX.sI fx)
                    refine r_iload rfl rfl ?_
                    refine r_iret rfl ?_
                    show WR _ cd_203 96 [some (.ref (ad 30)), some (.int p), some (.int o), some (.int a), some (.int b), some (.int c), none] [.int (-3)] (sI (sI (sI h (ad 0) 6 0) (ad 0) 6 (-3)) (ad 30) 11 (-3)) _
                    refine r_iret rfl ?_
                    exact ⟨rfl, Rel.why r (((Chg.rf.sI (fx_j fx) (.inl (by decide))).sI (fx_j fx) (.inl (by decide))).sI (fx_j fx) (.inl (by decide))) ⟨rfl, by decide⟩ (Eq.trans (Eq.trans (I_ne (fx_ne fx (by decide))) I_eq) (Eq.symm I_eq)), Nat.le_add_right _ _, Nat.le_add_right _ _⟩
            · refine r_iload rfl rfl ?_
              refine r_ic (x := 1) rfl rfl ?_
              refine r_icmp_lt (tg := 91) rfl rfl (fun c16 => ?_) (fun c16 => ?_)
              · refine r_aload rfl rfl ?_
                refine r_ic (x := (-3)) rfl rfl ?_
                refine r_cv (y := 13) (ra := [.int (-3)]) (rest := []) rfl ⟨⟨rfl, rfl⟩, rfl, by decide⟩ (fx_t0 fx) rfl rfl (Nat.le_of_ble_eq_true rfl) ?_
                refine in_13 (Nat.le_of_ble_eq_true rfl) ?_
                show WR _ cd_13 0 [some (.ref (ad 0)), some (.int (-3))] [] (sI h (ad 0) 6 0) _
                refine r_aload rfl rfl ?_
                refine r_iload rfl rfl ?_
                refine r_putI rfl ⟨rfl, rfl, rfl⟩ (fx_t0 fx) ?_
                have fx : FX n ad sa z0 (sI (sI h (ad 0) 6 0) (ad 0) 6 (-3)) := (FX.sI fx)
                refine r_iload rfl rfl ?_
                refine r_iret rfl ?_
                show WR _ cd_92 97 [some (.ref (ad 0)), some (.int p), some (.int o), some (.int a), some (.int b), some (.int c)] [.int (-3)] (sI (sI h (ad 0) 6 0) (ad 0) 6 (-3)) _
                refine r_iret rfl ?_
                show EV _ 203 [.ref (ad 30), .int p, .int o, .int a, .int b, .int c] (sI (sI h (ad 0) 6 0) (ad 0) 6 (-3)) _
                refine in_203 (Nat.le_of_ble_eq_true rfl) ?_
                show WR _ cd_203 0 [some (.ref (ad 30)), some (.int p), some (.int o), some (.int a), some (.int b), some (.int c), none] [] (sI (sI h (ad 0) 6 0) (ad 0) 6 (-3)) _
                refine r_iload rfl rfl ?_
                refine WR_tI (y := nI k2) ek2 ?_
                refine r_cs (y := 204) (ra := [.int (nI k2)]) (rest := []) rfl ⟨⟨rfl, rfl⟩, by decide⟩ rfl rfl (Nat.le_of_ble_eq_true rfl) ?_
                refine in_204 (Nat.le_of_ble_eq_true rfl) ?_
                show WR _ cd_204 0 [some (.int (nI k2))] [] (sI (sI h (ad 0) 6 0) (ad 0) 6 (-3)) _
                refine r_iload rfl rfl ?_
                refine r_if_lt (tg := 14) rfl rfl (fun q => False.elim (by have := i_nlt c1; have := i_rg p; have : (0 : Int32).toInt = 0 := rfl; have := i_eq ek2; have : (nI k2).toInt = ((k2 : Nat) : Int) := nI_toInt (by omega); have := i_nle c3; have : (10 : Int32).toInt = 10 := rfl; have := i_lt q; omega)) (fun _ => ?_)
                refine r_iload rfl rfl ?_
                refine r_ic (x := 10) rfl rfl ?_
                refine r_icmp_ge (tg := 14) rfl rfl (fun q => False.elim (by have := i_nlt c1; have := i_rg p; have : (0 : Int32).toInt = 0 := rfl; have := i_eq ek2; have : (nI k2).toInt = ((k2 : Nat) : Int) := nI_toInt (by omega); have := i_nle c3; have : (10 : Int32).toInt = 10 := rfl; have := i_le q; omega)) (fun _ => ?_)
                refine r_ic (x := 1) rfl rfl ?_
                refine r_goto (tg := 15) rfl rfl ?_
                refine r_zret rfl (.inr rfl) ?_
                show WR _ cd_203 4 [some (.ref (ad 30)), some (.int p), some (.int o), some (.int a), some (.int b), some (.int c), none] [.int 1] (sI (sI h (ad 0) 6 0) (ad 0) 6 (-3)) _
                refine r_if_ne (tg := 14) rfl rfl (fun _ => ?_) (fun q => absurd q (by decide))
                refine r_iload rfl rfl ?_
                refine WR_tI (y := nI k5) ek5 ?_
                refine r_i2l rfl ?_
                refine WR_tL (y := lN k5) (nI_l (by have := i_nlt c4; have := i_rg o; have : (0 : Int32).toInt = 0 := rfl; have := i_eq ek5; have : (nI k5).toInt = ((k5 : Nat) : Int) := nI_toInt (by omega); have := i_le c6; have : (13 : Int32).toInt = 13 := rfl; have := i_eq c7; have : (6 : Int32).toInt = 6 := rfl; omega)) ?_
                refine r_lc (x := 0) rfl rfl ?_
                refine r_ldc (x := .long 13) rfl rfl ?_
                refine r_cs (y := 155) (ra := [.long 13, .long 0, .long (lN k5)]) (rest := []) rfl ⟨⟨rfl, rfl⟩, by decide⟩ rfl rfl (Nat.le_of_ble_eq_true rfl) ?_
                refine in_155 (Nat.le_of_ble_eq_true rfl) ?_
                show WR _ cd_155 0 [some (.long (lN k5)), none, some (.long 0), none, some (.long 13), none] [] (sI (sI h (ad 0) 6 0) (ad 0) 6 (-3)) _
                refine r_lload rfl rfl ?_
                refine r_lload rfl rfl ?_
                refine r_lif_lt (tg := 17) rfl rfl rfl (fun q => False.elim (by have := i_nlt c4; have := i_rg o; have : (0 : Int32).toInt = 0 := rfl; have := i_eq ek5; have : (nI k5).toInt = ((k5 : Nat) : Int) := nI_toInt (by omega); have := i_le c6; have : (13 : Int32).toInt = 13 := rfl; have := i_eq c7; have : (6 : Int32).toInt = 6 := rfl; have : (lN k5).toInt = ((k5 : Nat) : Int) := lN_toInt (by omega); have : (0 : Int64).toInt = 0 := rfl; have := l_lt q; omega)) (fun _ => ?_)
                refine r_lload rfl rfl ?_
                refine r_lload rfl rfl ?_
                refine r_lif_gt (tg := 17) rfl rfl rfl (fun q => False.elim (by have := i_nlt c4; have := i_rg o; have : (0 : Int32).toInt = 0 := rfl; have := i_eq ek5; have : (nI k5).toInt = ((k5 : Nat) : Int) := nI_toInt (by omega); have := i_le c6; have : (13 : Int32).toInt = 13 := rfl; have := i_eq c7; have : (6 : Int32).toInt = 6 := rfl; have : (lN k5).toInt = ((k5 : Nat) : Int) := lN_toInt (by omega); have : (13 : Int64).toInt = 13 := rfl; have := l_lt q; omega)) (fun _ => ?_)
                refine r_ic (x := 1) rfl rfl ?_
                refine r_goto (tg := 18) rfl rfl ?_
                refine r_zret rfl (.inr rfl) ?_
                show WR _ cd_203 23 [some (.ref (ad 30)), some (.int p), some (.int o), some (.int a), some (.int b), some (.int c), none] [.int 1] (sI (sI h (ad 0) 6 0) (ad 0) 6 (-3)) _
                refine r_if_ne (tg := 33) rfl rfl (fun _ => ?_) (fun q => absurd q (by decide))
                refine r_aload rfl rfl ?_
                refine r_iload rfl rfl ?_
                refine WR_tI (y := nI k5) ek5 ?_
                refine r_iload rfl rfl ?_
                refine r_iload rfl rfl ?_
                refine r_iload rfl rfl ?_
                refine r_cv (y := 205) (ra := [.int c, .int b, .int a, .int (nI k5)]) (rest := []) rfl ⟨⟨rfl, rfl⟩, rfl, by decide⟩ (fx_t30 fx) rfl rfl (Nat.le_of_ble_eq_true rfl) ?_
                try rw [ek5] at kn
                refine c_mknown (h := sI (sI h (ad 0) 6 0) (ad 0) 6 (-3)) (o := nI k5) fx (Eq.trans (I_ne (fx_ne fx (by decide))) (Eq.trans (I_ne (fx_ne fx (by decide))) ru.1)) (by have := i_nlt c4; have := i_rg o; have : (0 : Int32).toInt = 0 := rfl; have := i_eq ek5; have : (nI k5).toInt = ((k5 : Nat) : Int) := nI_toInt (by omega); have := i_le c6; have : (13 : Int32).toInt = 13 := rfl; have := i_eq c7; have : (6 : Int32).toInt = 6 := rfl; omega) (fun _ => ?_) (fun z => absurd kn z)
                show WR _ cd_203 43 [some (.ref (ad 30)), some (.int p), some (.int o), some (.int a), some (.int b), some (.int c), none] [.int 1] (sI (sI h (ad 0) 6 0) (ad 0) 6 (-3)) _
                refine r_if_ne (tg := 53) rfl rfl (fun _ => ?_) (fun q => absurd q (by decide))
                refine r_iload rfl rfl ?_
                refine WR_tI (y := nI k5) ek5 ?_
                refine r_ic (x := 6) rfl rfl ?_
                refine r_icmp_ne (tg := 71) rfl rfl (fun q => False.elim (by have := i_nlt c4; have := i_rg o; have : (0 : Int32).toInt = 0 := rfl; have := i_eq ek5; have : (nI k5).toInt = ((k5 : Nat) : Int) := nI_toInt (by omega); have := i_le c6; have : (13 : Int32).toInt = 13 := rfl; have := i_eq c7; have : (6 : Int32).toInt = 6 := rfl; have := i_neq q; omega)) (fun _ => ?_)
                refine r_iload rfl rfl ?_
                refine r_i2l rfl ?_
                refine r_lc (x := 1) rfl rfl ?_
                refine r_ldc (x := .long 8) rfl rfl ?_
                refine r_cs (y := 155) (ra := [.long 8, .long 1, .long a.toInt64]) (rest := []) rfl ⟨⟨rfl, rfl⟩, by decide⟩ rfl rfl (Nat.le_of_ble_eq_true rfl) ?_
                refine in_155 (Nat.le_of_ble_eq_true rfl) ?_
                show WR _ cd_155 0 [some (.long a.toInt64), none, some (.long 1), none, some (.long 8), none] [] (sI (sI h (ad 0) 6 0) (ad 0) 6 (-3)) _
                refine r_lload rfl rfl ?_
                refine r_lload rfl rfl ?_
                refine r_lif_lt (tg := 17) rfl rfl rfl (fun _ => ?_) (fun q => False.elim (by have := i_lt c16; have := i_rg a; have : (1 : Int32).toInt = 1 := rfl; have := w_t a; have : (1 : Int64).toInt = 1 := rfl; have := l_nlt q; omega))
                refine r_ic (x := 0) rfl rfl ?_
                refine r_zret rfl (.inl rfl) ?_
                show WR _ cd_203 68 [some (.ref (ad 30)), some (.int p), some (.int o), some (.int a), some (.int b), some (.int c), none] [.int 0] (sI (sI h (ad 0) 6 0) (ad 0) 6 (-3)) _
                refine r_if_eq (tg := 90) rfl rfl (fun _ => ?_) (fun q => absurd q (by decide))
                refine r_aload rfl rfl ?_
                refine r_ic (x := (-3)) rfl rfl ?_
                refine r_cv (y := 154) (ra := [.int (-3)]) (rest := []) rfl ⟨⟨rfl, rfl⟩, rfl, by decide⟩ (fx_t30 fx) rfl rfl (Nat.le_of_ble_eq_true rfl) ?_
                refine in_154 (Nat.le_of_ble_eq_true rfl) ?_
                show WR _ cd_154 0 [some (.ref (ad 30)), some (.int (-3))] [] (sI (sI h (ad 0) 6 0) (ad 0) 6 (-3)) _
                refine r_aload rfl rfl ?_
                refine r_iload rfl rfl ?_
                refine r_ic (x := (-1)) rfl rfl ?_
                refine r_icmp_ge (tg := 10) rfl rfl (fun q => absurd q (by decide)) (fun _ => ?_)
                refine r_iload rfl rfl ?_
                refine r_goto (tg := 11) rfl rfl ?_
                refine r_putI rfl ⟨rfl, rfl, rfl⟩ (fx_t30 fx) ?_
                have fx : FX n ad sa z0 (sI (sI (sI h (ad 0) 6 0) (ad 0) 6 (-3)) (ad 30) 11 (-3)) := (FX.sI fx)
                refine r_iload rfl rfl ?_
                refine r_iret rfl ?_
                show WR _ cd_203 96 [some (.ref (ad 30)), some (.int p), some (.int o), some (.int a), some (.int b), some (.int c), none] [.int (-3)] (sI (sI (sI h (ad 0) 6 0) (ad 0) 6 (-3)) (ad 30) 11 (-3)) _
                refine r_iret rfl ?_
                exact ⟨rfl, Rel.why r (((Chg.rf.sI (fx_j fx) (.inl (by decide))).sI (fx_j fx) (.inl (by decide))).sI (fx_j fx) (.inl (by decide))) ⟨rfl, by decide⟩ (Eq.trans (Eq.trans (I_ne (fx_ne fx (by decide))) I_eq) (Eq.symm I_eq)), Nat.le_add_right _ _, Nat.le_add_right _ _⟩
              · obtain ⟨k17, hk17, ek17⟩ := ix_of (x := a) (n := 2147483648) (by have := i_nlt c16; have := i_rg a; have : (1 : Int32).toInt = 1 := rfl; omega) (by have := i_nlt c16; have := i_rg a; have : (1 : Int32).toInt = 1 := rfl; omega)
                refine r_iload rfl rfl ?_
                refine WR_tI (y := nI k17) ek17 ?_
                refine r_ic (x := 8) rfl rfl ?_
                refine r_icmp_gt (tg := 91) rfl rfl (fun c18 => ?_) (fun c18 => ?_)
                · refine r_aload rfl rfl ?_
                  refine r_ic (x := (-3)) rfl rfl ?_
                  refine r_cv (y := 13) (ra := [.int (-3)]) (rest := []) rfl ⟨⟨rfl, rfl⟩, rfl, by decide⟩ (fx_t0 fx) rfl rfl (Nat.le_of_ble_eq_true rfl) ?_
                  refine in_13 (Nat.le_of_ble_eq_true rfl) ?_
                  show WR _ cd_13 0 [some (.ref (ad 0)), some (.int (-3))] [] (sI h (ad 0) 6 0) _
                  refine r_aload rfl rfl ?_
                  refine r_iload rfl rfl ?_
                  refine r_putI rfl ⟨rfl, rfl, rfl⟩ (fx_t0 fx) ?_
                  have fx : FX n ad sa z0 (sI (sI h (ad 0) 6 0) (ad 0) 6 (-3)) := (FX.sI fx)
                  refine r_iload rfl rfl ?_
                  refine r_iret rfl ?_
                  show WR _ cd_92 97 [some (.ref (ad 0)), some (.int p), some (.int o), some (.int a), some (.int b), some (.int c)] [.int (-3)] (sI (sI h (ad 0) 6 0) (ad 0) 6 (-3)) _
                  refine r_iret rfl ?_
                  show EV _ 203 [.ref (ad 30), .int p, .int o, .int a, .int b, .int c] (sI (sI h (ad 0) 6 0) (ad 0) 6 (-3)) _
                  refine in_203 (Nat.le_of_ble_eq_true rfl) ?_
                  show WR _ cd_203 0 [some (.ref (ad 30)), some (.int p), some (.int o), some (.int a), some (.int b), some (.int c), none] [] (sI (sI h (ad 0) 6 0) (ad 0) 6 (-3)) _
                  refine r_iload rfl rfl ?_
                  refine WR_tI (y := nI k2) ek2 ?_
                  refine r_cs (y := 204) (ra := [.int (nI k2)]) (rest := []) rfl ⟨⟨rfl, rfl⟩, by decide⟩ rfl rfl (Nat.le_of_ble_eq_true rfl) ?_
                  refine in_204 (Nat.le_of_ble_eq_true rfl) ?_
                  show WR _ cd_204 0 [some (.int (nI k2))] [] (sI (sI h (ad 0) 6 0) (ad 0) 6 (-3)) _
                  refine r_iload rfl rfl ?_
                  refine r_if_lt (tg := 14) rfl rfl (fun q => False.elim (by have := i_nlt c1; have := i_rg p; have : (0 : Int32).toInt = 0 := rfl; have := i_eq ek2; have : (nI k2).toInt = ((k2 : Nat) : Int) := nI_toInt (by omega); have := i_nle c3; have : (10 : Int32).toInt = 10 := rfl; have := i_lt q; omega)) (fun _ => ?_)
                  refine r_iload rfl rfl ?_
                  refine r_ic (x := 10) rfl rfl ?_
                  refine r_icmp_ge (tg := 14) rfl rfl (fun q => False.elim (by have := i_nlt c1; have := i_rg p; have : (0 : Int32).toInt = 0 := rfl; have := i_eq ek2; have : (nI k2).toInt = ((k2 : Nat) : Int) := nI_toInt (by omega); have := i_nle c3; have : (10 : Int32).toInt = 10 := rfl; have := i_le q; omega)) (fun _ => ?_)
                  refine r_ic (x := 1) rfl rfl ?_
                  refine r_goto (tg := 15) rfl rfl ?_
                  refine r_zret rfl (.inr rfl) ?_
                  show WR _ cd_203 4 [some (.ref (ad 30)), some (.int p), some (.int o), some (.int a), some (.int b), some (.int c), none] [.int 1] (sI (sI h (ad 0) 6 0) (ad 0) 6 (-3)) _
                  refine r_if_ne (tg := 14) rfl rfl (fun _ => ?_) (fun q => absurd q (by decide))
                  refine r_iload rfl rfl ?_
                  refine WR_tI (y := nI k5) ek5 ?_
                  refine r_i2l rfl ?_
                  refine WR_tL (y := lN k5) (nI_l (by have := i_nlt c4; have := i_rg o; have : (0 : Int32).toInt = 0 := rfl; have := i_eq ek5; have : (nI k5).toInt = ((k5 : Nat) : Int) := nI_toInt (by omega); have := i_le c6; have : (13 : Int32).toInt = 13 := rfl; have := i_eq c7; have : (6 : Int32).toInt = 6 := rfl; omega)) ?_
                  refine r_lc (x := 0) rfl rfl ?_
                  refine r_ldc (x := .long 13) rfl rfl ?_
                  refine r_cs (y := 155) (ra := [.long 13, .long 0, .long (lN k5)]) (rest := []) rfl ⟨⟨rfl, rfl⟩, by decide⟩ rfl rfl (Nat.le_of_ble_eq_true rfl) ?_
                  refine in_155 (Nat.le_of_ble_eq_true rfl) ?_
                  show WR _ cd_155 0 [some (.long (lN k5)), none, some (.long 0), none, some (.long 13), none] [] (sI (sI h (ad 0) 6 0) (ad 0) 6 (-3)) _
                  refine r_lload rfl rfl ?_
                  refine r_lload rfl rfl ?_
                  refine r_lif_lt (tg := 17) rfl rfl rfl (fun q => False.elim (by have := i_nlt c4; have := i_rg o; have : (0 : Int32).toInt = 0 := rfl; have := i_eq ek5; have : (nI k5).toInt = ((k5 : Nat) : Int) := nI_toInt (by omega); have := i_le c6; have : (13 : Int32).toInt = 13 := rfl; have := i_eq c7; have : (6 : Int32).toInt = 6 := rfl; have : (lN k5).toInt = ((k5 : Nat) : Int) := lN_toInt (by omega); have : (0 : Int64).toInt = 0 := rfl; have := l_lt q; omega)) (fun _ => ?_)
                  refine r_lload rfl rfl ?_
                  refine r_lload rfl rfl ?_
                  refine r_lif_gt (tg := 17) rfl rfl rfl (fun q => False.elim (by have := i_nlt c4; have := i_rg o; have : (0 : Int32).toInt = 0 := rfl; have := i_eq ek5; have : (nI k5).toInt = ((k5 : Nat) : Int) := nI_toInt (by omega); have := i_le c6; have : (13 : Int32).toInt = 13 := rfl; have := i_eq c7; have : (6 : Int32).toInt = 6 := rfl; have : (lN k5).toInt = ((k5 : Nat) : Int) := lN_toInt (by omega); have : (13 : Int64).toInt = 13 := rfl; have := l_lt q; omega)) (fun _ => ?_)
                  refine r_ic (x := 1) rfl rfl ?_
                  refine r_goto (tg := 18) rfl rfl ?_
                  refine r_zret rfl (.inr rfl) ?_
                  show WR _ cd_203 23 [some (.ref (ad 30)), some (.int p), some (.int o), some (.int a), some (.int b), some (.int c), none] [.int 1] (sI (sI h (ad 0) 6 0) (ad 0) 6 (-3)) _
                  refine r_if_ne (tg := 33) rfl rfl (fun _ => ?_) (fun q => absurd q (by decide))
                  refine r_aload rfl rfl ?_
                  refine r_iload rfl rfl ?_
                  refine WR_tI (y := nI k5) ek5 ?_
                  refine r_iload rfl rfl ?_
                  refine WR_tI (y := nI k17) ek17 ?_
                  refine r_iload rfl rfl ?_
                  refine r_iload rfl rfl ?_
                  refine r_cv (y := 205) (ra := [.int c, .int b, .int (nI k17), .int (nI k5)]) (rest := []) rfl ⟨⟨rfl, rfl⟩, rfl, by decide⟩ (fx_t30 fx) rfl rfl (Nat.le_of_ble_eq_true rfl) ?_
                  try rw [ek5] at kn
                  try rw [ek17] at kn
                  refine c_mknown (h := sI (sI h (ad 0) 6 0) (ad 0) 6 (-3)) (o := nI k5) fx (Eq.trans (I_ne (fx_ne fx (by decide))) (Eq.trans (I_ne (fx_ne fx (by decide))) ru.1)) (by have := i_nlt c4; have := i_rg o; have : (0 : Int32).toInt = 0 := rfl; have := i_eq ek5; have : (nI k5).toInt = ((k5 : Nat) : Int) := nI_toInt (by omega); have := i_le c6; have : (13 : Int32).toInt = 13 := rfl; have := i_eq c7; have : (6 : Int32).toInt = 6 := rfl; omega) (fun _ => ?_) (fun z => absurd kn z)
                  show WR _ cd_203 43 [some (.ref (ad 30)), some (.int p), some (.int o), some (.int a), some (.int b), some (.int c), none] [.int 1] (sI (sI h (ad 0) 6 0) (ad 0) 6 (-3)) _
                  refine r_if_ne (tg := 53) rfl rfl (fun _ => ?_) (fun q => absurd q (by decide))
                  refine r_iload rfl rfl ?_
                  refine WR_tI (y := nI k5) ek5 ?_
                  refine r_ic (x := 6) rfl rfl ?_
                  refine r_icmp_ne (tg := 71) rfl rfl (fun q => False.elim (by have := i_nlt c4; have := i_rg o; have : (0 : Int32).toInt = 0 := rfl; have := i_eq ek5; have : (nI k5).toInt = ((k5 : Nat) : Int) := nI_toInt (by omega); have := i_le c6; have : (13 : Int32).toInt = 13 := rfl; have := i_eq c7; have : (6 : Int32).toInt = 6 := rfl; have := i_neq q; omega)) (fun _ => ?_)
                  refine r_iload rfl rfl ?_
                  refine WR_tI (y := nI k17) ek17 ?_
                  refine r_i2l rfl ?_
                  refine WR_tL (y := lN k17) (nI_l (by have := i_nlt c16; have := i_rg a; have : (1 : Int32).toInt = 1 := rfl; have := i_eq ek17; have : (nI k17).toInt = ((k17 : Nat) : Int) := nI_toInt (by omega); have := i_lt c18; have : (8 : Int32).toInt = 8 := rfl; omega)) ?_
                  refine r_lc (x := 1) rfl rfl ?_
                  refine r_ldc (x := .long 8) rfl rfl ?_
                  refine r_cs (y := 155) (ra := [.long 8, .long 1, .long (lN k17)]) (rest := []) rfl ⟨⟨rfl, rfl⟩, by decide⟩ rfl rfl (Nat.le_of_ble_eq_true rfl) ?_
                  refine in_155 (Nat.le_of_ble_eq_true rfl) ?_
                  show WR _ cd_155 0 [some (.long (lN k17)), none, some (.long 1), none, some (.long 8), none] [] (sI (sI h (ad 0) 6 0) (ad 0) 6 (-3)) _
                  refine r_lload rfl rfl ?_
                  refine r_lload rfl rfl ?_
                  refine r_lif_lt (tg := 17) rfl rfl rfl (fun q => False.elim (by have := i_nlt c16; have := i_rg a; have : (1 : Int32).toInt = 1 := rfl; have := i_eq ek17; have : (nI k17).toInt = ((k17 : Nat) : Int) := nI_toInt (by omega); have := i_lt c18; have : (8 : Int32).toInt = 8 := rfl; have : (lN k17).toInt = ((k17 : Nat) : Int) := lN_toInt (by omega); have : (1 : Int64).toInt = 1 := rfl; have := l_lt q; omega)) (fun _ => ?_)
                  refine r_lload rfl rfl ?_
                  refine r_lload rfl rfl ?_
                  refine r_lif_gt (tg := 17) rfl rfl rfl (fun _ => ?_) (fun q => False.elim (by have := i_nlt c16; have := i_rg a; have : (1 : Int32).toInt = 1 := rfl; have := i_eq ek17; have : (nI k17).toInt = ((k17 : Nat) : Int) := nI_toInt (by omega); have := i_lt c18; have : (8 : Int32).toInt = 8 := rfl; have : (lN k17).toInt = ((k17 : Nat) : Int) := lN_toInt (by omega); have : (8 : Int64).toInt = 8 := rfl; have := l_nlt q; omega))
                  refine r_ic (x := 0) rfl rfl ?_
                  refine r_zret rfl (.inl rfl) ?_
                  show WR _ cd_203 68 [some (.ref (ad 30)), some (.int p), some (.int o), some (.int a), some (.int b), some (.int c), none] [.int 0] (sI (sI h (ad 0) 6 0) (ad 0) 6 (-3)) _
                  refine r_if_eq (tg := 90) rfl rfl (fun _ => ?_) (fun q => absurd q (by decide))
                  refine r_aload rfl rfl ?_
                  refine r_ic (x := (-3)) rfl rfl ?_
                  refine r_cv (y := 154) (ra := [.int (-3)]) (rest := []) rfl ⟨⟨rfl, rfl⟩, rfl, by decide⟩ (fx_t30 fx) rfl rfl (Nat.le_of_ble_eq_true rfl) ?_
                  refine in_154 (Nat.le_of_ble_eq_true rfl) ?_
                  show WR _ cd_154 0 [some (.ref (ad 30)), some (.int (-3))] [] (sI (sI h (ad 0) 6 0) (ad 0) 6 (-3)) _
                  refine r_aload rfl rfl ?_
                  refine r_iload rfl rfl ?_
                  refine r_ic (x := (-1)) rfl rfl ?_
                  refine r_icmp_ge (tg := 10) rfl rfl (fun q => absurd q (by decide)) (fun _ => ?_)
                  refine r_iload rfl rfl ?_
                  refine r_goto (tg := 11) rfl rfl ?_
                  refine r_putI rfl ⟨rfl, rfl, rfl⟩ (fx_t30 fx) ?_
                  have fx : FX n ad sa z0 (sI (sI (sI h (ad 0) 6 0) (ad 0) 6 (-3)) (ad 30) 11 (-3)) := (FX.sI fx)
                  refine r_iload rfl rfl ?_
                  refine r_iret rfl ?_
                  show WR _ cd_203 96 [some (.ref (ad 30)), some (.int p), some (.int o), some (.int a), some (.int b), some (.int c), none] [.int (-3)] (sI (sI (sI h (ad 0) 6 0) (ad 0) 6 (-3)) (ad 30) 11 (-3)) _
                  refine r_iret rfl ?_
                  exact ⟨rfl, Rel.why r (((Chg.rf.sI (fx_j fx) (.inl (by decide))).sI (fx_j fx) (.inl (by decide))).sI (fx_j fx) (.inl (by decide))) ⟨rfl, by decide⟩ (Eq.trans (Eq.trans (I_ne (fx_ne fx (by decide))) I_eq) (Eq.symm I_eq)), Nat.le_add_right _ _, Nat.le_add_right _ _⟩
                · refine r_iload rfl rfl ?_
                  refine WR_tI (y := nI k5) ek5 ?_
                  refine r_ic (x := 8) rfl rfl ?_
                  refine r_icmp_ne (tg := 98) rfl rfl (fun _ => ?_) (fun q => False.elim (by have := i_nlt c4; have := i_rg o; have : (0 : Int32).toInt = 0 := rfl; have := i_eq ek5; have : (nI k5).toInt = ((k5 : Nat) : Int) := nI_toInt (by omega); have := i_le c6; have : (13 : Int32).toInt = 13 := rfl; have := i_eq c7; have : (6 : Int32).toInt = 6 := rfl; have : (8 : Int32).toInt = 8 := rfl; have := i_eq q; omega))
                  refine r_aload rfl rfl ?_
                  refine r_getA (b := ad 9) rfl ⟨rfl, rfl, rfl⟩ (fx_t0 fx) (fx_r0_3 fx) ?_
                  refine r_getA (b := ad 11) rfl ⟨rfl, rfl, rfl⟩ (fx_t9 fx) (fx_r9_1 fx) ?_
                  refine r_iload rfl rfl ?_
                  refine WR_tI (y := nI k2) ek2 ?_
                  refine r_iaload rfl (.inl (fx_t11 fx)) (vp_ct (fx_n11 fx) (vp_in_nI (by have := i_nlt c1; have := i_rg p; have : (0 : Int32).toInt = 0 := rfl; have := i_eq ek2; have : (nI k2).toInt = ((k2 : Nat) : Int) := nI_toInt (by omega); have := i_nle c3; have : (10 : Int32).toInt = 10 := rfl; omega) (by omega))) ?_
                  refine WR_tI (congrArg (hI (sI h (ad 0) 6 0) (ad 11)) ((nI_clamp (by have := i_nlt c1; have := i_rg p; have : (0 : Int32).toInt = 0 := rfl; have := i_eq ek2; have : (nI k2).toInt = ((k2 : Nat) : Int) := nI_toInt (by omega); have := i_nle c3; have : (10 : Int32).toInt = 10 := rfl; omega)) : _ = k2)) ?_
                  obtain ⟨l19, hl19, p1_19, p2_19, p3_19⟩ := rp k2 (by have := i_nlt c1; have := i_rg p; have : (0 : Int32).toInt = 0 := rfl; have := i_eq ek2; have : (nI k2).toInt = ((k2 : Nat) : Int) := nI_toInt (by omega); have := i_nle c3; have : (10 : Int32).toInt = 10 := rfl; omega)
                  refine WR_tI (y := nI l19) (Eq.trans (I_ne (fx_ne fx (by decide))) p1_19) ?_
                  refine r_ic (x := 16) rfl rfl ?_
                  refine r_icmp_lt (tg := 119) rfl rfl (fun c20 => ?_) (fun c20 => ?_)
                  · refine r_aload rfl rfl ?_
                    refine r_getA (b := ad 9) rfl ⟨rfl, rfl, rfl⟩ (fx_t0 fx) (fx_r0_3 fx) ?_
                    refine r_iload rfl rfl ?_
                    refine WR_tI (y := nI k2) ek2 ?_
                    refine r_iload rfl rfl ?_
                    refine WR_tI (y := nI k5) ek5 ?_
                    refine r_iload rfl rfl ?_
                    refine WR_tI (y := nI k17) ek17 ?_
                    refine r_iload rfl rfl ?_
                    refine r_iload rfl rfl ?_
                    refine r_cv (y := 96) (ra := [.int c, .int b, .int (nI k17), .int (nI k5), .int (nI k2)]) (rest := []) rfl ⟨⟨rfl, rfl⟩, rfl, by decide⟩ (fx_t9 fx) rfl rfl (Nat.le_of_ble_eq_true rfl) ?_
                    refine c_addStep (h := sI h (ad 0) 6 0) (p := k2) (l := l19) fx (by have := i_nlt c1; have := i_rg p; have : (0 : Int32).toInt = 0 := rfl; have := i_eq ek2; have : (nI k2).toInt = ((k2 : Nat) : Int) := nI_toInt (by omega); have := i_nle c3; have : (10 : Int32).toInt = 10 := rfl; omega) (by have := i_lt c20; have : (nI l19).toInt = ((l19 : Nat) : Int) := nI_toInt (by omega); have : (16 : Int32).toInt = 16 := rfl; omega) (Eq.trans (I_ne (fx_ne fx (by decide))) p1_19) ?_
                    show WR _ cd_92 133 [some (.ref (ad 0)), some (.int p), some (.int o), some (.int a), some (.int b), some (.int c)] [.int (nI (l19 + 1))] (sI (sI (sI (sI (sI (sI h (ad 0) 6 0) (ad 10) (64 * k2 + 4 * l19) (nI k5)) (ad 10) (64 * k2 + 4 * l19 + 1) (nI k17)) (ad 10) (64 * k2 + 4 * l19 + 2) b) (ad 10) (64 * k2 + 4 * l19 + 3) c) (ad 11) k2 (nI (l19 + 1))) _
                    have fx : FX n ad sa z0 (sI (sI (sI (sI (sI (sI h (ad 0) 6 0) (ad 10) (64 * k2 + 4 * l19) (nI k5)) (ad 10) (64 * k2 + 4 * l19 + 1) (nI k17)) (ad 10) (64 * k2 + 4 * l19 + 2) b) (ad 10) (64 * k2 + 4 * l19 + 3) c) (ad 11) k2 (nI (l19 + 1))) := (FX.sI (FX.sI (FX.sI (FX.sI (FX.sI fx)))))
                    refine r_iret rfl ?_
                    show EV _ 203 [.ref (ad 30), .int p, .int o, .int a, .int b, .int c] (sI (sI (sI (sI (sI (sI h (ad 0) 6 0) (ad 10) (64 * k2 + 4 * l19) (nI k5)) (ad 10) (64 * k2 + 4 * l19 + 1) (nI k17)) (ad 10) (64 * k2 + 4 * l19 + 2) b) (ad 10) (64 * k2 + 4 * l19 + 3) c) (ad 11) k2 (nI (l19 + 1))) _
                    refine in_203 (Nat.le_of_ble_eq_true rfl) ?_
                    show WR _ cd_203 0 [some (.ref (ad 30)), some (.int p), some (.int o), some (.int a), some (.int b), some (.int c), none] [] (sI (sI (sI (sI (sI (sI h (ad 0) 6 0) (ad 10) (64 * k2 + 4 * l19) (nI k5)) (ad 10) (64 * k2 + 4 * l19 + 1) (nI k17)) (ad 10) (64 * k2 + 4 * l19 + 2) b) (ad 10) (64 * k2 + 4 * l19 + 3) c) (ad 11) k2 (nI (l19 + 1))) _
                    refine r_iload rfl rfl ?_
                    refine WR_tI (y := nI k2) ek2 ?_
                    refine r_cs (y := 204) (ra := [.int (nI k2)]) (rest := []) rfl ⟨⟨rfl, rfl⟩, by decide⟩ rfl rfl (Nat.le_of_ble_eq_true rfl) ?_
                    refine in_204 (Nat.le_of_ble_eq_true rfl) ?_
                    show WR _ cd_204 0 [some (.int (nI k2))] [] (sI (sI (sI (sI (sI (sI h (ad 0) 6 0) (ad 10) (64 * k2 + 4 * l19) (nI k5)) (ad 10) (64 * k2 + 4 * l19 + 1) (nI k17)) (ad 10) (64 * k2 + 4 * l19 + 2) b) (ad 10) (64 * k2 + 4 * l19 + 3) c) (ad 11) k2 (nI (l19 + 1))) _
                    refine r_iload rfl rfl ?_
                    refine r_if_lt (tg := 14) rfl rfl (fun q => False.elim (by have := i_nlt c1; have := i_rg p; have : (0 : Int32).toInt = 0 := rfl; have := i_eq ek2; have : (nI k2).toInt = ((k2 : Nat) : Int) := nI_toInt (by omega); have := i_nle c3; have : (10 : Int32).toInt = 10 := rfl; have := i_lt q; omega)) (fun _ => ?_)
                    refine r_iload rfl rfl ?_
                    refine r_ic (x := 10) rfl rfl ?_
                    refine r_icmp_ge (tg := 14) rfl rfl (fun q => False.elim (by have := i_nlt c1; have := i_rg p; have : (0 : Int32).toInt = 0 := rfl; have := i_eq ek2; have : (nI k2).toInt = ((k2 : Nat) : Int) := nI_toInt (by omega); have := i_nle c3; have : (10 : Int32).toInt = 10 := rfl; have := i_le q; omega)) (fun _ => ?_)
                    refine r_ic (x := 1) rfl rfl ?_
                    refine r_goto (tg := 15) rfl rfl ?_
                    refine r_zret rfl (.inr rfl) ?_
                    show WR _ cd_203 4 [some (.ref (ad 30)), some (.int p), some (.int o), some (.int a), some (.int b), some (.int c), none] [.int 1] (sI (sI (sI (sI (sI (sI h (ad 0) 6 0) (ad 10) (64 * k2 + 4 * l19) (nI k5)) (ad 10) (64 * k2 + 4 * l19 + 1) (nI k17)) (ad 10) (64 * k2 + 4 * l19 + 2) b) (ad 10) (64 * k2 + 4 * l19 + 3) c) (ad 11) k2 (nI (l19 + 1))) _
                    refine r_if_ne (tg := 14) rfl rfl (fun _ => ?_) (fun q => absurd q (by decide))
                    refine r_iload rfl rfl ?_
                    refine WR_tI (y := nI k5) ek5 ?_
                    refine r_i2l rfl ?_
                    refine WR_tL (y := lN k5) (nI_l (by have := i_nlt c4; have := i_rg o; have : (0 : Int32).toInt = 0 := rfl; have := i_eq ek5; have : (nI k5).toInt = ((k5 : Nat) : Int) := nI_toInt (by omega); have := i_le c6; have : (13 : Int32).toInt = 13 := rfl; have := i_eq c7; have : (6 : Int32).toInt = 6 := rfl; omega)) ?_
                    refine r_lc (x := 0) rfl rfl ?_
                    refine r_ldc (x := .long 13) rfl rfl ?_
                    refine r_cs (y := 155) (ra := [.long 13, .long 0, .long (lN k5)]) (rest := []) rfl ⟨⟨rfl, rfl⟩, by decide⟩ rfl rfl (Nat.le_of_ble_eq_true rfl) ?_
                    refine in_155 (Nat.le_of_ble_eq_true rfl) ?_
                    show WR _ cd_155 0 [some (.long (lN k5)), none, some (.long 0), none, some (.long 13), none] [] (sI (sI (sI (sI (sI (sI h (ad 0) 6 0) (ad 10) (64 * k2 + 4 * l19) (nI k5)) (ad 10) (64 * k2 + 4 * l19 + 1) (nI k17)) (ad 10) (64 * k2 + 4 * l19 + 2) b) (ad 10) (64 * k2 + 4 * l19 + 3) c) (ad 11) k2 (nI (l19 + 1))) _
                    refine r_lload rfl rfl ?_
                    refine r_lload rfl rfl ?_
                    refine r_lif_lt (tg := 17) rfl rfl rfl (fun q => False.elim (by have := i_nlt c4; have := i_rg o; have : (0 : Int32).toInt = 0 := rfl; have := i_eq ek5; have : (nI k5).toInt = ((k5 : Nat) : Int) := nI_toInt (by omega); have := i_le c6; have : (13 : Int32).toInt = 13 := rfl; have := i_eq c7; have : (6 : Int32).toInt = 6 := rfl; have : (lN k5).toInt = ((k5 : Nat) : Int) := lN_toInt (by omega); have : (0 : Int64).toInt = 0 := rfl; have := l_lt q; omega)) (fun _ => ?_)
                    refine r_lload rfl rfl ?_
                    refine r_lload rfl rfl ?_
                    refine r_lif_gt (tg := 17) rfl rfl rfl (fun q => False.elim (by have := i_nlt c4; have := i_rg o; have : (0 : Int32).toInt = 0 := rfl; have := i_eq ek5; have : (nI k5).toInt = ((k5 : Nat) : Int) := nI_toInt (by omega); have := i_le c6; have : (13 : Int32).toInt = 13 := rfl; have := i_eq c7; have : (6 : Int32).toInt = 6 := rfl; have : (lN k5).toInt = ((k5 : Nat) : Int) := lN_toInt (by omega); have : (13 : Int64).toInt = 13 := rfl; have := l_lt q; omega)) (fun _ => ?_)
                    refine r_ic (x := 1) rfl rfl ?_
                    refine r_goto (tg := 18) rfl rfl ?_
                    refine r_zret rfl (.inr rfl) ?_
                    show WR _ cd_203 23 [some (.ref (ad 30)), some (.int p), some (.int o), some (.int a), some (.int b), some (.int c), none] [.int 1] (sI (sI (sI (sI (sI (sI h (ad 0) 6 0) (ad 10) (64 * k2 + 4 * l19) (nI k5)) (ad 10) (64 * k2 + 4 * l19 + 1) (nI k17)) (ad 10) (64 * k2 + 4 * l19 + 2) b) (ad 10) (64 * k2 + 4 * l19 + 3) c) (ad 11) k2 (nI (l19 + 1))) _
                    refine r_if_ne (tg := 33) rfl rfl (fun _ => ?_) (fun q => absurd q (by decide))
                    refine r_aload rfl rfl ?_
                    refine r_iload rfl rfl ?_
                    refine WR_tI (y := nI k5) ek5 ?_
                    refine r_iload rfl rfl ?_
                    refine WR_tI (y := nI k17) ek17 ?_
                    refine r_iload rfl rfl ?_
                    refine r_iload rfl rfl ?_
                    refine r_cv (y := 205) (ra := [.int c, .int b, .int (nI k17), .int (nI k5)]) (rest := []) rfl ⟨⟨rfl, rfl⟩, rfl, by decide⟩ (fx_t30 fx) rfl rfl (Nat.le_of_ble_eq_true rfl) ?_
                    try rw [ek5] at kn
                    try rw [ek17] at kn
                    refine c_mknown (h := sI (sI (sI (sI (sI (sI h (ad 0) 6 0) (ad 10) (64 * k2 + 4 * l19) (nI k5)) (ad 10) (64 * k2 + 4 * l19 + 1) (nI k17)) (ad 10) (64 * k2 + 4 * l19 + 2) b) (ad 10) (64 * k2 + 4 * l19 + 3) c) (ad 11) k2 (nI (l19 + 1))) (o := nI k5) fx (Eq.trans (I_ne (fx_ne fx (by decide))) (Eq.trans (I_ne (fx_ne fx (by decide))) (Eq.trans (I_ne (fx_ne fx (by decide))) (Eq.trans (I_ne (fx_ne fx (by decide))) (Eq.trans (I_ne (fx_ne fx (by decide))) (Eq.trans (I_ne (fx_ne fx (by decide))) ru.1)))))) (by have := i_nlt c4; have := i_rg o; have : (0 : Int32).toInt = 0 := rfl; have := i_eq ek5; have : (nI k5).toInt = ((k5 : Nat) : Int) := nI_toInt (by omega); have := i_le c6; have : (13 : Int32).toInt = 13 := rfl; have := i_eq c7; have : (6 : Int32).toInt = 6 := rfl; omega) (fun _ => ?_) (fun z => absurd kn z)
                    show WR _ cd_203 43 [some (.ref (ad 30)), some (.int p), some (.int o), some (.int a), some (.int b), some (.int c), none] [.int 1] (sI (sI (sI (sI (sI (sI h (ad 0) 6 0) (ad 10) (64 * k2 + 4 * l19) (nI k5)) (ad 10) (64 * k2 + 4 * l19 + 1) (nI k17)) (ad 10) (64 * k2 + 4 * l19 + 2) b) (ad 10) (64 * k2 + 4 * l19 + 3) c) (ad 11) k2 (nI (l19 + 1))) _
                    refine r_if_ne (tg := 53) rfl rfl (fun _ => ?_) (fun q => absurd q (by decide))
                    refine r_iload rfl rfl ?_
                    refine WR_tI (y := nI k5) ek5 ?_
                    refine r_ic (x := 6) rfl rfl ?_
                    refine r_icmp_ne (tg := 71) rfl rfl (fun q => False.elim (by have := i_nlt c4; have := i_rg o; have : (0 : Int32).toInt = 0 := rfl; have := i_eq ek5; have : (nI k5).toInt = ((k5 : Nat) : Int) := nI_toInt (by omega); have := i_le c6; have : (13 : Int32).toInt = 13 := rfl; have := i_eq c7; have : (6 : Int32).toInt = 6 := rfl; have := i_neq q; omega)) (fun _ => ?_)
                    refine r_iload rfl rfl ?_
                    refine WR_tI (y := nI k17) ek17 ?_
                    refine r_i2l rfl ?_
                    refine WR_tL (y := lN k17) (nI_l (by have := i_nlt c16; have := i_rg a; have : (1 : Int32).toInt = 1 := rfl; have := i_eq ek17; have : (nI k17).toInt = ((k17 : Nat) : Int) := nI_toInt (by omega); have := i_nlt c18; have : (8 : Int32).toInt = 8 := rfl; omega)) ?_
                    refine r_lc (x := 1) rfl rfl ?_
                    refine r_ldc (x := .long 8) rfl rfl ?_
                    refine r_cs (y := 155) (ra := [.long 8, .long 1, .long (lN k17)]) (rest := []) rfl ⟨⟨rfl, rfl⟩, by decide⟩ rfl rfl (Nat.le_of_ble_eq_true rfl) ?_
                    refine in_155 (Nat.le_of_ble_eq_true rfl) ?_
                    show WR _ cd_155 0 [some (.long (lN k17)), none, some (.long 1), none, some (.long 8), none] [] (sI (sI (sI (sI (sI (sI h (ad 0) 6 0) (ad 10) (64 * k2 + 4 * l19) (nI k5)) (ad 10) (64 * k2 + 4 * l19 + 1) (nI k17)) (ad 10) (64 * k2 + 4 * l19 + 2) b) (ad 10) (64 * k2 + 4 * l19 + 3) c) (ad 11) k2 (nI (l19 + 1))) _
                    refine r_lload rfl rfl ?_
                    refine r_lload rfl rfl ?_
                    refine r_lif_lt (tg := 17) rfl rfl rfl (fun q => False.elim (by have := i_nlt c16; have := i_rg a; have : (1 : Int32).toInt = 1 := rfl; have := i_eq ek17; have : (nI k17).toInt = ((k17 : Nat) : Int) := nI_toInt (by omega); have := i_nlt c18; have : (8 : Int32).toInt = 8 := rfl; have : (lN k17).toInt = ((k17 : Nat) : Int) := lN_toInt (by omega); have : (1 : Int64).toInt = 1 := rfl; have := l_lt q; omega)) (fun _ => ?_)
                    refine r_lload rfl rfl ?_
                    refine r_lload rfl rfl ?_
                    refine r_lif_gt (tg := 17) rfl rfl rfl (fun q => False.elim (by have := i_nlt c16; have := i_rg a; have : (1 : Int32).toInt = 1 := rfl; have := i_eq ek17; have : (nI k17).toInt = ((k17 : Nat) : Int) := nI_toInt (by omega); have := i_nlt c18; have : (8 : Int32).toInt = 8 := rfl; have : (lN k17).toInt = ((k17 : Nat) : Int) := lN_toInt (by omega); have : (8 : Int64).toInt = 8 := rfl; have := l_lt q; omega)) (fun _ => ?_)
                    refine r_ic (x := 1) rfl rfl ?_
                    refine r_goto (tg := 18) rfl rfl ?_
                    refine r_zret rfl (.inr rfl) ?_
                    show WR _ cd_203 68 [some (.ref (ad 30)), some (.int p), some (.int o), some (.int a), some (.int b), some (.int c), none] [.int 1] (sI (sI (sI (sI (sI (sI h (ad 0) 6 0) (ad 10) (64 * k2 + 4 * l19) (nI k5)) (ad 10) (64 * k2 + 4 * l19 + 1) (nI k17)) (ad 10) (64 * k2 + 4 * l19 + 2) b) (ad 10) (64 * k2 + 4 * l19 + 3) c) (ad 11) k2 (nI (l19 + 1))) _
                    refine r_if_eq (tg := 90) rfl rfl (fun q => absurd q (by decide)) (fun _ => ?_)
                    refine r_iload rfl rfl ?_
                    refine WR_tI (y := nI k5) ek5 ?_
                    refine r_ic (x := 8) rfl rfl ?_
                    refine r_icmp_ne (tg := 97) rfl rfl (fun _ => ?_) (fun q => False.elim (by have := i_nlt c4; have := i_rg o; have : (0 : Int32).toInt = 0 := rfl; have := i_eq ek5; have : (nI k5).toInt = ((k5 : Nat) : Int) := nI_toInt (by omega); have := i_le c6; have : (13 : Int32).toInt = 13 := rfl; have := i_eq c7; have : (6 : Int32).toInt = 6 := rfl; have : (8 : Int32).toInt = 8 := rfl; have := i_eq q; omega))
                    refine r_aload rfl rfl ?_
                    refine r_getA (b := ad 43) rfl ⟨rfl, rfl, rfl⟩ (fx_t30 fx) (fx_r30_18 fx) ?_
                    refine r_iload rfl rfl ?_
                    refine WR_tI (y := nI k2) ek2 ?_
                    refine r_iaload rfl (.inl (fx_t43 fx)) (vp_ct (fx_n43 fx) (vp_in_nI (by have := i_nlt c1; have := i_rg p; have : (0 : Int32).toInt = 0 := rfl; have := i_eq ek2; have : (nI k2).toInt = ((k2 : Nat) : Int) := nI_toInt (by omega); have := i_nle c3; have : (10 : Int32).toInt = 10 := rfl; omega) (by omega))) ?_
                    refine WR_tI (congrArg (hI (sI (sI (sI (sI (sI (sI h (ad 0) 6 0) (ad 10) (64 * k2 + 4 * l19) (nI k5)) (ad 10) (64 * k2 + 4 * l19 + 1) (nI k17)) (ad 10) (64 * k2 + 4 * l19 + 2) b) (ad 10) (64 * k2 + 4 * l19 + 3) c) (ad 11) k2 (nI (l19 + 1))) (ad 43)) ((nI_clamp (by have := i_nlt c1; have := i_rg p; have : (0 : Int32).toInt = 0 := rfl; have := i_eq ek2; have : (nI k2).toInt = ((k2 : Nat) : Int) := nI_toInt (by omega); have := i_nle c3; have : (10 : Int32).toInt = 10 := rfl; omega)) : _ = k2)) ?_
                    refine WR_tI (y := nI l19) (Eq.trans (I_ne (fx_ne fx (by decide))) (Eq.trans (I_ne (fx_ne fx (by decide))) (Eq.trans (I_ne (fx_ne fx (by decide))) (Eq.trans (I_ne (fx_ne fx (by decide))) (Eq.trans (I_ne (fx_ne fx (by decide))) (Eq.trans (I_ne (fx_ne fx (by decide))) p2_19)))))) ?_
                    refine r_ic (x := 16) rfl rfl ?_
                    refine r_icmp_ne (tg := 115) rfl rfl (fun _ => ?_) (fun q => False.elim (by have := i_lt c20; have : (nI l19).toInt = ((l19 : Nat) : Int) := nI_toInt (by omega); have : (16 : Int32).toInt = 16 := rfl; have := i_eq q; omega))
                    refine WR_lv (lv2 := [some (.ref (ad 30)), some (.int (nI k2)), some (.int (nI k5)), some (.int (nI k17)), some (.int b), some (.int c), none]) (by rw [ek2, ek5, ek17]) ?_
                    refine c_mstepT (h := sI (sI (sI (sI (sI (sI h (ad 0) 6 0) (ad 10) (64 * k2 + 4 * l19) (nI k5)) (ad 10) (64 * k2 + 4 * l19 + 1) (nI k17)) (ad 10) (64 * k2 + 4 * l19 + 2) b) (ad 10) (64 * k2 + 4 * l19 + 3) c) (ad 11) k2 (nI (l19 + 1))) (p := k2) (l := l19) fx (by have := i_nlt c1; have := i_rg p; have : (0 : Int32).toInt = 0 := rfl; have := i_eq ek2; have : (nI k2).toInt = ((k2 : Nat) : Int) := nI_toInt (by omega); have := i_nle c3; have : (10 : Int32).toInt = 10 := rfl; omega) (by have := i_lt c20; have : (nI l19).toInt = ((l19 : Nat) : Int) := nI_toInt (by omega); have : (16 : Int32).toInt = 16 := rfl; omega) (Eq.trans (I_ne (fx_ne fx (by decide))) (Eq.trans (I_ne (fx_ne fx (by decide))) (Eq.trans (I_ne (fx_ne fx (by decide))) (Eq.trans (I_ne (fx_ne fx (by decide))) (Eq.trans (I_ne (fx_ne fx (by decide))) (Eq.trans (I_ne (fx_ne fx (by decide))) p2_19)))))) ?_
                    have fx : FX n ad sa z0 (sI (sI (sI (sI (sI (sI (sI (sI (sI (sI (sI (sI h (ad 0) 6 0) (ad 10) (64 * k2 + 4 * l19) (nI k5)) (ad 10) (64 * k2 + 4 * l19 + 1) (nI k17)) (ad 10) (64 * k2 + 4 * l19 + 2) b) (ad 10) (64 * k2 + 4 * l19 + 3) c) (ad 11) k2 (nI (l19 + 1))) (ad 44) (16 * k2 + l19) (nI k5)) (ad 45) (16 * k2 + l19) (nI k17)) (ad 46) (16 * k2 + l19) b) (ad 47) (16 * k2 + l19) c) (ad 43) k2 (nI (l19 + 1))) (ad 30) 11 0) := (FX.sI (FX.sI (FX.sI (FX.sI (FX.sI (FX.sI fx))))))
                    have cg : Chg n ad [(30, 11), (0, 6)] [43, 47, 46, 45, 44, 11, 10, 10, 10, 10] h (sI (sI (sI (sI (sI (sI (sI (sI (sI (sI (sI (sI h (ad 0) 6 0) (ad 10) (64 * k2 + 4 * l19) (nI k5)) (ad 10) (64 * k2 + 4 * l19 + 1) (nI k17)) (ad 10) (64 * k2 + 4 * l19 + 2) b) (ad 10) (64 * k2 + 4 * l19 + 3) c) (ad 11) k2 (nI (l19 + 1))) (ad 44) (16 * k2 + l19) (nI k5)) (ad 45) (16 * k2 + l19) (nI k17)) (ad 46) (16 * k2 + l19) b) (ad 47) (16 * k2 + l19) c) (ad 43) k2 (nI (l19 + 1))) (ad 30) 11 0) := ((((((((((((Chg.rf.sI (fx_j fx0) (k := 6) (v := 0) (.inl (by decide))).sI (fx_j fx0) (k := 64 * k2 + 4 * l19) (v := nI k5) (.inl (by decide))).row.sI (fx_j fx0) (k := 64 * k2 + 4 * l19 + 1) (v := nI k17) (.inl (by decide))).row.sI (fx_j fx0) (k := 64 * k2 + 4 * l19 + 2) (v := b) (.inl (by decide))).row.sI (fx_j fx0) (k := 64 * k2 + 4 * l19 + 3) (v := c) (.inl (by decide))).row.sI (fx_j fx0) (k := k2) (v := nI (l19 + 1)) (.inl (by decide))).row.sI (fx_j fx0) (k := 16 * k2 + l19) (v := nI k5) (.inl (by decide))).row.sI (fx_j fx0) (k := 16 * k2 + l19) (v := nI k17) (.inl (by decide))).row.sI (fx_j fx0) (k := 16 * k2 + l19) (v := b) (.inl (by decide))).row.sI (fx_j fx0) (k := 16 * k2 + l19) (v := c) (.inl (by decide))).row.sI (fx_j fx0) (k := k2) (v := nI (l19 + 1)) (.inl (by decide))).row.sI (fx_j fx0) (k := 11) (v := 0) (.inl (by decide)))
                    refine ⟨rfl, ⟨mid, pa, np, FX.k fx0 cg.1 cg.2.1 cg.2.2 (by decide +kernel), Eq.trans (Eq.trans (I_ne (fx_ne fx (by decide +kernel))) (Eq.trans (I_ne (fx_ne fx (by decide +kernel))) (Eq.trans (I_ne (fx_ne fx (by decide +kernel))) (Eq.trans (I_ne (fx_ne fx (by decide +kernel))) (Eq.trans (I_ne (fx_ne fx (by decide +kernel))) (Eq.trans (I_ne (fx_ne fx (by decide +kernel))) (Eq.trans (I_ne (fx_ne fx (by decide +kernel))) (Eq.trans (I_ne (fx_ne fx (by decide +kernel))) (Eq.trans (I_ne (fx_ne fx (by decide +kernel))) (Eq.trans (I_ne (fx_ne fx (by decide +kernel))) (Eq.trans (I_ne (fx_ne fx (by decide +kernel))) I_eq))))))))))) (Eq.symm I_eq), rt.k cg.2.1 (by decide +kernel), ra.k cg.2.1 (by decide +kernel), ?_, rf.k cg.2.1 (by decide +kernel), Rst.k fx0 rst cg.2.2, Ru.k fx0 ru cg.2.1 (by decide +kernel), Rs.k fx0 rs cg.1 cg.2.1 cg.2.2 (by decide +kernel)⟩, ?_, ?_⟩
                    · refine Rp.push rp (p := k2) (l := l19) (op := nI k5) (a := nI k17) (b := b) (c := c) (by have := i_nlt c1; have := i_rg p; have : (0 : Int32).toInt = 0 := rfl; have := i_eq ek2; have : (nI k2).toInt = ((k2 : Nat) : Int) := nI_toInt (by omega); have := i_nle c3; have : (10 : Int32).toInt = 10 := rfl; omega) (by have := i_lt c20; have : (nI l19).toInt = ((l19 : Nat) : Int) := nI_toInt (by omega); have : (16 : Int32).toInt = 16 := rfl; omega) p1_19 ⟨⟨(fun q_ => False.elim (by have := i_nlt c4; have := i_rg o; have : (0 : Int32).toInt = 0 := rfl; have := i_eq ek5; have : (nI k5).toInt = ((k5 : Nat) : Int) := nI_toInt (by omega); have := i_le c6; have : (13 : Int32).toInt = 13 := rfl; have := i_eq c7; have : (6 : Int32).toInt = 6 := rfl; have := i_lt q_; omega)), (Int32.le_iff_toInt_le.mpr (by have := i_nlt c4; have := i_rg o; have : (0 : Int32).toInt = 0 := rfl; have := i_eq ek5; have : (nI k5).toInt = ((k5 : Nat) : Int) := nI_toInt (by omega); have := i_le c6; have : (13 : Int32).toInt = 13 := rfl; have := i_eq c7; have : (6 : Int32).toInt = 6 := rfl; omega))⟩, kn.1, kn.2.1, (fun e_ => False.elim (by have := i_nlt c4; have := i_rg o; have : (0 : Int32).toInt = 0 := rfl; have := i_eq ek5; have : (nI k5).toInt = ((k5 : Nat) : Int) := nI_toInt (by omega); have := i_le c6; have : (13 : Int32).toInt = 13 := rfl; have := i_eq c7; have : (6 : Int32).toInt = 6 := rfl; have := i_eq e_; have : (8 : Int32).toInt = 8 := rfl; omega)), kn.2.2.2.1, kn.2.2.2.2.1, kn.2.2.2.2.2.1, kn.2.2.2.2.2.2, (fun _ => ⟨(fun q_ => False.elim (by have := i_nlt c16; have := i_rg a; have : (1 : Int32).toInt = 1 := rfl; have := i_eq ek17; have : (nI k17).toInt = ((k17 : Nat) : Int) := nI_toInt (by omega); have := i_nlt c18; have : (8 : Int32).toInt = 8 := rfl; have := i_lt q_; omega)), (Int32.le_iff_toInt_le.mpr (by have := i_nlt c16; have := i_rg a; have : (1 : Int32).toInt = 1 := rfl; have := i_eq ek17; have : (nI k17).toInt = ((k17 : Nat) : Int) := nI_toInt (by omega); have := i_nlt c18; have : (8 : Int32).toInt = 8 := rfl; omega))⟩)⟩ ?_ ?_ ?_ ?_ ?_ ?_ ?_
                      · intro q_; simp only [hI_sI, fx_ij fx0, Nat.reduceEqDiff, false_and, true_and, if_false]
                      · intro q_; simp only [hI_sI, fx_ij fx0, Nat.reduceEqDiff, false_and, true_and, if_false]
                      · intro q_; simp only [hI_sI, fx_ij fx0, Nat.reduceEqDiff, false_and, true_and, if_false]
                      · intro q_; simp only [hI_sI, fx_ij fx0, Nat.reduceEqDiff, false_and, true_and, if_false]
                      · intro q_; simp only [hI_sI, fx_ij fx0, Nat.reduceEqDiff, false_and, true_and, if_false]
                      · intro q_; simp only [hI_sI, fx_ij fx0, Nat.reduceEqDiff, false_and, true_and, if_false]
                      · intro q_; simp only [hI_sI, fx_ij fx0, Nat.reduceEqDiff, false_and, true_and, if_false]
                    · simp only [hZ_sI, hZ_sL, hZ_sD, hZ_sR]; omega
                    · simp only [hU_sI, hU_sL, hU_sD, hU_sR]; omega
                  · refine r_aload rfl rfl ?_
                    refine r_ic (x := (-5)) rfl rfl ?_
                    refine r_cv (y := 13) (ra := [.int (-5)]) (rest := []) rfl ⟨⟨rfl, rfl⟩, rfl, by decide⟩ (fx_t0 fx) rfl rfl (Nat.le_of_ble_eq_true rfl) ?_
                    refine in_13 (Nat.le_of_ble_eq_true rfl) ?_
                    show WR _ cd_13 0 [some (.ref (ad 0)), some (.int (-5))] [] (sI h (ad 0) 6 0) _
                    refine r_aload rfl rfl ?_
                    refine r_iload rfl rfl ?_
                    refine r_putI rfl ⟨rfl, rfl, rfl⟩ (fx_t0 fx) ?_
                    have fx : FX n ad sa z0 (sI (sI h (ad 0) 6 0) (ad 0) 6 (-5)) := (FX.sI fx)
                    refine r_iload rfl rfl ?_
                    refine r_iret rfl ?_
                    show WR _ cd_92 118 [some (.ref (ad 0)), some (.int p), some (.int o), some (.int a), some (.int b), some (.int c)] [.int (-5)] (sI (sI h (ad 0) 6 0) (ad 0) 6 (-5)) _
                    refine r_iret rfl ?_
                    show EV _ 203 [.ref (ad 30), .int p, .int o, .int a, .int b, .int c] (sI (sI h (ad 0) 6 0) (ad 0) 6 (-5)) _
                    refine in_203 (Nat.le_of_ble_eq_true rfl) ?_
                    show WR _ cd_203 0 [some (.ref (ad 30)), some (.int p), some (.int o), some (.int a), some (.int b), some (.int c), none] [] (sI (sI h (ad 0) 6 0) (ad 0) 6 (-5)) _
                    refine r_iload rfl rfl ?_
                    refine WR_tI (y := nI k2) ek2 ?_
                    refine r_cs (y := 204) (ra := [.int (nI k2)]) (rest := []) rfl ⟨⟨rfl, rfl⟩, by decide⟩ rfl rfl (Nat.le_of_ble_eq_true rfl) ?_
                    refine in_204 (Nat.le_of_ble_eq_true rfl) ?_
                    show WR _ cd_204 0 [some (.int (nI k2))] [] (sI (sI h (ad 0) 6 0) (ad 0) 6 (-5)) _
                    refine r_iload rfl rfl ?_
                    refine r_if_lt (tg := 14) rfl rfl (fun q => False.elim (by have := i_nlt c1; have := i_rg p; have : (0 : Int32).toInt = 0 := rfl; have := i_eq ek2; have : (nI k2).toInt = ((k2 : Nat) : Int) := nI_toInt (by omega); have := i_nle c3; have : (10 : Int32).toInt = 10 := rfl; have := i_lt q; omega)) (fun _ => ?_)
                    refine r_iload rfl rfl ?_
                    refine r_ic (x := 10) rfl rfl ?_
                    refine r_icmp_ge (tg := 14) rfl rfl (fun q => False.elim (by have := i_nlt c1; have := i_rg p; have : (0 : Int32).toInt = 0 := rfl; have := i_eq ek2; have : (nI k2).toInt = ((k2 : Nat) : Int) := nI_toInt (by omega); have := i_nle c3; have : (10 : Int32).toInt = 10 := rfl; have := i_le q; omega)) (fun _ => ?_)
                    refine r_ic (x := 1) rfl rfl ?_
                    refine r_goto (tg := 15) rfl rfl ?_
                    refine r_zret rfl (.inr rfl) ?_
                    show WR _ cd_203 4 [some (.ref (ad 30)), some (.int p), some (.int o), some (.int a), some (.int b), some (.int c), none] [.int 1] (sI (sI h (ad 0) 6 0) (ad 0) 6 (-5)) _
                    refine r_if_ne (tg := 14) rfl rfl (fun _ => ?_) (fun q => absurd q (by decide))
                    refine r_iload rfl rfl ?_
                    refine WR_tI (y := nI k5) ek5 ?_
                    refine r_i2l rfl ?_
                    refine WR_tL (y := lN k5) (nI_l (by have := i_nlt c4; have := i_rg o; have : (0 : Int32).toInt = 0 := rfl; have := i_eq ek5; have : (nI k5).toInt = ((k5 : Nat) : Int) := nI_toInt (by omega); have := i_le c6; have : (13 : Int32).toInt = 13 := rfl; have := i_eq c7; have : (6 : Int32).toInt = 6 := rfl; omega)) ?_
                    refine r_lc (x := 0) rfl rfl ?_
                    refine r_ldc (x := .long 13) rfl rfl ?_
                    refine r_cs (y := 155) (ra := [.long 13, .long 0, .long (lN k5)]) (rest := []) rfl ⟨⟨rfl, rfl⟩, by decide⟩ rfl rfl (Nat.le_of_ble_eq_true rfl) ?_
                    refine in_155 (Nat.le_of_ble_eq_true rfl) ?_
                    show WR _ cd_155 0 [some (.long (lN k5)), none, some (.long 0), none, some (.long 13), none] [] (sI (sI h (ad 0) 6 0) (ad 0) 6 (-5)) _
                    refine r_lload rfl rfl ?_
                    refine r_lload rfl rfl ?_
                    refine r_lif_lt (tg := 17) rfl rfl rfl (fun q => False.elim (by have := i_nlt c4; have := i_rg o; have : (0 : Int32).toInt = 0 := rfl; have := i_eq ek5; have : (nI k5).toInt = ((k5 : Nat) : Int) := nI_toInt (by omega); have := i_le c6; have : (13 : Int32).toInt = 13 := rfl; have := i_eq c7; have : (6 : Int32).toInt = 6 := rfl; have : (lN k5).toInt = ((k5 : Nat) : Int) := lN_toInt (by omega); have : (0 : Int64).toInt = 0 := rfl; have := l_lt q; omega)) (fun _ => ?_)
                    refine r_lload rfl rfl ?_
                    refine r_lload rfl rfl ?_
                    refine r_lif_gt (tg := 17) rfl rfl rfl (fun q => False.elim (by have := i_nlt c4; have := i_rg o; have : (0 : Int32).toInt = 0 := rfl; have := i_eq ek5; have : (nI k5).toInt = ((k5 : Nat) : Int) := nI_toInt (by omega); have := i_le c6; have : (13 : Int32).toInt = 13 := rfl; have := i_eq c7; have : (6 : Int32).toInt = 6 := rfl; have : (lN k5).toInt = ((k5 : Nat) : Int) := lN_toInt (by omega); have : (13 : Int64).toInt = 13 := rfl; have := l_lt q; omega)) (fun _ => ?_)
                    refine r_ic (x := 1) rfl rfl ?_
                    refine r_goto (tg := 18) rfl rfl ?_
                    refine r_zret rfl (.inr rfl) ?_
                    show WR _ cd_203 23 [some (.ref (ad 30)), some (.int p), some (.int o), some (.int a), some (.int b), some (.int c), none] [.int 1] (sI (sI h (ad 0) 6 0) (ad 0) 6 (-5)) _
                    refine r_if_ne (tg := 33) rfl rfl (fun _ => ?_) (fun q => absurd q (by decide))
                    refine r_aload rfl rfl ?_
                    refine r_iload rfl rfl ?_
                    refine WR_tI (y := nI k5) ek5 ?_
                    refine r_iload rfl rfl ?_
                    refine WR_tI (y := nI k17) ek17 ?_
                    refine r_iload rfl rfl ?_
                    refine r_iload rfl rfl ?_
                    refine r_cv (y := 205) (ra := [.int c, .int b, .int (nI k17), .int (nI k5)]) (rest := []) rfl ⟨⟨rfl, rfl⟩, rfl, by decide⟩ (fx_t30 fx) rfl rfl (Nat.le_of_ble_eq_true rfl) ?_
                    try rw [ek5] at kn
                    try rw [ek17] at kn
                    refine c_mknown (h := sI (sI h (ad 0) 6 0) (ad 0) 6 (-5)) (o := nI k5) fx (Eq.trans (I_ne (fx_ne fx (by decide))) (Eq.trans (I_ne (fx_ne fx (by decide))) ru.1)) (by have := i_nlt c4; have := i_rg o; have : (0 : Int32).toInt = 0 := rfl; have := i_eq ek5; have : (nI k5).toInt = ((k5 : Nat) : Int) := nI_toInt (by omega); have := i_le c6; have : (13 : Int32).toInt = 13 := rfl; have := i_eq c7; have : (6 : Int32).toInt = 6 := rfl; omega) (fun _ => ?_) (fun z => absurd kn z)
                    show WR _ cd_203 43 [some (.ref (ad 30)), some (.int p), some (.int o), some (.int a), some (.int b), some (.int c), none] [.int 1] (sI (sI h (ad 0) 6 0) (ad 0) 6 (-5)) _
                    refine r_if_ne (tg := 53) rfl rfl (fun _ => ?_) (fun q => absurd q (by decide))
                    refine r_iload rfl rfl ?_
                    refine WR_tI (y := nI k5) ek5 ?_
                    refine r_ic (x := 6) rfl rfl ?_
                    refine r_icmp_ne (tg := 71) rfl rfl (fun q => False.elim (by have := i_nlt c4; have := i_rg o; have : (0 : Int32).toInt = 0 := rfl; have := i_eq ek5; have : (nI k5).toInt = ((k5 : Nat) : Int) := nI_toInt (by omega); have := i_le c6; have : (13 : Int32).toInt = 13 := rfl; have := i_eq c7; have : (6 : Int32).toInt = 6 := rfl; have := i_neq q; omega)) (fun _ => ?_)
                    refine r_iload rfl rfl ?_
                    refine WR_tI (y := nI k17) ek17 ?_
                    refine r_i2l rfl ?_
                    refine WR_tL (y := lN k17) (nI_l (by have := i_nlt c16; have := i_rg a; have : (1 : Int32).toInt = 1 := rfl; have := i_eq ek17; have : (nI k17).toInt = ((k17 : Nat) : Int) := nI_toInt (by omega); have := i_nlt c18; have : (8 : Int32).toInt = 8 := rfl; omega)) ?_
                    refine r_lc (x := 1) rfl rfl ?_
                    refine r_ldc (x := .long 8) rfl rfl ?_
                    refine r_cs (y := 155) (ra := [.long 8, .long 1, .long (lN k17)]) (rest := []) rfl ⟨⟨rfl, rfl⟩, by decide⟩ rfl rfl (Nat.le_of_ble_eq_true rfl) ?_
                    refine in_155 (Nat.le_of_ble_eq_true rfl) ?_
                    show WR _ cd_155 0 [some (.long (lN k17)), none, some (.long 1), none, some (.long 8), none] [] (sI (sI h (ad 0) 6 0) (ad 0) 6 (-5)) _
                    refine r_lload rfl rfl ?_
                    refine r_lload rfl rfl ?_
                    refine r_lif_lt (tg := 17) rfl rfl rfl (fun q => False.elim (by have := i_nlt c16; have := i_rg a; have : (1 : Int32).toInt = 1 := rfl; have := i_eq ek17; have : (nI k17).toInt = ((k17 : Nat) : Int) := nI_toInt (by omega); have := i_nlt c18; have : (8 : Int32).toInt = 8 := rfl; have : (lN k17).toInt = ((k17 : Nat) : Int) := lN_toInt (by omega); have : (1 : Int64).toInt = 1 := rfl; have := l_lt q; omega)) (fun _ => ?_)
                    refine r_lload rfl rfl ?_
                    refine r_lload rfl rfl ?_
                    refine r_lif_gt (tg := 17) rfl rfl rfl (fun q => False.elim (by have := i_nlt c16; have := i_rg a; have : (1 : Int32).toInt = 1 := rfl; have := i_eq ek17; have : (nI k17).toInt = ((k17 : Nat) : Int) := nI_toInt (by omega); have := i_nlt c18; have : (8 : Int32).toInt = 8 := rfl; have : (lN k17).toInt = ((k17 : Nat) : Int) := lN_toInt (by omega); have : (8 : Int64).toInt = 8 := rfl; have := l_lt q; omega)) (fun _ => ?_)
                    refine r_ic (x := 1) rfl rfl ?_
                    refine r_goto (tg := 18) rfl rfl ?_
                    refine r_zret rfl (.inr rfl) ?_
                    show WR _ cd_203 68 [some (.ref (ad 30)), some (.int p), some (.int o), some (.int a), some (.int b), some (.int c), none] [.int 1] (sI (sI h (ad 0) 6 0) (ad 0) 6 (-5)) _
                    refine r_if_eq (tg := 90) rfl rfl (fun q => absurd q (by decide)) (fun _ => ?_)
                    refine r_iload rfl rfl ?_
                    refine WR_tI (y := nI k5) ek5 ?_
                    refine r_ic (x := 8) rfl rfl ?_
                    refine r_icmp_ne (tg := 97) rfl rfl (fun _ => ?_) (fun q => False.elim (by have := i_nlt c4; have := i_rg o; have : (0 : Int32).toInt = 0 := rfl; have := i_eq ek5; have : (nI k5).toInt = ((k5 : Nat) : Int) := nI_toInt (by omega); have := i_le c6; have : (13 : Int32).toInt = 13 := rfl; have := i_eq c7; have : (6 : Int32).toInt = 6 := rfl; have : (8 : Int32).toInt = 8 := rfl; have := i_eq q; omega))
                    refine r_aload rfl rfl ?_
                    refine r_getA (b := ad 43) rfl ⟨rfl, rfl, rfl⟩ (fx_t30 fx) (fx_r30_18 fx) ?_
                    refine r_iload rfl rfl ?_
                    refine WR_tI (y := nI k2) ek2 ?_
                    refine r_iaload rfl (.inl (fx_t43 fx)) (vp_ct (fx_n43 fx) (vp_in_nI (by have := i_nlt c1; have := i_rg p; have : (0 : Int32).toInt = 0 := rfl; have := i_eq ek2; have : (nI k2).toInt = ((k2 : Nat) : Int) := nI_toInt (by omega); have := i_nle c3; have : (10 : Int32).toInt = 10 := rfl; omega) (by omega))) ?_
                    refine WR_tI (congrArg (hI (sI (sI h (ad 0) 6 0) (ad 0) 6 (-5)) (ad 43)) ((nI_clamp (by have := i_nlt c1; have := i_rg p; have : (0 : Int32).toInt = 0 := rfl; have := i_eq ek2; have : (nI k2).toInt = ((k2 : Nat) : Int) := nI_toInt (by omega); have := i_nle c3; have : (10 : Int32).toInt = 10 := rfl; omega)) : _ = k2)) ?_
                    refine WR_tI (y := nI l19) (Eq.trans (I_ne (fx_ne fx (by decide))) (Eq.trans (I_ne (fx_ne fx (by decide))) p2_19)) ?_
                    refine r_ic (x := 16) rfl rfl ?_
                    refine r_icmp_ne (tg := 115) rfl rfl (fun q => False.elim (by have := i_nlt c20; have : (nI l19).toInt = ((l19 : Nat) : Int) := nI_toInt (by omega); have : (16 : Int32).toInt = 16 := rfl; have := i_neq q; omega)) (fun _ => ?_)
                    refine r_aload rfl rfl ?_
                    refine r_ic (x := (-5)) rfl rfl ?_
                    refine r_cv (y := 154) (ra := [.int (-5)]) (rest := []) rfl ⟨⟨rfl, rfl⟩, rfl, by decide⟩ (fx_t30 fx) rfl rfl (Nat.le_of_ble_eq_true rfl) ?_
                    refine in_154 (Nat.le_of_ble_eq_true rfl) ?_
                    show WR _ cd_154 0 [some (.ref (ad 30)), some (.int (-5))] [] (sI (sI h (ad 0) 6 0) (ad 0) 6 (-5)) _
                    refine r_aload rfl rfl ?_
                    refine r_iload rfl rfl ?_
                    refine r_ic (x := (-1)) rfl rfl ?_
                    refine r_icmp_ge (tg := 10) rfl rfl (fun q => absurd q (by decide)) (fun _ => ?_)
                    refine r_iload rfl rfl ?_
                    refine r_goto (tg := 11) rfl rfl ?_
                    refine r_putI rfl ⟨rfl, rfl, rfl⟩ (fx_t30 fx) ?_
                    have fx : FX n ad sa z0 (sI (sI (sI h (ad 0) 6 0) (ad 0) 6 (-5)) (ad 30) 11 (-5)) := (FX.sI fx)
                    refine r_iload rfl rfl ?_
                    refine r_iret rfl ?_
                    show WR _ cd_203 114 [some (.ref (ad 30)), some (.int p), some (.int o), some (.int a), some (.int b), some (.int c), none] [.int (-5)] (sI (sI (sI h (ad 0) 6 0) (ad 0) 6 (-5)) (ad 30) 11 (-5)) _
                    refine r_iret rfl ?_
                    exact ⟨rfl, Rel.why r (((Chg.rf.sI (fx_j fx) (.inl (by decide))).sI (fx_j fx) (.inl (by decide))).sI (fx_j fx) (.inl (by decide))) ⟨rfl, by decide⟩ (Eq.trans (Eq.trans (I_ne (fx_ne fx (by decide))) I_eq) (Eq.symm I_eq)), Nat.le_add_right _ _, Nat.le_add_right _ _⟩
          · show WR _ cd_92 46 [some (.ref (ad 0)), some (.int p), some (.int o), some (.int a), some (.int b), some (.int c)] [.int 0] (sI h (ad 0) 6 0) _
            refine r_if_ne (tg := 56) rfl rfl (fun q => absurd q (by decide)) (fun _ => ?_)
            refine r_aload rfl rfl ?_
            refine r_ic (x := (-2)) rfl rfl ?_
            refine r_cv (y := 13) (ra := [.int (-2)]) (rest := []) rfl ⟨⟨rfl, rfl⟩, rfl, by decide⟩ (fx_t0 fx) rfl rfl (Nat.le_of_ble_eq_true rfl) ?_
            refine in_13 (Nat.le_of_ble_eq_true rfl) ?_
            show WR _ cd_13 0 [some (.ref (ad 0)), some (.int (-2))] [] (sI h (ad 0) 6 0) _
            refine r_aload rfl rfl ?_
            refine r_iload rfl rfl ?_
            refine r_putI rfl ⟨rfl, rfl, rfl⟩ (fx_t0 fx) ?_
            have fx : FX n ad sa z0 (sI (sI h (ad 0) 6 0) (ad 0) 6 (-2)) := (FX.sI fx)
            refine r_iload rfl rfl ?_
            refine r_iret rfl ?_
            show WR _ cd_92 55 [some (.ref (ad 0)), some (.int p), some (.int o), some (.int a), some (.int b), some (.int c)] [.int (-2)] (sI (sI h (ad 0) 6 0) (ad 0) 6 (-2)) _
            refine r_iret rfl ?_
            show EV _ 203 [.ref (ad 30), .int p, .int o, .int a, .int b, .int c] (sI (sI h (ad 0) 6 0) (ad 0) 6 (-2)) _
            refine in_203 (Nat.le_of_ble_eq_true rfl) ?_
            show WR _ cd_203 0 [some (.ref (ad 30)), some (.int p), some (.int o), some (.int a), some (.int b), some (.int c), none] [] (sI (sI h (ad 0) 6 0) (ad 0) 6 (-2)) _
            refine r_iload rfl rfl ?_
            refine WR_tI (y := nI k2) ek2 ?_
            refine r_cs (y := 204) (ra := [.int (nI k2)]) (rest := []) rfl ⟨⟨rfl, rfl⟩, by decide⟩ rfl rfl (Nat.le_of_ble_eq_true rfl) ?_
            refine in_204 (Nat.le_of_ble_eq_true rfl) ?_
            show WR _ cd_204 0 [some (.int (nI k2))] [] (sI (sI h (ad 0) 6 0) (ad 0) 6 (-2)) _
            refine r_iload rfl rfl ?_
            refine r_if_lt (tg := 14) rfl rfl (fun q => False.elim (by have := i_nlt c1; have := i_rg p; have : (0 : Int32).toInt = 0 := rfl; have := i_eq ek2; have : (nI k2).toInt = ((k2 : Nat) : Int) := nI_toInt (by omega); have := i_nle c3; have : (10 : Int32).toInt = 10 := rfl; have := i_lt q; omega)) (fun _ => ?_)
            refine r_iload rfl rfl ?_
            refine r_ic (x := 10) rfl rfl ?_
            refine r_icmp_ge (tg := 14) rfl rfl (fun q => False.elim (by have := i_nlt c1; have := i_rg p; have : (0 : Int32).toInt = 0 := rfl; have := i_eq ek2; have : (nI k2).toInt = ((k2 : Nat) : Int) := nI_toInt (by omega); have := i_nle c3; have : (10 : Int32).toInt = 10 := rfl; have := i_le q; omega)) (fun _ => ?_)
            refine r_ic (x := 1) rfl rfl ?_
            refine r_goto (tg := 15) rfl rfl ?_
            refine r_zret rfl (.inr rfl) ?_
            show WR _ cd_203 4 [some (.ref (ad 30)), some (.int p), some (.int o), some (.int a), some (.int b), some (.int c), none] [.int 1] (sI (sI h (ad 0) 6 0) (ad 0) 6 (-2)) _
            refine r_if_ne (tg := 14) rfl rfl (fun _ => ?_) (fun q => absurd q (by decide))
            refine r_iload rfl rfl ?_
            refine WR_tI (y := nI k5) ek5 ?_
            refine r_i2l rfl ?_
            refine WR_tL (y := lN k5) (nI_l (by have := i_nlt c4; have := i_rg o; have : (0 : Int32).toInt = 0 := rfl; have := i_eq ek5; have : (nI k5).toInt = ((k5 : Nat) : Int) := nI_toInt (by omega); have := i_le c6; have : (13 : Int32).toInt = 13 := rfl; omega)) ?_
            refine r_lc (x := 0) rfl rfl ?_
            refine r_ldc (x := .long 13) rfl rfl ?_
            refine r_cs (y := 155) (ra := [.long 13, .long 0, .long (lN k5)]) (rest := []) rfl ⟨⟨rfl, rfl⟩, by decide⟩ rfl rfl (Nat.le_of_ble_eq_true rfl) ?_
            refine in_155 (Nat.le_of_ble_eq_true rfl) ?_
            show WR _ cd_155 0 [some (.long (lN k5)), none, some (.long 0), none, some (.long 13), none] [] (sI (sI h (ad 0) 6 0) (ad 0) 6 (-2)) _
            refine r_lload rfl rfl ?_
            refine r_lload rfl rfl ?_
            refine r_lif_lt (tg := 17) rfl rfl rfl (fun q => False.elim (by have := i_nlt c4; have := i_rg o; have : (0 : Int32).toInt = 0 := rfl; have := i_eq ek5; have : (nI k5).toInt = ((k5 : Nat) : Int) := nI_toInt (by omega); have := i_le c6; have : (13 : Int32).toInt = 13 := rfl; have : (lN k5).toInt = ((k5 : Nat) : Int) := lN_toInt (by omega); have : (0 : Int64).toInt = 0 := rfl; have := l_lt q; omega)) (fun _ => ?_)
            refine r_lload rfl rfl ?_
            refine r_lload rfl rfl ?_
            refine r_lif_gt (tg := 17) rfl rfl rfl (fun q => False.elim (by have := i_nlt c4; have := i_rg o; have : (0 : Int32).toInt = 0 := rfl; have := i_eq ek5; have : (nI k5).toInt = ((k5 : Nat) : Int) := nI_toInt (by omega); have := i_le c6; have : (13 : Int32).toInt = 13 := rfl; have : (lN k5).toInt = ((k5 : Nat) : Int) := lN_toInt (by omega); have : (13 : Int64).toInt = 13 := rfl; have := l_lt q; omega)) (fun _ => ?_)
            refine r_ic (x := 1) rfl rfl ?_
            refine r_goto (tg := 18) rfl rfl ?_
            refine r_zret rfl (.inr rfl) ?_
            show WR _ cd_203 23 [some (.ref (ad 30)), some (.int p), some (.int o), some (.int a), some (.int b), some (.int c), none] [.int 1] (sI (sI h (ad 0) 6 0) (ad 0) 6 (-2)) _
            refine r_if_ne (tg := 33) rfl rfl (fun _ => ?_) (fun q => absurd q (by decide))
            refine r_aload rfl rfl ?_
            refine r_iload rfl rfl ?_
            refine WR_tI (y := nI k5) ek5 ?_
            refine r_iload rfl rfl ?_
            refine r_iload rfl rfl ?_
            refine r_iload rfl rfl ?_
            refine r_cv (y := 205) (ra := [.int c, .int b, .int a, .int (nI k5)]) (rest := []) rfl ⟨⟨rfl, rfl⟩, rfl, by decide⟩ (fx_t30 fx) rfl rfl (Nat.le_of_ble_eq_true rfl) ?_
            try rw [ek5] at kn
            refine c_mknown (h := sI (sI h (ad 0) 6 0) (ad 0) 6 (-2)) (o := nI k5) fx (Eq.trans (I_ne (fx_ne fx (by decide))) (Eq.trans (I_ne (fx_ne fx (by decide))) ru.1)) (by have := i_nlt c4; have := i_rg o; have : (0 : Int32).toInt = 0 := rfl; have := i_eq ek5; have : (nI k5).toInt = ((k5 : Nat) : Int) := nI_toInt (by omega); have := i_le c6; have : (13 : Int32).toInt = 13 := rfl; omega) (fun z => absurd z kn) (fun _ => ?_)
            show WR _ cd_203 43 [some (.ref (ad 30)), some (.int p), some (.int o), some (.int a), some (.int b), some (.int c), none] [.int 0] (sI (sI h (ad 0) 6 0) (ad 0) 6 (-2)) _
            refine r_if_ne (tg := 53) rfl rfl (fun q => absurd q (by decide)) (fun _ => ?_)
            refine r_aload rfl rfl ?_
            refine r_ic (x := (-2)) rfl rfl ?_
            refine r_cv (y := 154) (ra := [.int (-2)]) (rest := []) rfl ⟨⟨rfl, rfl⟩, rfl, by decide⟩ (fx_t30 fx) rfl rfl (Nat.le_of_ble_eq_true rfl) ?_
            refine in_154 (Nat.le_of_ble_eq_true rfl) ?_
            show WR _ cd_154 0 [some (.ref (ad 30)), some (.int (-2))] [] (sI (sI h (ad 0) 6 0) (ad 0) 6 (-2)) _
            refine r_aload rfl rfl ?_
            refine r_iload rfl rfl ?_
            refine r_ic (x := (-1)) rfl rfl ?_
            refine r_icmp_ge (tg := 10) rfl rfl (fun q => absurd q (by decide)) (fun _ => ?_)
            refine r_iload rfl rfl ?_
            refine r_goto (tg := 11) rfl rfl ?_
            refine r_putI rfl ⟨rfl, rfl, rfl⟩ (fx_t30 fx) ?_
            have fx : FX n ad sa z0 (sI (sI (sI h (ad 0) 6 0) (ad 0) 6 (-2)) (ad 30) 11 (-2)) := (FX.sI fx)
            refine r_iload rfl rfl ?_
            refine r_iret rfl ?_
            show WR _ cd_203 52 [some (.ref (ad 30)), some (.int p), some (.int o), some (.int a), some (.int b), some (.int c), none] [.int (-2)] (sI (sI (sI h (ad 0) 6 0) (ad 0) 6 (-2)) (ad 30) 11 (-2)) _
            refine r_iret rfl ?_
            exact ⟨rfl, Rel.why r (((Chg.rf.sI (fx_j fx) (.inl (by decide))).sI (fx_j fx) (.inl (by decide))).sI (fx_j fx) (.inl (by decide))) ⟨rfl, by decide⟩ (Eq.trans (Eq.trans (I_ne (fx_ne fx (by decide))) I_eq) (Eq.symm I_eq)), Nat.le_add_right _ _, Nat.le_add_right _ _⟩
        · refine r_aload rfl rfl ?_
          refine r_ic (x := (-3)) rfl rfl ?_
          refine r_cv (y := 13) (ra := [.int (-3)]) (rest := []) rfl ⟨⟨rfl, rfl⟩, rfl, by decide⟩ (fx_t0 fx) rfl rfl (Nat.le_of_ble_eq_true rfl) ?_
          refine in_13 (Nat.le_of_ble_eq_true rfl) ?_
          show WR _ cd_13 0 [some (.ref (ad 0)), some (.int (-3))] [] (sI h (ad 0) 6 0) _
          refine r_aload rfl rfl ?_
          refine r_iload rfl rfl ?_
          refine r_putI rfl ⟨rfl, rfl, rfl⟩ (fx_t0 fx) ?_
          have fx : FX n ad sa z0 (sI (sI h (ad 0) 6 0) (ad 0) 6 (-3)) := (FX.sI fx)
          refine r_iload rfl rfl ?_
          refine r_iret rfl ?_
          show WR _ cd_92 35 [some (.ref (ad 0)), some (.int p), some (.int o), some (.int a), some (.int b), some (.int c)] [.int (-3)] (sI (sI h (ad 0) 6 0) (ad 0) 6 (-3)) _
          refine r_iret rfl ?_
          show EV _ 203 [.ref (ad 30), .int p, .int o, .int a, .int b, .int c] (sI (sI h (ad 0) 6 0) (ad 0) 6 (-3)) _
          refine in_203 (Nat.le_of_ble_eq_true rfl) ?_
          show WR _ cd_203 0 [some (.ref (ad 30)), some (.int p), some (.int o), some (.int a), some (.int b), some (.int c), none] [] (sI (sI h (ad 0) 6 0) (ad 0) 6 (-3)) _
          refine r_iload rfl rfl ?_
          refine WR_tI (y := nI k2) ek2 ?_
          refine r_cs (y := 204) (ra := [.int (nI k2)]) (rest := []) rfl ⟨⟨rfl, rfl⟩, by decide⟩ rfl rfl (Nat.le_of_ble_eq_true rfl) ?_
          refine in_204 (Nat.le_of_ble_eq_true rfl) ?_
          show WR _ cd_204 0 [some (.int (nI k2))] [] (sI (sI h (ad 0) 6 0) (ad 0) 6 (-3)) _
          refine r_iload rfl rfl ?_
          refine r_if_lt (tg := 14) rfl rfl (fun q => False.elim (by have := i_nlt c1; have := i_rg p; have : (0 : Int32).toInt = 0 := rfl; have := i_eq ek2; have : (nI k2).toInt = ((k2 : Nat) : Int) := nI_toInt (by omega); have := i_nle c3; have : (10 : Int32).toInt = 10 := rfl; have := i_lt q; omega)) (fun _ => ?_)
          refine r_iload rfl rfl ?_
          refine r_ic (x := 10) rfl rfl ?_
          refine r_icmp_ge (tg := 14) rfl rfl (fun q => False.elim (by have := i_nlt c1; have := i_rg p; have : (0 : Int32).toInt = 0 := rfl; have := i_eq ek2; have : (nI k2).toInt = ((k2 : Nat) : Int) := nI_toInt (by omega); have := i_nle c3; have : (10 : Int32).toInt = 10 := rfl; have := i_le q; omega)) (fun _ => ?_)
          refine r_ic (x := 1) rfl rfl ?_
          refine r_goto (tg := 15) rfl rfl ?_
          refine r_zret rfl (.inr rfl) ?_
          show WR _ cd_203 4 [some (.ref (ad 30)), some (.int p), some (.int o), some (.int a), some (.int b), some (.int c), none] [.int 1] (sI (sI h (ad 0) 6 0) (ad 0) 6 (-3)) _
          refine r_if_ne (tg := 14) rfl rfl (fun _ => ?_) (fun q => absurd q (by decide))
          refine r_iload rfl rfl ?_
          refine WR_tI (y := nI k5) ek5 ?_
          refine r_i2l rfl ?_
          refine WR_tL (y := lN k5) (nI_l (by have := i_nlt c4; have := i_rg o; have : (0 : Int32).toInt = 0 := rfl; have := i_eq ek5; have : (nI k5).toInt = ((k5 : Nat) : Int) := nI_toInt (by omega); have := i_nle c6; have : (13 : Int32).toInt = 13 := rfl; omega)) ?_
          refine r_lc (x := 0) rfl rfl ?_
          refine r_ldc (x := .long 13) rfl rfl ?_
          refine r_cs (y := 155) (ra := [.long 13, .long 0, .long (lN k5)]) (rest := []) rfl ⟨⟨rfl, rfl⟩, by decide⟩ rfl rfl (Nat.le_of_ble_eq_true rfl) ?_
          refine in_155 (Nat.le_of_ble_eq_true rfl) ?_
          show WR _ cd_155 0 [some (.long (lN k5)), none, some (.long 0), none, some (.long 13), none] [] (sI (sI h (ad 0) 6 0) (ad 0) 6 (-3)) _
          refine r_lload rfl rfl ?_
          refine r_lload rfl rfl ?_
          refine r_lif_lt (tg := 17) rfl rfl rfl (fun q => False.elim (by have := i_nlt c4; have := i_rg o; have : (0 : Int32).toInt = 0 := rfl; have := i_eq ek5; have : (nI k5).toInt = ((k5 : Nat) : Int) := nI_toInt (by omega); have := i_nle c6; have : (13 : Int32).toInt = 13 := rfl; have : (lN k5).toInt = ((k5 : Nat) : Int) := lN_toInt (by omega); have : (0 : Int64).toInt = 0 := rfl; have := l_lt q; omega)) (fun _ => ?_)
          refine r_lload rfl rfl ?_
          refine r_lload rfl rfl ?_
          refine r_lif_gt (tg := 17) rfl rfl rfl (fun _ => ?_) (fun q => False.elim (by have := i_nlt c4; have := i_rg o; have : (0 : Int32).toInt = 0 := rfl; have := i_eq ek5; have : (nI k5).toInt = ((k5 : Nat) : Int) := nI_toInt (by omega); have := i_nle c6; have : (13 : Int32).toInt = 13 := rfl; have : (lN k5).toInt = ((k5 : Nat) : Int) := lN_toInt (by omega); have : (13 : Int64).toInt = 13 := rfl; have := l_nlt q; omega))
          refine r_ic (x := 0) rfl rfl ?_
          refine r_zret rfl (.inl rfl) ?_
          show WR _ cd_203 23 [some (.ref (ad 30)), some (.int p), some (.int o), some (.int a), some (.int b), some (.int c), none] [.int 0] (sI (sI h (ad 0) 6 0) (ad 0) 6 (-3)) _
          refine r_if_ne (tg := 33) rfl rfl (fun q => absurd q (by decide)) (fun _ => ?_)
          refine r_aload rfl rfl ?_
          refine r_ic (x := (-3)) rfl rfl ?_
          refine r_cv (y := 154) (ra := [.int (-3)]) (rest := []) rfl ⟨⟨rfl, rfl⟩, rfl, by decide⟩ (fx_t30 fx) rfl rfl (Nat.le_of_ble_eq_true rfl) ?_
          refine in_154 (Nat.le_of_ble_eq_true rfl) ?_
          show WR _ cd_154 0 [some (.ref (ad 30)), some (.int (-3))] [] (sI (sI h (ad 0) 6 0) (ad 0) 6 (-3)) _
          refine r_aload rfl rfl ?_
          refine r_iload rfl rfl ?_
          refine r_ic (x := (-1)) rfl rfl ?_
          refine r_icmp_ge (tg := 10) rfl rfl (fun q => absurd q (by decide)) (fun _ => ?_)
          refine r_iload rfl rfl ?_
          refine r_goto (tg := 11) rfl rfl ?_
          refine r_putI rfl ⟨rfl, rfl, rfl⟩ (fx_t30 fx) ?_
          have fx : FX n ad sa z0 (sI (sI (sI h (ad 0) 6 0) (ad 0) 6 (-3)) (ad 30) 11 (-3)) := (FX.sI fx)
          refine r_iload rfl rfl ?_
          refine r_iret rfl ?_
          show WR _ cd_203 32 [some (.ref (ad 30)), some (.int p), some (.int o), some (.int a), some (.int b), some (.int c), none] [.int (-3)] (sI (sI (sI h (ad 0) 6 0) (ad 0) 6 (-3)) (ad 30) 11 (-3)) _
          refine r_iret rfl ?_
          exact ⟨rfl, Rel.why r (((Chg.rf.sI (fx_j fx) (.inl (by decide))).sI (fx_j fx) (.inl (by decide))).sI (fx_j fx) (.inl (by decide))) ⟨rfl, by decide⟩ (Eq.trans (Eq.trans (I_ne (fx_ne fx (by decide))) I_eq) (Eq.symm I_eq)), Nat.le_add_right _ _, Nat.le_add_right _ _⟩

/-! ===== seconds; printed ===== -/
set_option maxHeartbeats 10000000 in
theorem k_seconds {n : Nat} {ad sa : Nat → Nat} {z0 : Nat} {h : mH} (r : Rel n ad sa z0 h) (c : Int32) (l : Int32) (w : Int32) : AP n ad sa z0 h 75 193 [.int c, .int l, .int w] := by
  obtain ⟨mid, pa, np, fx, ry, rt, ra, rp, rf, rst, ru, rs⟩ := id r
  have fx0 := fx
  obtain ⟨np1, np2, np3, -, -⟩ := id rs.1
  unfold AP
  refine in_75 (Nat.le_of_ble_eq_true rfl) ?_
  show WR _ cd_75 0 [some (.ref (ad 0)), some (.int c), some (.int l), some (.int w), none, none] [] h _
  refine r_aload rfl rfl ?_
  refine r_ic (x := 0) rfl rfl ?_
  refine r_putI rfl ⟨rfl, rfl, rfl⟩ (fx_t0 fx) ?_
  have fx : FX n ad sa z0 (sI h (ad 0) 6 0) := (FX.sI fx)
  refine r_iload rfl rfl ?_
  refine r_cs (y := 12) (ra := [.int c]) (rest := []) rfl ⟨⟨rfl, rfl⟩, by decide⟩ rfl rfl (Nat.le_of_ble_eq_true rfl) ?_
  refine in_12 (Nat.le_of_ble_eq_true rfl) ?_
  show WR _ cd_12 0 [some (.int c)] [] (sI h (ad 0) 6 0) _
  refine r_iload rfl rfl ?_
  refine r_if_lt (tg := 14) rfl rfl (fun c1 => ?_) (fun c1 => ?_)
  · refine r_ic (x := 0) rfl rfl ?_
    refine r_zret rfl (.inl rfl) ?_
    show WR _ cd_75 9 [some (.ref (ad 0)), some (.int c), some (.int l), some (.int w), none, none] [.int 0] (sI h (ad 0) 6 0) _
    refine r_if_ne (tg := 19) rfl rfl (fun q => absurd q (by decide)) (fun _ => ?_)
    refine r_aload rfl rfl ?_
    refine r_ic (x := (-2)) rfl rfl ?_
    refine r_cv (y := 65) (ra := [.int (-2)]) (rest := []) rfl ⟨⟨rfl, rfl⟩, rfl, by decide⟩ (fx_t0 fx) rfl rfl (Nat.le_of_ble_eq_true rfl) ?_
    refine in_65 (Nat.le_of_ble_eq_true rfl) ?_
    show WR _ cd_65 0 [some (.ref (ad 0)), some (.int (-2))] [] (sI h (ad 0) 6 0) _
    refine r_aload rfl rfl ?_
    refine r_iload rfl rfl ?_
    refine r_putI rfl ⟨rfl, rfl, rfl⟩ (fx_t0 fx) ?_
    have fx : FX n ad sa z0 (sI (sI h (ad 0) 6 0) (ad 0) 6 (-2)) := (FX.sI fx)
    refine r_lc (x := 0) rfl rfl ?_
    refine r_lret rfl ?_
    show WR _ cd_75 18 [some (.ref (ad 0)), some (.int c), some (.int l), some (.int w), none, none] [.long 0] (sI (sI h (ad 0) 6 0) (ad 0) 6 (-2)) _
    refine r_lret rfl ?_
    show EV _ 193 [.ref (ad 30), .int c, .int l, .int w] (sI (sI h (ad 0) 6 0) (ad 0) 6 (-2)) _
    refine in_193 (Nat.le_of_ble_eq_true rfl) ?_
    show WR _ cd_193 0 [some (.ref (ad 30)), some (.int c), some (.int l), some (.int w), none, none, none] [] (sI (sI h (ad 0) 6 0) (ad 0) 6 (-2)) _
    refine r_iload rfl rfl ?_
    refine r_cs (y := 153) (ra := [.int c]) (rest := []) rfl ⟨⟨rfl, rfl⟩, by decide⟩ rfl rfl (Nat.le_of_ble_eq_true rfl) ?_
    refine in_153 (Nat.le_of_ble_eq_true rfl) ?_
    show WR _ cd_153 0 [some (.int c)] [] (sI (sI h (ad 0) 6 0) (ad 0) 6 (-2)) _
    refine r_iload rfl rfl ?_
    refine r_if_lt (tg := 14) rfl rfl (fun _ => ?_) (fun q => False.elim (by have := i_lt c1; have := i_rg c; have : (0 : Int32).toInt = 0 := rfl; have := i_nlt q; omega))
    refine r_ic (x := 0) rfl rfl ?_
    refine r_zret rfl (.inl rfl) ?_
    show WR _ cd_193 4 [some (.ref (ad 30)), some (.int c), some (.int l), some (.int w), none, none, none] [.int 0] (sI (sI h (ad 0) 6 0) (ad 0) 6 (-2)) _
    refine r_if_ne (tg := 14) rfl rfl (fun q => absurd q (by decide)) (fun _ => ?_)
    refine r_aload rfl rfl ?_
    refine r_ic (x := (-2)) rfl rfl ?_
    refine r_cv (y := 171) (ra := [.int (-2)]) (rest := []) rfl ⟨⟨rfl, rfl⟩, rfl, by decide⟩ (fx_t30 fx) rfl rfl (Nat.le_of_ble_eq_true rfl) ?_
    refine in_171 (Nat.le_of_ble_eq_true rfl) ?_
    show WR _ cd_171 0 [some (.ref (ad 30)), some (.int (-2))] [] (sI (sI h (ad 0) 6 0) (ad 0) 6 (-2)) _
    refine r_aload rfl rfl ?_
    refine r_iload rfl rfl ?_
    refine r_putI rfl ⟨rfl, rfl, rfl⟩ (fx_t30 fx) ?_
    have fx : FX n ad sa z0 (sI (sI (sI h (ad 0) 6 0) (ad 0) 6 (-2)) (ad 30) 11 (-2)) := (FX.sI fx)
    refine r_lc (x := 0) rfl rfl ?_
    refine r_lret rfl ?_
    show WR _ cd_193 13 [some (.ref (ad 30)), some (.int c), some (.int l), some (.int w), none, none, none] [.long 0] (sI (sI (sI h (ad 0) 6 0) (ad 0) 6 (-2)) (ad 30) 11 (-2)) _
    refine r_lret rfl ?_
    exact ⟨rfl, Rel.why r (((Chg.rf.sI (fx_j fx) (.inl (by decide))).sI (fx_j fx) (.inl (by decide))).sI (fx_j fx) (.inl (by decide))) ⟨rfl, by decide⟩ (Eq.trans (Eq.trans (I_ne (fx_ne fx (by decide))) I_eq) (Eq.symm I_eq)), (by (try simp only [hZ_sI, hZ_sL, hZ_sD, hZ_sR]); omega), (by (try simp only [hU_sI, hU_sL, hU_sD, hU_sR]); omega)⟩
  · obtain ⟨k2, hk2, ek2⟩ := ix_of (x := c) (n := 2147483648) (by have := i_nlt c1; have := i_rg c; have : (0 : Int32).toInt = 0 := rfl; omega) (by have := i_nlt c1; have := i_rg c; have : (0 : Int32).toInt = 0 := rfl; omega)
    refine r_iload rfl rfl ?_
    refine WR_tI (y := nI k2) ek2 ?_
    refine r_ic (x := 24) rfl rfl ?_
    refine r_icmp_ge (tg := 14) rfl rfl (fun c3 => ?_) (fun c3 => ?_)
    · refine r_ic (x := 0) rfl rfl ?_
      refine r_zret rfl (.inl rfl) ?_
      show WR _ cd_75 9 [some (.ref (ad 0)), some (.int c), some (.int l), some (.int w), none, none] [.int 0] (sI h (ad 0) 6 0) _
      refine r_if_ne (tg := 19) rfl rfl (fun q => absurd q (by decide)) (fun _ => ?_)
      refine r_aload rfl rfl ?_
      refine r_ic (x := (-2)) rfl rfl ?_
      refine r_cv (y := 65) (ra := [.int (-2)]) (rest := []) rfl ⟨⟨rfl, rfl⟩, rfl, by decide⟩ (fx_t0 fx) rfl rfl (Nat.le_of_ble_eq_true rfl) ?_
      refine in_65 (Nat.le_of_ble_eq_true rfl) ?_
      show WR _ cd_65 0 [some (.ref (ad 0)), some (.int (-2))] [] (sI h (ad 0) 6 0) _
      refine r_aload rfl rfl ?_
      refine r_iload rfl rfl ?_
      refine r_putI rfl ⟨rfl, rfl, rfl⟩ (fx_t0 fx) ?_
      have fx : FX n ad sa z0 (sI (sI h (ad 0) 6 0) (ad 0) 6 (-2)) := (FX.sI fx)
      refine r_lc (x := 0) rfl rfl ?_
      refine r_lret rfl ?_
      show WR _ cd_75 18 [some (.ref (ad 0)), some (.int c), some (.int l), some (.int w), none, none] [.long 0] (sI (sI h (ad 0) 6 0) (ad 0) 6 (-2)) _
      refine r_lret rfl ?_
      show EV _ 193 [.ref (ad 30), .int c, .int l, .int w] (sI (sI h (ad 0) 6 0) (ad 0) 6 (-2)) _
      refine in_193 (Nat.le_of_ble_eq_true rfl) ?_
      show WR _ cd_193 0 [some (.ref (ad 30)), some (.int c), some (.int l), some (.int w), none, none, none] [] (sI (sI h (ad 0) 6 0) (ad 0) 6 (-2)) _
      refine r_iload rfl rfl ?_
      refine WR_tI (y := nI k2) ek2 ?_
      refine r_cs (y := 153) (ra := [.int (nI k2)]) (rest := []) rfl ⟨⟨rfl, rfl⟩, by decide⟩ rfl rfl (Nat.le_of_ble_eq_true rfl) ?_
      refine in_153 (Nat.le_of_ble_eq_true rfl) ?_
      show WR _ cd_153 0 [some (.int (nI k2))] [] (sI (sI h (ad 0) 6 0) (ad 0) 6 (-2)) _
      refine r_iload rfl rfl ?_
      refine r_if_lt (tg := 14) rfl rfl (fun q => False.elim (by have := i_nlt c1; have := i_rg c; have : (0 : Int32).toInt = 0 := rfl; have := i_eq ek2; have : (nI k2).toInt = ((k2 : Nat) : Int) := nI_toInt (by omega); have := i_le c3; have : (24 : Int32).toInt = 24 := rfl; have := i_lt q; omega)) (fun _ => ?_)
      refine r_iload rfl rfl ?_
      refine r_ic (x := 24) rfl rfl ?_
      refine r_icmp_ge (tg := 14) rfl rfl (fun _ => ?_) (fun q => False.elim (by have := i_nlt c1; have := i_rg c; have : (0 : Int32).toInt = 0 := rfl; have := i_eq ek2; have : (nI k2).toInt = ((k2 : Nat) : Int) := nI_toInt (by omega); have := i_le c3; have : (24 : Int32).toInt = 24 := rfl; have := i_nle q; omega))
      refine r_ic (x := 0) rfl rfl ?_
      refine r_zret rfl (.inl rfl) ?_
      show WR _ cd_193 4 [some (.ref (ad 30)), some (.int c), some (.int l), some (.int w), none, none, none] [.int 0] (sI (sI h (ad 0) 6 0) (ad 0) 6 (-2)) _
      refine r_if_ne (tg := 14) rfl rfl (fun q => absurd q (by decide)) (fun _ => ?_)
      refine r_aload rfl rfl ?_
      refine r_ic (x := (-2)) rfl rfl ?_
      refine r_cv (y := 171) (ra := [.int (-2)]) (rest := []) rfl ⟨⟨rfl, rfl⟩, rfl, by decide⟩ (fx_t30 fx) rfl rfl (Nat.le_of_ble_eq_true rfl) ?_
      refine in_171 (Nat.le_of_ble_eq_true rfl) ?_
      show WR _ cd_171 0 [some (.ref (ad 30)), some (.int (-2))] [] (sI (sI h (ad 0) 6 0) (ad 0) 6 (-2)) _
      refine r_aload rfl rfl ?_
      refine r_iload rfl rfl ?_
      refine r_putI rfl ⟨rfl, rfl, rfl⟩ (fx_t30 fx) ?_
      have fx : FX n ad sa z0 (sI (sI (sI h (ad 0) 6 0) (ad 0) 6 (-2)) (ad 30) 11 (-2)) := (FX.sI fx)
      refine r_lc (x := 0) rfl rfl ?_
      refine r_lret rfl ?_
      show WR _ cd_193 13 [some (.ref (ad 30)), some (.int c), some (.int l), some (.int w), none, none, none] [.long 0] (sI (sI (sI h (ad 0) 6 0) (ad 0) 6 (-2)) (ad 30) 11 (-2)) _
      refine r_lret rfl ?_
      exact ⟨rfl, Rel.why r (((Chg.rf.sI (fx_j fx) (.inl (by decide))).sI (fx_j fx) (.inl (by decide))).sI (fx_j fx) (.inl (by decide))) ⟨rfl, by decide⟩ (Eq.trans (Eq.trans (I_ne (fx_ne fx (by decide))) I_eq) (Eq.symm I_eq)), (by (try simp only [hZ_sI, hZ_sL, hZ_sD, hZ_sR]); omega), (by (try simp only [hU_sI, hU_sL, hU_sD, hU_sR]); omega)⟩
    · refine r_ic (x := 1) rfl rfl ?_
      refine r_goto (tg := 15) rfl rfl ?_
      refine r_zret rfl (.inr rfl) ?_
      show WR _ cd_75 9 [some (.ref (ad 0)), some (.int c), some (.int l), some (.int w), none, none] [.int 1] (sI h (ad 0) 6 0) _
      refine r_if_ne (tg := 19) rfl rfl (fun _ => ?_) (fun q => absurd q (by decide))
      refine r_iload rfl rfl ?_
      refine r_cs (y := 76) (ra := [.int l]) (rest := []) rfl ⟨⟨rfl, rfl⟩, by decide⟩ rfl rfl (Nat.le_of_ble_eq_true rfl) ?_
      refine in_76 (Nat.le_of_ble_eq_true rfl) ?_
      show WR _ cd_76 0 [some (.int l)] [] (sI h (ad 0) 6 0) _
      refine r_iload rfl rfl ?_
      refine r_ic (x := 5) rfl rfl ?_
      refine r_icmp_eq (tg := 11) rfl rfl (fun c4 => ?_) (fun c4 => ?_)
      · refine r_ic (x := 1) rfl rfl ?_
        refine r_goto (tg := 16) rfl rfl ?_
        refine r_zret rfl (.inr rfl) ?_
        show WR _ cd_75 23 [some (.ref (ad 0)), some (.int c), some (.int l), some (.int w), none, none] [.int 1] (sI h (ad 0) 6 0) _
        refine r_if_eq (tg := 35) rfl rfl (fun q => absurd q (by decide)) (fun _ => ?_)
        refine r_iload rfl rfl ?_
        refine r_if_lt (tg := 35) rfl rfl (fun c5 => ?_) (fun c5 => ?_)
        · refine r_aload rfl rfl ?_
          refine r_ic (x := (-3)) rfl rfl ?_
          refine r_cv (y := 65) (ra := [.int (-3)]) (rest := []) rfl ⟨⟨rfl, rfl⟩, rfl, by decide⟩ (fx_t0 fx) rfl rfl (Nat.le_of_ble_eq_true rfl) ?_
          refine in_65 (Nat.le_of_ble_eq_true rfl) ?_
          show WR _ cd_65 0 [some (.ref (ad 0)), some (.int (-3))] [] (sI h (ad 0) 6 0) _
          refine r_aload rfl rfl ?_
          refine r_iload rfl rfl ?_
          refine r_putI rfl ⟨rfl, rfl, rfl⟩ (fx_t0 fx) ?_
          have fx : FX n ad sa z0 (sI (sI h (ad 0) 6 0) (ad 0) 6 (-3)) := (FX.sI fx)
          refine r_lc (x := 0) rfl rfl ?_
          refine r_lret rfl ?_
          show WR _ cd_75 41 [some (.ref (ad 0)), some (.int c), some (.int l), some (.int w), none, none] [.long 0] (sI (sI h (ad 0) 6 0) (ad 0) 6 (-3)) _
          refine r_lret rfl ?_
          show EV _ 193 [.ref (ad 30), .int c, .int l, .int w] (sI (sI h (ad 0) 6 0) (ad 0) 6 (-3)) _
          refine in_193 (Nat.le_of_ble_eq_true rfl) ?_
          show WR _ cd_193 0 [some (.ref (ad 30)), some (.int c), some (.int l), some (.int w), none, none, none] [] (sI (sI h (ad 0) 6 0) (ad 0) 6 (-3)) _
          refine r_iload rfl rfl ?_
          refine WR_tI (y := nI k2) ek2 ?_
          refine r_cs (y := 153) (ra := [.int (nI k2)]) (rest := []) rfl ⟨⟨rfl, rfl⟩, by decide⟩ rfl rfl (Nat.le_of_ble_eq_true rfl) ?_
          refine in_153 (Nat.le_of_ble_eq_true rfl) ?_
          show WR _ cd_153 0 [some (.int (nI k2))] [] (sI (sI h (ad 0) 6 0) (ad 0) 6 (-3)) _
          refine r_iload rfl rfl ?_
          refine r_if_lt (tg := 14) rfl rfl (fun q => False.elim (by have := i_nlt c1; have := i_rg c; have : (0 : Int32).toInt = 0 := rfl; have := i_eq ek2; have : (nI k2).toInt = ((k2 : Nat) : Int) := nI_toInt (by omega); have := i_nle c3; have : (24 : Int32).toInt = 24 := rfl; have := i_lt q; omega)) (fun _ => ?_)
          refine r_iload rfl rfl ?_
          refine r_ic (x := 24) rfl rfl ?_
          refine r_icmp_ge (tg := 14) rfl rfl (fun q => False.elim (by have := i_nlt c1; have := i_rg c; have : (0 : Int32).toInt = 0 := rfl; have := i_eq ek2; have : (nI k2).toInt = ((k2 : Nat) : Int) := nI_toInt (by omega); have := i_nle c3; have : (24 : Int32).toInt = 24 := rfl; have := i_le q; omega)) (fun _ => ?_)
          refine r_ic (x := 1) rfl rfl ?_
          refine r_goto (tg := 15) rfl rfl ?_
          refine r_zret rfl (.inr rfl) ?_
          show WR _ cd_193 4 [some (.ref (ad 30)), some (.int c), some (.int l), some (.int w), none, none, none] [.int 1] (sI (sI h (ad 0) 6 0) (ad 0) 6 (-3)) _
          refine r_if_ne (tg := 14) rfl rfl (fun _ => ?_) (fun q => absurd q (by decide))
          obtain ⟨k6, hk6, ek6⟩ := ix_of (x := l) (n := 2147483648) (by have := i_eq c4; have := i_rg l; have : (5 : Int32).toInt = 5 := rfl; omega) (by have := i_eq c4; have := i_rg l; have : (5 : Int32).toInt = 5 := rfl; omega)
          refine r_iload rfl rfl ?_
          refine WR_tI (y := nI k6) ek6 ?_
          refine r_i2l rfl ?_
          refine WR_tL (y := lN k6) (nI_l (by have := i_eq c4; have := i_rg l; have : (5 : Int32).toInt = 5 := rfl; have := i_eq ek6; have : (nI k6).toInt = ((k6 : Nat) : Int) := nI_toInt (by omega); omega)) ?_
          refine r_ldc (x := .long 5) rfl rfl ?_
          refine r_ldc (x := .long 6) rfl rfl ?_
          refine r_cs (y := 155) (ra := [.long 6, .long 5, .long (lN k6)]) (rest := []) rfl ⟨⟨rfl, rfl⟩, by decide⟩ rfl rfl (Nat.le_of_ble_eq_true rfl) ?_
          refine in_155 (Nat.le_of_ble_eq_true rfl) ?_
          show WR _ cd_155 0 [some (.long (lN k6)), none, some (.long 5), none, some (.long 6), none] [] (sI (sI h (ad 0) 6 0) (ad 0) 6 (-3)) _
          refine r_lload rfl rfl ?_
          refine r_lload rfl rfl ?_
          refine r_lif_lt (tg := 17) rfl rfl rfl (fun q => False.elim (by have := i_eq c4; have := i_rg l; have : (5 : Int32).toInt = 5 := rfl; have := i_eq ek6; have : (nI k6).toInt = ((k6 : Nat) : Int) := nI_toInt (by omega); have : (lN k6).toInt = ((k6 : Nat) : Int) := lN_toInt (by omega); have : (5 : Int64).toInt = 5 := rfl; have := l_lt q; omega)) (fun _ => ?_)
          refine r_lload rfl rfl ?_
          refine r_lload rfl rfl ?_
          refine r_lif_gt (tg := 17) rfl rfl rfl (fun q => False.elim (by have := i_eq c4; have := i_rg l; have : (5 : Int32).toInt = 5 := rfl; have := i_eq ek6; have : (nI k6).toInt = ((k6 : Nat) : Int) := nI_toInt (by omega); have : (lN k6).toInt = ((k6 : Nat) : Int) := lN_toInt (by omega); have : (6 : Int64).toInt = 6 := rfl; have := l_lt q; omega)) (fun _ => ?_)
          refine r_ic (x := 1) rfl rfl ?_
          refine r_goto (tg := 18) rfl rfl ?_
          refine r_zret rfl (.inr rfl) ?_
          show WR _ cd_193 25 [some (.ref (ad 30)), some (.int c), some (.int l), some (.int w), none, none, none] [.int 1] (sI (sI h (ad 0) 6 0) (ad 0) 6 (-3)) _
          refine r_if_eq (tg := 40) rfl rfl (fun q => absurd q (by decide)) (fun _ => ?_)
          refine r_iload rfl rfl ?_
          refine r_i2l rfl ?_
          refine r_lc (x := 0) rfl rfl ?_
          refine r_ldc (x := .long 5) rfl rfl ?_
          refine r_cs (y := 155) (ra := [.long 5, .long 0, .long w.toInt64]) (rest := []) rfl ⟨⟨rfl, rfl⟩, by decide⟩ rfl rfl (Nat.le_of_ble_eq_true rfl) ?_
          refine in_155 (Nat.le_of_ble_eq_true rfl) ?_
          show WR _ cd_155 0 [some (.long w.toInt64), none, some (.long 0), none, some (.long 5), none] [] (sI (sI h (ad 0) 6 0) (ad 0) 6 (-3)) _
          refine r_lload rfl rfl ?_
          refine r_lload rfl rfl ?_
          refine r_lif_lt (tg := 17) rfl rfl rfl (fun _ => ?_) (fun q => False.elim (by have := i_lt c5; have := i_rg w; have : (0 : Int32).toInt = 0 := rfl; have := w_t w; have : (0 : Int64).toInt = 0 := rfl; have := l_nlt q; omega))
          refine r_ic (x := 0) rfl rfl ?_
          refine r_zret rfl (.inl rfl) ?_
          show WR _ cd_193 37 [some (.ref (ad 30)), some (.int c), some (.int l), some (.int w), none, none, none] [.int 0] (sI (sI h (ad 0) 6 0) (ad 0) 6 (-3)) _
          refine r_if_ne (tg := 47) rfl rfl (fun q => absurd q (by decide)) (fun _ => ?_)
          refine r_aload rfl rfl ?_
          refine r_ic (x := (-3)) rfl rfl ?_
          refine r_cv (y := 171) (ra := [.int (-3)]) (rest := []) rfl ⟨⟨rfl, rfl⟩, rfl, by decide⟩ (fx_t30 fx) rfl rfl (Nat.le_of_ble_eq_true rfl) ?_
          refine in_171 (Nat.le_of_ble_eq_true rfl) ?_
          show WR _ cd_171 0 [some (.ref (ad 30)), some (.int (-3))] [] (sI (sI h (ad 0) 6 0) (ad 0) 6 (-3)) _
          refine r_aload rfl rfl ?_
          refine r_iload rfl rfl ?_
          refine r_putI rfl ⟨rfl, rfl, rfl⟩ (fx_t30 fx) ?_
          have fx : FX n ad sa z0 (sI (sI (sI h (ad 0) 6 0) (ad 0) 6 (-3)) (ad 30) 11 (-3)) := (FX.sI fx)
          refine r_lc (x := 0) rfl rfl ?_
          refine r_lret rfl ?_
          show WR _ cd_193 46 [some (.ref (ad 30)), some (.int c), some (.int l), some (.int w), none, none, none] [.long 0] (sI (sI (sI h (ad 0) 6 0) (ad 0) 6 (-3)) (ad 30) 11 (-3)) _
          refine r_lret rfl ?_
          exact ⟨rfl, Rel.why r (((Chg.rf.sI (fx_j fx) (.inl (by decide))).sI (fx_j fx) (.inl (by decide))).sI (fx_j fx) (.inl (by decide))) ⟨rfl, by decide⟩ (Eq.trans (Eq.trans (I_ne (fx_ne fx (by decide))) I_eq) (Eq.symm I_eq)), (by (try simp only [hZ_sI, hZ_sL, hZ_sD, hZ_sR]); omega), (by (try simp only [hU_sI, hU_sL, hU_sD, hU_sR]); omega)⟩
        · obtain ⟨k7, hk7, ek7⟩ := ix_of (x := w) (n := 2147483648) (by have := i_nlt c5; have := i_rg w; have : (0 : Int32).toInt = 0 := rfl; omega) (by have := i_nlt c5; have := i_rg w; have : (0 : Int32).toInt = 0 := rfl; omega)
          refine r_iload rfl rfl ?_
          refine WR_tI (y := nI k7) ek7 ?_
          refine r_ic (x := 5) rfl rfl ?_
          refine r_icmp_le (tg := 42) rfl rfl (fun c8 => ?_) (fun c8 => ?_)
          · refine r_aload rfl rfl ?_
            refine r_iload rfl rfl ?_
            refine WR_tI (y := nI k2) ek2 ?_
            obtain ⟨k9, hk9, ek9⟩ := ix_of (x := l) (n := 2147483648) (by have := i_eq c4; have := i_rg l; have : (5 : Int32).toInt = 5 := rfl; omega) (by have := i_eq c4; have := i_rg l; have : (5 : Int32).toInt = 5 := rfl; omega)
            refine r_iload rfl rfl ?_
            refine WR_tI (y := nI k9) ek9 ?_
            refine r_cv (y := 31) (ra := [.int (nI k9), .int (nI k2)]) (rest := []) rfl ⟨⟨rfl, rfl⟩, rfl, by decide⟩ (fx_t0 fx) rfl rfl (Nat.le_of_ble_eq_true rfl) ?_
            refine in_31 (Nat.le_of_ble_eq_true rfl) ?_
            show WR _ cd_31 0 [some (.ref (ad 0)), some (.int (nI k2)), some (.int (nI k9)), none, none] [] (sI h (ad 0) 6 0) _
            refine r_aload rfl rfl ?_
            refine r_getA (b := ad 1) rfl ⟨rfl, rfl, rfl⟩ (fx_t0 fx) (fx_r0_0 fx) ?_
            refine r_iload rfl rfl ?_
            rcases rs.cs (n := n) (sa := sa) (c := k2) (by have := i_nlt c1; have := i_rg c; have : (0 : Int32).toInt = 0 := rfl; have := i_eq ek2; have : (nI k2).toInt = ((k2 : Nat) : Int) := nI_toInt (by omega); have := i_nle c3; have : (24 : Int32).toInt = 24 := rfl; omega) with ⟨v10, w10⟩ | ⟨q10, kd10, hq10, hn10, v10, w10, dz10, tg10, s1_10, k1_10, k2_10, hk_10, we10⟩ | ⟨t10, ln10, sz10, ht10, v10, w10, dz10, tg10, r_10, tg2_10, l1_10, l2_10, hl_10, kd_10, n_10, sz_10, hs_10, al10, rw10⟩ | ⟨t10, sz10, ht10, v10, w10, dz10, tg10, r_10, tg2_10, k1_10, l2_10, k2_10, n_10, sz_10, hs_10, al10, rw10⟩ | ⟨t10, kd10, sz10, ht10, v10, w10, dz10, tg10, r_10, tg2_10, k1_10, l2_10, k2_10, hk_10, n_10, sz_10, hs_10, al10, rw10⟩
            · refine r_aaload0 rfl (isQ_of (fx_t1 fx) (by decide)) (vp_ct (fx_n1 fx) (vp_in_nI (by have := i_nlt c1; have := i_rg c; have : (0 : Int32).toInt = 0 := rfl; have := i_eq ek2; have : (nI k2).toInt = ((k2 : Nat) : Int) := nI_toInt (by omega); have := i_nle c3; have : (24 : Int32).toInt = 24 := rfl; omega) (by omega))) (Eq.trans (congrArg (hR (sI h (ad 0) 6 0) (ad 1)) ((nI_clamp (by have := i_nlt c1; have := i_rg c; have : (0 : Int32).toInt = 0 := rfl; have := i_eq ek2; have : (nI k2).toInt = ((k2 : Nat) : Int) := nI_toInt (by omega); have := i_nle c3; have : (24 : Int32).toInt = 24 := rfl; omega)) : _ = k2)) (Eq.trans R_oI w10)) ?_
              refine r_astore0 (lv' := [some (.ref (ad 0)), some (.int (nI k2)), some (.int (nI k9)), some (.null), none]) rfl (Nat.le_of_ble_eq_true rfl) rfl ?_
              refine r_aload0 rfl rfl ?_
              refine r_instN rfl (by decide) ?_
              refine r_if_eq (tg := 32) rfl rfl (fun _ => ?_) (fun q => absurd q (by decide))
              refine r_aload rfl rfl ?_
              refine r_aload0 rfl rfl ?_
              refine r_ifnonnullN (tg := 42) rfl rfl ?_
              refine r_ic (x := (-11)) rfl rfl ?_
              refine r_goto (tg := 44) rfl rfl ?_
              refine r_putI rfl ⟨rfl, rfl, rfl⟩ (fx_t0 fx) ?_
              have fx : FX n ad sa z0 (sI (sI h (ad 0) 6 0) (ad 0) 6 (-11)) := (FX.sI fx)
              refine r_null rfl ?_
              refine r_aret0 rfl ?_
              show WR _ cd_75 48 [some (.ref (ad 0)), some (.int c), some (.int l), some (.int w), none, none] [.null] (sI (sI h (ad 0) 6 0) (ad 0) 6 (-11)) _
              refine r_astore0 (lv' := [some (.ref (ad 0)), some (.int c), some (.int l), some (.int w), some (.null), none]) rfl (Nat.le_of_ble_eq_true rfl) rfl ?_
              refine r_aload0 rfl rfl ?_
              refine r_ifnonnullN (tg := 57) rfl rfl ?_
              refine r_lc (x := 0) rfl rfl ?_
              refine r_lret rfl ?_
              show EV _ 193 [.ref (ad 30), .int c, .int l, .int w] (sI (sI h (ad 0) 6 0) (ad 0) 6 (-11)) _
              refine in_193 (Nat.le_of_ble_eq_true rfl) ?_
              show WR _ cd_193 0 [some (.ref (ad 30)), some (.int c), some (.int l), some (.int w), none, none, none] [] (sI (sI h (ad 0) 6 0) (ad 0) 6 (-11)) _
              refine r_iload rfl rfl ?_
              refine WR_tI (y := nI k2) ek2 ?_
              refine r_cs (y := 153) (ra := [.int (nI k2)]) (rest := []) rfl ⟨⟨rfl, rfl⟩, by decide⟩ rfl rfl (Nat.le_of_ble_eq_true rfl) ?_
              refine in_153 (Nat.le_of_ble_eq_true rfl) ?_
              show WR _ cd_153 0 [some (.int (nI k2))] [] (sI (sI h (ad 0) 6 0) (ad 0) 6 (-11)) _
              refine r_iload rfl rfl ?_
              refine r_if_lt (tg := 14) rfl rfl (fun q => False.elim (by have := i_nlt c1; have := i_rg c; have : (0 : Int32).toInt = 0 := rfl; have := i_eq ek2; have : (nI k2).toInt = ((k2 : Nat) : Int) := nI_toInt (by omega); have := i_nle c3; have : (24 : Int32).toInt = 24 := rfl; have := i_lt q; omega)) (fun _ => ?_)
              refine r_iload rfl rfl ?_
              refine r_ic (x := 24) rfl rfl ?_
              refine r_icmp_ge (tg := 14) rfl rfl (fun q => False.elim (by have := i_nlt c1; have := i_rg c; have : (0 : Int32).toInt = 0 := rfl; have := i_eq ek2; have : (nI k2).toInt = ((k2 : Nat) : Int) := nI_toInt (by omega); have := i_nle c3; have : (24 : Int32).toInt = 24 := rfl; have := i_le q; omega)) (fun _ => ?_)
              refine r_ic (x := 1) rfl rfl ?_
              refine r_goto (tg := 15) rfl rfl ?_
              refine r_zret rfl (.inr rfl) ?_
              show WR _ cd_193 4 [some (.ref (ad 30)), some (.int c), some (.int l), some (.int w), none, none, none] [.int 1] (sI (sI h (ad 0) 6 0) (ad 0) 6 (-11)) _
              refine r_if_ne (tg := 14) rfl rfl (fun _ => ?_) (fun q => absurd q (by decide))
              refine r_iload rfl rfl ?_
              refine WR_tI (y := nI k9) ek9 ?_
              refine r_i2l rfl ?_
              refine WR_tL (y := lN k9) (nI_l (by have := i_eq c4; have := i_rg l; have : (5 : Int32).toInt = 5 := rfl; have := i_eq ek9; have : (nI k9).toInt = ((k9 : Nat) : Int) := nI_toInt (by omega); omega)) ?_
              refine r_ldc (x := .long 5) rfl rfl ?_
              refine r_ldc (x := .long 6) rfl rfl ?_
              refine r_cs (y := 155) (ra := [.long 6, .long 5, .long (lN k9)]) (rest := []) rfl ⟨⟨rfl, rfl⟩, by decide⟩ rfl rfl (Nat.le_of_ble_eq_true rfl) ?_
              refine in_155 (Nat.le_of_ble_eq_true rfl) ?_
              show WR _ cd_155 0 [some (.long (lN k9)), none, some (.long 5), none, some (.long 6), none] [] (sI (sI h (ad 0) 6 0) (ad 0) 6 (-11)) _
              refine r_lload rfl rfl ?_
              refine r_lload rfl rfl ?_
              refine r_lif_lt (tg := 17) rfl rfl rfl (fun q => False.elim (by have := i_eq c4; have := i_rg l; have : (5 : Int32).toInt = 5 := rfl; have := i_eq ek9; have : (nI k9).toInt = ((k9 : Nat) : Int) := nI_toInt (by omega); have : (lN k9).toInt = ((k9 : Nat) : Int) := lN_toInt (by omega); have : (5 : Int64).toInt = 5 := rfl; have := l_lt q; omega)) (fun _ => ?_)
              refine r_lload rfl rfl ?_
              refine r_lload rfl rfl ?_
              refine r_lif_gt (tg := 17) rfl rfl rfl (fun q => False.elim (by have := i_eq c4; have := i_rg l; have : (5 : Int32).toInt = 5 := rfl; have := i_eq ek9; have : (nI k9).toInt = ((k9 : Nat) : Int) := nI_toInt (by omega); have : (lN k9).toInt = ((k9 : Nat) : Int) := lN_toInt (by omega); have : (6 : Int64).toInt = 6 := rfl; have := l_lt q; omega)) (fun _ => ?_)
              refine r_ic (x := 1) rfl rfl ?_
              refine r_goto (tg := 18) rfl rfl ?_
              refine r_zret rfl (.inr rfl) ?_
              show WR _ cd_193 25 [some (.ref (ad 30)), some (.int c), some (.int l), some (.int w), none, none, none] [.int 1] (sI (sI h (ad 0) 6 0) (ad 0) 6 (-11)) _
              refine r_if_eq (tg := 40) rfl rfl (fun q => absurd q (by decide)) (fun _ => ?_)
              refine r_iload rfl rfl ?_
              refine WR_tI (y := nI k7) ek7 ?_
              refine r_i2l rfl ?_
              refine WR_tL (y := lN k7) (nI_l (by have := i_nlt c5; have := i_rg w; have : (0 : Int32).toInt = 0 := rfl; have := i_eq ek7; have : (nI k7).toInt = ((k7 : Nat) : Int) := nI_toInt (by omega); have := i_le c8; have : (5 : Int32).toInt = 5 := rfl; omega)) ?_
              refine r_lc (x := 0) rfl rfl ?_
              refine r_ldc (x := .long 5) rfl rfl ?_
              refine r_cs (y := 155) (ra := [.long 5, .long 0, .long (lN k7)]) (rest := []) rfl ⟨⟨rfl, rfl⟩, by decide⟩ rfl rfl (Nat.le_of_ble_eq_true rfl) ?_
              refine in_155 (Nat.le_of_ble_eq_true rfl) ?_
              show WR _ cd_155 0 [some (.long (lN k7)), none, some (.long 0), none, some (.long 5), none] [] (sI (sI h (ad 0) 6 0) (ad 0) 6 (-11)) _
              refine r_lload rfl rfl ?_
              refine r_lload rfl rfl ?_
              refine r_lif_lt (tg := 17) rfl rfl rfl (fun q => False.elim (by have := i_nlt c5; have := i_rg w; have : (0 : Int32).toInt = 0 := rfl; have := i_eq ek7; have : (nI k7).toInt = ((k7 : Nat) : Int) := nI_toInt (by omega); have := i_le c8; have : (5 : Int32).toInt = 5 := rfl; have : (lN k7).toInt = ((k7 : Nat) : Int) := lN_toInt (by omega); have : (0 : Int64).toInt = 0 := rfl; have := l_lt q; omega)) (fun _ => ?_)
              refine r_lload rfl rfl ?_
              refine r_lload rfl rfl ?_
              refine r_lif_gt (tg := 17) rfl rfl rfl (fun q => False.elim (by have := i_nlt c5; have := i_rg w; have : (0 : Int32).toInt = 0 := rfl; have := i_eq ek7; have : (nI k7).toInt = ((k7 : Nat) : Int) := nI_toInt (by omega); have := i_le c8; have : (5 : Int32).toInt = 5 := rfl; have : (lN k7).toInt = ((k7 : Nat) : Int) := lN_toInt (by omega); have : (5 : Int64).toInt = 5 := rfl; have := l_lt q; omega)) (fun _ => ?_)
              refine r_ic (x := 1) rfl rfl ?_
              refine r_goto (tg := 18) rfl rfl ?_
              refine r_zret rfl (.inr rfl) ?_
              show WR _ cd_193 37 [some (.ref (ad 30)), some (.int c), some (.int l), some (.int w), none, none, none] [.int 1] (sI (sI h (ad 0) 6 0) (ad 0) 6 (-11)) _
              refine r_if_ne (tg := 47) rfl rfl (fun _ => ?_) (fun q => absurd q (by decide))
              refine r_aload rfl rfl ?_
              refine r_getA (b := ad 31) rfl ⟨rfl, rfl, rfl⟩ (fx_t30 fx) (fx_r30_0 fx) ?_
              refine r_iload rfl rfl ?_
              refine WR_tI (y := nI k2) ek2 ?_
              refine r_iaload rfl (.inl (fx_t31 fx)) (vp_ct (fx_n31 fx) (vp_in_nI (by have := i_nlt c1; have := i_rg c; have : (0 : Int32).toInt = 0 := rfl; have := i_eq ek2; have : (nI k2).toInt = ((k2 : Nat) : Int) := nI_toInt (by omega); have := i_nle c3; have : (24 : Int32).toInt = 24 := rfl; omega) (by omega))) ?_
              refine WR_tI (congrArg (hI (sI (sI h (ad 0) 6 0) (ad 0) 6 (-11)) (ad 31)) ((nI_clamp (by have := i_nlt c1; have := i_rg c; have : (0 : Int32).toInt = 0 := rfl; have := i_eq ek2; have : (nI k2).toInt = ((k2 : Nat) : Int) := nI_toInt (by omega); have := i_nle c3; have : (24 : Int32).toInt = 24 := rfl; omega)) : _ = k2)) ?_
              refine WR_tI (y := (-1)) (Eq.trans (I_ne (fx_ne fx (by decide))) (Eq.trans (I_ne (fx_ne fx (by decide))) v10)) ?_
              refine r_istore (lv' := [some (.ref (ad 30)), some (.int c), some (.int l), some (.int w), some (.int (-1)), none, none]) rfl (Nat.le_of_ble_eq_true rfl) rfl ?_
              refine r_iload rfl rfl ?_
              refine r_ic (x := (-1)) rfl rfl ?_
              refine r_icmp_eq (tg := 78) rfl rfl (fun _ => ?_) (fun q => absurd q (by decide))
              refine r_iload rfl rfl ?_
              refine r_ic (x := (-1)) rfl rfl ?_
              refine r_icmp_ne (tg := 91) rfl rfl (fun q => absurd q (by decide)) (fun _ => ?_)
              refine r_aload rfl rfl ?_
              refine r_ic (x := (-11)) rfl rfl ?_
              refine r_cv (y := 171) (ra := [.int (-11)]) (rest := []) rfl ⟨⟨rfl, rfl⟩, rfl, by decide⟩ (fx_t30 fx) rfl rfl (Nat.le_of_ble_eq_true rfl) ?_
              refine in_171 (Nat.le_of_ble_eq_true rfl) ?_
              show WR _ cd_171 0 [some (.ref (ad 30)), some (.int (-11))] [] (sI (sI h (ad 0) 6 0) (ad 0) 6 (-11)) _
              refine r_aload rfl rfl ?_
              refine r_iload rfl rfl ?_
              refine r_putI rfl ⟨rfl, rfl, rfl⟩ (fx_t30 fx) ?_
              have fx : FX n ad sa z0 (sI (sI (sI h (ad 0) 6 0) (ad 0) 6 (-11)) (ad 30) 11 (-11)) := (FX.sI fx)
              refine r_lc (x := 0) rfl rfl ?_
              refine r_lret rfl ?_
              show WR _ cd_193 90 [some (.ref (ad 30)), some (.int c), some (.int l), some (.int w), some (.int (-1)), none, none] [.long 0] (sI (sI (sI h (ad 0) 6 0) (ad 0) 6 (-11)) (ad 30) 11 (-11)) _
              refine r_lret rfl ?_
              exact ⟨rfl, Rel.why r (((Chg.rf.sI (fx_j fx) (.inl (by decide))).sI (fx_j fx) (.inl (by decide))).sI (fx_j fx) (.inl (by decide))) ⟨rfl, by decide⟩ (Eq.trans (Eq.trans (I_ne (fx_ne fx (by decide))) I_eq) (Eq.symm I_eq)), (by (try simp only [hZ_sI, hZ_sL, hZ_sD, hZ_sR]); omega), (by (try simp only [hU_sI, hU_sL, hU_sD, hU_sR]); omega)⟩
            · refine r_aaloadA (b := pa q10) rfl (isQ_of (fx_t1 fx) (by decide)) (vp_ct (fx_n1 fx) (vp_in_nI (by have := i_nlt c1; have := i_rg c; have : (0 : Int32).toInt = 0 := rfl; have := i_eq ek2; have : (nI k2).toInt = ((k2 : Nat) : Int) := nI_toInt (by omega); have := i_nle c3; have : (24 : Int32).toInt = 24 := rfl; omega) (by omega))) (Eq.trans (congrArg (hR (sI h (ad 0) 6 0) (ad 1)) ((nI_clamp (by have := i_nlt c1; have := i_rg c; have : (0 : Int32).toInt = 0 := rfl; have := i_eq ek2; have : (nI k2).toInt = ((k2 : Nat) : Int) := nI_toInt (by omega); have := i_nle c3; have : (24 : Int32).toInt = 24 := rfl; omega)) : _ = k2)) (Eq.trans R_oI w10)) ?_
              refine r_astore (lv' := [some (.ref (ad 0)), some (.int (nI k2)), some (.int (nI k9)), some (.ref (pa q10)), none]) rfl (Nat.le_of_ble_eq_true rfl) rfl ?_
              refine r_aload rfl rfl ?_
              refine r_instW rfl (by decide) tg10 (by decide) ?_
              refine r_if_eq (tg := 32) rfl rfl (fun _ => ?_) (fun q => absurd q (by decide))
              refine r_aload rfl rfl ?_
              refine r_aload rfl rfl ?_
              refine r_ifnonnullA (tg := 42) rfl rfl ?_
              refine r_ic (x := (-14)) rfl rfl ?_
              refine r_putI rfl ⟨rfl, rfl, rfl⟩ (fx_t0 fx) ?_
              have fx : FX n ad sa z0 (sI (sI h (ad 0) 6 0) (ad 0) 6 (-14)) := (FX.sI fx)
              refine r_null rfl ?_
              refine r_aret0 rfl ?_
              show WR _ cd_75 48 [some (.ref (ad 0)), some (.int c), some (.int l), some (.int w), none, none] [.null] (sI (sI h (ad 0) 6 0) (ad 0) 6 (-14)) _
              refine r_astore0 (lv' := [some (.ref (ad 0)), some (.int c), some (.int l), some (.int w), some (.null), none]) rfl (Nat.le_of_ble_eq_true rfl) rfl ?_
              refine r_aload0 rfl rfl ?_
              refine r_ifnonnullN (tg := 57) rfl rfl ?_
              refine r_lc (x := 0) rfl rfl ?_
              refine r_lret rfl ?_
              show EV _ 193 [.ref (ad 30), .int c, .int l, .int w] (sI (sI h (ad 0) 6 0) (ad 0) 6 (-14)) _
              refine in_193 (Nat.le_of_ble_eq_true rfl) ?_
              show WR _ cd_193 0 [some (.ref (ad 30)), some (.int c), some (.int l), some (.int w), none, none, none] [] (sI (sI h (ad 0) 6 0) (ad 0) 6 (-14)) _
              refine r_iload rfl rfl ?_
              refine WR_tI (y := nI k2) ek2 ?_
              refine r_cs (y := 153) (ra := [.int (nI k2)]) (rest := []) rfl ⟨⟨rfl, rfl⟩, by decide⟩ rfl rfl (Nat.le_of_ble_eq_true rfl) ?_
              refine in_153 (Nat.le_of_ble_eq_true rfl) ?_
              show WR _ cd_153 0 [some (.int (nI k2))] [] (sI (sI h (ad 0) 6 0) (ad 0) 6 (-14)) _
              refine r_iload rfl rfl ?_
              refine r_if_lt (tg := 14) rfl rfl (fun q => False.elim (by have := i_nlt c1; have := i_rg c; have : (0 : Int32).toInt = 0 := rfl; have := i_eq ek2; have : (nI k2).toInt = ((k2 : Nat) : Int) := nI_toInt (by omega); have := i_nle c3; have : (24 : Int32).toInt = 24 := rfl; have := i_lt q; omega)) (fun _ => ?_)
              refine r_iload rfl rfl ?_
              refine r_ic (x := 24) rfl rfl ?_
              refine r_icmp_ge (tg := 14) rfl rfl (fun q => False.elim (by have := i_nlt c1; have := i_rg c; have : (0 : Int32).toInt = 0 := rfl; have := i_eq ek2; have : (nI k2).toInt = ((k2 : Nat) : Int) := nI_toInt (by omega); have := i_nle c3; have : (24 : Int32).toInt = 24 := rfl; have := i_le q; omega)) (fun _ => ?_)
              refine r_ic (x := 1) rfl rfl ?_
              refine r_goto (tg := 15) rfl rfl ?_
              refine r_zret rfl (.inr rfl) ?_
              show WR _ cd_193 4 [some (.ref (ad 30)), some (.int c), some (.int l), some (.int w), none, none, none] [.int 1] (sI (sI h (ad 0) 6 0) (ad 0) 6 (-14)) _
              refine r_if_ne (tg := 14) rfl rfl (fun _ => ?_) (fun q => absurd q (by decide))
              refine r_iload rfl rfl ?_
              refine WR_tI (y := nI k9) ek9 ?_
              refine r_i2l rfl ?_
              refine WR_tL (y := lN k9) (nI_l (by have := i_eq c4; have := i_rg l; have : (5 : Int32).toInt = 5 := rfl; have := i_eq ek9; have : (nI k9).toInt = ((k9 : Nat) : Int) := nI_toInt (by omega); omega)) ?_
              refine r_ldc (x := .long 5) rfl rfl ?_
              refine r_ldc (x := .long 6) rfl rfl ?_
              refine r_cs (y := 155) (ra := [.long 6, .long 5, .long (lN k9)]) (rest := []) rfl ⟨⟨rfl, rfl⟩, by decide⟩ rfl rfl (Nat.le_of_ble_eq_true rfl) ?_
              refine in_155 (Nat.le_of_ble_eq_true rfl) ?_
              show WR _ cd_155 0 [some (.long (lN k9)), none, some (.long 5), none, some (.long 6), none] [] (sI (sI h (ad 0) 6 0) (ad 0) 6 (-14)) _
              refine r_lload rfl rfl ?_
              refine r_lload rfl rfl ?_
              refine r_lif_lt (tg := 17) rfl rfl rfl (fun q => False.elim (by have := i_eq c4; have := i_rg l; have : (5 : Int32).toInt = 5 := rfl; have := i_eq ek9; have : (nI k9).toInt = ((k9 : Nat) : Int) := nI_toInt (by omega); have : (lN k9).toInt = ((k9 : Nat) : Int) := lN_toInt (by omega); have : (5 : Int64).toInt = 5 := rfl; have := l_lt q; omega)) (fun _ => ?_)
              refine r_lload rfl rfl ?_
              refine r_lload rfl rfl ?_
              refine r_lif_gt (tg := 17) rfl rfl rfl (fun q => False.elim (by have := i_eq c4; have := i_rg l; have : (5 : Int32).toInt = 5 := rfl; have := i_eq ek9; have : (nI k9).toInt = ((k9 : Nat) : Int) := nI_toInt (by omega); have : (lN k9).toInt = ((k9 : Nat) : Int) := lN_toInt (by omega); have : (6 : Int64).toInt = 6 := rfl; have := l_lt q; omega)) (fun _ => ?_)
              refine r_ic (x := 1) rfl rfl ?_
              refine r_goto (tg := 18) rfl rfl ?_
              refine r_zret rfl (.inr rfl) ?_
              show WR _ cd_193 25 [some (.ref (ad 30)), some (.int c), some (.int l), some (.int w), none, none, none] [.int 1] (sI (sI h (ad 0) 6 0) (ad 0) 6 (-14)) _
              refine r_if_eq (tg := 40) rfl rfl (fun q => absurd q (by decide)) (fun _ => ?_)
              refine r_iload rfl rfl ?_
              refine WR_tI (y := nI k7) ek7 ?_
              refine r_i2l rfl ?_
              refine WR_tL (y := lN k7) (nI_l (by have := i_nlt c5; have := i_rg w; have : (0 : Int32).toInt = 0 := rfl; have := i_eq ek7; have : (nI k7).toInt = ((k7 : Nat) : Int) := nI_toInt (by omega); have := i_le c8; have : (5 : Int32).toInt = 5 := rfl; omega)) ?_
              refine r_lc (x := 0) rfl rfl ?_
              refine r_ldc (x := .long 5) rfl rfl ?_
              refine r_cs (y := 155) (ra := [.long 5, .long 0, .long (lN k7)]) (rest := []) rfl ⟨⟨rfl, rfl⟩, by decide⟩ rfl rfl (Nat.le_of_ble_eq_true rfl) ?_
              refine in_155 (Nat.le_of_ble_eq_true rfl) ?_
              show WR _ cd_155 0 [some (.long (lN k7)), none, some (.long 0), none, some (.long 5), none] [] (sI (sI h (ad 0) 6 0) (ad 0) 6 (-14)) _
              refine r_lload rfl rfl ?_
              refine r_lload rfl rfl ?_
              refine r_lif_lt (tg := 17) rfl rfl rfl (fun q => False.elim (by have := i_nlt c5; have := i_rg w; have : (0 : Int32).toInt = 0 := rfl; have := i_eq ek7; have : (nI k7).toInt = ((k7 : Nat) : Int) := nI_toInt (by omega); have := i_le c8; have : (5 : Int32).toInt = 5 := rfl; have : (lN k7).toInt = ((k7 : Nat) : Int) := lN_toInt (by omega); have : (0 : Int64).toInt = 0 := rfl; have := l_lt q; omega)) (fun _ => ?_)
              refine r_lload rfl rfl ?_
              refine r_lload rfl rfl ?_
              refine r_lif_gt (tg := 17) rfl rfl rfl (fun q => False.elim (by have := i_nlt c5; have := i_rg w; have : (0 : Int32).toInt = 0 := rfl; have := i_eq ek7; have : (nI k7).toInt = ((k7 : Nat) : Int) := nI_toInt (by omega); have := i_le c8; have : (5 : Int32).toInt = 5 := rfl; have : (lN k7).toInt = ((k7 : Nat) : Int) := lN_toInt (by omega); have : (5 : Int64).toInt = 5 := rfl; have := l_lt q; omega)) (fun _ => ?_)
              refine r_ic (x := 1) rfl rfl ?_
              refine r_goto (tg := 18) rfl rfl ?_
              refine r_zret rfl (.inr rfl) ?_
              show WR _ cd_193 37 [some (.ref (ad 30)), some (.int c), some (.int l), some (.int w), none, none, none] [.int 1] (sI (sI h (ad 0) 6 0) (ad 0) 6 (-14)) _
              refine r_if_ne (tg := 47) rfl rfl (fun _ => ?_) (fun q => absurd q (by decide))
              refine r_aload rfl rfl ?_
              refine r_getA (b := ad 31) rfl ⟨rfl, rfl, rfl⟩ (fx_t30 fx) (fx_r30_0 fx) ?_
              refine r_iload rfl rfl ?_
              refine WR_tI (y := nI k2) ek2 ?_
              refine r_iaload rfl (.inl (fx_t31 fx)) (vp_ct (fx_n31 fx) (vp_in_nI (by have := i_nlt c1; have := i_rg c; have : (0 : Int32).toInt = 0 := rfl; have := i_eq ek2; have : (nI k2).toInt = ((k2 : Nat) : Int) := nI_toInt (by omega); have := i_nle c3; have : (24 : Int32).toInt = 24 := rfl; omega) (by omega))) ?_
              refine WR_tI (congrArg (hI (sI (sI h (ad 0) 6 0) (ad 0) 6 (-14)) (ad 31)) ((nI_clamp (by have := i_nlt c1; have := i_rg c; have : (0 : Int32).toInt = 0 := rfl; have := i_eq ek2; have : (nI k2).toInt = ((k2 : Nat) : Int) := nI_toInt (by omega); have := i_nle c3; have : (24 : Int32).toInt = 24 := rfl; omega)) : _ = k2)) ?_
              refine WR_tI (y := nI (q10 + 1000)) (Eq.trans (I_ne (fx_ne fx (by decide))) (Eq.trans (I_ne (fx_ne fx (by decide))) v10)) ?_
              refine r_istore (lv' := [some (.ref (ad 30)), some (.int c), some (.int l), some (.int w), some (.int (nI (q10 + 1000))), none, none]) rfl (Nat.le_of_ble_eq_true rfl) rfl ?_
              refine r_iload rfl rfl ?_
              refine r_ic (x := (-1)) rfl rfl ?_
              refine r_icmp_eq (tg := 78) rfl rfl (fun q => False.elim (by have : (nI (q10 + 1000)).toInt = ((q10 + 1000 : Nat) : Int) := nI_toInt (by omega); have : (-1 : Int32).toInt = -1 := rfl; have := i_eq q; omega)) (fun _ => ?_)
              refine r_aload rfl rfl ?_
              refine r_iload rfl rfl ?_
              refine r_cv (y := 166) (ra := [.int (nI (q10 + 1000))]) (rest := []) rfl ⟨⟨rfl, rfl⟩, rfl, by decide⟩ (fx_t30 fx) rfl rfl (Nat.le_of_ble_eq_true rfl) ?_
              refine in_166 (Nat.le_of_ble_eq_true rfl) ?_
              show WR _ cd_166 0 [some (.ref (ad 30)), some (.int (nI (q10 + 1000)))] [] (sI (sI h (ad 0) 6 0) (ad 0) 6 (-14)) _
              refine r_iload rfl rfl ?_
              refine r_ic (x := (-1)) rfl rfl ?_
              refine r_icmp_ne (tg := 9) rfl rfl (fun _ => ?_) (fun q => False.elim (by have : (nI (q10 + 1000)).toInt = ((q10 + 1000 : Nat) : Int) := nI_toInt (by omega); have : (-1 : Int32).toInt = -1 := rfl; have := i_eq q; omega))
              refine r_iload rfl rfl ?_
              refine r_ic (x := 1000) rfl rfl ?_
              refine r_icmp_lt (tg := 21) rfl rfl (fun q => False.elim (by have : (nI (q10 + 1000)).toInt = ((q10 + 1000 : Nat) : Int) := nI_toInt (by omega); have : (1000 : Int32).toInt = 1000 := rfl; have := i_lt q; omega)) (fun _ => ?_)
              refine r_ic (x := 10) rfl rfl ?_
              refine r_goto (tg := 27) rfl rfl ?_
              refine r_iret rfl ?_
              show WR _ cd_193 67 [some (.ref (ad 30)), some (.int c), some (.int l), some (.int w), some (.int (nI (q10 + 1000))), none, none] [.int 10] (sI (sI h (ad 0) 6 0) (ad 0) 6 (-14)) _
              refine r_iload rfl rfl ?_
              refine WR_tI (y := nI k9) ek9 ?_
              refine r_icmp_eq (tg := 78) rfl rfl (fun q => False.elim (by have := i_eq c4; have := i_rg l; have : (5 : Int32).toInt = 5 := rfl; have := i_eq ek9; have : (nI k9).toInt = ((k9 : Nat) : Int) := nI_toInt (by omega); have : (10 : Int32).toInt = 10 := rfl; have := i_eq q; omega)) (fun _ => ?_)
              refine r_aload rfl rfl ?_
              refine r_ic (x := (-14)) rfl rfl ?_
              refine r_cv (y := 171) (ra := [.int (-14)]) (rest := []) rfl ⟨⟨rfl, rfl⟩, rfl, by decide⟩ (fx_t30 fx) rfl rfl (Nat.le_of_ble_eq_true rfl) ?_
              refine in_171 (Nat.le_of_ble_eq_true rfl) ?_
              show WR _ cd_171 0 [some (.ref (ad 30)), some (.int (-14))] [] (sI (sI h (ad 0) 6 0) (ad 0) 6 (-14)) _
              refine r_aload rfl rfl ?_
              refine r_iload rfl rfl ?_
              refine r_putI rfl ⟨rfl, rfl, rfl⟩ (fx_t30 fx) ?_
              have fx : FX n ad sa z0 (sI (sI (sI h (ad 0) 6 0) (ad 0) 6 (-14)) (ad 30) 11 (-14)) := (FX.sI fx)
              refine r_lc (x := 0) rfl rfl ?_
              refine r_lret rfl ?_
              show WR _ cd_193 77 [some (.ref (ad 30)), some (.int c), some (.int l), some (.int w), some (.int (nI (q10 + 1000))), none, none] [.long 0] (sI (sI (sI h (ad 0) 6 0) (ad 0) 6 (-14)) (ad 30) 11 (-14)) _
              refine r_lret rfl ?_
              exact ⟨rfl, Rel.why r (((Chg.rf.sI (fx_j fx) (.inl (by decide))).sI (fx_j fx) (.inl (by decide))).sI (fx_j fx) (.inl (by decide))) ⟨rfl, by decide⟩ (Eq.trans (Eq.trans (I_ne (fx_ne fx (by decide))) I_eq) (Eq.symm I_eq)), (by (try simp only [hZ_sI, hZ_sL, hZ_sD, hZ_sR]); omega), (by (try simp only [hU_sI, hU_sL, hU_sD, hU_sR]); omega)⟩
            · refine r_aaloadA (b := mid t10) rfl (isQ_of (fx_t1 fx) (by decide)) (vp_ct (fx_n1 fx) (vp_in_nI (by have := i_nlt c1; have := i_rg c; have : (0 : Int32).toInt = 0 := rfl; have := i_eq ek2; have : (nI k2).toInt = ((k2 : Nat) : Int) := nI_toInt (by omega); have := i_nle c3; have : (24 : Int32).toInt = 24 := rfl; omega) (by omega))) (Eq.trans (congrArg (hR (sI h (ad 0) 6 0) (ad 1)) ((nI_clamp (by have := i_nlt c1; have := i_rg c; have : (0 : Int32).toInt = 0 := rfl; have := i_eq ek2; have : (nI k2).toInt = ((k2 : Nat) : Int) := nI_toInt (by omega); have := i_nle c3; have : (24 : Int32).toInt = 24 := rfl; omega)) : _ = k2)) (Eq.trans R_oI w10)) ?_
              refine r_astore (lv' := [some (.ref (ad 0)), some (.int (nI k2)), some (.int (nI k9)), some (.ref (mid t10)), none]) rfl (Nat.le_of_ble_eq_true rfl) rfl ?_
              refine r_aload rfl rfl ?_
              refine r_instY rfl (by decide) tg10 ?_
              refine r_if_eq (tg := 32) rfl rfl (fun q => absurd q (by decide)) (fun _ => ?_)
              refine r_aload rfl rfl ?_
              refine r_cast rfl tg10 ?_
              refine r_astore (lv' := [some (.ref (ad 0)), some (.int (nI k2)), some (.int (nI k9)), some (.ref (mid t10)), some (.ref (mid t10))]) rfl (Nat.le_of_ble_eq_true rfl) rfl ?_
              refine r_aload rfl rfl ?_
              refine r_getI rfl ⟨rfl, rfl, rfl⟩ tg10 ?_
              refine WR_tI (y := nI ln10) (Eq.trans (I_ne (dy_ad fx (.inl (by decide)) dz10)) l1_10) ?_
              refine r_iload rfl rfl ?_
              refine r_icmp_ne (tg := 32) rfl rfl (fun c11 => ?_) (fun c11 => ?_)
              · refine r_aload rfl rfl ?_
                refine r_aload rfl rfl ?_
                refine r_ifnonnullA (tg := 42) rfl rfl ?_
                refine r_ic (x := (-14)) rfl rfl ?_
                refine r_putI rfl ⟨rfl, rfl, rfl⟩ (fx_t0 fx) ?_
                have fx : FX n ad sa z0 (sI (sI h (ad 0) 6 0) (ad 0) 6 (-14)) := (FX.sI fx)
                refine r_null rfl ?_
                refine r_aret0 rfl ?_
                show WR _ cd_75 48 [some (.ref (ad 0)), some (.int c), some (.int l), some (.int w), none, none] [.null] (sI (sI h (ad 0) 6 0) (ad 0) 6 (-14)) _
                refine r_astore0 (lv' := [some (.ref (ad 0)), some (.int c), some (.int l), some (.int w), some (.null), none]) rfl (Nat.le_of_ble_eq_true rfl) rfl ?_
                refine r_aload0 rfl rfl ?_
                refine r_ifnonnullN (tg := 57) rfl rfl ?_
                refine r_lc (x := 0) rfl rfl ?_
                refine r_lret rfl ?_
                show EV _ 193 [.ref (ad 30), .int c, .int l, .int w] (sI (sI h (ad 0) 6 0) (ad 0) 6 (-14)) _
                refine in_193 (Nat.le_of_ble_eq_true rfl) ?_
                show WR _ cd_193 0 [some (.ref (ad 30)), some (.int c), some (.int l), some (.int w), none, none, none] [] (sI (sI h (ad 0) 6 0) (ad 0) 6 (-14)) _
                refine r_iload rfl rfl ?_
                refine WR_tI (y := nI k2) ek2 ?_
                refine r_cs (y := 153) (ra := [.int (nI k2)]) (rest := []) rfl ⟨⟨rfl, rfl⟩, by decide⟩ rfl rfl (Nat.le_of_ble_eq_true rfl) ?_
                refine in_153 (Nat.le_of_ble_eq_true rfl) ?_
                show WR _ cd_153 0 [some (.int (nI k2))] [] (sI (sI h (ad 0) 6 0) (ad 0) 6 (-14)) _
                refine r_iload rfl rfl ?_
                refine r_if_lt (tg := 14) rfl rfl (fun q => False.elim (by have := i_nlt c1; have := i_rg c; have : (0 : Int32).toInt = 0 := rfl; have := i_eq ek2; have : (nI k2).toInt = ((k2 : Nat) : Int) := nI_toInt (by omega); have := i_nle c3; have : (24 : Int32).toInt = 24 := rfl; have := i_lt q; omega)) (fun _ => ?_)
                refine r_iload rfl rfl ?_
                refine r_ic (x := 24) rfl rfl ?_
                refine r_icmp_ge (tg := 14) rfl rfl (fun q => False.elim (by have := i_nlt c1; have := i_rg c; have : (0 : Int32).toInt = 0 := rfl; have := i_eq ek2; have : (nI k2).toInt = ((k2 : Nat) : Int) := nI_toInt (by omega); have := i_nle c3; have : (24 : Int32).toInt = 24 := rfl; have := i_le q; omega)) (fun _ => ?_)
                refine r_ic (x := 1) rfl rfl ?_
                refine r_goto (tg := 15) rfl rfl ?_
                refine r_zret rfl (.inr rfl) ?_
                show WR _ cd_193 4 [some (.ref (ad 30)), some (.int c), some (.int l), some (.int w), none, none, none] [.int 1] (sI (sI h (ad 0) 6 0) (ad 0) 6 (-14)) _
                refine r_if_ne (tg := 14) rfl rfl (fun _ => ?_) (fun q => absurd q (by decide))
                refine r_iload rfl rfl ?_
                refine WR_tI (y := nI k9) ek9 ?_
                refine r_i2l rfl ?_
                refine WR_tL (y := lN k9) (nI_l (by have := i_eq c4; have := i_rg l; have : (5 : Int32).toInt = 5 := rfl; have := i_eq ek9; have : (nI k9).toInt = ((k9 : Nat) : Int) := nI_toInt (by omega); omega)) ?_
                refine r_ldc (x := .long 5) rfl rfl ?_
                refine r_ldc (x := .long 6) rfl rfl ?_
                refine r_cs (y := 155) (ra := [.long 6, .long 5, .long (lN k9)]) (rest := []) rfl ⟨⟨rfl, rfl⟩, by decide⟩ rfl rfl (Nat.le_of_ble_eq_true rfl) ?_
                refine in_155 (Nat.le_of_ble_eq_true rfl) ?_
                show WR _ cd_155 0 [some (.long (lN k9)), none, some (.long 5), none, some (.long 6), none] [] (sI (sI h (ad 0) 6 0) (ad 0) 6 (-14)) _
                refine r_lload rfl rfl ?_
                refine r_lload rfl rfl ?_
                refine r_lif_lt (tg := 17) rfl rfl rfl (fun q => False.elim (by have := i_eq c4; have := i_rg l; have : (5 : Int32).toInt = 5 := rfl; have := i_eq ek9; have : (nI k9).toInt = ((k9 : Nat) : Int) := nI_toInt (by omega); have : (lN k9).toInt = ((k9 : Nat) : Int) := lN_toInt (by omega); have : (5 : Int64).toInt = 5 := rfl; have := l_lt q; omega)) (fun _ => ?_)
                refine r_lload rfl rfl ?_
                refine r_lload rfl rfl ?_
                refine r_lif_gt (tg := 17) rfl rfl rfl (fun q => False.elim (by have := i_eq c4; have := i_rg l; have : (5 : Int32).toInt = 5 := rfl; have := i_eq ek9; have : (nI k9).toInt = ((k9 : Nat) : Int) := nI_toInt (by omega); have : (lN k9).toInt = ((k9 : Nat) : Int) := lN_toInt (by omega); have : (6 : Int64).toInt = 6 := rfl; have := l_lt q; omega)) (fun _ => ?_)
                refine r_ic (x := 1) rfl rfl ?_
                refine r_goto (tg := 18) rfl rfl ?_
                refine r_zret rfl (.inr rfl) ?_
                show WR _ cd_193 25 [some (.ref (ad 30)), some (.int c), some (.int l), some (.int w), none, none, none] [.int 1] (sI (sI h (ad 0) 6 0) (ad 0) 6 (-14)) _
                refine r_if_eq (tg := 40) rfl rfl (fun q => absurd q (by decide)) (fun _ => ?_)
                refine r_iload rfl rfl ?_
                refine WR_tI (y := nI k7) ek7 ?_
                refine r_i2l rfl ?_
                refine WR_tL (y := lN k7) (nI_l (by have := i_nlt c5; have := i_rg w; have : (0 : Int32).toInt = 0 := rfl; have := i_eq ek7; have : (nI k7).toInt = ((k7 : Nat) : Int) := nI_toInt (by omega); have := i_le c8; have : (5 : Int32).toInt = 5 := rfl; omega)) ?_
                refine r_lc (x := 0) rfl rfl ?_
                refine r_ldc (x := .long 5) rfl rfl ?_
                refine r_cs (y := 155) (ra := [.long 5, .long 0, .long (lN k7)]) (rest := []) rfl ⟨⟨rfl, rfl⟩, by decide⟩ rfl rfl (Nat.le_of_ble_eq_true rfl) ?_
                refine in_155 (Nat.le_of_ble_eq_true rfl) ?_
                show WR _ cd_155 0 [some (.long (lN k7)), none, some (.long 0), none, some (.long 5), none] [] (sI (sI h (ad 0) 6 0) (ad 0) 6 (-14)) _
                refine r_lload rfl rfl ?_
                refine r_lload rfl rfl ?_
                refine r_lif_lt (tg := 17) rfl rfl rfl (fun q => False.elim (by have := i_nlt c5; have := i_rg w; have : (0 : Int32).toInt = 0 := rfl; have := i_eq ek7; have : (nI k7).toInt = ((k7 : Nat) : Int) := nI_toInt (by omega); have := i_le c8; have : (5 : Int32).toInt = 5 := rfl; have : (lN k7).toInt = ((k7 : Nat) : Int) := lN_toInt (by omega); have : (0 : Int64).toInt = 0 := rfl; have := l_lt q; omega)) (fun _ => ?_)
                refine r_lload rfl rfl ?_
                refine r_lload rfl rfl ?_
                refine r_lif_gt (tg := 17) rfl rfl rfl (fun q => False.elim (by have := i_nlt c5; have := i_rg w; have : (0 : Int32).toInt = 0 := rfl; have := i_eq ek7; have : (nI k7).toInt = ((k7 : Nat) : Int) := nI_toInt (by omega); have := i_le c8; have : (5 : Int32).toInt = 5 := rfl; have : (lN k7).toInt = ((k7 : Nat) : Int) := lN_toInt (by omega); have : (5 : Int64).toInt = 5 := rfl; have := l_lt q; omega)) (fun _ => ?_)
                refine r_ic (x := 1) rfl rfl ?_
                refine r_goto (tg := 18) rfl rfl ?_
                refine r_zret rfl (.inr rfl) ?_
                show WR _ cd_193 37 [some (.ref (ad 30)), some (.int c), some (.int l), some (.int w), none, none, none] [.int 1] (sI (sI h (ad 0) 6 0) (ad 0) 6 (-14)) _
                refine r_if_ne (tg := 47) rfl rfl (fun _ => ?_) (fun q => absurd q (by decide))
                refine r_aload rfl rfl ?_
                refine r_getA (b := ad 31) rfl ⟨rfl, rfl, rfl⟩ (fx_t30 fx) (fx_r30_0 fx) ?_
                refine r_iload rfl rfl ?_
                refine WR_tI (y := nI k2) ek2 ?_
                refine r_iaload rfl (.inl (fx_t31 fx)) (vp_ct (fx_n31 fx) (vp_in_nI (by have := i_nlt c1; have := i_rg c; have : (0 : Int32).toInt = 0 := rfl; have := i_eq ek2; have : (nI k2).toInt = ((k2 : Nat) : Int) := nI_toInt (by omega); have := i_nle c3; have : (24 : Int32).toInt = 24 := rfl; omega) (by omega))) ?_
                refine WR_tI (congrArg (hI (sI (sI h (ad 0) 6 0) (ad 0) 6 (-14)) (ad 31)) ((nI_clamp (by have := i_nlt c1; have := i_rg c; have : (0 : Int32).toInt = 0 := rfl; have := i_eq ek2; have : (nI k2).toInt = ((k2 : Nat) : Int) := nI_toInt (by omega); have := i_nle c3; have : (24 : Int32).toInt = 24 := rfl; omega)) : _ = k2)) ?_
                refine WR_tI (y := nI t10) (Eq.trans (I_ne (fx_ne fx (by decide))) (Eq.trans (I_ne (fx_ne fx (by decide))) v10)) ?_
                refine r_istore (lv' := [some (.ref (ad 30)), some (.int c), some (.int l), some (.int w), some (.int (nI t10)), none, none]) rfl (Nat.le_of_ble_eq_true rfl) rfl ?_
                refine r_iload rfl rfl ?_
                refine r_ic (x := (-1)) rfl rfl ?_
                refine r_icmp_eq (tg := 78) rfl rfl (fun q => False.elim (by have : (nI t10).toInt = ((t10 : Nat) : Int) := nI_toInt (by omega); have : (-1 : Int32).toInt = -1 := rfl; have := i_eq q; omega)) (fun _ => ?_)
                refine r_aload rfl rfl ?_
                refine r_iload rfl rfl ?_
                refine r_cv (y := 166) (ra := [.int (nI t10)]) (rest := []) rfl ⟨⟨rfl, rfl⟩, rfl, by decide⟩ (fx_t30 fx) rfl rfl (Nat.le_of_ble_eq_true rfl) ?_
                refine in_166 (Nat.le_of_ble_eq_true rfl) ?_
                show WR _ cd_166 0 [some (.ref (ad 30)), some (.int (nI t10))] [] (sI (sI h (ad 0) 6 0) (ad 0) 6 (-14)) _
                refine r_iload rfl rfl ?_
                refine r_ic (x := (-1)) rfl rfl ?_
                refine r_icmp_ne (tg := 9) rfl rfl (fun _ => ?_) (fun q => False.elim (by have : (nI t10).toInt = ((t10 : Nat) : Int) := nI_toInt (by omega); have : (-1 : Int32).toInt = -1 := rfl; have := i_eq q; omega))
                refine r_iload rfl rfl ?_
                refine r_ic (x := 1000) rfl rfl ?_
                refine r_icmp_lt (tg := 21) rfl rfl (fun _ => ?_) (fun q => False.elim (by have : (nI t10).toInt = ((t10 : Nat) : Int) := nI_toInt (by omega); have : (1000 : Int32).toInt = 1000 := rfl; have := i_nlt q; omega))
                refine r_aload rfl rfl ?_
                refine r_getA (b := ad 33) rfl ⟨rfl, rfl, rfl⟩ (fx_t30 fx) (fx_r30_2 fx) ?_
                refine r_iload rfl rfl ?_
                refine r_iaload rfl (.inl (fx_t33 fx)) (vp_ct (fx_n33 fx) (vp_in_nI (by omega) (by omega))) ?_
                refine WR_tI (congrArg (hI (sI (sI h (ad 0) 6 0) (ad 0) 6 (-14)) (ad 33)) ((nI_clamp (by omega)) : _ = t10)) ?_
                refine WR_tI (y := nI ln10) (Eq.trans (I_ne (fx_ne fx (by decide))) (Eq.trans (I_ne (fx_ne fx (by decide))) l2_10)) ?_
                refine r_iret rfl ?_
                show WR _ cd_193 67 [some (.ref (ad 30)), some (.int c), some (.int l), some (.int w), some (.int (nI t10)), none, none] [.int (nI ln10)] (sI (sI h (ad 0) 6 0) (ad 0) 6 (-14)) _
                refine r_iload rfl rfl ?_
                refine WR_tI (y := nI k9) ek9 ?_
                refine r_icmp_eq (tg := 78) rfl rfl (fun q => False.elim (by have := i_eq c4; have := i_rg l; have : (5 : Int32).toInt = 5 := rfl; have := i_eq ek9; have : (nI k9).toInt = ((k9 : Nat) : Int) := nI_toInt (by omega); have := i_neq c11; have : (nI ln10).toInt = ((ln10 : Nat) : Int) := nI_toInt (by omega); have := i_eq q; omega)) (fun _ => ?_)
                refine r_aload rfl rfl ?_
                refine r_ic (x := (-14)) rfl rfl ?_
                refine r_cv (y := 171) (ra := [.int (-14)]) (rest := []) rfl ⟨⟨rfl, rfl⟩, rfl, by decide⟩ (fx_t30 fx) rfl rfl (Nat.le_of_ble_eq_true rfl) ?_
                refine in_171 (Nat.le_of_ble_eq_true rfl) ?_
                show WR _ cd_171 0 [some (.ref (ad 30)), some (.int (-14))] [] (sI (sI h (ad 0) 6 0) (ad 0) 6 (-14)) _
                refine r_aload rfl rfl ?_
                refine r_iload rfl rfl ?_
                refine r_putI rfl ⟨rfl, rfl, rfl⟩ (fx_t30 fx) ?_
                have fx : FX n ad sa z0 (sI (sI (sI h (ad 0) 6 0) (ad 0) 6 (-14)) (ad 30) 11 (-14)) := (FX.sI fx)
                refine r_lc (x := 0) rfl rfl ?_
                refine r_lret rfl ?_
                show WR _ cd_193 77 [some (.ref (ad 30)), some (.int c), some (.int l), some (.int w), some (.int (nI t10)), none, none] [.long 0] (sI (sI (sI h (ad 0) 6 0) (ad 0) 6 (-14)) (ad 30) 11 (-14)) _
                refine r_lret rfl ?_
                exact ⟨rfl, Rel.why r (((Chg.rf.sI (fx_j fx) (.inl (by decide))).sI (fx_j fx) (.inl (by decide))).sI (fx_j fx) (.inl (by decide))) ⟨rfl, by decide⟩ (Eq.trans (Eq.trans (I_ne (fx_ne fx (by decide))) I_eq) (Eq.symm I_eq)), (by (try simp only [hZ_sI, hZ_sL, hZ_sD, hZ_sR]); omega), (by (try simp only [hU_sI, hU_sL, hU_sD, hU_sR]); omega)⟩
              · refine r_aload rfl rfl ?_
                refine r_aret rfl ?_
                show WR _ cd_75 48 [some (.ref (ad 0)), some (.int c), some (.int l), some (.int w), none, none] [.ref (mid t10)] (sI h (ad 0) 6 0) _
                refine r_astore (lv' := [some (.ref (ad 0)), some (.int c), some (.int l), some (.int w), some (.ref (mid t10)), none]) rfl (Nat.le_of_ble_eq_true rfl) rfl ?_
                refine r_aload rfl rfl ?_
                refine r_ifnonnullA (tg := 57) rfl rfl ?_
                have b0 : k2 < 24 := (by have := i_nlt c1; have := i_rg c; have : (0 : Int32).toInt = 0 := rfl; have := i_eq ek2; have : (nI k2).toInt = ((k2 : Nat) : Int) := nI_toInt (by omega); have := i_nle c3; have : (24 : Int32).toInt = 24 := rfl; omega)
                have b1 : k7 ≤ 5 := (by have := i_nlt c5; have := i_rg w; have : (0 : Int32).toInt = 0 := rfl; have := i_eq ek7; have : (nI k7).toInt = ((k7 : Nat) : Int) := nI_toInt (by omega); have := i_le c8; have : (5 : Int32).toInt = 5 := rfl; omega)
                have b2 : ln10 = k9 := (by have := i_eq c4; have := i_rg l; have : (5 : Int32).toInt = 5 := rfl; have := i_eq ek9; have : (nI k9).toInt = ((k9 : Nat) : Int) := nI_toInt (by omega); have := i_eq c11; have : (nI ln10).toInt = ((ln10 : Nat) : Int) := nI_toInt (by omega); omega)
                have b3 : k9 = 5 ∨ k9 = 6 := (by have := i_eq c4; have := i_rg l; have : (5 : Int32).toInt = 5 := rfl; have := i_eq ek9; have : (nI k9).toInt = ((k9 : Nat) : Int) := nI_toInt (by omega); have := i_eq c11; have : (nI ln10).toInt = ((ln10 : Nat) : Int) := nI_toInt (by omega); omega)
                subst ek2; subst ek9; subst ek7
                exact t_seconds fx0 rt ra rp rf rst ru rs b0 ht10 v10 (b2 ▸ rw10) b3 b1
            · refine r_aaloadA (b := mid t10) rfl (isQ_of (fx_t1 fx) (by decide)) (vp_ct (fx_n1 fx) (vp_in_nI (by have := i_nlt c1; have := i_rg c; have : (0 : Int32).toInt = 0 := rfl; have := i_eq ek2; have : (nI k2).toInt = ((k2 : Nat) : Int) := nI_toInt (by omega); have := i_nle c3; have : (24 : Int32).toInt = 24 := rfl; omega) (by omega))) (Eq.trans (congrArg (hR (sI h (ad 0) 6 0) (ad 1)) ((nI_clamp (by have := i_nlt c1; have := i_rg c; have : (0 : Int32).toInt = 0 := rfl; have := i_eq ek2; have : (nI k2).toInt = ((k2 : Nat) : Int) := nI_toInt (by omega); have := i_nle c3; have : (24 : Int32).toInt = 24 := rfl; omega)) : _ = k2)) (Eq.trans R_oI w10)) ?_
              refine r_astore (lv' := [some (.ref (ad 0)), some (.int (nI k2)), some (.int (nI k9)), some (.ref (mid t10)), none]) rfl (Nat.le_of_ble_eq_true rfl) rfl ?_
              refine r_aload rfl rfl ?_
              refine r_instW rfl (by decide) tg10 (by decide) ?_
              refine r_if_eq (tg := 32) rfl rfl (fun _ => ?_) (fun q => absurd q (by decide))
              refine r_aload rfl rfl ?_
              refine r_aload rfl rfl ?_
              refine r_ifnonnullA (tg := 42) rfl rfl ?_
              refine r_ic (x := (-14)) rfl rfl ?_
              refine r_putI rfl ⟨rfl, rfl, rfl⟩ (fx_t0 fx) ?_
              have fx : FX n ad sa z0 (sI (sI h (ad 0) 6 0) (ad 0) 6 (-14)) := (FX.sI fx)
              refine r_null rfl ?_
              refine r_aret0 rfl ?_
              show WR _ cd_75 48 [some (.ref (ad 0)), some (.int c), some (.int l), some (.int w), none, none] [.null] (sI (sI h (ad 0) 6 0) (ad 0) 6 (-14)) _
              refine r_astore0 (lv' := [some (.ref (ad 0)), some (.int c), some (.int l), some (.int w), some (.null), none]) rfl (Nat.le_of_ble_eq_true rfl) rfl ?_
              refine r_aload0 rfl rfl ?_
              refine r_ifnonnullN (tg := 57) rfl rfl ?_
              refine r_lc (x := 0) rfl rfl ?_
              refine r_lret rfl ?_
              show EV _ 193 [.ref (ad 30), .int c, .int l, .int w] (sI (sI h (ad 0) 6 0) (ad 0) 6 (-14)) _
              refine in_193 (Nat.le_of_ble_eq_true rfl) ?_
              show WR _ cd_193 0 [some (.ref (ad 30)), some (.int c), some (.int l), some (.int w), none, none, none] [] (sI (sI h (ad 0) 6 0) (ad 0) 6 (-14)) _
              refine r_iload rfl rfl ?_
              refine WR_tI (y := nI k2) ek2 ?_
              refine r_cs (y := 153) (ra := [.int (nI k2)]) (rest := []) rfl ⟨⟨rfl, rfl⟩, by decide⟩ rfl rfl (Nat.le_of_ble_eq_true rfl) ?_
              refine in_153 (Nat.le_of_ble_eq_true rfl) ?_
              show WR _ cd_153 0 [some (.int (nI k2))] [] (sI (sI h (ad 0) 6 0) (ad 0) 6 (-14)) _
              refine r_iload rfl rfl ?_
              refine r_if_lt (tg := 14) rfl rfl (fun q => False.elim (by have := i_nlt c1; have := i_rg c; have : (0 : Int32).toInt = 0 := rfl; have := i_eq ek2; have : (nI k2).toInt = ((k2 : Nat) : Int) := nI_toInt (by omega); have := i_nle c3; have : (24 : Int32).toInt = 24 := rfl; have := i_lt q; omega)) (fun _ => ?_)
              refine r_iload rfl rfl ?_
              refine r_ic (x := 24) rfl rfl ?_
              refine r_icmp_ge (tg := 14) rfl rfl (fun q => False.elim (by have := i_nlt c1; have := i_rg c; have : (0 : Int32).toInt = 0 := rfl; have := i_eq ek2; have : (nI k2).toInt = ((k2 : Nat) : Int) := nI_toInt (by omega); have := i_nle c3; have : (24 : Int32).toInt = 24 := rfl; have := i_le q; omega)) (fun _ => ?_)
              refine r_ic (x := 1) rfl rfl ?_
              refine r_goto (tg := 15) rfl rfl ?_
              refine r_zret rfl (.inr rfl) ?_
              show WR _ cd_193 4 [some (.ref (ad 30)), some (.int c), some (.int l), some (.int w), none, none, none] [.int 1] (sI (sI h (ad 0) 6 0) (ad 0) 6 (-14)) _
              refine r_if_ne (tg := 14) rfl rfl (fun _ => ?_) (fun q => absurd q (by decide))
              refine r_iload rfl rfl ?_
              refine WR_tI (y := nI k9) ek9 ?_
              refine r_i2l rfl ?_
              refine WR_tL (y := lN k9) (nI_l (by have := i_eq c4; have := i_rg l; have : (5 : Int32).toInt = 5 := rfl; have := i_eq ek9; have : (nI k9).toInt = ((k9 : Nat) : Int) := nI_toInt (by omega); omega)) ?_
              refine r_ldc (x := .long 5) rfl rfl ?_
              refine r_ldc (x := .long 6) rfl rfl ?_
              refine r_cs (y := 155) (ra := [.long 6, .long 5, .long (lN k9)]) (rest := []) rfl ⟨⟨rfl, rfl⟩, by decide⟩ rfl rfl (Nat.le_of_ble_eq_true rfl) ?_
              refine in_155 (Nat.le_of_ble_eq_true rfl) ?_
              show WR _ cd_155 0 [some (.long (lN k9)), none, some (.long 5), none, some (.long 6), none] [] (sI (sI h (ad 0) 6 0) (ad 0) 6 (-14)) _
              refine r_lload rfl rfl ?_
              refine r_lload rfl rfl ?_
              refine r_lif_lt (tg := 17) rfl rfl rfl (fun q => False.elim (by have := i_eq c4; have := i_rg l; have : (5 : Int32).toInt = 5 := rfl; have := i_eq ek9; have : (nI k9).toInt = ((k9 : Nat) : Int) := nI_toInt (by omega); have : (lN k9).toInt = ((k9 : Nat) : Int) := lN_toInt (by omega); have : (5 : Int64).toInt = 5 := rfl; have := l_lt q; omega)) (fun _ => ?_)
              refine r_lload rfl rfl ?_
              refine r_lload rfl rfl ?_
              refine r_lif_gt (tg := 17) rfl rfl rfl (fun q => False.elim (by have := i_eq c4; have := i_rg l; have : (5 : Int32).toInt = 5 := rfl; have := i_eq ek9; have : (nI k9).toInt = ((k9 : Nat) : Int) := nI_toInt (by omega); have : (lN k9).toInt = ((k9 : Nat) : Int) := lN_toInt (by omega); have : (6 : Int64).toInt = 6 := rfl; have := l_lt q; omega)) (fun _ => ?_)
              refine r_ic (x := 1) rfl rfl ?_
              refine r_goto (tg := 18) rfl rfl ?_
              refine r_zret rfl (.inr rfl) ?_
              show WR _ cd_193 25 [some (.ref (ad 30)), some (.int c), some (.int l), some (.int w), none, none, none] [.int 1] (sI (sI h (ad 0) 6 0) (ad 0) 6 (-14)) _
              refine r_if_eq (tg := 40) rfl rfl (fun q => absurd q (by decide)) (fun _ => ?_)
              refine r_iload rfl rfl ?_
              refine WR_tI (y := nI k7) ek7 ?_
              refine r_i2l rfl ?_
              refine WR_tL (y := lN k7) (nI_l (by have := i_nlt c5; have := i_rg w; have : (0 : Int32).toInt = 0 := rfl; have := i_eq ek7; have : (nI k7).toInt = ((k7 : Nat) : Int) := nI_toInt (by omega); have := i_le c8; have : (5 : Int32).toInt = 5 := rfl; omega)) ?_
              refine r_lc (x := 0) rfl rfl ?_
              refine r_ldc (x := .long 5) rfl rfl ?_
              refine r_cs (y := 155) (ra := [.long 5, .long 0, .long (lN k7)]) (rest := []) rfl ⟨⟨rfl, rfl⟩, by decide⟩ rfl rfl (Nat.le_of_ble_eq_true rfl) ?_
              refine in_155 (Nat.le_of_ble_eq_true rfl) ?_
              show WR _ cd_155 0 [some (.long (lN k7)), none, some (.long 0), none, some (.long 5), none] [] (sI (sI h (ad 0) 6 0) (ad 0) 6 (-14)) _
              refine r_lload rfl rfl ?_
              refine r_lload rfl rfl ?_
              refine r_lif_lt (tg := 17) rfl rfl rfl (fun q => False.elim (by have := i_nlt c5; have := i_rg w; have : (0 : Int32).toInt = 0 := rfl; have := i_eq ek7; have : (nI k7).toInt = ((k7 : Nat) : Int) := nI_toInt (by omega); have := i_le c8; have : (5 : Int32).toInt = 5 := rfl; have : (lN k7).toInt = ((k7 : Nat) : Int) := lN_toInt (by omega); have : (0 : Int64).toInt = 0 := rfl; have := l_lt q; omega)) (fun _ => ?_)
              refine r_lload rfl rfl ?_
              refine r_lload rfl rfl ?_
              refine r_lif_gt (tg := 17) rfl rfl rfl (fun q => False.elim (by have := i_nlt c5; have := i_rg w; have : (0 : Int32).toInt = 0 := rfl; have := i_eq ek7; have : (nI k7).toInt = ((k7 : Nat) : Int) := nI_toInt (by omega); have := i_le c8; have : (5 : Int32).toInt = 5 := rfl; have : (lN k7).toInt = ((k7 : Nat) : Int) := lN_toInt (by omega); have : (5 : Int64).toInt = 5 := rfl; have := l_lt q; omega)) (fun _ => ?_)
              refine r_ic (x := 1) rfl rfl ?_
              refine r_goto (tg := 18) rfl rfl ?_
              refine r_zret rfl (.inr rfl) ?_
              show WR _ cd_193 37 [some (.ref (ad 30)), some (.int c), some (.int l), some (.int w), none, none, none] [.int 1] (sI (sI h (ad 0) 6 0) (ad 0) 6 (-14)) _
              refine r_if_ne (tg := 47) rfl rfl (fun _ => ?_) (fun q => absurd q (by decide))
              refine r_aload rfl rfl ?_
              refine r_getA (b := ad 31) rfl ⟨rfl, rfl, rfl⟩ (fx_t30 fx) (fx_r30_0 fx) ?_
              refine r_iload rfl rfl ?_
              refine WR_tI (y := nI k2) ek2 ?_
              refine r_iaload rfl (.inl (fx_t31 fx)) (vp_ct (fx_n31 fx) (vp_in_nI (by have := i_nlt c1; have := i_rg c; have : (0 : Int32).toInt = 0 := rfl; have := i_eq ek2; have : (nI k2).toInt = ((k2 : Nat) : Int) := nI_toInt (by omega); have := i_nle c3; have : (24 : Int32).toInt = 24 := rfl; omega) (by omega))) ?_
              refine WR_tI (congrArg (hI (sI (sI h (ad 0) 6 0) (ad 0) 6 (-14)) (ad 31)) ((nI_clamp (by have := i_nlt c1; have := i_rg c; have : (0 : Int32).toInt = 0 := rfl; have := i_eq ek2; have : (nI k2).toInt = ((k2 : Nat) : Int) := nI_toInt (by omega); have := i_nle c3; have : (24 : Int32).toInt = 24 := rfl; omega)) : _ = k2)) ?_
              refine WR_tI (y := nI t10) (Eq.trans (I_ne (fx_ne fx (by decide))) (Eq.trans (I_ne (fx_ne fx (by decide))) v10)) ?_
              refine r_istore (lv' := [some (.ref (ad 30)), some (.int c), some (.int l), some (.int w), some (.int (nI t10)), none, none]) rfl (Nat.le_of_ble_eq_true rfl) rfl ?_
              refine r_iload rfl rfl ?_
              refine r_ic (x := (-1)) rfl rfl ?_
              refine r_icmp_eq (tg := 78) rfl rfl (fun q => False.elim (by have : (nI t10).toInt = ((t10 : Nat) : Int) := nI_toInt (by omega); have : (-1 : Int32).toInt = -1 := rfl; have := i_eq q; omega)) (fun _ => ?_)
              refine r_aload rfl rfl ?_
              refine r_iload rfl rfl ?_
              refine r_cv (y := 166) (ra := [.int (nI t10)]) (rest := []) rfl ⟨⟨rfl, rfl⟩, rfl, by decide⟩ (fx_t30 fx) rfl rfl (Nat.le_of_ble_eq_true rfl) ?_
              refine in_166 (Nat.le_of_ble_eq_true rfl) ?_
              show WR _ cd_166 0 [some (.ref (ad 30)), some (.int (nI t10))] [] (sI (sI h (ad 0) 6 0) (ad 0) 6 (-14)) _
              refine r_iload rfl rfl ?_
              refine r_ic (x := (-1)) rfl rfl ?_
              refine r_icmp_ne (tg := 9) rfl rfl (fun _ => ?_) (fun q => False.elim (by have : (nI t10).toInt = ((t10 : Nat) : Int) := nI_toInt (by omega); have : (-1 : Int32).toInt = -1 := rfl; have := i_eq q; omega))
              refine r_iload rfl rfl ?_
              refine r_ic (x := 1000) rfl rfl ?_
              refine r_icmp_lt (tg := 21) rfl rfl (fun _ => ?_) (fun q => False.elim (by have : (nI t10).toInt = ((t10 : Nat) : Int) := nI_toInt (by omega); have : (1000 : Int32).toInt = 1000 := rfl; have := i_nlt q; omega))
              refine r_aload rfl rfl ?_
              refine r_getA (b := ad 33) rfl ⟨rfl, rfl, rfl⟩ (fx_t30 fx) (fx_r30_2 fx) ?_
              refine r_iload rfl rfl ?_
              refine r_iaload rfl (.inl (fx_t33 fx)) (vp_ct (fx_n33 fx) (vp_in_nI (by omega) (by omega))) ?_
              refine WR_tI (congrArg (hI (sI (sI h (ad 0) 6 0) (ad 0) 6 (-14)) (ad 33)) ((nI_clamp (by omega)) : _ = t10)) ?_
              refine WR_tI (y := 8) (Eq.trans (I_ne (fx_ne fx (by decide))) (Eq.trans (I_ne (fx_ne fx (by decide))) l2_10)) ?_
              refine r_iret rfl ?_
              show WR _ cd_193 67 [some (.ref (ad 30)), some (.int c), some (.int l), some (.int w), some (.int (nI t10)), none, none] [.int 8] (sI (sI h (ad 0) 6 0) (ad 0) 6 (-14)) _
              refine r_iload rfl rfl ?_
              refine WR_tI (y := nI k9) ek9 ?_
              refine r_icmp_eq (tg := 78) rfl rfl (fun q => False.elim (by have := i_eq c4; have := i_rg l; have : (5 : Int32).toInt = 5 := rfl; have := i_eq ek9; have : (nI k9).toInt = ((k9 : Nat) : Int) := nI_toInt (by omega); have : (8 : Int32).toInt = 8 := rfl; have := i_eq q; omega)) (fun _ => ?_)
              refine r_aload rfl rfl ?_
              refine r_ic (x := (-14)) rfl rfl ?_
              refine r_cv (y := 171) (ra := [.int (-14)]) (rest := []) rfl ⟨⟨rfl, rfl⟩, rfl, by decide⟩ (fx_t30 fx) rfl rfl (Nat.le_of_ble_eq_true rfl) ?_
              refine in_171 (Nat.le_of_ble_eq_true rfl) ?_
              show WR _ cd_171 0 [some (.ref (ad 30)), some (.int (-14))] [] (sI (sI h (ad 0) 6 0) (ad 0) 6 (-14)) _
              refine r_aload rfl rfl ?_
              refine r_iload rfl rfl ?_
              refine r_putI rfl ⟨rfl, rfl, rfl⟩ (fx_t30 fx) ?_
              have fx : FX n ad sa z0 (sI (sI (sI h (ad 0) 6 0) (ad 0) 6 (-14)) (ad 30) 11 (-14)) := (FX.sI fx)
              refine r_lc (x := 0) rfl rfl ?_
              refine r_lret rfl ?_
              show WR _ cd_193 77 [some (.ref (ad 30)), some (.int c), some (.int l), some (.int w), some (.int (nI t10)), none, none] [.long 0] (sI (sI (sI h (ad 0) 6 0) (ad 0) 6 (-14)) (ad 30) 11 (-14)) _
              refine r_lret rfl ?_
              exact ⟨rfl, Rel.why r (((Chg.rf.sI (fx_j fx) (.inl (by decide))).sI (fx_j fx) (.inl (by decide))).sI (fx_j fx) (.inl (by decide))) ⟨rfl, by decide⟩ (Eq.trans (Eq.trans (I_ne (fx_ne fx (by decide))) I_eq) (Eq.symm I_eq)), (by (try simp only [hZ_sI, hZ_sL, hZ_sD, hZ_sR]); omega), (by (try simp only [hU_sI, hU_sL, hU_sD, hU_sR]); omega)⟩
            · refine r_aaloadA (b := mid t10) rfl (isQ_of (fx_t1 fx) (by decide)) (vp_ct (fx_n1 fx) (vp_in_nI (by have := i_nlt c1; have := i_rg c; have : (0 : Int32).toInt = 0 := rfl; have := i_eq ek2; have : (nI k2).toInt = ((k2 : Nat) : Int) := nI_toInt (by omega); have := i_nle c3; have : (24 : Int32).toInt = 24 := rfl; omega) (by omega))) (Eq.trans (congrArg (hR (sI h (ad 0) 6 0) (ad 1)) ((nI_clamp (by have := i_nlt c1; have := i_rg c; have : (0 : Int32).toInt = 0 := rfl; have := i_eq ek2; have : (nI k2).toInt = ((k2 : Nat) : Int) := nI_toInt (by omega); have := i_nle c3; have : (24 : Int32).toInt = 24 := rfl; omega)) : _ = k2)) (Eq.trans R_oI w10)) ?_
              refine r_astore (lv' := [some (.ref (ad 0)), some (.int (nI k2)), some (.int (nI k9)), some (.ref (mid t10)), none]) rfl (Nat.le_of_ble_eq_true rfl) rfl ?_
              refine r_aload rfl rfl ?_
              refine r_instW rfl (by decide) tg10 (by decide) ?_
              refine r_if_eq (tg := 32) rfl rfl (fun _ => ?_) (fun q => absurd q (by decide))
              refine r_aload rfl rfl ?_
              refine r_aload rfl rfl ?_
              refine r_ifnonnullA (tg := 42) rfl rfl ?_
              refine r_ic (x := (-14)) rfl rfl ?_
              refine r_putI rfl ⟨rfl, rfl, rfl⟩ (fx_t0 fx) ?_
              have fx : FX n ad sa z0 (sI (sI h (ad 0) 6 0) (ad 0) 6 (-14)) := (FX.sI fx)
              refine r_null rfl ?_
              refine r_aret0 rfl ?_
              show WR _ cd_75 48 [some (.ref (ad 0)), some (.int c), some (.int l), some (.int w), none, none] [.null] (sI (sI h (ad 0) 6 0) (ad 0) 6 (-14)) _
              refine r_astore0 (lv' := [some (.ref (ad 0)), some (.int c), some (.int l), some (.int w), some (.null), none]) rfl (Nat.le_of_ble_eq_true rfl) rfl ?_
              refine r_aload0 rfl rfl ?_
              refine r_ifnonnullN (tg := 57) rfl rfl ?_
              refine r_lc (x := 0) rfl rfl ?_
              refine r_lret rfl ?_
              show EV _ 193 [.ref (ad 30), .int c, .int l, .int w] (sI (sI h (ad 0) 6 0) (ad 0) 6 (-14)) _
              refine in_193 (Nat.le_of_ble_eq_true rfl) ?_
              show WR _ cd_193 0 [some (.ref (ad 30)), some (.int c), some (.int l), some (.int w), none, none, none] [] (sI (sI h (ad 0) 6 0) (ad 0) 6 (-14)) _
              refine r_iload rfl rfl ?_
              refine WR_tI (y := nI k2) ek2 ?_
              refine r_cs (y := 153) (ra := [.int (nI k2)]) (rest := []) rfl ⟨⟨rfl, rfl⟩, by decide⟩ rfl rfl (Nat.le_of_ble_eq_true rfl) ?_
              refine in_153 (Nat.le_of_ble_eq_true rfl) ?_
              show WR _ cd_153 0 [some (.int (nI k2))] [] (sI (sI h (ad 0) 6 0) (ad 0) 6 (-14)) _
              refine r_iload rfl rfl ?_
              refine r_if_lt (tg := 14) rfl rfl (fun q => False.elim (by have := i_nlt c1; have := i_rg c; have : (0 : Int32).toInt = 0 := rfl; have := i_eq ek2; have : (nI k2).toInt = ((k2 : Nat) : Int) := nI_toInt (by omega); have := i_nle c3; have : (24 : Int32).toInt = 24 := rfl; have := i_lt q; omega)) (fun _ => ?_)
              refine r_iload rfl rfl ?_
              refine r_ic (x := 24) rfl rfl ?_
              refine r_icmp_ge (tg := 14) rfl rfl (fun q => False.elim (by have := i_nlt c1; have := i_rg c; have : (0 : Int32).toInt = 0 := rfl; have := i_eq ek2; have : (nI k2).toInt = ((k2 : Nat) : Int) := nI_toInt (by omega); have := i_nle c3; have : (24 : Int32).toInt = 24 := rfl; have := i_le q; omega)) (fun _ => ?_)
              refine r_ic (x := 1) rfl rfl ?_
              refine r_goto (tg := 15) rfl rfl ?_
              refine r_zret rfl (.inr rfl) ?_
              show WR _ cd_193 4 [some (.ref (ad 30)), some (.int c), some (.int l), some (.int w), none, none, none] [.int 1] (sI (sI h (ad 0) 6 0) (ad 0) 6 (-14)) _
              refine r_if_ne (tg := 14) rfl rfl (fun _ => ?_) (fun q => absurd q (by decide))
              refine r_iload rfl rfl ?_
              refine WR_tI (y := nI k9) ek9 ?_
              refine r_i2l rfl ?_
              refine WR_tL (y := lN k9) (nI_l (by have := i_eq c4; have := i_rg l; have : (5 : Int32).toInt = 5 := rfl; have := i_eq ek9; have : (nI k9).toInt = ((k9 : Nat) : Int) := nI_toInt (by omega); omega)) ?_
              refine r_ldc (x := .long 5) rfl rfl ?_
              refine r_ldc (x := .long 6) rfl rfl ?_
              refine r_cs (y := 155) (ra := [.long 6, .long 5, .long (lN k9)]) (rest := []) rfl ⟨⟨rfl, rfl⟩, by decide⟩ rfl rfl (Nat.le_of_ble_eq_true rfl) ?_
              refine in_155 (Nat.le_of_ble_eq_true rfl) ?_
              show WR _ cd_155 0 [some (.long (lN k9)), none, some (.long 5), none, some (.long 6), none] [] (sI (sI h (ad 0) 6 0) (ad 0) 6 (-14)) _
              refine r_lload rfl rfl ?_
              refine r_lload rfl rfl ?_
              refine r_lif_lt (tg := 17) rfl rfl rfl (fun q => False.elim (by have := i_eq c4; have := i_rg l; have : (5 : Int32).toInt = 5 := rfl; have := i_eq ek9; have : (nI k9).toInt = ((k9 : Nat) : Int) := nI_toInt (by omega); have : (lN k9).toInt = ((k9 : Nat) : Int) := lN_toInt (by omega); have : (5 : Int64).toInt = 5 := rfl; have := l_lt q; omega)) (fun _ => ?_)
              refine r_lload rfl rfl ?_
              refine r_lload rfl rfl ?_
              refine r_lif_gt (tg := 17) rfl rfl rfl (fun q => False.elim (by have := i_eq c4; have := i_rg l; have : (5 : Int32).toInt = 5 := rfl; have := i_eq ek9; have : (nI k9).toInt = ((k9 : Nat) : Int) := nI_toInt (by omega); have : (lN k9).toInt = ((k9 : Nat) : Int) := lN_toInt (by omega); have : (6 : Int64).toInt = 6 := rfl; have := l_lt q; omega)) (fun _ => ?_)
              refine r_ic (x := 1) rfl rfl ?_
              refine r_goto (tg := 18) rfl rfl ?_
              refine r_zret rfl (.inr rfl) ?_
              show WR _ cd_193 25 [some (.ref (ad 30)), some (.int c), some (.int l), some (.int w), none, none, none] [.int 1] (sI (sI h (ad 0) 6 0) (ad 0) 6 (-14)) _
              refine r_if_eq (tg := 40) rfl rfl (fun q => absurd q (by decide)) (fun _ => ?_)
              refine r_iload rfl rfl ?_
              refine WR_tI (y := nI k7) ek7 ?_
              refine r_i2l rfl ?_
              refine WR_tL (y := lN k7) (nI_l (by have := i_nlt c5; have := i_rg w; have : (0 : Int32).toInt = 0 := rfl; have := i_eq ek7; have : (nI k7).toInt = ((k7 : Nat) : Int) := nI_toInt (by omega); have := i_le c8; have : (5 : Int32).toInt = 5 := rfl; omega)) ?_
              refine r_lc (x := 0) rfl rfl ?_
              refine r_ldc (x := .long 5) rfl rfl ?_
              refine r_cs (y := 155) (ra := [.long 5, .long 0, .long (lN k7)]) (rest := []) rfl ⟨⟨rfl, rfl⟩, by decide⟩ rfl rfl (Nat.le_of_ble_eq_true rfl) ?_
              refine in_155 (Nat.le_of_ble_eq_true rfl) ?_
              show WR _ cd_155 0 [some (.long (lN k7)), none, some (.long 0), none, some (.long 5), none] [] (sI (sI h (ad 0) 6 0) (ad 0) 6 (-14)) _
              refine r_lload rfl rfl ?_
              refine r_lload rfl rfl ?_
              refine r_lif_lt (tg := 17) rfl rfl rfl (fun q => False.elim (by have := i_nlt c5; have := i_rg w; have : (0 : Int32).toInt = 0 := rfl; have := i_eq ek7; have : (nI k7).toInt = ((k7 : Nat) : Int) := nI_toInt (by omega); have := i_le c8; have : (5 : Int32).toInt = 5 := rfl; have : (lN k7).toInt = ((k7 : Nat) : Int) := lN_toInt (by omega); have : (0 : Int64).toInt = 0 := rfl; have := l_lt q; omega)) (fun _ => ?_)
              refine r_lload rfl rfl ?_
              refine r_lload rfl rfl ?_
              refine r_lif_gt (tg := 17) rfl rfl rfl (fun q => False.elim (by have := i_nlt c5; have := i_rg w; have : (0 : Int32).toInt = 0 := rfl; have := i_eq ek7; have : (nI k7).toInt = ((k7 : Nat) : Int) := nI_toInt (by omega); have := i_le c8; have : (5 : Int32).toInt = 5 := rfl; have : (lN k7).toInt = ((k7 : Nat) : Int) := lN_toInt (by omega); have : (5 : Int64).toInt = 5 := rfl; have := l_lt q; omega)) (fun _ => ?_)
              refine r_ic (x := 1) rfl rfl ?_
              refine r_goto (tg := 18) rfl rfl ?_
              refine r_zret rfl (.inr rfl) ?_
              show WR _ cd_193 37 [some (.ref (ad 30)), some (.int c), some (.int l), some (.int w), none, none, none] [.int 1] (sI (sI h (ad 0) 6 0) (ad 0) 6 (-14)) _
              refine r_if_ne (tg := 47) rfl rfl (fun _ => ?_) (fun q => absurd q (by decide))
              refine r_aload rfl rfl ?_
              refine r_getA (b := ad 31) rfl ⟨rfl, rfl, rfl⟩ (fx_t30 fx) (fx_r30_0 fx) ?_
              refine r_iload rfl rfl ?_
              refine WR_tI (y := nI k2) ek2 ?_
              refine r_iaload rfl (.inl (fx_t31 fx)) (vp_ct (fx_n31 fx) (vp_in_nI (by have := i_nlt c1; have := i_rg c; have : (0 : Int32).toInt = 0 := rfl; have := i_eq ek2; have : (nI k2).toInt = ((k2 : Nat) : Int) := nI_toInt (by omega); have := i_nle c3; have : (24 : Int32).toInt = 24 := rfl; omega) (by omega))) ?_
              refine WR_tI (congrArg (hI (sI (sI h (ad 0) 6 0) (ad 0) 6 (-14)) (ad 31)) ((nI_clamp (by have := i_nlt c1; have := i_rg c; have : (0 : Int32).toInt = 0 := rfl; have := i_eq ek2; have : (nI k2).toInt = ((k2 : Nat) : Int) := nI_toInt (by omega); have := i_nle c3; have : (24 : Int32).toInt = 24 := rfl; omega)) : _ = k2)) ?_
              refine WR_tI (y := nI t10) (Eq.trans (I_ne (fx_ne fx (by decide))) (Eq.trans (I_ne (fx_ne fx (by decide))) v10)) ?_
              refine r_istore (lv' := [some (.ref (ad 30)), some (.int c), some (.int l), some (.int w), some (.int (nI t10)), none, none]) rfl (Nat.le_of_ble_eq_true rfl) rfl ?_
              refine r_iload rfl rfl ?_
              refine r_ic (x := (-1)) rfl rfl ?_
              refine r_icmp_eq (tg := 78) rfl rfl (fun q => False.elim (by have : (nI t10).toInt = ((t10 : Nat) : Int) := nI_toInt (by omega); have : (-1 : Int32).toInt = -1 := rfl; have := i_eq q; omega)) (fun _ => ?_)
              refine r_aload rfl rfl ?_
              refine r_iload rfl rfl ?_
              refine r_cv (y := 166) (ra := [.int (nI t10)]) (rest := []) rfl ⟨⟨rfl, rfl⟩, rfl, by decide⟩ (fx_t30 fx) rfl rfl (Nat.le_of_ble_eq_true rfl) ?_
              refine in_166 (Nat.le_of_ble_eq_true rfl) ?_
              show WR _ cd_166 0 [some (.ref (ad 30)), some (.int (nI t10))] [] (sI (sI h (ad 0) 6 0) (ad 0) 6 (-14)) _
              refine r_iload rfl rfl ?_
              refine r_ic (x := (-1)) rfl rfl ?_
              refine r_icmp_ne (tg := 9) rfl rfl (fun _ => ?_) (fun q => False.elim (by have : (nI t10).toInt = ((t10 : Nat) : Int) := nI_toInt (by omega); have : (-1 : Int32).toInt = -1 := rfl; have := i_eq q; omega))
              refine r_iload rfl rfl ?_
              refine r_ic (x := 1000) rfl rfl ?_
              refine r_icmp_lt (tg := 21) rfl rfl (fun _ => ?_) (fun q => False.elim (by have : (nI t10).toInt = ((t10 : Nat) : Int) := nI_toInt (by omega); have : (1000 : Int32).toInt = 1000 := rfl; have := i_nlt q; omega))
              refine r_aload rfl rfl ?_
              refine r_getA (b := ad 33) rfl ⟨rfl, rfl, rfl⟩ (fx_t30 fx) (fx_r30_2 fx) ?_
              refine r_iload rfl rfl ?_
              refine r_iaload rfl (.inl (fx_t33 fx)) (vp_ct (fx_n33 fx) (vp_in_nI (by omega) (by omega))) ?_
              refine WR_tI (congrArg (hI (sI (sI h (ad 0) 6 0) (ad 0) 6 (-14)) (ad 33)) ((nI_clamp (by omega)) : _ = t10)) ?_
              refine WR_tI (y := 9) (Eq.trans (I_ne (fx_ne fx (by decide))) (Eq.trans (I_ne (fx_ne fx (by decide))) l2_10)) ?_
              refine r_iret rfl ?_
              show WR _ cd_193 67 [some (.ref (ad 30)), some (.int c), some (.int l), some (.int w), some (.int (nI t10)), none, none] [.int 9] (sI (sI h (ad 0) 6 0) (ad 0) 6 (-14)) _
              refine r_iload rfl rfl ?_
              refine WR_tI (y := nI k9) ek9 ?_
              refine r_icmp_eq (tg := 78) rfl rfl (fun q => False.elim (by have := i_eq c4; have := i_rg l; have : (5 : Int32).toInt = 5 := rfl; have := i_eq ek9; have : (nI k9).toInt = ((k9 : Nat) : Int) := nI_toInt (by omega); have : (9 : Int32).toInt = 9 := rfl; have := i_eq q; omega)) (fun _ => ?_)
              refine r_aload rfl rfl ?_
              refine r_ic (x := (-14)) rfl rfl ?_
              refine r_cv (y := 171) (ra := [.int (-14)]) (rest := []) rfl ⟨⟨rfl, rfl⟩, rfl, by decide⟩ (fx_t30 fx) rfl rfl (Nat.le_of_ble_eq_true rfl) ?_
              refine in_171 (Nat.le_of_ble_eq_true rfl) ?_
              show WR _ cd_171 0 [some (.ref (ad 30)), some (.int (-14))] [] (sI (sI h (ad 0) 6 0) (ad 0) 6 (-14)) _
              refine r_aload rfl rfl ?_
              refine r_iload rfl rfl ?_
              refine r_putI rfl ⟨rfl, rfl, rfl⟩ (fx_t30 fx) ?_
              have fx : FX n ad sa z0 (sI (sI (sI h (ad 0) 6 0) (ad 0) 6 (-14)) (ad 30) 11 (-14)) := (FX.sI fx)
              refine r_lc (x := 0) rfl rfl ?_
              refine r_lret rfl ?_
              show WR _ cd_193 77 [some (.ref (ad 30)), some (.int c), some (.int l), some (.int w), some (.int (nI t10)), none, none] [.long 0] (sI (sI (sI h (ad 0) 6 0) (ad 0) 6 (-14)) (ad 30) 11 (-14)) _
              refine r_lret rfl ?_
              exact ⟨rfl, Rel.why r (((Chg.rf.sI (fx_j fx) (.inl (by decide))).sI (fx_j fx) (.inl (by decide))).sI (fx_j fx) (.inl (by decide))) ⟨rfl, by decide⟩ (Eq.trans (Eq.trans (I_ne (fx_ne fx (by decide))) I_eq) (Eq.symm I_eq)), (by (try simp only [hZ_sI, hZ_sL, hZ_sD, hZ_sR]); omega), (by (try simp only [hU_sI, hU_sL, hU_sD, hU_sR]); omega)⟩
          · refine r_aload rfl rfl ?_
            refine r_ic (x := (-3)) rfl rfl ?_
            refine r_cv (y := 65) (ra := [.int (-3)]) (rest := []) rfl ⟨⟨rfl, rfl⟩, rfl, by decide⟩ (fx_t0 fx) rfl rfl (Nat.le_of_ble_eq_true rfl) ?_
            refine in_65 (Nat.le_of_ble_eq_true rfl) ?_
            show WR _ cd_65 0 [some (.ref (ad 0)), some (.int (-3))] [] (sI h (ad 0) 6 0) _
            refine r_aload rfl rfl ?_
            refine r_iload rfl rfl ?_
            refine r_putI rfl ⟨rfl, rfl, rfl⟩ (fx_t0 fx) ?_
            have fx : FX n ad sa z0 (sI (sI h (ad 0) 6 0) (ad 0) 6 (-3)) := (FX.sI fx)
            refine r_lc (x := 0) rfl rfl ?_
            refine r_lret rfl ?_
            show WR _ cd_75 41 [some (.ref (ad 0)), some (.int c), some (.int l), some (.int w), none, none] [.long 0] (sI (sI h (ad 0) 6 0) (ad 0) 6 (-3)) _
            refine r_lret rfl ?_
            show EV _ 193 [.ref (ad 30), .int c, .int l, .int w] (sI (sI h (ad 0) 6 0) (ad 0) 6 (-3)) _
            refine in_193 (Nat.le_of_ble_eq_true rfl) ?_
            show WR _ cd_193 0 [some (.ref (ad 30)), some (.int c), some (.int l), some (.int w), none, none, none] [] (sI (sI h (ad 0) 6 0) (ad 0) 6 (-3)) _
            refine r_iload rfl rfl ?_
            refine WR_tI (y := nI k2) ek2 ?_
            refine r_cs (y := 153) (ra := [.int (nI k2)]) (rest := []) rfl ⟨⟨rfl, rfl⟩, by decide⟩ rfl rfl (Nat.le_of_ble_eq_true rfl) ?_
            refine in_153 (Nat.le_of_ble_eq_true rfl) ?_
            show WR _ cd_153 0 [some (.int (nI k2))] [] (sI (sI h (ad 0) 6 0) (ad 0) 6 (-3)) _
            refine r_iload rfl rfl ?_
            refine r_if_lt (tg := 14) rfl rfl (fun q => False.elim (by have := i_nlt c1; have := i_rg c; have : (0 : Int32).toInt = 0 := rfl; have := i_eq ek2; have : (nI k2).toInt = ((k2 : Nat) : Int) := nI_toInt (by omega); have := i_nle c3; have : (24 : Int32).toInt = 24 := rfl; have := i_lt q; omega)) (fun _ => ?_)
            refine r_iload rfl rfl ?_
            refine r_ic (x := 24) rfl rfl ?_
            refine r_icmp_ge (tg := 14) rfl rfl (fun q => False.elim (by have := i_nlt c1; have := i_rg c; have : (0 : Int32).toInt = 0 := rfl; have := i_eq ek2; have : (nI k2).toInt = ((k2 : Nat) : Int) := nI_toInt (by omega); have := i_nle c3; have : (24 : Int32).toInt = 24 := rfl; have := i_le q; omega)) (fun _ => ?_)
            refine r_ic (x := 1) rfl rfl ?_
            refine r_goto (tg := 15) rfl rfl ?_
            refine r_zret rfl (.inr rfl) ?_
            show WR _ cd_193 4 [some (.ref (ad 30)), some (.int c), some (.int l), some (.int w), none, none, none] [.int 1] (sI (sI h (ad 0) 6 0) (ad 0) 6 (-3)) _
            refine r_if_ne (tg := 14) rfl rfl (fun _ => ?_) (fun q => absurd q (by decide))
            obtain ⟨k12, hk12, ek12⟩ := ix_of (x := l) (n := 2147483648) (by have := i_eq c4; have := i_rg l; have : (5 : Int32).toInt = 5 := rfl; omega) (by have := i_eq c4; have := i_rg l; have : (5 : Int32).toInt = 5 := rfl; omega)
            refine r_iload rfl rfl ?_
            refine WR_tI (y := nI k12) ek12 ?_
            refine r_i2l rfl ?_
            refine WR_tL (y := lN k12) (nI_l (by have := i_eq c4; have := i_rg l; have : (5 : Int32).toInt = 5 := rfl; have := i_eq ek12; have : (nI k12).toInt = ((k12 : Nat) : Int) := nI_toInt (by omega); omega)) ?_
            refine r_ldc (x := .long 5) rfl rfl ?_
            refine r_ldc (x := .long 6) rfl rfl ?_
            refine r_cs (y := 155) (ra := [.long 6, .long 5, .long (lN k12)]) (rest := []) rfl ⟨⟨rfl, rfl⟩, by decide⟩ rfl rfl (Nat.le_of_ble_eq_true rfl) ?_
            refine in_155 (Nat.le_of_ble_eq_true rfl) ?_
            show WR _ cd_155 0 [some (.long (lN k12)), none, some (.long 5), none, some (.long 6), none] [] (sI (sI h (ad 0) 6 0) (ad 0) 6 (-3)) _
            refine r_lload rfl rfl ?_
            refine r_lload rfl rfl ?_
            refine r_lif_lt (tg := 17) rfl rfl rfl (fun q => False.elim (by have := i_eq c4; have := i_rg l; have : (5 : Int32).toInt = 5 := rfl; have := i_eq ek12; have : (nI k12).toInt = ((k12 : Nat) : Int) := nI_toInt (by omega); have : (lN k12).toInt = ((k12 : Nat) : Int) := lN_toInt (by omega); have : (5 : Int64).toInt = 5 := rfl; have := l_lt q; omega)) (fun _ => ?_)
            refine r_lload rfl rfl ?_
            refine r_lload rfl rfl ?_
            refine r_lif_gt (tg := 17) rfl rfl rfl (fun q => False.elim (by have := i_eq c4; have := i_rg l; have : (5 : Int32).toInt = 5 := rfl; have := i_eq ek12; have : (nI k12).toInt = ((k12 : Nat) : Int) := nI_toInt (by omega); have : (lN k12).toInt = ((k12 : Nat) : Int) := lN_toInt (by omega); have : (6 : Int64).toInt = 6 := rfl; have := l_lt q; omega)) (fun _ => ?_)
            refine r_ic (x := 1) rfl rfl ?_
            refine r_goto (tg := 18) rfl rfl ?_
            refine r_zret rfl (.inr rfl) ?_
            show WR _ cd_193 25 [some (.ref (ad 30)), some (.int c), some (.int l), some (.int w), none, none, none] [.int 1] (sI (sI h (ad 0) 6 0) (ad 0) 6 (-3)) _
            refine r_if_eq (tg := 40) rfl rfl (fun q => absurd q (by decide)) (fun _ => ?_)
            refine r_iload rfl rfl ?_
            refine WR_tI (y := nI k7) ek7 ?_
            refine r_i2l rfl ?_
            refine WR_tL (y := lN k7) (nI_l (by have := i_nlt c5; have := i_rg w; have : (0 : Int32).toInt = 0 := rfl; have := i_eq ek7; have : (nI k7).toInt = ((k7 : Nat) : Int) := nI_toInt (by omega); have := i_nle c8; have : (5 : Int32).toInt = 5 := rfl; omega)) ?_
            refine r_lc (x := 0) rfl rfl ?_
            refine r_ldc (x := .long 5) rfl rfl ?_
            refine r_cs (y := 155) (ra := [.long 5, .long 0, .long (lN k7)]) (rest := []) rfl ⟨⟨rfl, rfl⟩, by decide⟩ rfl rfl (Nat.le_of_ble_eq_true rfl) ?_
            refine in_155 (Nat.le_of_ble_eq_true rfl) ?_
            show WR _ cd_155 0 [some (.long (lN k7)), none, some (.long 0), none, some (.long 5), none] [] (sI (sI h (ad 0) 6 0) (ad 0) 6 (-3)) _
            refine r_lload rfl rfl ?_
            refine r_lload rfl rfl ?_
            refine r_lif_lt (tg := 17) rfl rfl rfl (fun q => False.elim (by have := i_nlt c5; have := i_rg w; have : (0 : Int32).toInt = 0 := rfl; have := i_eq ek7; have : (nI k7).toInt = ((k7 : Nat) : Int) := nI_toInt (by omega); have := i_nle c8; have : (5 : Int32).toInt = 5 := rfl; have : (lN k7).toInt = ((k7 : Nat) : Int) := lN_toInt (by omega); have : (0 : Int64).toInt = 0 := rfl; have := l_lt q; omega)) (fun _ => ?_)
            refine r_lload rfl rfl ?_
            refine r_lload rfl rfl ?_
            refine r_lif_gt (tg := 17) rfl rfl rfl (fun _ => ?_) (fun q => False.elim (by have := i_nlt c5; have := i_rg w; have : (0 : Int32).toInt = 0 := rfl; have := i_eq ek7; have : (nI k7).toInt = ((k7 : Nat) : Int) := nI_toInt (by omega); have := i_nle c8; have : (5 : Int32).toInt = 5 := rfl; have : (lN k7).toInt = ((k7 : Nat) : Int) := lN_toInt (by omega); have : (5 : Int64).toInt = 5 := rfl; have := l_nlt q; omega))
            refine r_ic (x := 0) rfl rfl ?_
            refine r_zret rfl (.inl rfl) ?_
            show WR _ cd_193 37 [some (.ref (ad 30)), some (.int c), some (.int l), some (.int w), none, none, none] [.int 0] (sI (sI h (ad 0) 6 0) (ad 0) 6 (-3)) _
            refine r_if_ne (tg := 47) rfl rfl (fun q => absurd q (by decide)) (fun _ => ?_)
            refine r_aload rfl rfl ?_
            refine r_ic (x := (-3)) rfl rfl ?_
            refine r_cv (y := 171) (ra := [.int (-3)]) (rest := []) rfl ⟨⟨rfl, rfl⟩, rfl, by decide⟩ (fx_t30 fx) rfl rfl (Nat.le_of_ble_eq_true rfl) ?_
            refine in_171 (Nat.le_of_ble_eq_true rfl) ?_
            show WR _ cd_171 0 [some (.ref (ad 30)), some (.int (-3))] [] (sI (sI h (ad 0) 6 0) (ad 0) 6 (-3)) _
            refine r_aload rfl rfl ?_
            refine r_iload rfl rfl ?_
            refine r_putI rfl ⟨rfl, rfl, rfl⟩ (fx_t30 fx) ?_
            have fx : FX n ad sa z0 (sI (sI (sI h (ad 0) 6 0) (ad 0) 6 (-3)) (ad 30) 11 (-3)) := (FX.sI fx)
            refine r_lc (x := 0) rfl rfl ?_
            refine r_lret rfl ?_
            show WR _ cd_193 46 [some (.ref (ad 30)), some (.int c), some (.int l), some (.int w), none, none, none] [.long 0] (sI (sI (sI h (ad 0) 6 0) (ad 0) 6 (-3)) (ad 30) 11 (-3)) _
            refine r_lret rfl ?_
            exact ⟨rfl, Rel.why r (((Chg.rf.sI (fx_j fx) (.inl (by decide))).sI (fx_j fx) (.inl (by decide))).sI (fx_j fx) (.inl (by decide))) ⟨rfl, by decide⟩ (Eq.trans (Eq.trans (I_ne (fx_ne fx (by decide))) I_eq) (Eq.symm I_eq)), (by (try simp only [hZ_sI, hZ_sL, hZ_sD, hZ_sR]); omega), (by (try simp only [hU_sI, hU_sL, hU_sD, hU_sR]); omega)⟩
      · refine r_iload rfl rfl ?_
        refine r_ic (x := 6) rfl rfl ?_
        refine r_icmp_ne (tg := 15) rfl rfl (fun c13 => ?_) (fun c13 => ?_)
        · refine r_ic (x := 0) rfl rfl ?_
          refine r_zret rfl (.inl rfl) ?_
          show WR _ cd_75 23 [some (.ref (ad 0)), some (.int c), some (.int l), some (.int w), none, none] [.int 0] (sI h (ad 0) 6 0) _
          refine r_if_eq (tg := 35) rfl rfl (fun _ => ?_) (fun q => absurd q (by decide))
          refine r_aload rfl rfl ?_
          refine r_ic (x := (-3)) rfl rfl ?_
          refine r_cv (y := 65) (ra := [.int (-3)]) (rest := []) rfl ⟨⟨rfl, rfl⟩, rfl, by decide⟩ (fx_t0 fx) rfl rfl (Nat.le_of_ble_eq_true rfl) ?_
          refine in_65 (Nat.le_of_ble_eq_true rfl) ?_
          show WR _ cd_65 0 [some (.ref (ad 0)), some (.int (-3))] [] (sI h (ad 0) 6 0) _
          refine r_aload rfl rfl ?_
          refine r_iload rfl rfl ?_
          refine r_putI rfl ⟨rfl, rfl, rfl⟩ (fx_t0 fx) ?_
          have fx : FX n ad sa z0 (sI (sI h (ad 0) 6 0) (ad 0) 6 (-3)) := (FX.sI fx)
          refine r_lc (x := 0) rfl rfl ?_
          refine r_lret rfl ?_
          show WR _ cd_75 41 [some (.ref (ad 0)), some (.int c), some (.int l), some (.int w), none, none] [.long 0] (sI (sI h (ad 0) 6 0) (ad 0) 6 (-3)) _
          refine r_lret rfl ?_
          show EV _ 193 [.ref (ad 30), .int c, .int l, .int w] (sI (sI h (ad 0) 6 0) (ad 0) 6 (-3)) _
          refine in_193 (Nat.le_of_ble_eq_true rfl) ?_
          show WR _ cd_193 0 [some (.ref (ad 30)), some (.int c), some (.int l), some (.int w), none, none, none] [] (sI (sI h (ad 0) 6 0) (ad 0) 6 (-3)) _
          refine r_iload rfl rfl ?_
          refine WR_tI (y := nI k2) ek2 ?_
          refine r_cs (y := 153) (ra := [.int (nI k2)]) (rest := []) rfl ⟨⟨rfl, rfl⟩, by decide⟩ rfl rfl (Nat.le_of_ble_eq_true rfl) ?_
          refine in_153 (Nat.le_of_ble_eq_true rfl) ?_
          show WR _ cd_153 0 [some (.int (nI k2))] [] (sI (sI h (ad 0) 6 0) (ad 0) 6 (-3)) _
          refine r_iload rfl rfl ?_
          refine r_if_lt (tg := 14) rfl rfl (fun q => False.elim (by have := i_nlt c1; have := i_rg c; have : (0 : Int32).toInt = 0 := rfl; have := i_eq ek2; have : (nI k2).toInt = ((k2 : Nat) : Int) := nI_toInt (by omega); have := i_nle c3; have : (24 : Int32).toInt = 24 := rfl; have := i_lt q; omega)) (fun _ => ?_)
          refine r_iload rfl rfl ?_
          refine r_ic (x := 24) rfl rfl ?_
          refine r_icmp_ge (tg := 14) rfl rfl (fun q => False.elim (by have := i_nlt c1; have := i_rg c; have : (0 : Int32).toInt = 0 := rfl; have := i_eq ek2; have : (nI k2).toInt = ((k2 : Nat) : Int) := nI_toInt (by omega); have := i_nle c3; have : (24 : Int32).toInt = 24 := rfl; have := i_le q; omega)) (fun _ => ?_)
          refine r_ic (x := 1) rfl rfl ?_
          refine r_goto (tg := 15) rfl rfl ?_
          refine r_zret rfl (.inr rfl) ?_
          show WR _ cd_193 4 [some (.ref (ad 30)), some (.int c), some (.int l), some (.int w), none, none, none] [.int 1] (sI (sI h (ad 0) 6 0) (ad 0) 6 (-3)) _
          refine r_if_ne (tg := 14) rfl rfl (fun _ => ?_) (fun q => absurd q (by decide))
          refine r_iload rfl rfl ?_
          refine r_i2l rfl ?_
          refine r_ldc (x := .long 5) rfl rfl ?_
          refine r_ldc (x := .long 6) rfl rfl ?_
          refine r_cs (y := 155) (ra := [.long 6, .long 5, .long l.toInt64]) (rest := []) rfl ⟨⟨rfl, rfl⟩, by decide⟩ rfl rfl (Nat.le_of_ble_eq_true rfl) ?_
          refine in_155 (Nat.le_of_ble_eq_true rfl) ?_
          show WR _ cd_155 0 [some (.long l.toInt64), none, some (.long 5), none, some (.long 6), none] [] (sI (sI h (ad 0) 6 0) (ad 0) 6 (-3)) _
          refine r_lload rfl rfl ?_
          refine r_lload rfl rfl ?_
          refine r_lif_lt (tg := 17) rfl rfl rfl (fun c14 => ?_) (fun c14 => ?_)
          · refine r_ic (x := 0) rfl rfl ?_
            refine r_zret rfl (.inl rfl) ?_
            show WR _ cd_193 25 [some (.ref (ad 30)), some (.int c), some (.int l), some (.int w), none, none, none] [.int 0] (sI (sI h (ad 0) 6 0) (ad 0) 6 (-3)) _
            refine r_if_eq (tg := 40) rfl rfl (fun _ => ?_) (fun q => absurd q (by decide))
            refine r_aload rfl rfl ?_
            refine r_ic (x := (-3)) rfl rfl ?_
            refine r_cv (y := 171) (ra := [.int (-3)]) (rest := []) rfl ⟨⟨rfl, rfl⟩, rfl, by decide⟩ (fx_t30 fx) rfl rfl (Nat.le_of_ble_eq_true rfl) ?_
            refine in_171 (Nat.le_of_ble_eq_true rfl) ?_
            show WR _ cd_171 0 [some (.ref (ad 30)), some (.int (-3))] [] (sI (sI h (ad 0) 6 0) (ad 0) 6 (-3)) _
            refine r_aload rfl rfl ?_
            refine r_iload rfl rfl ?_
            refine r_putI rfl ⟨rfl, rfl, rfl⟩ (fx_t30 fx) ?_
            have fx : FX n ad sa z0 (sI (sI (sI h (ad 0) 6 0) (ad 0) 6 (-3)) (ad 30) 11 (-3)) := (FX.sI fx)
            refine r_lc (x := 0) rfl rfl ?_
            refine r_lret rfl ?_
            show WR _ cd_193 46 [some (.ref (ad 30)), some (.int c), some (.int l), some (.int w), none, none, none] [.long 0] (sI (sI (sI h (ad 0) 6 0) (ad 0) 6 (-3)) (ad 30) 11 (-3)) _
            refine r_lret rfl ?_
            exact ⟨rfl, Rel.why r (((Chg.rf.sI (fx_j fx) (.inl (by decide))).sI (fx_j fx) (.inl (by decide))).sI (fx_j fx) (.inl (by decide))) ⟨rfl, by decide⟩ (Eq.trans (Eq.trans (I_ne (fx_ne fx (by decide))) I_eq) (Eq.symm I_eq)), (by (try simp only [hZ_sI, hZ_sL, hZ_sD, hZ_sR]); omega), (by (try simp only [hU_sI, hU_sL, hU_sD, hU_sR]); omega)⟩
          · refine r_lload rfl rfl ?_
            refine r_lload rfl rfl ?_
            refine r_lif_gt (tg := 17) rfl rfl rfl (fun _ => ?_) (fun q => False.elim (by have := l_nlt c14; have := i_rg l; have := w_t l; have : (5 : Int64).toInt = 5 := rfl; have := i_neq c4; have : (5 : Int32).toInt = 5 := rfl; have := i_neq c13; have : (6 : Int32).toInt = 6 := rfl; have : (6 : Int64).toInt = 6 := rfl; have := l_nlt q; omega))
            refine r_ic (x := 0) rfl rfl ?_
            refine r_zret rfl (.inl rfl) ?_
            show WR _ cd_193 25 [some (.ref (ad 30)), some (.int c), some (.int l), some (.int w), none, none, none] [.int 0] (sI (sI h (ad 0) 6 0) (ad 0) 6 (-3)) _
            refine r_if_eq (tg := 40) rfl rfl (fun _ => ?_) (fun q => absurd q (by decide))
            refine r_aload rfl rfl ?_
            refine r_ic (x := (-3)) rfl rfl ?_
            refine r_cv (y := 171) (ra := [.int (-3)]) (rest := []) rfl ⟨⟨rfl, rfl⟩, rfl, by decide⟩ (fx_t30 fx) rfl rfl (Nat.le_of_ble_eq_true rfl) ?_
            refine in_171 (Nat.le_of_ble_eq_true rfl) ?_
            show WR _ cd_171 0 [some (.ref (ad 30)), some (.int (-3))] [] (sI (sI h (ad 0) 6 0) (ad 0) 6 (-3)) _
            refine r_aload rfl rfl ?_
            refine r_iload rfl rfl ?_
            refine r_putI rfl ⟨rfl, rfl, rfl⟩ (fx_t30 fx) ?_
            have fx : FX n ad sa z0 (sI (sI (sI h (ad 0) 6 0) (ad 0) 6 (-3)) (ad 30) 11 (-3)) := (FX.sI fx)
            refine r_lc (x := 0) rfl rfl ?_
            refine r_lret rfl ?_
            show WR _ cd_193 46 [some (.ref (ad 30)), some (.int c), some (.int l), some (.int w), none, none, none] [.long 0] (sI (sI (sI h (ad 0) 6 0) (ad 0) 6 (-3)) (ad 30) 11 (-3)) _
            refine r_lret rfl ?_
            exact ⟨rfl, Rel.why r (((Chg.rf.sI (fx_j fx) (.inl (by decide))).sI (fx_j fx) (.inl (by decide))).sI (fx_j fx) (.inl (by decide))) ⟨rfl, by decide⟩ (Eq.trans (Eq.trans (I_ne (fx_ne fx (by decide))) I_eq) (Eq.symm I_eq)), (by (try simp only [hZ_sI, hZ_sL, hZ_sD, hZ_sR]); omega), (by (try simp only [hU_sI, hU_sL, hU_sD, hU_sR]); omega)⟩
        · refine r_ic (x := 1) rfl rfl ?_
          refine r_goto (tg := 16) rfl rfl ?_
          refine r_zret rfl (.inr rfl) ?_
          show WR _ cd_75 23 [some (.ref (ad 0)), some (.int c), some (.int l), some (.int w), none, none] [.int 1] (sI h (ad 0) 6 0) _
          refine r_if_eq (tg := 35) rfl rfl (fun q => absurd q (by decide)) (fun _ => ?_)
          refine r_iload rfl rfl ?_
          refine r_if_lt (tg := 35) rfl rfl (fun c15 => ?_) (fun c15 => ?_)
          · refine r_aload rfl rfl ?_
            refine r_ic (x := (-3)) rfl rfl ?_
            refine r_cv (y := 65) (ra := [.int (-3)]) (rest := []) rfl ⟨⟨rfl, rfl⟩, rfl, by decide⟩ (fx_t0 fx) rfl rfl (Nat.le_of_ble_eq_true rfl) ?_
            refine in_65 (Nat.le_of_ble_eq_true rfl) ?_
            show WR _ cd_65 0 [some (.ref (ad 0)), some (.int (-3))] [] (sI h (ad 0) 6 0) _
            refine r_aload rfl rfl ?_
            refine r_iload rfl rfl ?_
            refine r_putI rfl ⟨rfl, rfl, rfl⟩ (fx_t0 fx) ?_
            have fx : FX n ad sa z0 (sI (sI h (ad 0) 6 0) (ad 0) 6 (-3)) := (FX.sI fx)
            refine r_lc (x := 0) rfl rfl ?_
            refine r_lret rfl ?_
            show WR _ cd_75 41 [some (.ref (ad 0)), some (.int c), some (.int l), some (.int w), none, none] [.long 0] (sI (sI h (ad 0) 6 0) (ad 0) 6 (-3)) _
            refine r_lret rfl ?_
            show EV _ 193 [.ref (ad 30), .int c, .int l, .int w] (sI (sI h (ad 0) 6 0) (ad 0) 6 (-3)) _
            refine in_193 (Nat.le_of_ble_eq_true rfl) ?_
            show WR _ cd_193 0 [some (.ref (ad 30)), some (.int c), some (.int l), some (.int w), none, none, none] [] (sI (sI h (ad 0) 6 0) (ad 0) 6 (-3)) _
            refine r_iload rfl rfl ?_
            refine WR_tI (y := nI k2) ek2 ?_
            refine r_cs (y := 153) (ra := [.int (nI k2)]) (rest := []) rfl ⟨⟨rfl, rfl⟩, by decide⟩ rfl rfl (Nat.le_of_ble_eq_true rfl) ?_
            refine in_153 (Nat.le_of_ble_eq_true rfl) ?_
            show WR _ cd_153 0 [some (.int (nI k2))] [] (sI (sI h (ad 0) 6 0) (ad 0) 6 (-3)) _
            refine r_iload rfl rfl ?_
            refine r_if_lt (tg := 14) rfl rfl (fun q => False.elim (by have := i_nlt c1; have := i_rg c; have : (0 : Int32).toInt = 0 := rfl; have := i_eq ek2; have : (nI k2).toInt = ((k2 : Nat) : Int) := nI_toInt (by omega); have := i_nle c3; have : (24 : Int32).toInt = 24 := rfl; have := i_lt q; omega)) (fun _ => ?_)
            refine r_iload rfl rfl ?_
            refine r_ic (x := 24) rfl rfl ?_
            refine r_icmp_ge (tg := 14) rfl rfl (fun q => False.elim (by have := i_nlt c1; have := i_rg c; have : (0 : Int32).toInt = 0 := rfl; have := i_eq ek2; have : (nI k2).toInt = ((k2 : Nat) : Int) := nI_toInt (by omega); have := i_nle c3; have : (24 : Int32).toInt = 24 := rfl; have := i_le q; omega)) (fun _ => ?_)
            refine r_ic (x := 1) rfl rfl ?_
            refine r_goto (tg := 15) rfl rfl ?_
            refine r_zret rfl (.inr rfl) ?_
            show WR _ cd_193 4 [some (.ref (ad 30)), some (.int c), some (.int l), some (.int w), none, none, none] [.int 1] (sI (sI h (ad 0) 6 0) (ad 0) 6 (-3)) _
            refine r_if_ne (tg := 14) rfl rfl (fun _ => ?_) (fun q => absurd q (by decide))
            obtain ⟨k16, hk16, ek16⟩ := ix_of (x := l) (n := 2147483648) (by have := i_eq c13; have := i_rg l; have : (6 : Int32).toInt = 6 := rfl; omega) (by have := i_eq c13; have := i_rg l; have : (6 : Int32).toInt = 6 := rfl; omega)
            refine r_iload rfl rfl ?_
            refine WR_tI (y := nI k16) ek16 ?_
            refine r_i2l rfl ?_
            refine WR_tL (y := lN k16) (nI_l (by have := i_eq c13; have := i_rg l; have : (6 : Int32).toInt = 6 := rfl; have := i_eq ek16; have : (nI k16).toInt = ((k16 : Nat) : Int) := nI_toInt (by omega); omega)) ?_
            refine r_ldc (x := .long 5) rfl rfl ?_
            refine r_ldc (x := .long 6) rfl rfl ?_
            refine r_cs (y := 155) (ra := [.long 6, .long 5, .long (lN k16)]) (rest := []) rfl ⟨⟨rfl, rfl⟩, by decide⟩ rfl rfl (Nat.le_of_ble_eq_true rfl) ?_
            refine in_155 (Nat.le_of_ble_eq_true rfl) ?_
            show WR _ cd_155 0 [some (.long (lN k16)), none, some (.long 5), none, some (.long 6), none] [] (sI (sI h (ad 0) 6 0) (ad 0) 6 (-3)) _
            refine r_lload rfl rfl ?_
            refine r_lload rfl rfl ?_
            refine r_lif_lt (tg := 17) rfl rfl rfl (fun q => False.elim (by have := i_eq c13; have := i_rg l; have : (6 : Int32).toInt = 6 := rfl; have := i_eq ek16; have : (nI k16).toInt = ((k16 : Nat) : Int) := nI_toInt (by omega); have := i_neq c4; have : (5 : Int32).toInt = 5 := rfl; have : (lN k16).toInt = ((k16 : Nat) : Int) := lN_toInt (by omega); have : (5 : Int64).toInt = 5 := rfl; have := l_lt q; omega)) (fun _ => ?_)
            refine r_lload rfl rfl ?_
            refine r_lload rfl rfl ?_
            refine r_lif_gt (tg := 17) rfl rfl rfl (fun q => False.elim (by have := i_eq c13; have := i_rg l; have : (6 : Int32).toInt = 6 := rfl; have := i_eq ek16; have : (nI k16).toInt = ((k16 : Nat) : Int) := nI_toInt (by omega); have : (lN k16).toInt = ((k16 : Nat) : Int) := lN_toInt (by omega); have : (6 : Int64).toInt = 6 := rfl; have := l_lt q; omega)) (fun _ => ?_)
            refine r_ic (x := 1) rfl rfl ?_
            refine r_goto (tg := 18) rfl rfl ?_
            refine r_zret rfl (.inr rfl) ?_
            show WR _ cd_193 25 [some (.ref (ad 30)), some (.int c), some (.int l), some (.int w), none, none, none] [.int 1] (sI (sI h (ad 0) 6 0) (ad 0) 6 (-3)) _
            refine r_if_eq (tg := 40) rfl rfl (fun q => absurd q (by decide)) (fun _ => ?_)
            refine r_iload rfl rfl ?_
            refine r_i2l rfl ?_
            refine r_lc (x := 0) rfl rfl ?_
            refine r_ldc (x := .long 5) rfl rfl ?_
            refine r_cs (y := 155) (ra := [.long 5, .long 0, .long w.toInt64]) (rest := []) rfl ⟨⟨rfl, rfl⟩, by decide⟩ rfl rfl (Nat.le_of_ble_eq_true rfl) ?_
            refine in_155 (Nat.le_of_ble_eq_true rfl) ?_
            show WR _ cd_155 0 [some (.long w.toInt64), none, some (.long 0), none, some (.long 5), none] [] (sI (sI h (ad 0) 6 0) (ad 0) 6 (-3)) _
            refine r_lload rfl rfl ?_
            refine r_lload rfl rfl ?_
            refine r_lif_lt (tg := 17) rfl rfl rfl (fun _ => ?_) (fun q => False.elim (by have := i_lt c15; have := i_rg w; have : (0 : Int32).toInt = 0 := rfl; have := w_t w; have : (0 : Int64).toInt = 0 := rfl; have := l_nlt q; omega))
            refine r_ic (x := 0) rfl rfl ?_
            refine r_zret rfl (.inl rfl) ?_
            show WR _ cd_193 37 [some (.ref (ad 30)), some (.int c), some (.int l), some (.int w), none, none, none] [.int 0] (sI (sI h (ad 0) 6 0) (ad 0) 6 (-3)) _
            refine r_if_ne (tg := 47) rfl rfl (fun q => absurd q (by decide)) (fun _ => ?_)
            refine r_aload rfl rfl ?_
            refine r_ic (x := (-3)) rfl rfl ?_
            refine r_cv (y := 171) (ra := [.int (-3)]) (rest := []) rfl ⟨⟨rfl, rfl⟩, rfl, by decide⟩ (fx_t30 fx) rfl rfl (Nat.le_of_ble_eq_true rfl) ?_
            refine in_171 (Nat.le_of_ble_eq_true rfl) ?_
            show WR _ cd_171 0 [some (.ref (ad 30)), some (.int (-3))] [] (sI (sI h (ad 0) 6 0) (ad 0) 6 (-3)) _
            refine r_aload rfl rfl ?_
            refine r_iload rfl rfl ?_
            refine r_putI rfl ⟨rfl, rfl, rfl⟩ (fx_t30 fx) ?_
            have fx : FX n ad sa z0 (sI (sI (sI h (ad 0) 6 0) (ad 0) 6 (-3)) (ad 30) 11 (-3)) := (FX.sI fx)
            refine r_lc (x := 0) rfl rfl ?_
            refine r_lret rfl ?_
            show WR _ cd_193 46 [some (.ref (ad 30)), some (.int c), some (.int l), some (.int w), none, none, none] [.long 0] (sI (sI (sI h (ad 0) 6 0) (ad 0) 6 (-3)) (ad 30) 11 (-3)) _
            refine r_lret rfl ?_
            exact ⟨rfl, Rel.why r (((Chg.rf.sI (fx_j fx) (.inl (by decide))).sI (fx_j fx) (.inl (by decide))).sI (fx_j fx) (.inl (by decide))) ⟨rfl, by decide⟩ (Eq.trans (Eq.trans (I_ne (fx_ne fx (by decide))) I_eq) (Eq.symm I_eq)), (by (try simp only [hZ_sI, hZ_sL, hZ_sD, hZ_sR]); omega), (by (try simp only [hU_sI, hU_sL, hU_sD, hU_sR]); omega)⟩
          · obtain ⟨k17, hk17, ek17⟩ := ix_of (x := w) (n := 2147483648) (by have := i_nlt c15; have := i_rg w; have : (0 : Int32).toInt = 0 := rfl; omega) (by have := i_nlt c15; have := i_rg w; have : (0 : Int32).toInt = 0 := rfl; omega)
            refine r_iload rfl rfl ?_
            refine WR_tI (y := nI k17) ek17 ?_
            refine r_ic (x := 5) rfl rfl ?_
            refine r_icmp_le (tg := 42) rfl rfl (fun c18 => ?_) (fun c18 => ?_)
            · refine r_aload rfl rfl ?_
              refine r_iload rfl rfl ?_
              refine WR_tI (y := nI k2) ek2 ?_
              obtain ⟨k19, hk19, ek19⟩ := ix_of (x := l) (n := 2147483648) (by have := i_eq c13; have := i_rg l; have : (6 : Int32).toInt = 6 := rfl; omega) (by have := i_eq c13; have := i_rg l; have : (6 : Int32).toInt = 6 := rfl; omega)
              refine r_iload rfl rfl ?_
              refine WR_tI (y := nI k19) ek19 ?_
              refine r_cv (y := 31) (ra := [.int (nI k19), .int (nI k2)]) (rest := []) rfl ⟨⟨rfl, rfl⟩, rfl, by decide⟩ (fx_t0 fx) rfl rfl (Nat.le_of_ble_eq_true rfl) ?_
              refine in_31 (Nat.le_of_ble_eq_true rfl) ?_
              show WR _ cd_31 0 [some (.ref (ad 0)), some (.int (nI k2)), some (.int (nI k19)), none, none] [] (sI h (ad 0) 6 0) _
              refine r_aload rfl rfl ?_
              refine r_getA (b := ad 1) rfl ⟨rfl, rfl, rfl⟩ (fx_t0 fx) (fx_r0_0 fx) ?_
              refine r_iload rfl rfl ?_
              rcases rs.cs (n := n) (sa := sa) (c := k2) (by have := i_nlt c1; have := i_rg c; have : (0 : Int32).toInt = 0 := rfl; have := i_eq ek2; have : (nI k2).toInt = ((k2 : Nat) : Int) := nI_toInt (by omega); have := i_nle c3; have : (24 : Int32).toInt = 24 := rfl; omega) with ⟨v20, w20⟩ | ⟨q20, kd20, hq20, hn20, v20, w20, dz20, tg20, s1_20, k1_20, k2_20, hk_20, we20⟩ | ⟨t20, ln20, sz20, ht20, v20, w20, dz20, tg20, r_20, tg2_20, l1_20, l2_20, hl_20, kd_20, n_20, sz_20, hs_20, al20, rw20⟩ | ⟨t20, sz20, ht20, v20, w20, dz20, tg20, r_20, tg2_20, k1_20, l2_20, k2_20, n_20, sz_20, hs_20, al20, rw20⟩ | ⟨t20, kd20, sz20, ht20, v20, w20, dz20, tg20, r_20, tg2_20, k1_20, l2_20, k2_20, hk_20, n_20, sz_20, hs_20, al20, rw20⟩
              · refine r_aaload0 rfl (isQ_of (fx_t1 fx) (by decide)) (vp_ct (fx_n1 fx) (vp_in_nI (by have := i_nlt c1; have := i_rg c; have : (0 : Int32).toInt = 0 := rfl; have := i_eq ek2; have : (nI k2).toInt = ((k2 : Nat) : Int) := nI_toInt (by omega); have := i_nle c3; have : (24 : Int32).toInt = 24 := rfl; omega) (by omega))) (Eq.trans (congrArg (hR (sI h (ad 0) 6 0) (ad 1)) ((nI_clamp (by have := i_nlt c1; have := i_rg c; have : (0 : Int32).toInt = 0 := rfl; have := i_eq ek2; have : (nI k2).toInt = ((k2 : Nat) : Int) := nI_toInt (by omega); have := i_nle c3; have : (24 : Int32).toInt = 24 := rfl; omega)) : _ = k2)) (Eq.trans R_oI w20)) ?_
                refine r_astore0 (lv' := [some (.ref (ad 0)), some (.int (nI k2)), some (.int (nI k19)), some (.null), none]) rfl (Nat.le_of_ble_eq_true rfl) rfl ?_
                refine r_aload0 rfl rfl ?_
                refine r_instN rfl (by decide) ?_
                refine r_if_eq (tg := 32) rfl rfl (fun _ => ?_) (fun q => absurd q (by decide))
                refine r_aload rfl rfl ?_
                refine r_aload0 rfl rfl ?_
                refine r_ifnonnullN (tg := 42) rfl rfl ?_
                refine r_ic (x := (-11)) rfl rfl ?_
                refine r_goto (tg := 44) rfl rfl ?_
                refine r_putI rfl ⟨rfl, rfl, rfl⟩ (fx_t0 fx) ?_
                have fx : FX n ad sa z0 (sI (sI h (ad 0) 6 0) (ad 0) 6 (-11)) := (FX.sI fx)
                refine r_null rfl ?_
                refine r_aret0 rfl ?_
                show WR _ cd_75 48 [some (.ref (ad 0)), some (.int c), some (.int l), some (.int w), none, none] [.null] (sI (sI h (ad 0) 6 0) (ad 0) 6 (-11)) _
                refine r_astore0 (lv' := [some (.ref (ad 0)), some (.int c), some (.int l), some (.int w), some (.null), none]) rfl (Nat.le_of_ble_eq_true rfl) rfl ?_
                refine r_aload0 rfl rfl ?_
                refine r_ifnonnullN (tg := 57) rfl rfl ?_
                refine r_lc (x := 0) rfl rfl ?_
                refine r_lret rfl ?_
                show EV _ 193 [.ref (ad 30), .int c, .int l, .int w] (sI (sI h (ad 0) 6 0) (ad 0) 6 (-11)) _
                refine in_193 (Nat.le_of_ble_eq_true rfl) ?_
                show WR _ cd_193 0 [some (.ref (ad 30)), some (.int c), some (.int l), some (.int w), none, none, none] [] (sI (sI h (ad 0) 6 0) (ad 0) 6 (-11)) _
                refine r_iload rfl rfl ?_
                refine WR_tI (y := nI k2) ek2 ?_
                refine r_cs (y := 153) (ra := [.int (nI k2)]) (rest := []) rfl ⟨⟨rfl, rfl⟩, by decide⟩ rfl rfl (Nat.le_of_ble_eq_true rfl) ?_
                refine in_153 (Nat.le_of_ble_eq_true rfl) ?_
                show WR _ cd_153 0 [some (.int (nI k2))] [] (sI (sI h (ad 0) 6 0) (ad 0) 6 (-11)) _
                refine r_iload rfl rfl ?_
                refine r_if_lt (tg := 14) rfl rfl (fun q => False.elim (by have := i_nlt c1; have := i_rg c; have : (0 : Int32).toInt = 0 := rfl; have := i_eq ek2; have : (nI k2).toInt = ((k2 : Nat) : Int) := nI_toInt (by omega); have := i_nle c3; have : (24 : Int32).toInt = 24 := rfl; have := i_lt q; omega)) (fun _ => ?_)
                refine r_iload rfl rfl ?_
                refine r_ic (x := 24) rfl rfl ?_
                refine r_icmp_ge (tg := 14) rfl rfl (fun q => False.elim (by have := i_nlt c1; have := i_rg c; have : (0 : Int32).toInt = 0 := rfl; have := i_eq ek2; have : (nI k2).toInt = ((k2 : Nat) : Int) := nI_toInt (by omega); have := i_nle c3; have : (24 : Int32).toInt = 24 := rfl; have := i_le q; omega)) (fun _ => ?_)
                refine r_ic (x := 1) rfl rfl ?_
                refine r_goto (tg := 15) rfl rfl ?_
                refine r_zret rfl (.inr rfl) ?_
                show WR _ cd_193 4 [some (.ref (ad 30)), some (.int c), some (.int l), some (.int w), none, none, none] [.int 1] (sI (sI h (ad 0) 6 0) (ad 0) 6 (-11)) _
                refine r_if_ne (tg := 14) rfl rfl (fun _ => ?_) (fun q => absurd q (by decide))
                refine r_iload rfl rfl ?_
                refine WR_tI (y := nI k19) ek19 ?_
                refine r_i2l rfl ?_
                refine WR_tL (y := lN k19) (nI_l (by have := i_eq c13; have := i_rg l; have : (6 : Int32).toInt = 6 := rfl; have := i_eq ek19; have : (nI k19).toInt = ((k19 : Nat) : Int) := nI_toInt (by omega); omega)) ?_
                refine r_ldc (x := .long 5) rfl rfl ?_
                refine r_ldc (x := .long 6) rfl rfl ?_
                refine r_cs (y := 155) (ra := [.long 6, .long 5, .long (lN k19)]) (rest := []) rfl ⟨⟨rfl, rfl⟩, by decide⟩ rfl rfl (Nat.le_of_ble_eq_true rfl) ?_
                refine in_155 (Nat.le_of_ble_eq_true rfl) ?_
                show WR _ cd_155 0 [some (.long (lN k19)), none, some (.long 5), none, some (.long 6), none] [] (sI (sI h (ad 0) 6 0) (ad 0) 6 (-11)) _
                refine r_lload rfl rfl ?_
                refine r_lload rfl rfl ?_
                refine r_lif_lt (tg := 17) rfl rfl rfl (fun q => False.elim (by have := i_eq c13; have := i_rg l; have : (6 : Int32).toInt = 6 := rfl; have := i_eq ek19; have : (nI k19).toInt = ((k19 : Nat) : Int) := nI_toInt (by omega); have := i_neq c4; have : (5 : Int32).toInt = 5 := rfl; have : (lN k19).toInt = ((k19 : Nat) : Int) := lN_toInt (by omega); have : (5 : Int64).toInt = 5 := rfl; have := l_lt q; omega)) (fun _ => ?_)
                refine r_lload rfl rfl ?_
                refine r_lload rfl rfl ?_
                refine r_lif_gt (tg := 17) rfl rfl rfl (fun q => False.elim (by have := i_eq c13; have := i_rg l; have : (6 : Int32).toInt = 6 := rfl; have := i_eq ek19; have : (nI k19).toInt = ((k19 : Nat) : Int) := nI_toInt (by omega); have : (lN k19).toInt = ((k19 : Nat) : Int) := lN_toInt (by omega); have : (6 : Int64).toInt = 6 := rfl; have := l_lt q; omega)) (fun _ => ?_)
                refine r_ic (x := 1) rfl rfl ?_
                refine r_goto (tg := 18) rfl rfl ?_
                refine r_zret rfl (.inr rfl) ?_
                show WR _ cd_193 25 [some (.ref (ad 30)), some (.int c), some (.int l), some (.int w), none, none, none] [.int 1] (sI (sI h (ad 0) 6 0) (ad 0) 6 (-11)) _
                refine r_if_eq (tg := 40) rfl rfl (fun q => absurd q (by decide)) (fun _ => ?_)
                refine r_iload rfl rfl ?_
                refine WR_tI (y := nI k17) ek17 ?_
                refine r_i2l rfl ?_
                refine WR_tL (y := lN k17) (nI_l (by have := i_nlt c15; have := i_rg w; have : (0 : Int32).toInt = 0 := rfl; have := i_eq ek17; have : (nI k17).toInt = ((k17 : Nat) : Int) := nI_toInt (by omega); have := i_le c18; have : (5 : Int32).toInt = 5 := rfl; omega)) ?_
                refine r_lc (x := 0) rfl rfl ?_
                refine r_ldc (x := .long 5) rfl rfl ?_
                refine r_cs (y := 155) (ra := [.long 5, .long 0, .long (lN k17)]) (rest := []) rfl ⟨⟨rfl, rfl⟩, by decide⟩ rfl rfl (Nat.le_of_ble_eq_true rfl) ?_
                refine in_155 (Nat.le_of_ble_eq_true rfl) ?_
                show WR _ cd_155 0 [some (.long (lN k17)), none, some (.long 0), none, some (.long 5), none] [] (sI (sI h (ad 0) 6 0) (ad 0) 6 (-11)) _
                refine r_lload rfl rfl ?_
                refine r_lload rfl rfl ?_
                refine r_lif_lt (tg := 17) rfl rfl rfl (fun q => False.elim (by have := i_nlt c15; have := i_rg w; have : (0 : Int32).toInt = 0 := rfl; have := i_eq ek17; have : (nI k17).toInt = ((k17 : Nat) : Int) := nI_toInt (by omega); have := i_le c18; have : (5 : Int32).toInt = 5 := rfl; have : (lN k17).toInt = ((k17 : Nat) : Int) := lN_toInt (by omega); have : (0 : Int64).toInt = 0 := rfl; have := l_lt q; omega)) (fun _ => ?_)
                refine r_lload rfl rfl ?_
                refine r_lload rfl rfl ?_
                refine r_lif_gt (tg := 17) rfl rfl rfl (fun q => False.elim (by have := i_nlt c15; have := i_rg w; have : (0 : Int32).toInt = 0 := rfl; have := i_eq ek17; have : (nI k17).toInt = ((k17 : Nat) : Int) := nI_toInt (by omega); have := i_le c18; have : (5 : Int32).toInt = 5 := rfl; have : (lN k17).toInt = ((k17 : Nat) : Int) := lN_toInt (by omega); have : (5 : Int64).toInt = 5 := rfl; have := l_lt q; omega)) (fun _ => ?_)
                refine r_ic (x := 1) rfl rfl ?_
                refine r_goto (tg := 18) rfl rfl ?_
                refine r_zret rfl (.inr rfl) ?_
                show WR _ cd_193 37 [some (.ref (ad 30)), some (.int c), some (.int l), some (.int w), none, none, none] [.int 1] (sI (sI h (ad 0) 6 0) (ad 0) 6 (-11)) _
                refine r_if_ne (tg := 47) rfl rfl (fun _ => ?_) (fun q => absurd q (by decide))
                refine r_aload rfl rfl ?_
                refine r_getA (b := ad 31) rfl ⟨rfl, rfl, rfl⟩ (fx_t30 fx) (fx_r30_0 fx) ?_
                refine r_iload rfl rfl ?_
                refine WR_tI (y := nI k2) ek2 ?_
                refine r_iaload rfl (.inl (fx_t31 fx)) (vp_ct (fx_n31 fx) (vp_in_nI (by have := i_nlt c1; have := i_rg c; have : (0 : Int32).toInt = 0 := rfl; have := i_eq ek2; have : (nI k2).toInt = ((k2 : Nat) : Int) := nI_toInt (by omega); have := i_nle c3; have : (24 : Int32).toInt = 24 := rfl; omega) (by omega))) ?_
                refine WR_tI (congrArg (hI (sI (sI h (ad 0) 6 0) (ad 0) 6 (-11)) (ad 31)) ((nI_clamp (by have := i_nlt c1; have := i_rg c; have : (0 : Int32).toInt = 0 := rfl; have := i_eq ek2; have : (nI k2).toInt = ((k2 : Nat) : Int) := nI_toInt (by omega); have := i_nle c3; have : (24 : Int32).toInt = 24 := rfl; omega)) : _ = k2)) ?_
                refine WR_tI (y := (-1)) (Eq.trans (I_ne (fx_ne fx (by decide))) (Eq.trans (I_ne (fx_ne fx (by decide))) v20)) ?_
                refine r_istore (lv' := [some (.ref (ad 30)), some (.int c), some (.int l), some (.int w), some (.int (-1)), none, none]) rfl (Nat.le_of_ble_eq_true rfl) rfl ?_
                refine r_iload rfl rfl ?_
                refine r_ic (x := (-1)) rfl rfl ?_
                refine r_icmp_eq (tg := 78) rfl rfl (fun _ => ?_) (fun q => absurd q (by decide))
                refine r_iload rfl rfl ?_
                refine r_ic (x := (-1)) rfl rfl ?_
                refine r_icmp_ne (tg := 91) rfl rfl (fun q => absurd q (by decide)) (fun _ => ?_)
                refine r_aload rfl rfl ?_
                refine r_ic (x := (-11)) rfl rfl ?_
                refine r_cv (y := 171) (ra := [.int (-11)]) (rest := []) rfl ⟨⟨rfl, rfl⟩, rfl, by decide⟩ (fx_t30 fx) rfl rfl (Nat.le_of_ble_eq_true rfl) ?_
                refine in_171 (Nat.le_of_ble_eq_true rfl) ?_
                show WR _ cd_171 0 [some (.ref (ad 30)), some (.int (-11))] [] (sI (sI h (ad 0) 6 0) (ad 0) 6 (-11)) _
                refine r_aload rfl rfl ?_
                refine r_iload rfl rfl ?_
                refine r_putI rfl ⟨rfl, rfl, rfl⟩ (fx_t30 fx) ?_
                have fx : FX n ad sa z0 (sI (sI (sI h (ad 0) 6 0) (ad 0) 6 (-11)) (ad 30) 11 (-11)) := (FX.sI fx)
                refine r_lc (x := 0) rfl rfl ?_
                refine r_lret rfl ?_
                show WR _ cd_193 90 [some (.ref (ad 30)), some (.int c), some (.int l), some (.int w), some (.int (-1)), none, none] [.long 0] (sI (sI (sI h (ad 0) 6 0) (ad 0) 6 (-11)) (ad 30) 11 (-11)) _
                refine r_lret rfl ?_
                exact ⟨rfl, Rel.why r (((Chg.rf.sI (fx_j fx) (.inl (by decide))).sI (fx_j fx) (.inl (by decide))).sI (fx_j fx) (.inl (by decide))) ⟨rfl, by decide⟩ (Eq.trans (Eq.trans (I_ne (fx_ne fx (by decide))) I_eq) (Eq.symm I_eq)), (by (try simp only [hZ_sI, hZ_sL, hZ_sD, hZ_sR]); omega), (by (try simp only [hU_sI, hU_sL, hU_sD, hU_sR]); omega)⟩
              · refine r_aaloadA (b := pa q20) rfl (isQ_of (fx_t1 fx) (by decide)) (vp_ct (fx_n1 fx) (vp_in_nI (by have := i_nlt c1; have := i_rg c; have : (0 : Int32).toInt = 0 := rfl; have := i_eq ek2; have : (nI k2).toInt = ((k2 : Nat) : Int) := nI_toInt (by omega); have := i_nle c3; have : (24 : Int32).toInt = 24 := rfl; omega) (by omega))) (Eq.trans (congrArg (hR (sI h (ad 0) 6 0) (ad 1)) ((nI_clamp (by have := i_nlt c1; have := i_rg c; have : (0 : Int32).toInt = 0 := rfl; have := i_eq ek2; have : (nI k2).toInt = ((k2 : Nat) : Int) := nI_toInt (by omega); have := i_nle c3; have : (24 : Int32).toInt = 24 := rfl; omega)) : _ = k2)) (Eq.trans R_oI w20)) ?_
                refine r_astore (lv' := [some (.ref (ad 0)), some (.int (nI k2)), some (.int (nI k19)), some (.ref (pa q20)), none]) rfl (Nat.le_of_ble_eq_true rfl) rfl ?_
                refine r_aload rfl rfl ?_
                refine r_instW rfl (by decide) tg20 (by decide) ?_
                refine r_if_eq (tg := 32) rfl rfl (fun _ => ?_) (fun q => absurd q (by decide))
                refine r_aload rfl rfl ?_
                refine r_aload rfl rfl ?_
                refine r_ifnonnullA (tg := 42) rfl rfl ?_
                refine r_ic (x := (-14)) rfl rfl ?_
                refine r_putI rfl ⟨rfl, rfl, rfl⟩ (fx_t0 fx) ?_
                have fx : FX n ad sa z0 (sI (sI h (ad 0) 6 0) (ad 0) 6 (-14)) := (FX.sI fx)
                refine r_null rfl ?_
                refine r_aret0 rfl ?_
                show WR _ cd_75 48 [some (.ref (ad 0)), some (.int c), some (.int l), some (.int w), none, none] [.null] (sI (sI h (ad 0) 6 0) (ad 0) 6 (-14)) _
                refine r_astore0 (lv' := [some (.ref (ad 0)), some (.int c), some (.int l), some (.int w), some (.null), none]) rfl (Nat.le_of_ble_eq_true rfl) rfl ?_
                refine r_aload0 rfl rfl ?_
                refine r_ifnonnullN (tg := 57) rfl rfl ?_
                refine r_lc (x := 0) rfl rfl ?_
                refine r_lret rfl ?_
                show EV _ 193 [.ref (ad 30), .int c, .int l, .int w] (sI (sI h (ad 0) 6 0) (ad 0) 6 (-14)) _
                refine in_193 (Nat.le_of_ble_eq_true rfl) ?_
                show WR _ cd_193 0 [some (.ref (ad 30)), some (.int c), some (.int l), some (.int w), none, none, none] [] (sI (sI h (ad 0) 6 0) (ad 0) 6 (-14)) _
                refine r_iload rfl rfl ?_
                refine WR_tI (y := nI k2) ek2 ?_
                refine r_cs (y := 153) (ra := [.int (nI k2)]) (rest := []) rfl ⟨⟨rfl, rfl⟩, by decide⟩ rfl rfl (Nat.le_of_ble_eq_true rfl) ?_
                refine in_153 (Nat.le_of_ble_eq_true rfl) ?_
                show WR _ cd_153 0 [some (.int (nI k2))] [] (sI (sI h (ad 0) 6 0) (ad 0) 6 (-14)) _
                refine r_iload rfl rfl ?_
                refine r_if_lt (tg := 14) rfl rfl (fun q => False.elim (by have := i_nlt c1; have := i_rg c; have : (0 : Int32).toInt = 0 := rfl; have := i_eq ek2; have : (nI k2).toInt = ((k2 : Nat) : Int) := nI_toInt (by omega); have := i_nle c3; have : (24 : Int32).toInt = 24 := rfl; have := i_lt q; omega)) (fun _ => ?_)
                refine r_iload rfl rfl ?_
                refine r_ic (x := 24) rfl rfl ?_
                refine r_icmp_ge (tg := 14) rfl rfl (fun q => False.elim (by have := i_nlt c1; have := i_rg c; have : (0 : Int32).toInt = 0 := rfl; have := i_eq ek2; have : (nI k2).toInt = ((k2 : Nat) : Int) := nI_toInt (by omega); have := i_nle c3; have : (24 : Int32).toInt = 24 := rfl; have := i_le q; omega)) (fun _ => ?_)
                refine r_ic (x := 1) rfl rfl ?_
                refine r_goto (tg := 15) rfl rfl ?_
                refine r_zret rfl (.inr rfl) ?_
                show WR _ cd_193 4 [some (.ref (ad 30)), some (.int c), some (.int l), some (.int w), none, none, none] [.int 1] (sI (sI h (ad 0) 6 0) (ad 0) 6 (-14)) _
                refine r_if_ne (tg := 14) rfl rfl (fun _ => ?_) (fun q => absurd q (by decide))
                refine r_iload rfl rfl ?_
                refine WR_tI (y := nI k19) ek19 ?_
                refine r_i2l rfl ?_
                refine WR_tL (y := lN k19) (nI_l (by have := i_eq c13; have := i_rg l; have : (6 : Int32).toInt = 6 := rfl; have := i_eq ek19; have : (nI k19).toInt = ((k19 : Nat) : Int) := nI_toInt (by omega); omega)) ?_
                refine r_ldc (x := .long 5) rfl rfl ?_
                refine r_ldc (x := .long 6) rfl rfl ?_
                refine r_cs (y := 155) (ra := [.long 6, .long 5, .long (lN k19)]) (rest := []) rfl ⟨⟨rfl, rfl⟩, by decide⟩ rfl rfl (Nat.le_of_ble_eq_true rfl) ?_
                refine in_155 (Nat.le_of_ble_eq_true rfl) ?_
                show WR _ cd_155 0 [some (.long (lN k19)), none, some (.long 5), none, some (.long 6), none] [] (sI (sI h (ad 0) 6 0) (ad 0) 6 (-14)) _
                refine r_lload rfl rfl ?_
                refine r_lload rfl rfl ?_
                refine r_lif_lt (tg := 17) rfl rfl rfl (fun q => False.elim (by have := i_eq c13; have := i_rg l; have : (6 : Int32).toInt = 6 := rfl; have := i_eq ek19; have : (nI k19).toInt = ((k19 : Nat) : Int) := nI_toInt (by omega); have := i_neq c4; have : (5 : Int32).toInt = 5 := rfl; have : (lN k19).toInt = ((k19 : Nat) : Int) := lN_toInt (by omega); have : (5 : Int64).toInt = 5 := rfl; have := l_lt q; omega)) (fun _ => ?_)
                refine r_lload rfl rfl ?_
                refine r_lload rfl rfl ?_
                refine r_lif_gt (tg := 17) rfl rfl rfl (fun q => False.elim (by have := i_eq c13; have := i_rg l; have : (6 : Int32).toInt = 6 := rfl; have := i_eq ek19; have : (nI k19).toInt = ((k19 : Nat) : Int) := nI_toInt (by omega); have : (lN k19).toInt = ((k19 : Nat) : Int) := lN_toInt (by omega); have : (6 : Int64).toInt = 6 := rfl; have := l_lt q; omega)) (fun _ => ?_)
                refine r_ic (x := 1) rfl rfl ?_
                refine r_goto (tg := 18) rfl rfl ?_
                refine r_zret rfl (.inr rfl) ?_
                show WR _ cd_193 25 [some (.ref (ad 30)), some (.int c), some (.int l), some (.int w), none, none, none] [.int 1] (sI (sI h (ad 0) 6 0) (ad 0) 6 (-14)) _
                refine r_if_eq (tg := 40) rfl rfl (fun q => absurd q (by decide)) (fun _ => ?_)
                refine r_iload rfl rfl ?_
                refine WR_tI (y := nI k17) ek17 ?_
                refine r_i2l rfl ?_
                refine WR_tL (y := lN k17) (nI_l (by have := i_nlt c15; have := i_rg w; have : (0 : Int32).toInt = 0 := rfl; have := i_eq ek17; have : (nI k17).toInt = ((k17 : Nat) : Int) := nI_toInt (by omega); have := i_le c18; have : (5 : Int32).toInt = 5 := rfl; omega)) ?_
                refine r_lc (x := 0) rfl rfl ?_
                refine r_ldc (x := .long 5) rfl rfl ?_
                refine r_cs (y := 155) (ra := [.long 5, .long 0, .long (lN k17)]) (rest := []) rfl ⟨⟨rfl, rfl⟩, by decide⟩ rfl rfl (Nat.le_of_ble_eq_true rfl) ?_
                refine in_155 (Nat.le_of_ble_eq_true rfl) ?_
                show WR _ cd_155 0 [some (.long (lN k17)), none, some (.long 0), none, some (.long 5), none] [] (sI (sI h (ad 0) 6 0) (ad 0) 6 (-14)) _
                refine r_lload rfl rfl ?_
                refine r_lload rfl rfl ?_
                refine r_lif_lt (tg := 17) rfl rfl rfl (fun q => False.elim (by have := i_nlt c15; have := i_rg w; have : (0 : Int32).toInt = 0 := rfl; have := i_eq ek17; have : (nI k17).toInt = ((k17 : Nat) : Int) := nI_toInt (by omega); have := i_le c18; have : (5 : Int32).toInt = 5 := rfl; have : (lN k17).toInt = ((k17 : Nat) : Int) := lN_toInt (by omega); have : (0 : Int64).toInt = 0 := rfl; have := l_lt q; omega)) (fun _ => ?_)
                refine r_lload rfl rfl ?_
                refine r_lload rfl rfl ?_
                refine r_lif_gt (tg := 17) rfl rfl rfl (fun q => False.elim (by have := i_nlt c15; have := i_rg w; have : (0 : Int32).toInt = 0 := rfl; have := i_eq ek17; have : (nI k17).toInt = ((k17 : Nat) : Int) := nI_toInt (by omega); have := i_le c18; have : (5 : Int32).toInt = 5 := rfl; have : (lN k17).toInt = ((k17 : Nat) : Int) := lN_toInt (by omega); have : (5 : Int64).toInt = 5 := rfl; have := l_lt q; omega)) (fun _ => ?_)
                refine r_ic (x := 1) rfl rfl ?_
                refine r_goto (tg := 18) rfl rfl ?_
                refine r_zret rfl (.inr rfl) ?_
                show WR _ cd_193 37 [some (.ref (ad 30)), some (.int c), some (.int l), some (.int w), none, none, none] [.int 1] (sI (sI h (ad 0) 6 0) (ad 0) 6 (-14)) _
                refine r_if_ne (tg := 47) rfl rfl (fun _ => ?_) (fun q => absurd q (by decide))
                refine r_aload rfl rfl ?_
                refine r_getA (b := ad 31) rfl ⟨rfl, rfl, rfl⟩ (fx_t30 fx) (fx_r30_0 fx) ?_
                refine r_iload rfl rfl ?_
                refine WR_tI (y := nI k2) ek2 ?_
                refine r_iaload rfl (.inl (fx_t31 fx)) (vp_ct (fx_n31 fx) (vp_in_nI (by have := i_nlt c1; have := i_rg c; have : (0 : Int32).toInt = 0 := rfl; have := i_eq ek2; have : (nI k2).toInt = ((k2 : Nat) : Int) := nI_toInt (by omega); have := i_nle c3; have : (24 : Int32).toInt = 24 := rfl; omega) (by omega))) ?_
                refine WR_tI (congrArg (hI (sI (sI h (ad 0) 6 0) (ad 0) 6 (-14)) (ad 31)) ((nI_clamp (by have := i_nlt c1; have := i_rg c; have : (0 : Int32).toInt = 0 := rfl; have := i_eq ek2; have : (nI k2).toInt = ((k2 : Nat) : Int) := nI_toInt (by omega); have := i_nle c3; have : (24 : Int32).toInt = 24 := rfl; omega)) : _ = k2)) ?_
                refine WR_tI (y := nI (q20 + 1000)) (Eq.trans (I_ne (fx_ne fx (by decide))) (Eq.trans (I_ne (fx_ne fx (by decide))) v20)) ?_
                refine r_istore (lv' := [some (.ref (ad 30)), some (.int c), some (.int l), some (.int w), some (.int (nI (q20 + 1000))), none, none]) rfl (Nat.le_of_ble_eq_true rfl) rfl ?_
                refine r_iload rfl rfl ?_
                refine r_ic (x := (-1)) rfl rfl ?_
                refine r_icmp_eq (tg := 78) rfl rfl (fun q => False.elim (by have : (nI (q20 + 1000)).toInt = ((q20 + 1000 : Nat) : Int) := nI_toInt (by omega); have : (-1 : Int32).toInt = -1 := rfl; have := i_eq q; omega)) (fun _ => ?_)
                refine r_aload rfl rfl ?_
                refine r_iload rfl rfl ?_
                refine r_cv (y := 166) (ra := [.int (nI (q20 + 1000))]) (rest := []) rfl ⟨⟨rfl, rfl⟩, rfl, by decide⟩ (fx_t30 fx) rfl rfl (Nat.le_of_ble_eq_true rfl) ?_
                refine in_166 (Nat.le_of_ble_eq_true rfl) ?_
                show WR _ cd_166 0 [some (.ref (ad 30)), some (.int (nI (q20 + 1000)))] [] (sI (sI h (ad 0) 6 0) (ad 0) 6 (-14)) _
                refine r_iload rfl rfl ?_
                refine r_ic (x := (-1)) rfl rfl ?_
                refine r_icmp_ne (tg := 9) rfl rfl (fun _ => ?_) (fun q => False.elim (by have : (nI (q20 + 1000)).toInt = ((q20 + 1000 : Nat) : Int) := nI_toInt (by omega); have : (-1 : Int32).toInt = -1 := rfl; have := i_eq q; omega))
                refine r_iload rfl rfl ?_
                refine r_ic (x := 1000) rfl rfl ?_
                refine r_icmp_lt (tg := 21) rfl rfl (fun q => False.elim (by have : (nI (q20 + 1000)).toInt = ((q20 + 1000 : Nat) : Int) := nI_toInt (by omega); have : (1000 : Int32).toInt = 1000 := rfl; have := i_lt q; omega)) (fun _ => ?_)
                refine r_ic (x := 10) rfl rfl ?_
                refine r_goto (tg := 27) rfl rfl ?_
                refine r_iret rfl ?_
                show WR _ cd_193 67 [some (.ref (ad 30)), some (.int c), some (.int l), some (.int w), some (.int (nI (q20 + 1000))), none, none] [.int 10] (sI (sI h (ad 0) 6 0) (ad 0) 6 (-14)) _
                refine r_iload rfl rfl ?_
                refine WR_tI (y := nI k19) ek19 ?_
                refine r_icmp_eq (tg := 78) rfl rfl (fun q => False.elim (by have := i_eq c13; have := i_rg l; have : (6 : Int32).toInt = 6 := rfl; have := i_eq ek19; have : (nI k19).toInt = ((k19 : Nat) : Int) := nI_toInt (by omega); have : (10 : Int32).toInt = 10 := rfl; have := i_eq q; omega)) (fun _ => ?_)
                refine r_aload rfl rfl ?_
                refine r_ic (x := (-14)) rfl rfl ?_
                refine r_cv (y := 171) (ra := [.int (-14)]) (rest := []) rfl ⟨⟨rfl, rfl⟩, rfl, by decide⟩ (fx_t30 fx) rfl rfl (Nat.le_of_ble_eq_true rfl) ?_
                refine in_171 (Nat.le_of_ble_eq_true rfl) ?_
                show WR _ cd_171 0 [some (.ref (ad 30)), some (.int (-14))] [] (sI (sI h (ad 0) 6 0) (ad 0) 6 (-14)) _
                refine r_aload rfl rfl ?_
                refine r_iload rfl rfl ?_
                refine r_putI rfl ⟨rfl, rfl, rfl⟩ (fx_t30 fx) ?_
                have fx : FX n ad sa z0 (sI (sI (sI h (ad 0) 6 0) (ad 0) 6 (-14)) (ad 30) 11 (-14)) := (FX.sI fx)
                refine r_lc (x := 0) rfl rfl ?_
                refine r_lret rfl ?_
                show WR _ cd_193 77 [some (.ref (ad 30)), some (.int c), some (.int l), some (.int w), some (.int (nI (q20 + 1000))), none, none] [.long 0] (sI (sI (sI h (ad 0) 6 0) (ad 0) 6 (-14)) (ad 30) 11 (-14)) _
                refine r_lret rfl ?_
                exact ⟨rfl, Rel.why r (((Chg.rf.sI (fx_j fx) (.inl (by decide))).sI (fx_j fx) (.inl (by decide))).sI (fx_j fx) (.inl (by decide))) ⟨rfl, by decide⟩ (Eq.trans (Eq.trans (I_ne (fx_ne fx (by decide))) I_eq) (Eq.symm I_eq)), (by (try simp only [hZ_sI, hZ_sL, hZ_sD, hZ_sR]); omega), (by (try simp only [hU_sI, hU_sL, hU_sD, hU_sR]); omega)⟩
              · refine r_aaloadA (b := mid t20) rfl (isQ_of (fx_t1 fx) (by decide)) (vp_ct (fx_n1 fx) (vp_in_nI (by have := i_nlt c1; have := i_rg c; have : (0 : Int32).toInt = 0 := rfl; have := i_eq ek2; have : (nI k2).toInt = ((k2 : Nat) : Int) := nI_toInt (by omega); have := i_nle c3; have : (24 : Int32).toInt = 24 := rfl; omega) (by omega))) (Eq.trans (congrArg (hR (sI h (ad 0) 6 0) (ad 1)) ((nI_clamp (by have := i_nlt c1; have := i_rg c; have : (0 : Int32).toInt = 0 := rfl; have := i_eq ek2; have : (nI k2).toInt = ((k2 : Nat) : Int) := nI_toInt (by omega); have := i_nle c3; have : (24 : Int32).toInt = 24 := rfl; omega)) : _ = k2)) (Eq.trans R_oI w20)) ?_
                refine r_astore (lv' := [some (.ref (ad 0)), some (.int (nI k2)), some (.int (nI k19)), some (.ref (mid t20)), none]) rfl (Nat.le_of_ble_eq_true rfl) rfl ?_
                refine r_aload rfl rfl ?_
                refine r_instY rfl (by decide) tg20 ?_
                refine r_if_eq (tg := 32) rfl rfl (fun q => absurd q (by decide)) (fun _ => ?_)
                refine r_aload rfl rfl ?_
                refine r_cast rfl tg20 ?_
                refine r_astore (lv' := [some (.ref (ad 0)), some (.int (nI k2)), some (.int (nI k19)), some (.ref (mid t20)), some (.ref (mid t20))]) rfl (Nat.le_of_ble_eq_true rfl) rfl ?_
                refine r_aload rfl rfl ?_
                refine r_getI rfl ⟨rfl, rfl, rfl⟩ tg20 ?_
                refine WR_tI (y := nI ln20) (Eq.trans (I_ne (dy_ad fx (.inl (by decide)) dz20)) l1_20) ?_
                refine r_iload rfl rfl ?_
                refine r_icmp_ne (tg := 32) rfl rfl (fun c21 => ?_) (fun c21 => ?_)
                · refine r_aload rfl rfl ?_
                  refine r_aload rfl rfl ?_
                  refine r_ifnonnullA (tg := 42) rfl rfl ?_
                  refine r_ic (x := (-14)) rfl rfl ?_
                  refine r_putI rfl ⟨rfl, rfl, rfl⟩ (fx_t0 fx) ?_
                  have fx : FX n ad sa z0 (sI (sI h (ad 0) 6 0) (ad 0) 6 (-14)) := (FX.sI fx)
                  refine r_null rfl ?_
                  refine r_aret0 rfl ?_
                  show WR _ cd_75 48 [some (.ref (ad 0)), some (.int c), some (.int l), some (.int w), none, none] [.null] (sI (sI h (ad 0) 6 0) (ad 0) 6 (-14)) _
                  refine r_astore0 (lv' := [some (.ref (ad 0)), some (.int c), some (.int l), some (.int w), some (.null), none]) rfl (Nat.le_of_ble_eq_true rfl) rfl ?_
                  refine r_aload0 rfl rfl ?_
                  refine r_ifnonnullN (tg := 57) rfl rfl ?_
                  refine r_lc (x := 0) rfl rfl ?_
                  refine r_lret rfl ?_
                  show EV _ 193 [.ref (ad 30), .int c, .int l, .int w] (sI (sI h (ad 0) 6 0) (ad 0) 6 (-14)) _
                  refine in_193 (Nat.le_of_ble_eq_true rfl) ?_
                  show WR _ cd_193 0 [some (.ref (ad 30)), some (.int c), some (.int l), some (.int w), none, none, none] [] (sI (sI h (ad 0) 6 0) (ad 0) 6 (-14)) _
                  refine r_iload rfl rfl ?_
                  refine WR_tI (y := nI k2) ek2 ?_
                  refine r_cs (y := 153) (ra := [.int (nI k2)]) (rest := []) rfl ⟨⟨rfl, rfl⟩, by decide⟩ rfl rfl (Nat.le_of_ble_eq_true rfl) ?_
                  refine in_153 (Nat.le_of_ble_eq_true rfl) ?_
                  show WR _ cd_153 0 [some (.int (nI k2))] [] (sI (sI h (ad 0) 6 0) (ad 0) 6 (-14)) _
                  refine r_iload rfl rfl ?_
                  refine r_if_lt (tg := 14) rfl rfl (fun q => False.elim (by have := i_nlt c1; have := i_rg c; have : (0 : Int32).toInt = 0 := rfl; have := i_eq ek2; have : (nI k2).toInt = ((k2 : Nat) : Int) := nI_toInt (by omega); have := i_nle c3; have : (24 : Int32).toInt = 24 := rfl; have := i_lt q; omega)) (fun _ => ?_)
                  refine r_iload rfl rfl ?_
                  refine r_ic (x := 24) rfl rfl ?_
                  refine r_icmp_ge (tg := 14) rfl rfl (fun q => False.elim (by have := i_nlt c1; have := i_rg c; have : (0 : Int32).toInt = 0 := rfl; have := i_eq ek2; have : (nI k2).toInt = ((k2 : Nat) : Int) := nI_toInt (by omega); have := i_nle c3; have : (24 : Int32).toInt = 24 := rfl; have := i_le q; omega)) (fun _ => ?_)
                  refine r_ic (x := 1) rfl rfl ?_
                  refine r_goto (tg := 15) rfl rfl ?_
                  refine r_zret rfl (.inr rfl) ?_
                  show WR _ cd_193 4 [some (.ref (ad 30)), some (.int c), some (.int l), some (.int w), none, none, none] [.int 1] (sI (sI h (ad 0) 6 0) (ad 0) 6 (-14)) _
                  refine r_if_ne (tg := 14) rfl rfl (fun _ => ?_) (fun q => absurd q (by decide))
                  refine r_iload rfl rfl ?_
                  refine WR_tI (y := nI k19) ek19 ?_
                  refine r_i2l rfl ?_
                  refine WR_tL (y := lN k19) (nI_l (by have := i_eq c13; have := i_rg l; have : (6 : Int32).toInt = 6 := rfl; have := i_eq ek19; have : (nI k19).toInt = ((k19 : Nat) : Int) := nI_toInt (by omega); omega)) ?_
                  refine r_ldc (x := .long 5) rfl rfl ?_
                  refine r_ldc (x := .long 6) rfl rfl ?_
                  refine r_cs (y := 155) (ra := [.long 6, .long 5, .long (lN k19)]) (rest := []) rfl ⟨⟨rfl, rfl⟩, by decide⟩ rfl rfl (Nat.le_of_ble_eq_true rfl) ?_
                  refine in_155 (Nat.le_of_ble_eq_true rfl) ?_
                  show WR _ cd_155 0 [some (.long (lN k19)), none, some (.long 5), none, some (.long 6), none] [] (sI (sI h (ad 0) 6 0) (ad 0) 6 (-14)) _
                  refine r_lload rfl rfl ?_
                  refine r_lload rfl rfl ?_
                  refine r_lif_lt (tg := 17) rfl rfl rfl (fun q => False.elim (by have := i_eq c13; have := i_rg l; have : (6 : Int32).toInt = 6 := rfl; have := i_eq ek19; have : (nI k19).toInt = ((k19 : Nat) : Int) := nI_toInt (by omega); have := i_neq c4; have : (5 : Int32).toInt = 5 := rfl; have : (lN k19).toInt = ((k19 : Nat) : Int) := lN_toInt (by omega); have : (5 : Int64).toInt = 5 := rfl; have := l_lt q; omega)) (fun _ => ?_)
                  refine r_lload rfl rfl ?_
                  refine r_lload rfl rfl ?_
                  refine r_lif_gt (tg := 17) rfl rfl rfl (fun q => False.elim (by have := i_eq c13; have := i_rg l; have : (6 : Int32).toInt = 6 := rfl; have := i_eq ek19; have : (nI k19).toInt = ((k19 : Nat) : Int) := nI_toInt (by omega); have : (lN k19).toInt = ((k19 : Nat) : Int) := lN_toInt (by omega); have : (6 : Int64).toInt = 6 := rfl; have := l_lt q; omega)) (fun _ => ?_)
                  refine r_ic (x := 1) rfl rfl ?_
                  refine r_goto (tg := 18) rfl rfl ?_
                  refine r_zret rfl (.inr rfl) ?_
                  show WR _ cd_193 25 [some (.ref (ad 30)), some (.int c), some (.int l), some (.int w), none, none, none] [.int 1] (sI (sI h (ad 0) 6 0) (ad 0) 6 (-14)) _
                  refine r_if_eq (tg := 40) rfl rfl (fun q => absurd q (by decide)) (fun _ => ?_)
                  refine r_iload rfl rfl ?_
                  refine WR_tI (y := nI k17) ek17 ?_
                  refine r_i2l rfl ?_
                  refine WR_tL (y := lN k17) (nI_l (by have := i_nlt c15; have := i_rg w; have : (0 : Int32).toInt = 0 := rfl; have := i_eq ek17; have : (nI k17).toInt = ((k17 : Nat) : Int) := nI_toInt (by omega); have := i_le c18; have : (5 : Int32).toInt = 5 := rfl; omega)) ?_
                  refine r_lc (x := 0) rfl rfl ?_
                  refine r_ldc (x := .long 5) rfl rfl ?_
                  refine r_cs (y := 155) (ra := [.long 5, .long 0, .long (lN k17)]) (rest := []) rfl ⟨⟨rfl, rfl⟩, by decide⟩ rfl rfl (Nat.le_of_ble_eq_true rfl) ?_
                  refine in_155 (Nat.le_of_ble_eq_true rfl) ?_
                  show WR _ cd_155 0 [some (.long (lN k17)), none, some (.long 0), none, some (.long 5), none] [] (sI (sI h (ad 0) 6 0) (ad 0) 6 (-14)) _
                  refine r_lload rfl rfl ?_
                  refine r_lload rfl rfl ?_
                  refine r_lif_lt (tg := 17) rfl rfl rfl (fun q => False.elim (by have := i_nlt c15; have := i_rg w; have : (0 : Int32).toInt = 0 := rfl; have := i_eq ek17; have : (nI k17).toInt = ((k17 : Nat) : Int) := nI_toInt (by omega); have := i_le c18; have : (5 : Int32).toInt = 5 := rfl; have : (lN k17).toInt = ((k17 : Nat) : Int) := lN_toInt (by omega); have : (0 : Int64).toInt = 0 := rfl; have := l_lt q; omega)) (fun _ => ?_)
                  refine r_lload rfl rfl ?_
                  refine r_lload rfl rfl ?_
                  refine r_lif_gt (tg := 17) rfl rfl rfl (fun q => False.elim (by have := i_nlt c15; have := i_rg w; have : (0 : Int32).toInt = 0 := rfl; have := i_eq ek17; have : (nI k17).toInt = ((k17 : Nat) : Int) := nI_toInt (by omega); have := i_le c18; have : (5 : Int32).toInt = 5 := rfl; have : (lN k17).toInt = ((k17 : Nat) : Int) := lN_toInt (by omega); have : (5 : Int64).toInt = 5 := rfl; have := l_lt q; omega)) (fun _ => ?_)
                  refine r_ic (x := 1) rfl rfl ?_
                  refine r_goto (tg := 18) rfl rfl ?_
                  refine r_zret rfl (.inr rfl) ?_
                  show WR _ cd_193 37 [some (.ref (ad 30)), some (.int c), some (.int l), some (.int w), none, none, none] [.int 1] (sI (sI h (ad 0) 6 0) (ad 0) 6 (-14)) _
                  refine r_if_ne (tg := 47) rfl rfl (fun _ => ?_) (fun q => absurd q (by decide))
                  refine r_aload rfl rfl ?_
                  refine r_getA (b := ad 31) rfl ⟨rfl, rfl, rfl⟩ (fx_t30 fx) (fx_r30_0 fx) ?_
                  refine r_iload rfl rfl ?_
                  refine WR_tI (y := nI k2) ek2 ?_
                  refine r_iaload rfl (.inl (fx_t31 fx)) (vp_ct (fx_n31 fx) (vp_in_nI (by have := i_nlt c1; have := i_rg c; have : (0 : Int32).toInt = 0 := rfl; have := i_eq ek2; have : (nI k2).toInt = ((k2 : Nat) : Int) := nI_toInt (by omega); have := i_nle c3; have : (24 : Int32).toInt = 24 := rfl; omega) (by omega))) ?_
                  refine WR_tI (congrArg (hI (sI (sI h (ad 0) 6 0) (ad 0) 6 (-14)) (ad 31)) ((nI_clamp (by have := i_nlt c1; have := i_rg c; have : (0 : Int32).toInt = 0 := rfl; have := i_eq ek2; have : (nI k2).toInt = ((k2 : Nat) : Int) := nI_toInt (by omega); have := i_nle c3; have : (24 : Int32).toInt = 24 := rfl; omega)) : _ = k2)) ?_
                  refine WR_tI (y := nI t20) (Eq.trans (I_ne (fx_ne fx (by decide))) (Eq.trans (I_ne (fx_ne fx (by decide))) v20)) ?_
                  refine r_istore (lv' := [some (.ref (ad 30)), some (.int c), some (.int l), some (.int w), some (.int (nI t20)), none, none]) rfl (Nat.le_of_ble_eq_true rfl) rfl ?_
                  refine r_iload rfl rfl ?_
                  refine r_ic (x := (-1)) rfl rfl ?_
                  refine r_icmp_eq (tg := 78) rfl rfl (fun q => False.elim (by have : (nI t20).toInt = ((t20 : Nat) : Int) := nI_toInt (by omega); have : (-1 : Int32).toInt = -1 := rfl; have := i_eq q; omega)) (fun _ => ?_)
                  refine r_aload rfl rfl ?_
                  refine r_iload rfl rfl ?_
                  refine r_cv (y := 166) (ra := [.int (nI t20)]) (rest := []) rfl ⟨⟨rfl, rfl⟩, rfl, by decide⟩ (fx_t30 fx) rfl rfl (Nat.le_of_ble_eq_true rfl) ?_
                  refine in_166 (Nat.le_of_ble_eq_true rfl) ?_
                  show WR _ cd_166 0 [some (.ref (ad 30)), some (.int (nI t20))] [] (sI (sI h (ad 0) 6 0) (ad 0) 6 (-14)) _
                  refine r_iload rfl rfl ?_
                  refine r_ic (x := (-1)) rfl rfl ?_
                  refine r_icmp_ne (tg := 9) rfl rfl (fun _ => ?_) (fun q => False.elim (by have : (nI t20).toInt = ((t20 : Nat) : Int) := nI_toInt (by omega); have : (-1 : Int32).toInt = -1 := rfl; have := i_eq q; omega))
                  refine r_iload rfl rfl ?_
                  refine r_ic (x := 1000) rfl rfl ?_
                  refine r_icmp_lt (tg := 21) rfl rfl (fun _ => ?_) (fun q => False.elim (by have : (nI t20).toInt = ((t20 : Nat) : Int) := nI_toInt (by omega); have : (1000 : Int32).toInt = 1000 := rfl; have := i_nlt q; omega))
                  refine r_aload rfl rfl ?_
                  refine r_getA (b := ad 33) rfl ⟨rfl, rfl, rfl⟩ (fx_t30 fx) (fx_r30_2 fx) ?_
                  refine r_iload rfl rfl ?_
                  refine r_iaload rfl (.inl (fx_t33 fx)) (vp_ct (fx_n33 fx) (vp_in_nI (by omega) (by omega))) ?_
                  refine WR_tI (congrArg (hI (sI (sI h (ad 0) 6 0) (ad 0) 6 (-14)) (ad 33)) ((nI_clamp (by omega)) : _ = t20)) ?_
                  refine WR_tI (y := nI ln20) (Eq.trans (I_ne (fx_ne fx (by decide))) (Eq.trans (I_ne (fx_ne fx (by decide))) l2_20)) ?_
                  refine r_iret rfl ?_
                  show WR _ cd_193 67 [some (.ref (ad 30)), some (.int c), some (.int l), some (.int w), some (.int (nI t20)), none, none] [.int (nI ln20)] (sI (sI h (ad 0) 6 0) (ad 0) 6 (-14)) _
                  refine r_iload rfl rfl ?_
                  refine WR_tI (y := nI k19) ek19 ?_
                  refine r_icmp_eq (tg := 78) rfl rfl (fun q => False.elim (by have := i_eq c13; have := i_rg l; have : (6 : Int32).toInt = 6 := rfl; have := i_eq ek19; have : (nI k19).toInt = ((k19 : Nat) : Int) := nI_toInt (by omega); have := i_neq c21; have : (nI ln20).toInt = ((ln20 : Nat) : Int) := nI_toInt (by omega); have := i_eq q; omega)) (fun _ => ?_)
                  refine r_aload rfl rfl ?_
                  refine r_ic (x := (-14)) rfl rfl ?_
                  refine r_cv (y := 171) (ra := [.int (-14)]) (rest := []) rfl ⟨⟨rfl, rfl⟩, rfl, by decide⟩ (fx_t30 fx) rfl rfl (Nat.le_of_ble_eq_true rfl) ?_
                  refine in_171 (Nat.le_of_ble_eq_true rfl) ?_
                  show WR _ cd_171 0 [some (.ref (ad 30)), some (.int (-14))] [] (sI (sI h (ad 0) 6 0) (ad 0) 6 (-14)) _
                  refine r_aload rfl rfl ?_
                  refine r_iload rfl rfl ?_
                  refine r_putI rfl ⟨rfl, rfl, rfl⟩ (fx_t30 fx) ?_
                  have fx : FX n ad sa z0 (sI (sI (sI h (ad 0) 6 0) (ad 0) 6 (-14)) (ad 30) 11 (-14)) := (FX.sI fx)
                  refine r_lc (x := 0) rfl rfl ?_
                  refine r_lret rfl ?_
                  show WR _ cd_193 77 [some (.ref (ad 30)), some (.int c), some (.int l), some (.int w), some (.int (nI t20)), none, none] [.long 0] (sI (sI (sI h (ad 0) 6 0) (ad 0) 6 (-14)) (ad 30) 11 (-14)) _
                  refine r_lret rfl ?_
                  exact ⟨rfl, Rel.why r (((Chg.rf.sI (fx_j fx) (.inl (by decide))).sI (fx_j fx) (.inl (by decide))).sI (fx_j fx) (.inl (by decide))) ⟨rfl, by decide⟩ (Eq.trans (Eq.trans (I_ne (fx_ne fx (by decide))) I_eq) (Eq.symm I_eq)), (by (try simp only [hZ_sI, hZ_sL, hZ_sD, hZ_sR]); omega), (by (try simp only [hU_sI, hU_sL, hU_sD, hU_sR]); omega)⟩
                · refine r_aload rfl rfl ?_
                  refine r_aret rfl ?_
                  show WR _ cd_75 48 [some (.ref (ad 0)), some (.int c), some (.int l), some (.int w), none, none] [.ref (mid t20)] (sI h (ad 0) 6 0) _
                  refine r_astore (lv' := [some (.ref (ad 0)), some (.int c), some (.int l), some (.int w), some (.ref (mid t20)), none]) rfl (Nat.le_of_ble_eq_true rfl) rfl ?_
                  refine r_aload rfl rfl ?_
                  refine r_ifnonnullA (tg := 57) rfl rfl ?_
                  have b0 : k2 < 24 := (by have := i_nlt c1; have := i_rg c; have : (0 : Int32).toInt = 0 := rfl; have := i_eq ek2; have : (nI k2).toInt = ((k2 : Nat) : Int) := nI_toInt (by omega); have := i_nle c3; have : (24 : Int32).toInt = 24 := rfl; omega)
                  have b1 : k17 ≤ 5 := (by have := i_nlt c15; have := i_rg w; have : (0 : Int32).toInt = 0 := rfl; have := i_eq ek17; have : (nI k17).toInt = ((k17 : Nat) : Int) := nI_toInt (by omega); have := i_le c18; have : (5 : Int32).toInt = 5 := rfl; omega)
                  have b2 : ln20 = k19 := (by have := i_eq c13; have := i_rg l; have : (6 : Int32).toInt = 6 := rfl; have := i_eq ek19; have : (nI k19).toInt = ((k19 : Nat) : Int) := nI_toInt (by omega); have := i_eq c21; have : (nI ln20).toInt = ((ln20 : Nat) : Int) := nI_toInt (by omega); omega)
                  have b3 : k19 = 5 ∨ k19 = 6 := (by have := i_eq c13; have := i_rg l; have : (6 : Int32).toInt = 6 := rfl; have := i_eq ek19; have : (nI k19).toInt = ((k19 : Nat) : Int) := nI_toInt (by omega); have := i_eq c21; have : (nI ln20).toInt = ((ln20 : Nat) : Int) := nI_toInt (by omega); omega)
                  subst ek2; subst ek19; subst ek17
                  exact t_seconds fx0 rt ra rp rf rst ru rs b0 ht20 v20 (b2 ▸ rw20) b3 b1
              · refine r_aaloadA (b := mid t20) rfl (isQ_of (fx_t1 fx) (by decide)) (vp_ct (fx_n1 fx) (vp_in_nI (by have := i_nlt c1; have := i_rg c; have : (0 : Int32).toInt = 0 := rfl; have := i_eq ek2; have : (nI k2).toInt = ((k2 : Nat) : Int) := nI_toInt (by omega); have := i_nle c3; have : (24 : Int32).toInt = 24 := rfl; omega) (by omega))) (Eq.trans (congrArg (hR (sI h (ad 0) 6 0) (ad 1)) ((nI_clamp (by have := i_nlt c1; have := i_rg c; have : (0 : Int32).toInt = 0 := rfl; have := i_eq ek2; have : (nI k2).toInt = ((k2 : Nat) : Int) := nI_toInt (by omega); have := i_nle c3; have : (24 : Int32).toInt = 24 := rfl; omega)) : _ = k2)) (Eq.trans R_oI w20)) ?_
                refine r_astore (lv' := [some (.ref (ad 0)), some (.int (nI k2)), some (.int (nI k19)), some (.ref (mid t20)), none]) rfl (Nat.le_of_ble_eq_true rfl) rfl ?_
                refine r_aload rfl rfl ?_
                refine r_instW rfl (by decide) tg20 (by decide) ?_
                refine r_if_eq (tg := 32) rfl rfl (fun _ => ?_) (fun q => absurd q (by decide))
                refine r_aload rfl rfl ?_
                refine r_aload rfl rfl ?_
                refine r_ifnonnullA (tg := 42) rfl rfl ?_
                refine r_ic (x := (-14)) rfl rfl ?_
                refine r_putI rfl ⟨rfl, rfl, rfl⟩ (fx_t0 fx) ?_
                have fx : FX n ad sa z0 (sI (sI h (ad 0) 6 0) (ad 0) 6 (-14)) := (FX.sI fx)
                refine r_null rfl ?_
                refine r_aret0 rfl ?_
                show WR _ cd_75 48 [some (.ref (ad 0)), some (.int c), some (.int l), some (.int w), none, none] [.null] (sI (sI h (ad 0) 6 0) (ad 0) 6 (-14)) _
                refine r_astore0 (lv' := [some (.ref (ad 0)), some (.int c), some (.int l), some (.int w), some (.null), none]) rfl (Nat.le_of_ble_eq_true rfl) rfl ?_
                refine r_aload0 rfl rfl ?_
                refine r_ifnonnullN (tg := 57) rfl rfl ?_
                refine r_lc (x := 0) rfl rfl ?_
                refine r_lret rfl ?_
                show EV _ 193 [.ref (ad 30), .int c, .int l, .int w] (sI (sI h (ad 0) 6 0) (ad 0) 6 (-14)) _
                refine in_193 (Nat.le_of_ble_eq_true rfl) ?_
                show WR _ cd_193 0 [some (.ref (ad 30)), some (.int c), some (.int l), some (.int w), none, none, none] [] (sI (sI h (ad 0) 6 0) (ad 0) 6 (-14)) _
                refine r_iload rfl rfl ?_
                refine WR_tI (y := nI k2) ek2 ?_
                refine r_cs (y := 153) (ra := [.int (nI k2)]) (rest := []) rfl ⟨⟨rfl, rfl⟩, by decide⟩ rfl rfl (Nat.le_of_ble_eq_true rfl) ?_
                refine in_153 (Nat.le_of_ble_eq_true rfl) ?_
                show WR _ cd_153 0 [some (.int (nI k2))] [] (sI (sI h (ad 0) 6 0) (ad 0) 6 (-14)) _
                refine r_iload rfl rfl ?_
                refine r_if_lt (tg := 14) rfl rfl (fun q => False.elim (by have := i_nlt c1; have := i_rg c; have : (0 : Int32).toInt = 0 := rfl; have := i_eq ek2; have : (nI k2).toInt = ((k2 : Nat) : Int) := nI_toInt (by omega); have := i_nle c3; have : (24 : Int32).toInt = 24 := rfl; have := i_lt q; omega)) (fun _ => ?_)
                refine r_iload rfl rfl ?_
                refine r_ic (x := 24) rfl rfl ?_
                refine r_icmp_ge (tg := 14) rfl rfl (fun q => False.elim (by have := i_nlt c1; have := i_rg c; have : (0 : Int32).toInt = 0 := rfl; have := i_eq ek2; have : (nI k2).toInt = ((k2 : Nat) : Int) := nI_toInt (by omega); have := i_nle c3; have : (24 : Int32).toInt = 24 := rfl; have := i_le q; omega)) (fun _ => ?_)
                refine r_ic (x := 1) rfl rfl ?_
                refine r_goto (tg := 15) rfl rfl ?_
                refine r_zret rfl (.inr rfl) ?_
                show WR _ cd_193 4 [some (.ref (ad 30)), some (.int c), some (.int l), some (.int w), none, none, none] [.int 1] (sI (sI h (ad 0) 6 0) (ad 0) 6 (-14)) _
                refine r_if_ne (tg := 14) rfl rfl (fun _ => ?_) (fun q => absurd q (by decide))
                refine r_iload rfl rfl ?_
                refine WR_tI (y := nI k19) ek19 ?_
                refine r_i2l rfl ?_
                refine WR_tL (y := lN k19) (nI_l (by have := i_eq c13; have := i_rg l; have : (6 : Int32).toInt = 6 := rfl; have := i_eq ek19; have : (nI k19).toInt = ((k19 : Nat) : Int) := nI_toInt (by omega); omega)) ?_
                refine r_ldc (x := .long 5) rfl rfl ?_
                refine r_ldc (x := .long 6) rfl rfl ?_
                refine r_cs (y := 155) (ra := [.long 6, .long 5, .long (lN k19)]) (rest := []) rfl ⟨⟨rfl, rfl⟩, by decide⟩ rfl rfl (Nat.le_of_ble_eq_true rfl) ?_
                refine in_155 (Nat.le_of_ble_eq_true rfl) ?_
                show WR _ cd_155 0 [some (.long (lN k19)), none, some (.long 5), none, some (.long 6), none] [] (sI (sI h (ad 0) 6 0) (ad 0) 6 (-14)) _
                refine r_lload rfl rfl ?_
                refine r_lload rfl rfl ?_
                refine r_lif_lt (tg := 17) rfl rfl rfl (fun q => False.elim (by have := i_eq c13; have := i_rg l; have : (6 : Int32).toInt = 6 := rfl; have := i_eq ek19; have : (nI k19).toInt = ((k19 : Nat) : Int) := nI_toInt (by omega); have := i_neq c4; have : (5 : Int32).toInt = 5 := rfl; have : (lN k19).toInt = ((k19 : Nat) : Int) := lN_toInt (by omega); have : (5 : Int64).toInt = 5 := rfl; have := l_lt q; omega)) (fun _ => ?_)
                refine r_lload rfl rfl ?_
                refine r_lload rfl rfl ?_
                refine r_lif_gt (tg := 17) rfl rfl rfl (fun q => False.elim (by have := i_eq c13; have := i_rg l; have : (6 : Int32).toInt = 6 := rfl; have := i_eq ek19; have : (nI k19).toInt = ((k19 : Nat) : Int) := nI_toInt (by omega); have : (lN k19).toInt = ((k19 : Nat) : Int) := lN_toInt (by omega); have : (6 : Int64).toInt = 6 := rfl; have := l_lt q; omega)) (fun _ => ?_)
                refine r_ic (x := 1) rfl rfl ?_
                refine r_goto (tg := 18) rfl rfl ?_
                refine r_zret rfl (.inr rfl) ?_
                show WR _ cd_193 25 [some (.ref (ad 30)), some (.int c), some (.int l), some (.int w), none, none, none] [.int 1] (sI (sI h (ad 0) 6 0) (ad 0) 6 (-14)) _
                refine r_if_eq (tg := 40) rfl rfl (fun q => absurd q (by decide)) (fun _ => ?_)
                refine r_iload rfl rfl ?_
                refine WR_tI (y := nI k17) ek17 ?_
                refine r_i2l rfl ?_
                refine WR_tL (y := lN k17) (nI_l (by have := i_nlt c15; have := i_rg w; have : (0 : Int32).toInt = 0 := rfl; have := i_eq ek17; have : (nI k17).toInt = ((k17 : Nat) : Int) := nI_toInt (by omega); have := i_le c18; have : (5 : Int32).toInt = 5 := rfl; omega)) ?_
                refine r_lc (x := 0) rfl rfl ?_
                refine r_ldc (x := .long 5) rfl rfl ?_
                refine r_cs (y := 155) (ra := [.long 5, .long 0, .long (lN k17)]) (rest := []) rfl ⟨⟨rfl, rfl⟩, by decide⟩ rfl rfl (Nat.le_of_ble_eq_true rfl) ?_
                refine in_155 (Nat.le_of_ble_eq_true rfl) ?_
                show WR _ cd_155 0 [some (.long (lN k17)), none, some (.long 0), none, some (.long 5), none] [] (sI (sI h (ad 0) 6 0) (ad 0) 6 (-14)) _
                refine r_lload rfl rfl ?_
                refine r_lload rfl rfl ?_
                refine r_lif_lt (tg := 17) rfl rfl rfl (fun q => False.elim (by have := i_nlt c15; have := i_rg w; have : (0 : Int32).toInt = 0 := rfl; have := i_eq ek17; have : (nI k17).toInt = ((k17 : Nat) : Int) := nI_toInt (by omega); have := i_le c18; have : (5 : Int32).toInt = 5 := rfl; have : (lN k17).toInt = ((k17 : Nat) : Int) := lN_toInt (by omega); have : (0 : Int64).toInt = 0 := rfl; have := l_lt q; omega)) (fun _ => ?_)
                refine r_lload rfl rfl ?_
                refine r_lload rfl rfl ?_
                refine r_lif_gt (tg := 17) rfl rfl rfl (fun q => False.elim (by have := i_nlt c15; have := i_rg w; have : (0 : Int32).toInt = 0 := rfl; have := i_eq ek17; have : (nI k17).toInt = ((k17 : Nat) : Int) := nI_toInt (by omega); have := i_le c18; have : (5 : Int32).toInt = 5 := rfl; have : (lN k17).toInt = ((k17 : Nat) : Int) := lN_toInt (by omega); have : (5 : Int64).toInt = 5 := rfl; have := l_lt q; omega)) (fun _ => ?_)
                refine r_ic (x := 1) rfl rfl ?_
                refine r_goto (tg := 18) rfl rfl ?_
                refine r_zret rfl (.inr rfl) ?_
                show WR _ cd_193 37 [some (.ref (ad 30)), some (.int c), some (.int l), some (.int w), none, none, none] [.int 1] (sI (sI h (ad 0) 6 0) (ad 0) 6 (-14)) _
                refine r_if_ne (tg := 47) rfl rfl (fun _ => ?_) (fun q => absurd q (by decide))
                refine r_aload rfl rfl ?_
                refine r_getA (b := ad 31) rfl ⟨rfl, rfl, rfl⟩ (fx_t30 fx) (fx_r30_0 fx) ?_
                refine r_iload rfl rfl ?_
                refine WR_tI (y := nI k2) ek2 ?_
                refine r_iaload rfl (.inl (fx_t31 fx)) (vp_ct (fx_n31 fx) (vp_in_nI (by have := i_nlt c1; have := i_rg c; have : (0 : Int32).toInt = 0 := rfl; have := i_eq ek2; have : (nI k2).toInt = ((k2 : Nat) : Int) := nI_toInt (by omega); have := i_nle c3; have : (24 : Int32).toInt = 24 := rfl; omega) (by omega))) ?_
                refine WR_tI (congrArg (hI (sI (sI h (ad 0) 6 0) (ad 0) 6 (-14)) (ad 31)) ((nI_clamp (by have := i_nlt c1; have := i_rg c; have : (0 : Int32).toInt = 0 := rfl; have := i_eq ek2; have : (nI k2).toInt = ((k2 : Nat) : Int) := nI_toInt (by omega); have := i_nle c3; have : (24 : Int32).toInt = 24 := rfl; omega)) : _ = k2)) ?_
                refine WR_tI (y := nI t20) (Eq.trans (I_ne (fx_ne fx (by decide))) (Eq.trans (I_ne (fx_ne fx (by decide))) v20)) ?_
                refine r_istore (lv' := [some (.ref (ad 30)), some (.int c), some (.int l), some (.int w), some (.int (nI t20)), none, none]) rfl (Nat.le_of_ble_eq_true rfl) rfl ?_
                refine r_iload rfl rfl ?_
                refine r_ic (x := (-1)) rfl rfl ?_
                refine r_icmp_eq (tg := 78) rfl rfl (fun q => False.elim (by have : (nI t20).toInt = ((t20 : Nat) : Int) := nI_toInt (by omega); have : (-1 : Int32).toInt = -1 := rfl; have := i_eq q; omega)) (fun _ => ?_)
                refine r_aload rfl rfl ?_
                refine r_iload rfl rfl ?_
                refine r_cv (y := 166) (ra := [.int (nI t20)]) (rest := []) rfl ⟨⟨rfl, rfl⟩, rfl, by decide⟩ (fx_t30 fx) rfl rfl (Nat.le_of_ble_eq_true rfl) ?_
                refine in_166 (Nat.le_of_ble_eq_true rfl) ?_
                show WR _ cd_166 0 [some (.ref (ad 30)), some (.int (nI t20))] [] (sI (sI h (ad 0) 6 0) (ad 0) 6 (-14)) _
                refine r_iload rfl rfl ?_
                refine r_ic (x := (-1)) rfl rfl ?_
                refine r_icmp_ne (tg := 9) rfl rfl (fun _ => ?_) (fun q => False.elim (by have : (nI t20).toInt = ((t20 : Nat) : Int) := nI_toInt (by omega); have : (-1 : Int32).toInt = -1 := rfl; have := i_eq q; omega))
                refine r_iload rfl rfl ?_
                refine r_ic (x := 1000) rfl rfl ?_
                refine r_icmp_lt (tg := 21) rfl rfl (fun _ => ?_) (fun q => False.elim (by have : (nI t20).toInt = ((t20 : Nat) : Int) := nI_toInt (by omega); have : (1000 : Int32).toInt = 1000 := rfl; have := i_nlt q; omega))
                refine r_aload rfl rfl ?_
                refine r_getA (b := ad 33) rfl ⟨rfl, rfl, rfl⟩ (fx_t30 fx) (fx_r30_2 fx) ?_
                refine r_iload rfl rfl ?_
                refine r_iaload rfl (.inl (fx_t33 fx)) (vp_ct (fx_n33 fx) (vp_in_nI (by omega) (by omega))) ?_
                refine WR_tI (congrArg (hI (sI (sI h (ad 0) 6 0) (ad 0) 6 (-14)) (ad 33)) ((nI_clamp (by omega)) : _ = t20)) ?_
                refine WR_tI (y := 8) (Eq.trans (I_ne (fx_ne fx (by decide))) (Eq.trans (I_ne (fx_ne fx (by decide))) l2_20)) ?_
                refine r_iret rfl ?_
                show WR _ cd_193 67 [some (.ref (ad 30)), some (.int c), some (.int l), some (.int w), some (.int (nI t20)), none, none] [.int 8] (sI (sI h (ad 0) 6 0) (ad 0) 6 (-14)) _
                refine r_iload rfl rfl ?_
                refine WR_tI (y := nI k19) ek19 ?_
                refine r_icmp_eq (tg := 78) rfl rfl (fun q => False.elim (by have := i_eq c13; have := i_rg l; have : (6 : Int32).toInt = 6 := rfl; have := i_eq ek19; have : (nI k19).toInt = ((k19 : Nat) : Int) := nI_toInt (by omega); have : (8 : Int32).toInt = 8 := rfl; have := i_eq q; omega)) (fun _ => ?_)
                refine r_aload rfl rfl ?_
                refine r_ic (x := (-14)) rfl rfl ?_
                refine r_cv (y := 171) (ra := [.int (-14)]) (rest := []) rfl ⟨⟨rfl, rfl⟩, rfl, by decide⟩ (fx_t30 fx) rfl rfl (Nat.le_of_ble_eq_true rfl) ?_
                refine in_171 (Nat.le_of_ble_eq_true rfl) ?_
                show WR _ cd_171 0 [some (.ref (ad 30)), some (.int (-14))] [] (sI (sI h (ad 0) 6 0) (ad 0) 6 (-14)) _
                refine r_aload rfl rfl ?_
                refine r_iload rfl rfl ?_
                refine r_putI rfl ⟨rfl, rfl, rfl⟩ (fx_t30 fx) ?_
                have fx : FX n ad sa z0 (sI (sI (sI h (ad 0) 6 0) (ad 0) 6 (-14)) (ad 30) 11 (-14)) := (FX.sI fx)
                refine r_lc (x := 0) rfl rfl ?_
                refine r_lret rfl ?_
                show WR _ cd_193 77 [some (.ref (ad 30)), some (.int c), some (.int l), some (.int w), some (.int (nI t20)), none, none] [.long 0] (sI (sI (sI h (ad 0) 6 0) (ad 0) 6 (-14)) (ad 30) 11 (-14)) _
                refine r_lret rfl ?_
                exact ⟨rfl, Rel.why r (((Chg.rf.sI (fx_j fx) (.inl (by decide))).sI (fx_j fx) (.inl (by decide))).sI (fx_j fx) (.inl (by decide))) ⟨rfl, by decide⟩ (Eq.trans (Eq.trans (I_ne (fx_ne fx (by decide))) I_eq) (Eq.symm I_eq)), (by (try simp only [hZ_sI, hZ_sL, hZ_sD, hZ_sR]); omega), (by (try simp only [hU_sI, hU_sL, hU_sD, hU_sR]); omega)⟩
              · refine r_aaloadA (b := mid t20) rfl (isQ_of (fx_t1 fx) (by decide)) (vp_ct (fx_n1 fx) (vp_in_nI (by have := i_nlt c1; have := i_rg c; have : (0 : Int32).toInt = 0 := rfl; have := i_eq ek2; have : (nI k2).toInt = ((k2 : Nat) : Int) := nI_toInt (by omega); have := i_nle c3; have : (24 : Int32).toInt = 24 := rfl; omega) (by omega))) (Eq.trans (congrArg (hR (sI h (ad 0) 6 0) (ad 1)) ((nI_clamp (by have := i_nlt c1; have := i_rg c; have : (0 : Int32).toInt = 0 := rfl; have := i_eq ek2; have : (nI k2).toInt = ((k2 : Nat) : Int) := nI_toInt (by omega); have := i_nle c3; have : (24 : Int32).toInt = 24 := rfl; omega)) : _ = k2)) (Eq.trans R_oI w20)) ?_
                refine r_astore (lv' := [some (.ref (ad 0)), some (.int (nI k2)), some (.int (nI k19)), some (.ref (mid t20)), none]) rfl (Nat.le_of_ble_eq_true rfl) rfl ?_
                refine r_aload rfl rfl ?_
                refine r_instW rfl (by decide) tg20 (by decide) ?_
                refine r_if_eq (tg := 32) rfl rfl (fun _ => ?_) (fun q => absurd q (by decide))
                refine r_aload rfl rfl ?_
                refine r_aload rfl rfl ?_
                refine r_ifnonnullA (tg := 42) rfl rfl ?_
                refine r_ic (x := (-14)) rfl rfl ?_
                refine r_putI rfl ⟨rfl, rfl, rfl⟩ (fx_t0 fx) ?_
                have fx : FX n ad sa z0 (sI (sI h (ad 0) 6 0) (ad 0) 6 (-14)) := (FX.sI fx)
                refine r_null rfl ?_
                refine r_aret0 rfl ?_
                show WR _ cd_75 48 [some (.ref (ad 0)), some (.int c), some (.int l), some (.int w), none, none] [.null] (sI (sI h (ad 0) 6 0) (ad 0) 6 (-14)) _
                refine r_astore0 (lv' := [some (.ref (ad 0)), some (.int c), some (.int l), some (.int w), some (.null), none]) rfl (Nat.le_of_ble_eq_true rfl) rfl ?_
                refine r_aload0 rfl rfl ?_
                refine r_ifnonnullN (tg := 57) rfl rfl ?_
                refine r_lc (x := 0) rfl rfl ?_
                refine r_lret rfl ?_
                show EV _ 193 [.ref (ad 30), .int c, .int l, .int w] (sI (sI h (ad 0) 6 0) (ad 0) 6 (-14)) _
                refine in_193 (Nat.le_of_ble_eq_true rfl) ?_
                show WR _ cd_193 0 [some (.ref (ad 30)), some (.int c), some (.int l), some (.int w), none, none, none] [] (sI (sI h (ad 0) 6 0) (ad 0) 6 (-14)) _
                refine r_iload rfl rfl ?_
                refine WR_tI (y := nI k2) ek2 ?_
                refine r_cs (y := 153) (ra := [.int (nI k2)]) (rest := []) rfl ⟨⟨rfl, rfl⟩, by decide⟩ rfl rfl (Nat.le_of_ble_eq_true rfl) ?_
                refine in_153 (Nat.le_of_ble_eq_true rfl) ?_
                show WR _ cd_153 0 [some (.int (nI k2))] [] (sI (sI h (ad 0) 6 0) (ad 0) 6 (-14)) _
                refine r_iload rfl rfl ?_
                refine r_if_lt (tg := 14) rfl rfl (fun q => False.elim (by have := i_nlt c1; have := i_rg c; have : (0 : Int32).toInt = 0 := rfl; have := i_eq ek2; have : (nI k2).toInt = ((k2 : Nat) : Int) := nI_toInt (by omega); have := i_nle c3; have : (24 : Int32).toInt = 24 := rfl; have := i_lt q; omega)) (fun _ => ?_)
                refine r_iload rfl rfl ?_
                refine r_ic (x := 24) rfl rfl ?_
                refine r_icmp_ge (tg := 14) rfl rfl (fun q => False.elim (by have := i_nlt c1; have := i_rg c; have : (0 : Int32).toInt = 0 := rfl; have := i_eq ek2; have : (nI k2).toInt = ((k2 : Nat) : Int) := nI_toInt (by omega); have := i_nle c3; have : (24 : Int32).toInt = 24 := rfl; have := i_le q; omega)) (fun _ => ?_)
                refine r_ic (x := 1) rfl rfl ?_
                refine r_goto (tg := 15) rfl rfl ?_
                refine r_zret rfl (.inr rfl) ?_
                show WR _ cd_193 4 [some (.ref (ad 30)), some (.int c), some (.int l), some (.int w), none, none, none] [.int 1] (sI (sI h (ad 0) 6 0) (ad 0) 6 (-14)) _
                refine r_if_ne (tg := 14) rfl rfl (fun _ => ?_) (fun q => absurd q (by decide))
                refine r_iload rfl rfl ?_
                refine WR_tI (y := nI k19) ek19 ?_
                refine r_i2l rfl ?_
                refine WR_tL (y := lN k19) (nI_l (by have := i_eq c13; have := i_rg l; have : (6 : Int32).toInt = 6 := rfl; have := i_eq ek19; have : (nI k19).toInt = ((k19 : Nat) : Int) := nI_toInt (by omega); omega)) ?_
                refine r_ldc (x := .long 5) rfl rfl ?_
                refine r_ldc (x := .long 6) rfl rfl ?_
                refine r_cs (y := 155) (ra := [.long 6, .long 5, .long (lN k19)]) (rest := []) rfl ⟨⟨rfl, rfl⟩, by decide⟩ rfl rfl (Nat.le_of_ble_eq_true rfl) ?_
                refine in_155 (Nat.le_of_ble_eq_true rfl) ?_
                show WR _ cd_155 0 [some (.long (lN k19)), none, some (.long 5), none, some (.long 6), none] [] (sI (sI h (ad 0) 6 0) (ad 0) 6 (-14)) _
                refine r_lload rfl rfl ?_
                refine r_lload rfl rfl ?_
                refine r_lif_lt (tg := 17) rfl rfl rfl (fun q => False.elim (by have := i_eq c13; have := i_rg l; have : (6 : Int32).toInt = 6 := rfl; have := i_eq ek19; have : (nI k19).toInt = ((k19 : Nat) : Int) := nI_toInt (by omega); have := i_neq c4; have : (5 : Int32).toInt = 5 := rfl; have : (lN k19).toInt = ((k19 : Nat) : Int) := lN_toInt (by omega); have : (5 : Int64).toInt = 5 := rfl; have := l_lt q; omega)) (fun _ => ?_)
                refine r_lload rfl rfl ?_
                refine r_lload rfl rfl ?_
                refine r_lif_gt (tg := 17) rfl rfl rfl (fun q => False.elim (by have := i_eq c13; have := i_rg l; have : (6 : Int32).toInt = 6 := rfl; have := i_eq ek19; have : (nI k19).toInt = ((k19 : Nat) : Int) := nI_toInt (by omega); have : (lN k19).toInt = ((k19 : Nat) : Int) := lN_toInt (by omega); have : (6 : Int64).toInt = 6 := rfl; have := l_lt q; omega)) (fun _ => ?_)
                refine r_ic (x := 1) rfl rfl ?_
                refine r_goto (tg := 18) rfl rfl ?_
                refine r_zret rfl (.inr rfl) ?_
                show WR _ cd_193 25 [some (.ref (ad 30)), some (.int c), some (.int l), some (.int w), none, none, none] [.int 1] (sI (sI h (ad 0) 6 0) (ad 0) 6 (-14)) _
                refine r_if_eq (tg := 40) rfl rfl (fun q => absurd q (by decide)) (fun _ => ?_)
                refine r_iload rfl rfl ?_
                refine WR_tI (y := nI k17) ek17 ?_
                refine r_i2l rfl ?_
                refine WR_tL (y := lN k17) (nI_l (by have := i_nlt c15; have := i_rg w; have : (0 : Int32).toInt = 0 := rfl; have := i_eq ek17; have : (nI k17).toInt = ((k17 : Nat) : Int) := nI_toInt (by omega); have := i_le c18; have : (5 : Int32).toInt = 5 := rfl; omega)) ?_
                refine r_lc (x := 0) rfl rfl ?_
                refine r_ldc (x := .long 5) rfl rfl ?_
                refine r_cs (y := 155) (ra := [.long 5, .long 0, .long (lN k17)]) (rest := []) rfl ⟨⟨rfl, rfl⟩, by decide⟩ rfl rfl (Nat.le_of_ble_eq_true rfl) ?_
                refine in_155 (Nat.le_of_ble_eq_true rfl) ?_
                show WR _ cd_155 0 [some (.long (lN k17)), none, some (.long 0), none, some (.long 5), none] [] (sI (sI h (ad 0) 6 0) (ad 0) 6 (-14)) _
                refine r_lload rfl rfl ?_
                refine r_lload rfl rfl ?_
                refine r_lif_lt (tg := 17) rfl rfl rfl (fun q => False.elim (by have := i_nlt c15; have := i_rg w; have : (0 : Int32).toInt = 0 := rfl; have := i_eq ek17; have : (nI k17).toInt = ((k17 : Nat) : Int) := nI_toInt (by omega); have := i_le c18; have : (5 : Int32).toInt = 5 := rfl; have : (lN k17).toInt = ((k17 : Nat) : Int) := lN_toInt (by omega); have : (0 : Int64).toInt = 0 := rfl; have := l_lt q; omega)) (fun _ => ?_)
                refine r_lload rfl rfl ?_
                refine r_lload rfl rfl ?_
                refine r_lif_gt (tg := 17) rfl rfl rfl (fun q => False.elim (by have := i_nlt c15; have := i_rg w; have : (0 : Int32).toInt = 0 := rfl; have := i_eq ek17; have : (nI k17).toInt = ((k17 : Nat) : Int) := nI_toInt (by omega); have := i_le c18; have : (5 : Int32).toInt = 5 := rfl; have : (lN k17).toInt = ((k17 : Nat) : Int) := lN_toInt (by omega); have : (5 : Int64).toInt = 5 := rfl; have := l_lt q; omega)) (fun _ => ?_)
                refine r_ic (x := 1) rfl rfl ?_
                refine r_goto (tg := 18) rfl rfl ?_
                refine r_zret rfl (.inr rfl) ?_
                show WR _ cd_193 37 [some (.ref (ad 30)), some (.int c), some (.int l), some (.int w), none, none, none] [.int 1] (sI (sI h (ad 0) 6 0) (ad 0) 6 (-14)) _
                refine r_if_ne (tg := 47) rfl rfl (fun _ => ?_) (fun q => absurd q (by decide))
                refine r_aload rfl rfl ?_
                refine r_getA (b := ad 31) rfl ⟨rfl, rfl, rfl⟩ (fx_t30 fx) (fx_r30_0 fx) ?_
                refine r_iload rfl rfl ?_
                refine WR_tI (y := nI k2) ek2 ?_
                refine r_iaload rfl (.inl (fx_t31 fx)) (vp_ct (fx_n31 fx) (vp_in_nI (by have := i_nlt c1; have := i_rg c; have : (0 : Int32).toInt = 0 := rfl; have := i_eq ek2; have : (nI k2).toInt = ((k2 : Nat) : Int) := nI_toInt (by omega); have := i_nle c3; have : (24 : Int32).toInt = 24 := rfl; omega) (by omega))) ?_
                refine WR_tI (congrArg (hI (sI (sI h (ad 0) 6 0) (ad 0) 6 (-14)) (ad 31)) ((nI_clamp (by have := i_nlt c1; have := i_rg c; have : (0 : Int32).toInt = 0 := rfl; have := i_eq ek2; have : (nI k2).toInt = ((k2 : Nat) : Int) := nI_toInt (by omega); have := i_nle c3; have : (24 : Int32).toInt = 24 := rfl; omega)) : _ = k2)) ?_
                refine WR_tI (y := nI t20) (Eq.trans (I_ne (fx_ne fx (by decide))) (Eq.trans (I_ne (fx_ne fx (by decide))) v20)) ?_
                refine r_istore (lv' := [some (.ref (ad 30)), some (.int c), some (.int l), some (.int w), some (.int (nI t20)), none, none]) rfl (Nat.le_of_ble_eq_true rfl) rfl ?_
                refine r_iload rfl rfl ?_
                refine r_ic (x := (-1)) rfl rfl ?_
                refine r_icmp_eq (tg := 78) rfl rfl (fun q => False.elim (by have : (nI t20).toInt = ((t20 : Nat) : Int) := nI_toInt (by omega); have : (-1 : Int32).toInt = -1 := rfl; have := i_eq q; omega)) (fun _ => ?_)
                refine r_aload rfl rfl ?_
                refine r_iload rfl rfl ?_
                refine r_cv (y := 166) (ra := [.int (nI t20)]) (rest := []) rfl ⟨⟨rfl, rfl⟩, rfl, by decide⟩ (fx_t30 fx) rfl rfl (Nat.le_of_ble_eq_true rfl) ?_
                refine in_166 (Nat.le_of_ble_eq_true rfl) ?_
                show WR _ cd_166 0 [some (.ref (ad 30)), some (.int (nI t20))] [] (sI (sI h (ad 0) 6 0) (ad 0) 6 (-14)) _
                refine r_iload rfl rfl ?_
                refine r_ic (x := (-1)) rfl rfl ?_
                refine r_icmp_ne (tg := 9) rfl rfl (fun _ => ?_) (fun q => False.elim (by have : (nI t20).toInt = ((t20 : Nat) : Int) := nI_toInt (by omega); have : (-1 : Int32).toInt = -1 := rfl; have := i_eq q; omega))
                refine r_iload rfl rfl ?_
                refine r_ic (x := 1000) rfl rfl ?_
                refine r_icmp_lt (tg := 21) rfl rfl (fun _ => ?_) (fun q => False.elim (by have : (nI t20).toInt = ((t20 : Nat) : Int) := nI_toInt (by omega); have : (1000 : Int32).toInt = 1000 := rfl; have := i_nlt q; omega))
                refine r_aload rfl rfl ?_
                refine r_getA (b := ad 33) rfl ⟨rfl, rfl, rfl⟩ (fx_t30 fx) (fx_r30_2 fx) ?_
                refine r_iload rfl rfl ?_
                refine r_iaload rfl (.inl (fx_t33 fx)) (vp_ct (fx_n33 fx) (vp_in_nI (by omega) (by omega))) ?_
                refine WR_tI (congrArg (hI (sI (sI h (ad 0) 6 0) (ad 0) 6 (-14)) (ad 33)) ((nI_clamp (by omega)) : _ = t20)) ?_
                refine WR_tI (y := 9) (Eq.trans (I_ne (fx_ne fx (by decide))) (Eq.trans (I_ne (fx_ne fx (by decide))) l2_20)) ?_
                refine r_iret rfl ?_
                show WR _ cd_193 67 [some (.ref (ad 30)), some (.int c), some (.int l), some (.int w), some (.int (nI t20)), none, none] [.int 9] (sI (sI h (ad 0) 6 0) (ad 0) 6 (-14)) _
                refine r_iload rfl rfl ?_
                refine WR_tI (y := nI k19) ek19 ?_
                refine r_icmp_eq (tg := 78) rfl rfl (fun q => False.elim (by have := i_eq c13; have := i_rg l; have : (6 : Int32).toInt = 6 := rfl; have := i_eq ek19; have : (nI k19).toInt = ((k19 : Nat) : Int) := nI_toInt (by omega); have : (9 : Int32).toInt = 9 := rfl; have := i_eq q; omega)) (fun _ => ?_)
                refine r_aload rfl rfl ?_
                refine r_ic (x := (-14)) rfl rfl ?_
                refine r_cv (y := 171) (ra := [.int (-14)]) (rest := []) rfl ⟨⟨rfl, rfl⟩, rfl, by decide⟩ (fx_t30 fx) rfl rfl (Nat.le_of_ble_eq_true rfl) ?_
                refine in_171 (Nat.le_of_ble_eq_true rfl) ?_
                show WR _ cd_171 0 [some (.ref (ad 30)), some (.int (-14))] [] (sI (sI h (ad 0) 6 0) (ad 0) 6 (-14)) _
                refine r_aload rfl rfl ?_
                refine r_iload rfl rfl ?_
                refine r_putI rfl ⟨rfl, rfl, rfl⟩ (fx_t30 fx) ?_
                have fx : FX n ad sa z0 (sI (sI (sI h (ad 0) 6 0) (ad 0) 6 (-14)) (ad 30) 11 (-14)) := (FX.sI fx)
                refine r_lc (x := 0) rfl rfl ?_
                refine r_lret rfl ?_
                show WR _ cd_193 77 [some (.ref (ad 30)), some (.int c), some (.int l), some (.int w), some (.int (nI t20)), none, none] [.long 0] (sI (sI (sI h (ad 0) 6 0) (ad 0) 6 (-14)) (ad 30) 11 (-14)) _
                refine r_lret rfl ?_
                exact ⟨rfl, Rel.why r (((Chg.rf.sI (fx_j fx) (.inl (by decide))).sI (fx_j fx) (.inl (by decide))).sI (fx_j fx) (.inl (by decide))) ⟨rfl, by decide⟩ (Eq.trans (Eq.trans (I_ne (fx_ne fx (by decide))) I_eq) (Eq.symm I_eq)), (by (try simp only [hZ_sI, hZ_sL, hZ_sD, hZ_sR]); omega), (by (try simp only [hU_sI, hU_sL, hU_sD, hU_sR]); omega)⟩
            · refine r_aload rfl rfl ?_
              refine r_ic (x := (-3)) rfl rfl ?_
              refine r_cv (y := 65) (ra := [.int (-3)]) (rest := []) rfl ⟨⟨rfl, rfl⟩, rfl, by decide⟩ (fx_t0 fx) rfl rfl (Nat.le_of_ble_eq_true rfl) ?_
              refine in_65 (Nat.le_of_ble_eq_true rfl) ?_
              show WR _ cd_65 0 [some (.ref (ad 0)), some (.int (-3))] [] (sI h (ad 0) 6 0) _
              refine r_aload rfl rfl ?_
              refine r_iload rfl rfl ?_
              refine r_putI rfl ⟨rfl, rfl, rfl⟩ (fx_t0 fx) ?_
              have fx : FX n ad sa z0 (sI (sI h (ad 0) 6 0) (ad 0) 6 (-3)) := (FX.sI fx)
              refine r_lc (x := 0) rfl rfl ?_
              refine r_lret rfl ?_
              show WR _ cd_75 41 [some (.ref (ad 0)), some (.int c), some (.int l), some (.int w), none, none] [.long 0] (sI (sI h (ad 0) 6 0) (ad 0) 6 (-3)) _
              refine r_lret rfl ?_
              show EV _ 193 [.ref (ad 30), .int c, .int l, .int w] (sI (sI h (ad 0) 6 0) (ad 0) 6 (-3)) _
              refine in_193 (Nat.le_of_ble_eq_true rfl) ?_
              show WR _ cd_193 0 [some (.ref (ad 30)), some (.int c), some (.int l), some (.int w), none, none, none] [] (sI (sI h (ad 0) 6 0) (ad 0) 6 (-3)) _
              refine r_iload rfl rfl ?_
              refine WR_tI (y := nI k2) ek2 ?_
              refine r_cs (y := 153) (ra := [.int (nI k2)]) (rest := []) rfl ⟨⟨rfl, rfl⟩, by decide⟩ rfl rfl (Nat.le_of_ble_eq_true rfl) ?_
              refine in_153 (Nat.le_of_ble_eq_true rfl) ?_
              show WR _ cd_153 0 [some (.int (nI k2))] [] (sI (sI h (ad 0) 6 0) (ad 0) 6 (-3)) _
              refine r_iload rfl rfl ?_
              refine r_if_lt (tg := 14) rfl rfl (fun q => False.elim (by have := i_nlt c1; have := i_rg c; have : (0 : Int32).toInt = 0 := rfl; have := i_eq ek2; have : (nI k2).toInt = ((k2 : Nat) : Int) := nI_toInt (by omega); have := i_nle c3; have : (24 : Int32).toInt = 24 := rfl; have := i_lt q; omega)) (fun _ => ?_)
              refine r_iload rfl rfl ?_
              refine r_ic (x := 24) rfl rfl ?_
              refine r_icmp_ge (tg := 14) rfl rfl (fun q => False.elim (by have := i_nlt c1; have := i_rg c; have : (0 : Int32).toInt = 0 := rfl; have := i_eq ek2; have : (nI k2).toInt = ((k2 : Nat) : Int) := nI_toInt (by omega); have := i_nle c3; have : (24 : Int32).toInt = 24 := rfl; have := i_le q; omega)) (fun _ => ?_)
              refine r_ic (x := 1) rfl rfl ?_
              refine r_goto (tg := 15) rfl rfl ?_
              refine r_zret rfl (.inr rfl) ?_
              show WR _ cd_193 4 [some (.ref (ad 30)), some (.int c), some (.int l), some (.int w), none, none, none] [.int 1] (sI (sI h (ad 0) 6 0) (ad 0) 6 (-3)) _
              refine r_if_ne (tg := 14) rfl rfl (fun _ => ?_) (fun q => absurd q (by decide))
              obtain ⟨k22, hk22, ek22⟩ := ix_of (x := l) (n := 2147483648) (by have := i_eq c13; have := i_rg l; have : (6 : Int32).toInt = 6 := rfl; omega) (by have := i_eq c13; have := i_rg l; have : (6 : Int32).toInt = 6 := rfl; omega)
              refine r_iload rfl rfl ?_
              refine WR_tI (y := nI k22) ek22 ?_
              refine r_i2l rfl ?_
              refine WR_tL (y := lN k22) (nI_l (by have := i_eq c13; have := i_rg l; have : (6 : Int32).toInt = 6 := rfl; have := i_eq ek22; have : (nI k22).toInt = ((k22 : Nat) : Int) := nI_toInt (by omega); omega)) ?_
              refine r_ldc (x := .long 5) rfl rfl ?_
              refine r_ldc (x := .long 6) rfl rfl ?_
              refine r_cs (y := 155) (ra := [.long 6, .long 5, .long (lN k22)]) (rest := []) rfl ⟨⟨rfl, rfl⟩, by decide⟩ rfl rfl (Nat.le_of_ble_eq_true rfl) ?_
              refine in_155 (Nat.le_of_ble_eq_true rfl) ?_
              show WR _ cd_155 0 [some (.long (lN k22)), none, some (.long 5), none, some (.long 6), none] [] (sI (sI h (ad 0) 6 0) (ad 0) 6 (-3)) _
              refine r_lload rfl rfl ?_
              refine r_lload rfl rfl ?_
              refine r_lif_lt (tg := 17) rfl rfl rfl (fun q => False.elim (by have := i_eq c13; have := i_rg l; have : (6 : Int32).toInt = 6 := rfl; have := i_eq ek22; have : (nI k22).toInt = ((k22 : Nat) : Int) := nI_toInt (by omega); have := i_neq c4; have : (5 : Int32).toInt = 5 := rfl; have : (lN k22).toInt = ((k22 : Nat) : Int) := lN_toInt (by omega); have : (5 : Int64).toInt = 5 := rfl; have := l_lt q; omega)) (fun _ => ?_)
              refine r_lload rfl rfl ?_
              refine r_lload rfl rfl ?_
              refine r_lif_gt (tg := 17) rfl rfl rfl (fun q => False.elim (by have := i_eq c13; have := i_rg l; have : (6 : Int32).toInt = 6 := rfl; have := i_eq ek22; have : (nI k22).toInt = ((k22 : Nat) : Int) := nI_toInt (by omega); have : (lN k22).toInt = ((k22 : Nat) : Int) := lN_toInt (by omega); have : (6 : Int64).toInt = 6 := rfl; have := l_lt q; omega)) (fun _ => ?_)
              refine r_ic (x := 1) rfl rfl ?_
              refine r_goto (tg := 18) rfl rfl ?_
              refine r_zret rfl (.inr rfl) ?_
              show WR _ cd_193 25 [some (.ref (ad 30)), some (.int c), some (.int l), some (.int w), none, none, none] [.int 1] (sI (sI h (ad 0) 6 0) (ad 0) 6 (-3)) _
              refine r_if_eq (tg := 40) rfl rfl (fun q => absurd q (by decide)) (fun _ => ?_)
              refine r_iload rfl rfl ?_
              refine WR_tI (y := nI k17) ek17 ?_
              refine r_i2l rfl ?_
              refine WR_tL (y := lN k17) (nI_l (by have := i_nlt c15; have := i_rg w; have : (0 : Int32).toInt = 0 := rfl; have := i_eq ek17; have : (nI k17).toInt = ((k17 : Nat) : Int) := nI_toInt (by omega); have := i_nle c18; have : (5 : Int32).toInt = 5 := rfl; omega)) ?_
              refine r_lc (x := 0) rfl rfl ?_
              refine r_ldc (x := .long 5) rfl rfl ?_
              refine r_cs (y := 155) (ra := [.long 5, .long 0, .long (lN k17)]) (rest := []) rfl ⟨⟨rfl, rfl⟩, by decide⟩ rfl rfl (Nat.le_of_ble_eq_true rfl) ?_
              refine in_155 (Nat.le_of_ble_eq_true rfl) ?_
              show WR _ cd_155 0 [some (.long (lN k17)), none, some (.long 0), none, some (.long 5), none] [] (sI (sI h (ad 0) 6 0) (ad 0) 6 (-3)) _
              refine r_lload rfl rfl ?_
              refine r_lload rfl rfl ?_
              refine r_lif_lt (tg := 17) rfl rfl rfl (fun q => False.elim (by have := i_nlt c15; have := i_rg w; have : (0 : Int32).toInt = 0 := rfl; have := i_eq ek17; have : (nI k17).toInt = ((k17 : Nat) : Int) := nI_toInt (by omega); have := i_nle c18; have : (5 : Int32).toInt = 5 := rfl; have : (lN k17).toInt = ((k17 : Nat) : Int) := lN_toInt (by omega); have : (0 : Int64).toInt = 0 := rfl; have := l_lt q; omega)) (fun _ => ?_)
              refine r_lload rfl rfl ?_
              refine r_lload rfl rfl ?_
              refine r_lif_gt (tg := 17) rfl rfl rfl (fun _ => ?_) (fun q => False.elim (by have := i_nlt c15; have := i_rg w; have : (0 : Int32).toInt = 0 := rfl; have := i_eq ek17; have : (nI k17).toInt = ((k17 : Nat) : Int) := nI_toInt (by omega); have := i_nle c18; have : (5 : Int32).toInt = 5 := rfl; have : (lN k17).toInt = ((k17 : Nat) : Int) := lN_toInt (by omega); have : (5 : Int64).toInt = 5 := rfl; have := l_nlt q; omega))
              refine r_ic (x := 0) rfl rfl ?_
              refine r_zret rfl (.inl rfl) ?_
              show WR _ cd_193 37 [some (.ref (ad 30)), some (.int c), some (.int l), some (.int w), none, none, none] [.int 0] (sI (sI h (ad 0) 6 0) (ad 0) 6 (-3)) _
              refine r_if_ne (tg := 47) rfl rfl (fun q => absurd q (by decide)) (fun _ => ?_)
              refine r_aload rfl rfl ?_
              refine r_ic (x := (-3)) rfl rfl ?_
              refine r_cv (y := 171) (ra := [.int (-3)]) (rest := []) rfl ⟨⟨rfl, rfl⟩, rfl, by decide⟩ (fx_t30 fx) rfl rfl (Nat.le_of_ble_eq_true rfl) ?_
              refine in_171 (Nat.le_of_ble_eq_true rfl) ?_
              show WR _ cd_171 0 [some (.ref (ad 30)), some (.int (-3))] [] (sI (sI h (ad 0) 6 0) (ad 0) 6 (-3)) _
              refine r_aload rfl rfl ?_
              refine r_iload rfl rfl ?_
              refine r_putI rfl ⟨rfl, rfl, rfl⟩ (fx_t30 fx) ?_
              have fx : FX n ad sa z0 (sI (sI (sI h (ad 0) 6 0) (ad 0) 6 (-3)) (ad 30) 11 (-3)) := (FX.sI fx)
              refine r_lc (x := 0) rfl rfl ?_
              refine r_lret rfl ?_
              show WR _ cd_193 46 [some (.ref (ad 30)), some (.int c), some (.int l), some (.int w), none, none, none] [.long 0] (sI (sI (sI h (ad 0) 6 0) (ad 0) 6 (-3)) (ad 30) 11 (-3)) _
              refine r_lret rfl ?_
              exact ⟨rfl, Rel.why r (((Chg.rf.sI (fx_j fx) (.inl (by decide))).sI (fx_j fx) (.inl (by decide))).sI (fx_j fx) (.inl (by decide))) ⟨rfl, by decide⟩ (Eq.trans (Eq.trans (I_ne (fx_ne fx (by decide))) I_eq) (Eq.symm I_eq)), (by (try simp only [hZ_sI, hZ_sL, hZ_sD, hZ_sR]); omega), (by (try simp only [hU_sI, hU_sL, hU_sD, hU_sR]); omega)⟩

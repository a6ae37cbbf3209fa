/-! ===== count; printed ===== -/
set_option maxHeartbeats 2000000 in
theorem k_count {n : Nat} {ad sa : Nat → Nat} {z0 : Nat} {h : mH} (r : Rel n ad sa z0 h) (w : Int32) : AP n ad sa z0 h 147 249 [.int w] := by
  obtain ⟨mid, pa, np, fx, ry, rt, ra, rp, rf, rst, ru, rs⟩ := id r
  have fx0 := fx
  obtain ⟨kt, hkt, t1, t2, t3⟩ := id rt
  obtain ⟨⟨kf, hkf, f1, f2, f3⟩, f4, ⟨f5, f6⟩, f7, f8⟩ := id rf
  have hn_ := fx_k fx
  obtain ⟨np1, np2, np3, -, -⟩ := id rs.1
  unfold AP
  refine in_147 (Nat.le_of_ble_eq_true rfl) ?_
  show WR _ cd_147 0 [some (.ref (ad 0)), some (.int w)] [] h _
  refine r_aload rfl rfl ?_
  refine r_ic (x := 0) rfl rfl ?_
  refine r_putI rfl ⟨rfl, rfl, rfl⟩ (fx_t0 fx) ?_
  refine r_iload rfl rfl ?_
  refine r_tsw (tg := 87) rfl rfl (fun c1 => ?_) (fun c1 => ?_)
  · refine r_aload rfl rfl ?_
    refine r_ic (x := (-3)) rfl rfl ?_
    refine r_cv (y := 13) (ra := [.int (-3)]) (rest := []) rfl ⟨⟨rfl, rfl⟩, rfl, by decide⟩ (fx_t0 fx) rfl rfl (Nat.le_of_ble_eq_true rfl) ?_
    refine in_13 (Nat.le_of_ble_eq_true rfl) ?_
    show WR _ cd_13 0 [some (.ref (ad 0)), some (.int (-3))] [] (sI h (ad 0) 6 0) _
    refine r_aload rfl rfl ?_
    refine r_iload rfl rfl ?_
    refine r_putI rfl ⟨rfl, rfl, rfl⟩ (fx_t0 fx) ?_
    refine r_iload rfl rfl ?_
    refine r_iret rfl ?_
    show WR _ cd_147 93 [some (.ref (ad 0)), some (.int w)] [.int (-3)] (sI (sI h (ad 0) 6 0) (ad 0) 6 (-3)) _
    refine r_iret rfl ?_
    show EV _ 249 [.ref (ad 30), .int w] (sI (sI h (ad 0) 6 0) (ad 0) 6 (-3)) _
    refine in_249 (Nat.le_of_ble_eq_true rfl) ?_
    show WR _ cd_249 0 [some (.ref (ad 30)), some (.int w), none, none] [] (sI (sI h (ad 0) 6 0) (ad 0) 6 (-3)) _
    refine c_cmT (h := sI (sI h (ad 0) 6 0) (ad 0) 6 (-3)) fx ?_
    show WR _ cd_249 34 [some (.ref (ad 30)), some (.int w), some (.int (nI (fcM ad (sI (sI h (ad 0) 6 0) (ad 0) 6 (-3))))), some (.int 24)] [] (sI (sI h (ad 0) 6 0) (ad 0) 6 (-3)) _
    refine r_iload rfl rfl ?_
    refine r_tsw (tg := 123) rfl rfl (fun _ => ?_) (fun q => absurd c1 q)
    refine r_aload rfl rfl ?_
    refine r_ic (x := (-3)) rfl rfl ?_
    refine r_cv (y := 154) (ra := [.int (-3)]) (rest := []) rfl ⟨⟨rfl, rfl⟩, rfl, by decide⟩ (fx_t30 fx) rfl rfl (Nat.le_of_ble_eq_true rfl) ?_
    refine in_154 (Nat.le_of_ble_eq_true rfl) ?_
    show WR _ cd_154 0 [some (.ref (ad 30)), some (.int (-3))] [] (sI (sI h (ad 0) 6 0) (ad 0) 6 (-3)) _
    refine r_aload rfl rfl ?_
    refine r_iload rfl rfl ?_
    refine r_ic (x := (-1)) rfl rfl ?_
    refine r_icmp_ge (tg := 10) rfl rfl (fun q => absurd q (by decide)) (fun _ => ?_)
    refine r_iload rfl rfl ?_
    refine r_goto (tg := 11) rfl rfl ?_
    refine r_putI rfl ⟨rfl, rfl, rfl⟩ (fx_t30 fx) ?_
    refine r_iload rfl rfl ?_
    refine r_iret rfl ?_
    show WR _ cd_249 129 [some (.ref (ad 30)), some (.int w), some (.int (nI (fcM ad (sI (sI h (ad 0) 6 0) (ad 0) 6 (-3))))), some (.int 24)] [.int (-3)] (sI (sI (sI h (ad 0) 6 0) (ad 0) 6 (-3)) (ad 30) 11 (-3)) _
    refine r_iret rfl ?_
    exact ⟨rfl, Rel.why r (((Chg.rf.sI (fx_j fx) (.inl (by decide))).sI (fx_j fx) (.inl (by decide))).sI (fx_j fx) (.inl (by decide))) ⟨rfl, by decide⟩ (Eq.trans (Eq.trans (I_ne (fx_ne fx (by decide))) I_eq) (Eq.symm I_eq)), Nat.le_add_right _ _, Nat.le_add_right _ _⟩
  · rcases tsw_0_5 c1 with e_ | e_ | e_ | e_ | e_ | e_
    · have c2 : w = 0 := e_
      refine WR_pc (q := 44) (by rw [c2]; rfl) ?_
      refine r_aload rfl rfl ?_
      refine r_getA (b := ad 4) rfl ⟨rfl, rfl, rfl⟩ (fx_t0 fx) (fx_r0_2 fx) ?_
      refine r_getA (b := ad 7) rfl ⟨rfl, rfl, rfl⟩ (fx_t4 fx) (fx_r4_0 fx) ?_
      refine r_alen rfl (isA_of (fx_t7 fx) (by decide)) ?_
      refine WR_tI (y := nI n) (congrArg nI (fx_n7 fx)) ?_
      refine r_iret rfl ?_
      show EV _ 249 [.ref (ad 30), .int w] (sI h (ad 0) 6 0) _
      refine in_249 (Nat.le_of_ble_eq_true rfl) ?_
      show WR _ cd_249 0 [some (.ref (ad 30)), some (.int w), none, none] [] (sI h (ad 0) 6 0) _
      refine c_cmT (h := sI h (ad 0) 6 0) fx ?_
      show WR _ cd_249 34 [some (.ref (ad 30)), some (.int w), some (.int (nI (fcM ad (sI h (ad 0) 6 0)))), some (.int 24)] [] (sI h (ad 0) 6 0) _
      refine r_iload rfl rfl ?_
      refine WR_tI (y := 0) c2 ?_
      refine r_tswL (tg := 72) rfl (by decide) ?_
      refine r_aload rfl rfl ?_
      refine r_aload rfl rfl ?_
      refine r_getI rfl ⟨rfl, rfl, rfl⟩ (fx_t30 fx) ?_
      refine WR_tI (y := nI n) (Eq.trans (I_ne (fx_ne fx (by decide))) ru.1) ?_
      refine r_cv (y := 224) (ra := [.int (nI n)]) (rest := []) rfl ⟨⟨rfl, rfl⟩, rfl, by decide⟩ (fx_t30 fx) rfl rfl (Nat.le_of_ble_eq_true rfl) ?_
      refine in_224 (Nat.le_of_ble_eq_true rfl) ?_
      show WR _ cd_224 0 [some (.ref (ad 30)), some (.int (nI n))] [] (sI h (ad 0) 6 0) _
      refine r_aload rfl rfl ?_
      refine r_ic (x := 0) rfl rfl ?_
      refine r_putI rfl ⟨rfl, rfl, rfl⟩ (fx_t30 fx) ?_
      refine r_iload rfl rfl ?_
      refine r_iret rfl ?_
      show WR _ cd_249 80 [some (.ref (ad 30)), some (.int w), some (.int (nI (fcM ad (sI h (ad 0) 6 0)))), some (.int 24)] [.int (nI n)] (sI (sI h (ad 0) 6 0) (ad 30) 11 0) _
      refine r_iret rfl ?_
      exact ⟨rfl, Rel.why r ((Chg.rf.sI (fx_j fx) (.inl (by decide))).sI (fx_j fx) (.inl (by decide))) ⟨rfl, by decide⟩ (Eq.trans (Eq.trans (I_ne (fx_ne fx (by decide))) I_eq) (Eq.symm I_eq)), Nat.le_add_right _ _, Nat.le_add_right _ _⟩
    · have c3 : w = 1 := e_
      refine WR_pc (q := 53) (by rw [c3]; rfl) ?_
      refine r_aload rfl rfl ?_
      refine r_getI rfl ⟨rfl, rfl, rfl⟩ (fx_t0 fx) ?_
      refine WR_tI (y := nI np) (Eq.trans (I_nk (by decide)) np2) ?_
      refine r_iret rfl ?_
      show EV _ 249 [.ref (ad 30), .int w] (sI h (ad 0) 6 0) _
      refine in_249 (Nat.le_of_ble_eq_true rfl) ?_
      show WR _ cd_249 0 [some (.ref (ad 30)), some (.int w), none, none] [] (sI h (ad 0) 6 0) _
      refine c_cmT (h := sI h (ad 0) 6 0) fx ?_
      show WR _ cd_249 34 [some (.ref (ad 30)), some (.int w), some (.int (nI (fcM ad (sI h (ad 0) 6 0)))), some (.int 24)] [] (sI h (ad 0) 6 0) _
      refine r_iload rfl rfl ?_
      refine WR_tI (y := 1) c3 ?_
      refine r_tswL (tg := 81) rfl (by decide) ?_
      refine r_aload rfl rfl ?_
      refine r_aload rfl rfl ?_
      refine r_getI rfl ⟨rfl, rfl, rfl⟩ (fx_t30 fx) ?_
      refine WR_tI (y := nI np) (Eq.trans (I_ne (fx_ne fx (by decide))) np3) ?_
      refine r_cv (y := 224) (ra := [.int (nI np)]) (rest := []) rfl ⟨⟨rfl, rfl⟩, rfl, by decide⟩ (fx_t30 fx) rfl rfl (Nat.le_of_ble_eq_true rfl) ?_
      refine in_224 (Nat.le_of_ble_eq_true rfl) ?_
      show WR _ cd_224 0 [some (.ref (ad 30)), some (.int (nI np))] [] (sI h (ad 0) 6 0) _
      refine r_aload rfl rfl ?_
      refine r_ic (x := 0) rfl rfl ?_
      refine r_putI rfl ⟨rfl, rfl, rfl⟩ (fx_t30 fx) ?_
      refine r_iload rfl rfl ?_
      refine r_iret rfl ?_
      show WR _ cd_249 89 [some (.ref (ad 30)), some (.int w), some (.int (nI (fcM ad (sI h (ad 0) 6 0)))), some (.int 24)] [.int (nI np)] (sI (sI h (ad 0) 6 0) (ad 30) 11 0) _
      refine r_iret rfl ?_
      exact ⟨rfl, Rel.why r ((Chg.rf.sI (fx_j fx) (.inl (by decide))).sI (fx_j fx) (.inl (by decide))) ⟨rfl, by decide⟩ (Eq.trans (Eq.trans (I_ne (fx_ne fx (by decide))) I_eq) (Eq.symm I_eq)), Nat.le_add_right _ _, Nat.le_add_right _ _⟩
    · have c4 : w = 2 := e_
      refine WR_pc (q := 58) (by rw [c4]; rfl) ?_
      refine r_aload rfl rfl ?_
      refine r_cv (y := 148) (ra := []) (rest := []) rfl ⟨⟨rfl, rfl⟩, rfl, by decide⟩ (fx_t0 fx) rfl rfl (Nat.le_of_ble_eq_true rfl) ?_
      refine c_filled (h := sI h (ad 0) 6 0) fx ?_
      show WR _ cd_147 62 [some (.ref (ad 0)), some (.int w)] [.int (nI (fcC ad (sI h (ad 0) 6 0)))] (sI h (ad 0) 6 0) _
      refine r_iret rfl ?_
      show EV _ 249 [.ref (ad 30), .int w] (sI h (ad 0) 6 0) _
      refine in_249 (Nat.le_of_ble_eq_true rfl) ?_
      show WR _ cd_249 0 [some (.ref (ad 30)), some (.int w), none, none] [] (sI h (ad 0) 6 0) _
      refine c_cmT (h := sI h (ad 0) 6 0) fx ?_
      have fe_ : fcC ad (sI h (ad 0) 6 0) = fcM ad (sI h (ad 0) 6 0) := fc_eq rs (fun c_ => R_oI) (fun c_ => (I_ne (fx_ne fx (by decide))))
      show WR _ cd_249 34 [some (.ref (ad 30)), some (.int w), some (.int (nI (fcM ad (sI h (ad 0) 6 0)))), some (.int 24)] [] (sI h (ad 0) 6 0) _
      refine r_iload rfl rfl ?_
      refine WR_tI (y := 2) c4 ?_
      refine r_tswL (tg := 90) rfl (by decide) ?_
      refine r_aload rfl rfl ?_
      refine r_iload rfl rfl ?_
      refine r_cv (y := 224) (ra := [.int (nI (fcM ad (sI h (ad 0) 6 0)))]) (rest := []) rfl ⟨⟨rfl, rfl⟩, rfl, by decide⟩ (fx_t30 fx) rfl rfl (Nat.le_of_ble_eq_true rfl) ?_
      refine in_224 (Nat.le_of_ble_eq_true rfl) ?_
      show WR _ cd_224 0 [some (.ref (ad 30)), some (.int (nI (fcM ad (sI h (ad 0) 6 0))))] [] (sI h (ad 0) 6 0) _
      refine r_aload rfl rfl ?_
      refine r_ic (x := 0) rfl rfl ?_
      refine r_putI rfl ⟨rfl, rfl, rfl⟩ (fx_t30 fx) ?_
      refine r_iload rfl rfl ?_
      refine r_iret rfl ?_
      show WR _ cd_249 95 [some (.ref (ad 30)), some (.int w), some (.int (nI (fcM ad (sI h (ad 0) 6 0)))), some (.int 24)] [.int (nI (fcM ad (sI h (ad 0) 6 0)))] (sI (sI h (ad 0) 6 0) (ad 30) 11 0) _
      refine r_iret rfl ?_
      exact ⟨(by rw [show nI (fcM ad (sI h (ad 0) 6 0)) = nI (fcC ad (sI h (ad 0) 6 0)) from i_inj (by have := fcC_le ad (sI h (ad 0) 6 0); have := fcM_le ad (sI h (ad 0) 6 0); have := fe_; have : (nI (fcC ad (sI h (ad 0) 6 0))).toInt = ((fcC ad (sI h (ad 0) 6 0) : Nat) : Int) := nI_toInt (by omega); have : (nI (fcM ad (sI h (ad 0) 6 0))).toInt = ((fcM ad (sI h (ad 0) 6 0) : Nat) : Int) := nI_toInt (by omega); omega)]), Rel.why r ((Chg.rf.sI (fx_j fx) (.inl (by decide))).sI (fx_j fx) (.inl (by decide))) ⟨rfl, by decide⟩ (Eq.trans (Eq.trans (I_ne (fx_ne fx (by decide))) I_eq) (Eq.symm I_eq)), Nat.le_add_right _ _, Nat.le_add_right _ _⟩
    · have c5 : w = 3 := e_
      refine WR_pc (q := 63) (by rw [c5]; rfl) ?_
      refine r_aload rfl rfl ?_
      refine r_getA (b := ad 4) rfl ⟨rfl, rfl, rfl⟩ (fx_t0 fx) (fx_r0_2 fx) ?_
      refine r_getI rfl ⟨rfl, rfl, rfl⟩ (fx_t4 fx) ?_
      refine WR_tI (y := hI h (ad 4) 3) (I_ne (fx_ne fx (by decide))) ?_
      refine r_iret rfl ?_
      show EV _ 249 [.ref (ad 30), .int w] (sI h (ad 0) 6 0) _
      refine in_249 (Nat.le_of_ble_eq_true rfl) ?_
      show WR _ cd_249 0 [some (.ref (ad 30)), some (.int w), none, none] [] (sI h (ad 0) 6 0) _
      refine c_cmT (h := sI h (ad 0) 6 0) fx ?_
      show WR _ cd_249 34 [some (.ref (ad 30)), some (.int w), some (.int (nI (fcM ad (sI h (ad 0) 6 0)))), some (.int 24)] [] (sI h (ad 0) 6 0) _
      refine r_iload rfl rfl ?_
      refine WR_tI (y := 3) c5 ?_
      refine r_tswL (tg := 96) rfl (by decide) ?_
      refine r_aload rfl rfl ?_
      refine r_aload rfl rfl ?_
      refine r_getI rfl ⟨rfl, rfl, rfl⟩ (fx_t30 fx) ?_
      refine WR_tI (y := hI h (ad 4) 3) (Eq.trans (I_ne (fx_ne fx (by decide))) f4.symm) ?_
      refine r_cv (y := 224) (ra := [.int (hI h (ad 4) 3)]) (rest := []) rfl ⟨⟨rfl, rfl⟩, rfl, by decide⟩ (fx_t30 fx) rfl rfl (Nat.le_of_ble_eq_true rfl) ?_
      refine in_224 (Nat.le_of_ble_eq_true rfl) ?_
      show WR _ cd_224 0 [some (.ref (ad 30)), some (.int (hI h (ad 4) 3))] [] (sI h (ad 0) 6 0) _
      refine r_aload rfl rfl ?_
      refine r_ic (x := 0) rfl rfl ?_
      refine r_putI rfl ⟨rfl, rfl, rfl⟩ (fx_t30 fx) ?_
      refine r_iload rfl rfl ?_
      refine r_iret rfl ?_
      show WR _ cd_249 104 [some (.ref (ad 30)), some (.int w), some (.int (nI (fcM ad (sI h (ad 0) 6 0)))), some (.int 24)] [.int (hI h (ad 4) 3)] (sI (sI h (ad 0) 6 0) (ad 30) 11 0) _
      refine r_iret rfl ?_
      exact ⟨rfl, Rel.why r ((Chg.rf.sI (fx_j fx) (.inl (by decide))).sI (fx_j fx) (.inl (by decide))) ⟨rfl, by decide⟩ (Eq.trans (Eq.trans (I_ne (fx_ne fx (by decide))) I_eq) (Eq.symm I_eq)), Nat.le_add_right _ _, Nat.le_add_right _ _⟩
    · have c6 : w = 4 := e_
      refine WR_pc (q := 71) (by rw [c6]; rfl) ?_
      refine r_aload rfl rfl ?_
      refine r_getA (b := ad 4) rfl ⟨rfl, rfl, rfl⟩ (fx_t0 fx) (fx_r0_2 fx) ?_
      refine r_getI rfl ⟨rfl, rfl, rfl⟩ (fx_t4 fx) ?_
      refine WR_tI (y := nI kf) (Eq.trans (I_ne (fx_ne fx (by decide))) f1) ?_
      refine r_iret rfl ?_
      show EV _ 249 [.ref (ad 30), .int w] (sI h (ad 0) 6 0) _
      refine in_249 (Nat.le_of_ble_eq_true rfl) ?_
      show WR _ cd_249 0 [some (.ref (ad 30)), some (.int w), none, none] [] (sI h (ad 0) 6 0) _
      refine c_cmT (h := sI h (ad 0) 6 0) fx ?_
      show WR _ cd_249 34 [some (.ref (ad 30)), some (.int w), some (.int (nI (fcM ad (sI h (ad 0) 6 0)))), some (.int 24)] [] (sI h (ad 0) 6 0) _
      refine r_iload rfl rfl ?_
      refine WR_tI (y := 4) c6 ?_
      refine r_tswL (tg := 105) rfl (by decide) ?_
      refine r_aload rfl rfl ?_
      refine r_aload rfl rfl ?_
      refine r_getI rfl ⟨rfl, rfl, rfl⟩ (fx_t30 fx) ?_
      refine WR_tI (y := nI kf) (Eq.trans (I_ne (fx_ne fx (by decide))) f2) ?_
      refine r_cv (y := 224) (ra := [.int (nI kf)]) (rest := []) rfl ⟨⟨rfl, rfl⟩, rfl, by decide⟩ (fx_t30 fx) rfl rfl (Nat.le_of_ble_eq_true rfl) ?_
      refine in_224 (Nat.le_of_ble_eq_true rfl) ?_
      show WR _ cd_224 0 [some (.ref (ad 30)), some (.int (nI kf))] [] (sI h (ad 0) 6 0) _
      refine r_aload rfl rfl ?_
      refine r_ic (x := 0) rfl rfl ?_
      refine r_putI rfl ⟨rfl, rfl, rfl⟩ (fx_t30 fx) ?_
      refine r_iload rfl rfl ?_
      refine r_iret rfl ?_
      show WR _ cd_249 113 [some (.ref (ad 30)), some (.int w), some (.int (nI (fcM ad (sI h (ad 0) 6 0)))), some (.int 24)] [.int (nI kf)] (sI (sI h (ad 0) 6 0) (ad 30) 11 0) _
      refine r_iret rfl ?_
      exact ⟨rfl, Rel.why r ((Chg.rf.sI (fx_j fx) (.inl (by decide))).sI (fx_j fx) (.inl (by decide))) ⟨rfl, by decide⟩ (Eq.trans (Eq.trans (I_ne (fx_ne fx (by decide))) I_eq) (Eq.symm I_eq)), Nat.le_add_right _ _, Nat.le_add_right _ _⟩
    · have c7 : w = 5 := e_
      refine WR_pc (q := 79) (by rw [c7]; rfl) ?_
      refine r_aload rfl rfl ?_
      refine r_getA (b := ad 2) rfl ⟨rfl, rfl, rfl⟩ (fx_t0 fx) (fx_r0_1 fx) ?_
      refine r_getI rfl ⟨rfl, rfl, rfl⟩ (fx_t2 fx) ?_
      refine WR_tI (y := nI kt) (Eq.trans (I_ne (fx_ne fx (by decide))) t1) ?_
      refine r_iret rfl ?_
      show EV _ 249 [.ref (ad 30), .int w] (sI h (ad 0) 6 0) _
      refine in_249 (Nat.le_of_ble_eq_true rfl) ?_
      show WR _ cd_249 0 [some (.ref (ad 30)), some (.int w), none, none] [] (sI h (ad 0) 6 0) _
      refine c_cmT (h := sI h (ad 0) 6 0) fx ?_
      show WR _ cd_249 34 [some (.ref (ad 30)), some (.int w), some (.int (nI (fcM ad (sI h (ad 0) 6 0)))), some (.int 24)] [] (sI h (ad 0) 6 0) _
      refine r_iload rfl rfl ?_
      refine WR_tI (y := 5) c7 ?_
      refine r_tswL (tg := 114) rfl (by decide) ?_
      refine r_aload rfl rfl ?_
      refine r_aload rfl rfl ?_
      refine r_getI rfl ⟨rfl, rfl, rfl⟩ (fx_t30 fx) ?_
      refine WR_tI (y := nI kt) (Eq.trans (I_ne (fx_ne fx (by decide))) t2) ?_
      refine r_cv (y := 224) (ra := [.int (nI kt)]) (rest := []) rfl ⟨⟨rfl, rfl⟩, rfl, by decide⟩ (fx_t30 fx) rfl rfl (Nat.le_of_ble_eq_true rfl) ?_
      refine in_224 (Nat.le_of_ble_eq_true rfl) ?_
      show WR _ cd_224 0 [some (.ref (ad 30)), some (.int (nI kt))] [] (sI h (ad 0) 6 0) _
      refine r_aload rfl rfl ?_
      refine r_ic (x := 0) rfl rfl ?_
      refine r_putI rfl ⟨rfl, rfl, rfl⟩ (fx_t30 fx) ?_
      refine r_iload rfl rfl ?_
      refine r_iret rfl ?_
      show WR _ cd_249 122 [some (.ref (ad 30)), some (.int w), some (.int (nI (fcM ad (sI h (ad 0) 6 0)))), some (.int 24)] [.int (nI kt)] (sI (sI h (ad 0) 6 0) (ad 30) 11 0) _
      refine r_iret rfl ?_
      exact ⟨rfl, Rel.why r ((Chg.rf.sI (fx_j fx) (.inl (by decide))).sI (fx_j fx) (.inl (by decide))) ⟨rfl, by decide⟩ (Eq.trans (Eq.trans (I_ne (fx_ne fx (by decide))) I_eq) (Eq.symm I_eq)), Nat.le_add_right _ _, Nat.le_add_right _ _⟩

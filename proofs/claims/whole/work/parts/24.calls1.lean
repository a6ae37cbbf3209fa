/-! ===== calls that need little; printed ===== -/
set_option maxHeartbeats 2000000 in
theorem k_traced {n : Nat} {ad sa : Nat → Nat} {z0 : Nat} {h : mH} (r : Rel n ad sa z0 h) (i : Int32) : AP n ad sa z0 h 73 191 [.int i] := by
  obtain ⟨mid, pa, np, fx, ry, rt, ra, rp, rf, rst, ru, rs⟩ := id r
  have fx0 := fx
  obtain ⟨kt, hkt, t1, t2, t3⟩ := id rt
  unfold AP
  refine in_73 (Nat.le_of_ble_eq_true rfl) ?_
  show WR _ cd_73 0 [some (.ref (ad 0)), some (.int i)] [] h _
  refine r_aload rfl rfl ?_
  refine r_ic (x := 0) rfl rfl ?_
  refine r_putI rfl ⟨rfl, rfl, rfl⟩ (fx_t0 fx) ?_
  refine r_iload rfl rfl ?_
  refine r_if_lt (tg := 32) rfl rfl (fun c1 => ?_) (fun c1 => ?_)
  · refine r_ic (x := (-1)) rfl rfl ?_
    refine r_iret rfl ?_
    show EV _ 191 [.ref (ad 30), .int i] (sI h (ad 0) 6 0) _
    refine in_191 (Nat.le_of_ble_eq_true rfl) ?_
    show WR _ cd_191 0 [some (.ref (ad 30)), some (.int i)] [] (sI h (ad 0) 6 0) _
    refine r_aload rfl rfl ?_
    refine r_ic (x := 0) rfl rfl ?_
    refine r_putI rfl ⟨rfl, rfl, rfl⟩ (fx_t30 fx) ?_
    refine r_iload rfl rfl ?_
    refine r_i2l rfl ?_
    refine r_lc (x := 0) rfl rfl ?_
    refine r_aload rfl rfl ?_
    refine r_getI rfl ⟨rfl, rfl, rfl⟩ (fx_t30 fx) ?_
    refine WR_tI (y := nI kt) (Eq.trans (I_nk (by decide)) (Eq.trans (I_ne (fx_ne fx (by decide))) t2)) ?_
    refine r_ic (x := 1) rfl rfl ?_
    refine r_isub rfl ?_
    refine r_i2l rfl ?_
    refine r_cs (y := 155) (ra := [.long (((nI kt) - 1).toInt64), .long 0, .long i.toInt64]) (rest := []) rfl ⟨⟨rfl, rfl⟩, by decide⟩ rfl rfl (Nat.le_of_ble_eq_true rfl) ?_
    refine in_155 (Nat.le_of_ble_eq_true rfl) ?_
    show WR _ cd_155 0 [some (.long i.toInt64), none, some (.long 0), none, some (.long (((nI kt) - 1).toInt64)), none] [] (sI (sI h (ad 0) 6 0) (ad 30) 11 0) _
    refine r_lload rfl rfl ?_
    refine r_lload rfl rfl ?_
    refine r_lif_lt (tg := 17) rfl rfl rfl (fun _ => ?_) (fun q => False.elim (by have := i_rg i; have := w_t i; have : (0 : Int64).toInt = 0 := rfl; have := i_lt c1; have : (0 : Int32).toInt = 0 := rfl; have := l_nlt q; omega))
    refine r_ic (x := 0) rfl rfl ?_
    refine r_zret rfl (.inl rfl) ?_
    show WR _ cd_191 18 [some (.ref (ad 30)), some (.int i)] [.int 0] (sI (sI h (ad 0) 6 0) (ad 30) 11 0) _
    refine r_if_eq (tg := 30) rfl rfl (fun _ => ?_) (fun q => absurd q (by decide))
    refine r_ic (x := (-1)) rfl rfl ?_
    refine r_iret rfl ?_
    exact ⟨rfl, Rel.why r ((Chg.rf.sI (fx_j fx) (.inl (by decide))).sI (fx_j fx) (.inl (by decide))) ⟨rfl, by decide⟩ (Eq.trans (Eq.trans (I_ne (fx_ne fx (by decide))) I_eq) (Eq.symm I_eq)), Nat.le_add_right _ _, Nat.le_add_right _ _⟩
  · obtain ⟨k2, hk2, ek2⟩ := ix_of (x := i) (n := 2147483648) (by have := i_rg i; have := i_nlt c1; have : (0 : Int32).toInt = 0 := rfl; omega) (by have := i_rg i; have := i_nlt c1; have : (0 : Int32).toInt = 0 := rfl; omega)
    refine r_iload rfl rfl ?_
    refine WR_tI (y := nI k2) ek2 ?_
    refine r_aload rfl rfl ?_
    refine r_getA (b := ad 2) rfl ⟨rfl, rfl, rfl⟩ (fx_t0 fx) (fx_r0_1 fx) ?_
    refine r_getI rfl ⟨rfl, rfl, rfl⟩ (fx_t2 fx) ?_
    refine WR_tI (y := nI kt) (Eq.trans (I_ne (fx_ne fx (by decide))) t1) ?_
    refine r_icmp_ge (tg := 32) rfl rfl (fun c3 => ?_) (fun c3 => ?_)
    · refine r_ic (x := (-1)) rfl rfl ?_
      refine r_iret rfl ?_
      show EV _ 191 [.ref (ad 30), .int i] (sI h (ad 0) 6 0) _
      refine in_191 (Nat.le_of_ble_eq_true rfl) ?_
      show WR _ cd_191 0 [some (.ref (ad 30)), some (.int i)] [] (sI h (ad 0) 6 0) _
      refine r_aload rfl rfl ?_
      refine r_ic (x := 0) rfl rfl ?_
      refine r_putI rfl ⟨rfl, rfl, rfl⟩ (fx_t30 fx) ?_
      refine r_iload rfl rfl ?_
      refine WR_tI (y := nI k2) ek2 ?_
      refine r_i2l rfl ?_
      refine WR_tL (y := lN k2) (nI_l (by have := i_eq ek2; have : (nI k2).toInt = ((k2 : Nat) : Int) := nI_toInt (by omega); have := i_rg i; have := i_le c3; have : (nI kt).toInt = ((kt : Nat) : Int) := nI_toInt (by omega); have := i_nlt c1; have : (0 : Int32).toInt = 0 := rfl; omega)) ?_
      refine r_lc (x := 0) rfl rfl ?_
      refine r_aload rfl rfl ?_
      refine r_getI rfl ⟨rfl, rfl, rfl⟩ (fx_t30 fx) ?_
      refine WR_tI (y := nI kt) (Eq.trans (I_nk (by decide)) (Eq.trans (I_ne (fx_ne fx (by decide))) t2)) ?_
      refine r_ic (x := 1) rfl rfl ?_
      refine r_isub rfl ?_
      refine r_i2l rfl ?_
      refine r_cs (y := 155) (ra := [.long (((nI kt) - 1).toInt64), .long 0, .long (lN k2)]) (rest := []) rfl ⟨⟨rfl, rfl⟩, by decide⟩ rfl rfl (Nat.le_of_ble_eq_true rfl) ?_
      refine in_155 (Nat.le_of_ble_eq_true rfl) ?_
      show WR _ cd_155 0 [some (.long (lN k2)), none, some (.long 0), none, some (.long (((nI kt) - 1).toInt64)), none] [] (sI (sI h (ad 0) 6 0) (ad 30) 11 0) _
      refine r_lload rfl rfl ?_
      refine r_lload rfl rfl ?_
      refine r_lif_lt (tg := 17) rfl rfl rfl (fun q => False.elim (by have : (lN k2).toInt = ((k2 : Nat) : Int) := lN_toInt (by omega); have : (0 : Int64).toInt = 0 := rfl; have := i_eq ek2; have : (nI k2).toInt = ((k2 : Nat) : Int) := nI_toInt (by omega); have := i_rg i; have := i_le c3; have : (nI kt).toInt = ((kt : Nat) : Int) := nI_toInt (by omega); have := i_nlt c1; have : (0 : Int32).toInt = 0 := rfl; have := l_lt q; omega)) (fun _ => ?_)
      refine r_lload rfl rfl ?_
      refine r_lload rfl rfl ?_
      refine r_lif_gt (tg := 17) rfl rfl rfl (fun _ => ?_) (fun q => False.elim (by have : (lN k2).toInt = ((k2 : Nat) : Int) := lN_toInt (by omega); have : (nI kt).toInt = ((kt : Nat) : Int) := nI_toInt (by omega); have : (1 : Int32).toInt = 1 := rfl; have := sub_t (x := nI kt) (y := 1) (by have : (nI kt).toInt = ((kt : Nat) : Int) := nI_toInt (by omega); have : (1 : Int32).toInt = 1 := rfl; have := i_le c3; have : (nI k2).toInt = ((k2 : Nat) : Int) := nI_toInt (by omega); have := i_eq ek2; have := i_rg i; have := i_nlt c1; have : (0 : Int32).toInt = 0 := rfl; omega) (by have : (nI kt).toInt = ((kt : Nat) : Int) := nI_toInt (by omega); have : (1 : Int32).toInt = 1 := rfl; have := i_le c3; have : (nI k2).toInt = ((k2 : Nat) : Int) := nI_toInt (by omega); have := i_eq ek2; have := i_rg i; have := i_nlt c1; have : (0 : Int32).toInt = 0 := rfl; omega); have := w_t ((nI kt) - 1); have := i_eq ek2; have : (nI k2).toInt = ((k2 : Nat) : Int) := nI_toInt (by omega); have := i_rg i; have := i_le c3; have := i_nlt c1; have : (0 : Int32).toInt = 0 := rfl; have := l_nlt q; omega))
      refine r_ic (x := 0) rfl rfl ?_
      refine r_zret rfl (.inl rfl) ?_
      show WR _ cd_191 18 [some (.ref (ad 30)), some (.int i)] [.int 0] (sI (sI h (ad 0) 6 0) (ad 30) 11 0) _
      refine r_if_eq (tg := 30) rfl rfl (fun _ => ?_) (fun q => absurd q (by decide))
      refine r_ic (x := (-1)) rfl rfl ?_
      refine r_iret rfl ?_
      exact ⟨rfl, Rel.why r ((Chg.rf.sI (fx_j fx) (.inl (by decide))).sI (fx_j fx) (.inl (by decide))) ⟨rfl, by decide⟩ (Eq.trans (Eq.trans (I_ne (fx_ne fx (by decide))) I_eq) (Eq.symm I_eq)), Nat.le_add_right _ _, Nat.le_add_right _ _⟩
    · refine r_aload rfl rfl ?_
      refine r_getA (b := ad 2) rfl ⟨rfl, rfl, rfl⟩ (fx_t0 fx) (fx_r0_1 fx) ?_
      refine r_getA (b := ad 3) rfl ⟨rfl, rfl, rfl⟩ (fx_t2 fx) (fx_r2_0 fx) ?_
      refine r_iload rfl rfl ?_
      refine WR_tI (y := nI k2) ek2 ?_
      refine r_iaload rfl (.inl (fx_t3 fx)) (vp_ct (fx_n3 fx) (vp_in_nI (by have := i_eq ek2; have : (nI k2).toInt = ((k2 : Nat) : Int) := nI_toInt (by omega); have := i_rg i; have := i_nle c3; have : (nI kt).toInt = ((kt : Nat) : Int) := nI_toInt (by omega); have := i_nlt c1; have : (0 : Int32).toInt = 0 := rfl; omega) (by omega))) ?_
      refine WR_tI (congrArg (hI (sI h (ad 0) 6 0) (ad 3)) ((nI_clamp (by have := i_eq ek2; have : (nI k2).toInt = ((k2 : Nat) : Int) := nI_toInt (by omega); have := i_rg i; have := i_nle c3; have : (nI kt).toInt = ((kt : Nat) : Int) := nI_toInt (by omega); have := i_nlt c1; have : (0 : Int32).toInt = 0 := rfl; omega)) : _ = k2)) ?_
      refine WR_tI (y := hI h (ad 3) k2) (I_ne (fx_ne fx (by decide))) ?_
      refine r_goto (tg := 33) rfl rfl ?_
      refine r_iret rfl ?_
      show EV _ 191 [.ref (ad 30), .int i] (sI h (ad 0) 6 0) _
      refine in_191 (Nat.le_of_ble_eq_true rfl) ?_
      show WR _ cd_191 0 [some (.ref (ad 30)), some (.int i)] [] (sI h (ad 0) 6 0) _
      refine r_aload rfl rfl ?_
      refine r_ic (x := 0) rfl rfl ?_
      refine r_putI rfl ⟨rfl, rfl, rfl⟩ (fx_t30 fx) ?_
      refine r_iload rfl rfl ?_
      refine WR_tI (y := nI k2) ek2 ?_
      refine r_i2l rfl ?_
      refine WR_tL (y := lN k2) (nI_l (by have := i_eq ek2; have : (nI k2).toInt = ((k2 : Nat) : Int) := nI_toInt (by omega); have := i_rg i; have := i_nle c3; have : (nI kt).toInt = ((kt : Nat) : Int) := nI_toInt (by omega); have := i_nlt c1; have : (0 : Int32).toInt = 0 := rfl; omega)) ?_
      refine r_lc (x := 0) rfl rfl ?_
      refine r_aload rfl rfl ?_
      refine r_getI rfl ⟨rfl, rfl, rfl⟩ (fx_t30 fx) ?_
      refine WR_tI (y := nI kt) (Eq.trans (I_nk (by decide)) (Eq.trans (I_ne (fx_ne fx (by decide))) t2)) ?_
      refine r_ic (x := 1) rfl rfl ?_
      refine r_isub rfl ?_
      refine WR_tI (y := nI (kt - 1)) (Eq.trans (pk_sub (a := kt) (b := 1) (by have := i_nle c3; have : (nI k2).toInt = ((k2 : Nat) : Int) := nI_toInt (by omega); have : (nI kt).toInt = ((kt : Nat) : Int) := nI_toInt (by omega); have := i_eq ek2; have := i_rg i; have := i_nlt c1; have : (0 : Int32).toInt = 0 := rfl; omega)) (congrArg nI (by have := i_nle c3; have : (nI k2).toInt = ((k2 : Nat) : Int) := nI_toInt (by omega); have : (nI kt).toInt = ((kt : Nat) : Int) := nI_toInt (by omega); have := i_eq ek2; have := i_rg i; have := i_nlt c1; have : (0 : Int32).toInt = 0 := rfl; omega))) ?_
      refine r_i2l rfl ?_
      refine WR_tL (y := lN (kt - 1)) (nI_l (by have := i_nle c3; have : (nI k2).toInt = ((k2 : Nat) : Int) := nI_toInt (by omega); have : (nI kt).toInt = ((kt : Nat) : Int) := nI_toInt (by omega); have := i_eq ek2; have := i_rg i; have := i_nlt c1; have : (0 : Int32).toInt = 0 := rfl; omega)) ?_
      refine r_cs (y := 155) (ra := [.long (lN (kt - 1)), .long 0, .long (lN k2)]) (rest := []) rfl ⟨⟨rfl, rfl⟩, by decide⟩ rfl rfl (Nat.le_of_ble_eq_true rfl) ?_
      refine in_155 (Nat.le_of_ble_eq_true rfl) ?_
      show WR _ cd_155 0 [some (.long (lN k2)), none, some (.long 0), none, some (.long (lN (kt - 1))), none] [] (sI (sI h (ad 0) 6 0) (ad 30) 11 0) _
      refine r_lload rfl rfl ?_
      refine r_lload rfl rfl ?_
      refine r_lif_lt (tg := 17) rfl rfl rfl (fun q => False.elim (by have : (lN k2).toInt = ((k2 : Nat) : Int) := lN_toInt (by omega); have : (0 : Int64).toInt = 0 := rfl; have := i_eq ek2; have : (nI k2).toInt = ((k2 : Nat) : Int) := nI_toInt (by omega); have := i_rg i; have := i_nle c3; have : (nI kt).toInt = ((kt : Nat) : Int) := nI_toInt (by omega); have := i_nlt c1; have : (0 : Int32).toInt = 0 := rfl; have := l_lt q; omega)) (fun _ => ?_)
      refine r_lload rfl rfl ?_
      refine r_lload rfl rfl ?_
      refine r_lif_gt (tg := 17) rfl rfl rfl (fun q => False.elim (by have : (lN k2).toInt = ((k2 : Nat) : Int) := lN_toInt (by omega); have : (lN (kt - 1)).toInt = ((kt - 1 : Nat) : Int) := lN_toInt (by omega); have := i_eq ek2; have : (nI k2).toInt = ((k2 : Nat) : Int) := nI_toInt (by omega); have := i_rg i; have := i_nle c3; have : (nI kt).toInt = ((kt : Nat) : Int) := nI_toInt (by omega); have := i_nlt c1; have : (0 : Int32).toInt = 0 := rfl; have := l_lt q; omega)) (fun _ => ?_)
      refine r_ic (x := 1) rfl rfl ?_
      refine r_goto (tg := 18) rfl rfl ?_
      refine r_zret rfl (.inr rfl) ?_
      show WR _ cd_191 18 [some (.ref (ad 30)), some (.int i)] [.int 1] (sI (sI h (ad 0) 6 0) (ad 30) 11 0) _
      refine r_if_eq (tg := 30) rfl rfl (fun q => absurd q (by decide)) (fun _ => ?_)
      refine r_aload rfl rfl ?_
      refine r_getA (b := ad 39) rfl ⟨rfl, rfl, rfl⟩ (fx_t30 fx) (fx_r30_10 fx) ?_
      refine r_iload rfl rfl ?_
      refine WR_tI (y := nI k2) ek2 ?_
      refine r_iaload rfl (.inl (fx_t39 fx)) (vp_ct (fx_n39 fx) (vp_in_nI (by have := i_eq ek2; have : (nI k2).toInt = ((k2 : Nat) : Int) := nI_toInt (by omega); have := i_rg i; have := i_nle c3; have : (nI kt).toInt = ((kt : Nat) : Int) := nI_toInt (by omega); have := i_nlt c1; have : (0 : Int32).toInt = 0 := rfl; omega) (by omega))) ?_
      refine WR_tI (congrArg (hI (sI (sI h (ad 0) 6 0) (ad 30) 11 0) (ad 39)) ((nI_clamp (by have := i_eq ek2; have : (nI k2).toInt = ((k2 : Nat) : Int) := nI_toInt (by omega); have := i_rg i; have := i_nle c3; have : (nI kt).toInt = ((kt : Nat) : Int) := nI_toInt (by omega); have := i_nlt c1; have : (0 : Int32).toInt = 0 := rfl; omega)) : _ = k2)) ?_
      refine WR_tI (y := hI h (ad 3) k2) (Eq.trans (I_ne (fx_ne fx (by decide))) (Eq.trans (I_ne (fx_ne fx (by decide))) (t3 _ (by have := i_eq ek2; have : (nI k2).toInt = ((k2 : Nat) : Int) := nI_toInt (by omega); have := i_rg i; have := i_nle c3; have : (nI kt).toInt = ((kt : Nat) : Int) := nI_toInt (by omega); have := i_nlt c1; have : (0 : Int32).toInt = 0 := rfl; omega)).symm)) ?_
      refine r_goto (tg := 31) rfl rfl ?_
      refine r_iret rfl ?_
      exact ⟨rfl, Rel.why r ((Chg.rf.sI (fx_j fx) (.inl (by decide))).sI (fx_j fx) (.inl (by decide))) ⟨rfl, by decide⟩ (Eq.trans (Eq.trans (I_ne (fx_ne fx (by decide))) I_eq) (Eq.symm I_eq)), Nat.le_add_right _ _, Nat.le_add_right _ _⟩

set_option maxHeartbeats 2000000 in
theorem k_why {n : Nat} {ad sa : Nat → Nat} {z0 : Nat} {h : mH} (r : Rel n ad sa z0 h) : AP n ad sa z0 h 146 248 [] := by
  obtain ⟨mid, pa, np, fx, ry, rt, ra, rp, rf, rst, ru, rs⟩ := id r
  have fx0 := fx
  unfold AP
  refine in_146 (Nat.le_of_ble_eq_true rfl) ?_
  show WR _ cd_146 0 [some (.ref (ad 0))] [] h _
  refine r_aload rfl rfl ?_
  refine r_getI rfl ⟨rfl, rfl, rfl⟩ (fx_t0 fx) ?_
  refine r_iret rfl ?_
  show EV _ 248 [.ref (ad 30)] h _
  refine in_248 (Nat.le_of_ble_eq_true rfl) ?_
  show WR _ cd_248 0 [some (.ref (ad 30))] [] h _
  refine r_aload rfl rfl ?_
  refine r_getI rfl ⟨rfl, rfl, rfl⟩ (fx_t30 fx) ?_
  refine WR_tI (y := hI h (ad 0) 6) ry.symm ?_
  refine r_iret rfl ?_
  exact ⟨rfl, r, Nat.le_add_right _ _, Nat.le_add_right _ _⟩

set_option maxHeartbeats 2000000 in
theorem k_acted {n : Nat} {ad sa : Nat → Nat} {z0 : Nat} {h : mH} (r : Rel n ad sa z0 h) (w : Int32) : AP n ad sa z0 h 119 223 [.int w] := by
  obtain ⟨mid, pa, np, fx, ry, rt, ra, rp, rf, rst, ru, rs⟩ := id r
  have fx0 := fx
  obtain ⟨a1, a2, a3, a4, a5, ks, hks, a6, a7, a8⟩ := id ra
  unfold AP
  refine in_119 (Nat.le_of_ble_eq_true rfl) ?_
  show WR _ cd_119 0 [some (.ref (ad 0)), some (.int w)] [] h _
  refine r_aload rfl rfl ?_
  refine r_ic (x := 0) rfl rfl ?_
  refine r_putI rfl ⟨rfl, rfl, rfl⟩ (fx_t0 fx) ?_
  refine r_iload rfl rfl ?_
  refine r_tsw (tg := 92) rfl rfl (fun c1 => ?_) (fun c1 => ?_)
  · refine r_aload rfl rfl ?_
    refine r_ic (x := (-3)) rfl rfl ?_
    refine r_cv (y := 13) (ra := [.int (-3)]) (rest := []) rfl ⟨⟨rfl, rfl⟩, rfl, by decide⟩ (fx_t0 fx) rfl rfl (Nat.le_of_ble_eq_true rfl) ?_
    refine in_13 (Nat.le_of_ble_eq_true rfl) ?_
    show WR _ cd_13 0 [some (.ref (ad 0)), some (.int (-3))] [] (sI h (ad 0) 6 0) _
    refine r_aload rfl rfl ?_
    refine r_iload rfl rfl ?_
    refine r_putI rfl ⟨rfl, rfl, rfl⟩ (fx_t0 fx) ?_
    refine r_iload rfl rfl ?_
    refine r_iret rfl ?_
    show WR _ cd_119 98 [some (.ref (ad 0)), some (.int w)] [.int (-3)] (sI (sI h (ad 0) 6 0) (ad 0) 6 (-3)) _
    refine r_iret rfl ?_
    show EV _ 223 [.ref (ad 30), .int w] (sI (sI h (ad 0) 6 0) (ad 0) 6 (-3)) _
    refine in_223 (Nat.le_of_ble_eq_true rfl) ?_
    show WR _ cd_223 0 [some (.ref (ad 30)), some (.int w)] [] (sI (sI h (ad 0) 6 0) (ad 0) 6 (-3)) _
    refine r_iload rfl rfl ?_
    refine r_tsw (tg := 94) rfl rfl (fun _ => ?_) (fun q => absurd c1 q)
    refine r_aload rfl rfl ?_
    refine r_ic (x := (-3)) rfl rfl ?_
    refine r_cv (y := 154) (ra := [.int (-3)]) (rest := []) rfl ⟨⟨rfl, rfl⟩, rfl, by decide⟩ (fx_t30 fx) rfl rfl (Nat.le_of_ble_eq_true rfl) ?_
    refine in_154 (Nat.le_of_ble_eq_true rfl) ?_
    show WR _ cd_154 0 [some (.ref (ad 30)), some (.int (-3))] [] (sI (sI h (ad 0) 6 0) (ad 0) 6 (-3)) _
    refine r_aload rfl rfl ?_
    refine r_iload rfl rfl ?_
    refine r_ic (x := (-1)) rfl rfl ?_
    refine r_icmp_ge (tg := 10) rfl rfl (fun q => absurd q (by decide)) (fun _ => ?_)
    refine r_iload rfl rfl ?_
    refine r_goto (tg := 11) rfl rfl ?_
    refine r_putI rfl ⟨rfl, rfl, rfl⟩ (fx_t30 fx) ?_
    refine r_iload rfl rfl ?_
    refine r_iret rfl ?_
    show WR _ cd_223 100 [some (.ref (ad 30)), some (.int w)] [.int (-3)] (sI (sI (sI h (ad 0) 6 0) (ad 0) 6 (-3)) (ad 30) 11 (-3)) _
    refine r_iret rfl ?_
    exact ⟨rfl, Rel.why r (((Chg.rf.sI (fx_j fx) (.inl (by decide))).sI (fx_j fx) (.inl (by decide))).sI (fx_j fx) (.inl (by decide))) ⟨rfl, by decide⟩ (Eq.trans (Eq.trans (I_ne (fx_ne fx (by decide))) I_eq) (Eq.symm I_eq)), Nat.le_add_right _ _, Nat.le_add_right _ _⟩
  · rcases tsw_0_5 c1 with e_ | e_ | e_ | e_ | e_ | e_
    · have c2 : w = 0 := e_
      refine WR_pc (q := 44) (by rw [c2]; rfl) ?_
      refine r_aload rfl rfl ?_
      refine r_getA (b := ad 9) rfl ⟨rfl, rfl, rfl⟩ (fx_t0 fx) (fx_r0_3 fx) ?_
      refine r_getI rfl ⟨rfl, rfl, rfl⟩ (fx_t9 fx) ?_
      refine WR_tI (y := hI h (ad 9) 8) (I_ne (fx_ne fx (by decide))) ?_
      refine r_iret rfl ?_
      show EV _ 223 [.ref (ad 30), .int w] (sI h (ad 0) 6 0) _
      refine in_223 (Nat.le_of_ble_eq_true rfl) ?_
      show WR _ cd_223 0 [some (.ref (ad 30)), some (.int w)] [] (sI h (ad 0) 6 0) _
      refine r_iload rfl rfl ?_
      refine WR_tI (y := 0) c2 ?_
      refine r_tswL (tg := 40) rfl (by decide) ?_
      refine r_aload rfl rfl ?_
      refine r_aload rfl rfl ?_
      refine r_getI rfl ⟨rfl, rfl, rfl⟩ (fx_t30 fx) ?_
      refine WR_tI (y := hI h (ad 9) 8) (Eq.trans (I_ne (fx_ne fx (by decide))) a1.symm) ?_
      refine r_cv (y := 224) (ra := [.int (hI h (ad 9) 8)]) (rest := []) rfl ⟨⟨rfl, rfl⟩, rfl, by decide⟩ (fx_t30 fx) rfl rfl (Nat.le_of_ble_eq_true rfl) ?_
      refine in_224 (Nat.le_of_ble_eq_true rfl) ?_
      show WR _ cd_224 0 [some (.ref (ad 30)), some (.int (hI h (ad 9) 8))] [] (sI h (ad 0) 6 0) _
      refine r_aload rfl rfl ?_
      refine r_ic (x := 0) rfl rfl ?_
      refine r_putI rfl ⟨rfl, rfl, rfl⟩ (fx_t30 fx) ?_
      refine r_iload rfl rfl ?_
      refine r_iret rfl ?_
      show WR _ cd_223 48 [some (.ref (ad 30)), some (.int w)] [.int (hI h (ad 9) 8)] (sI (sI h (ad 0) 6 0) (ad 30) 11 0) _
      refine r_iret rfl ?_
      exact ⟨rfl, Rel.why r ((Chg.rf.sI (fx_j fx) (.inl (by decide))).sI (fx_j fx) (.inl (by decide))) ⟨rfl, by decide⟩ (Eq.trans (Eq.trans (I_ne (fx_ne fx (by decide))) I_eq) (Eq.symm I_eq)), Nat.le_add_right _ _, Nat.le_add_right _ _⟩
    · have c3 : w = 1 := e_
      refine WR_pc (q := 52) (by rw [c3]; rfl) ?_
      refine r_aload rfl rfl ?_
      refine r_getA (b := ad 9) rfl ⟨rfl, rfl, rfl⟩ (fx_t0 fx) (fx_r0_3 fx) ?_
      refine r_getI rfl ⟨rfl, rfl, rfl⟩ (fx_t9 fx) ?_
      refine WR_tI (y := hI h (ad 9) 9) (I_ne (fx_ne fx (by decide))) ?_
      refine r_iret rfl ?_
      show EV _ 223 [.ref (ad 30), .int w] (sI h (ad 0) 6 0) _
      refine in_223 (Nat.le_of_ble_eq_true rfl) ?_
      show WR _ cd_223 0 [some (.ref (ad 30)), some (.int w)] [] (sI h (ad 0) 6 0) _
      refine r_iload rfl rfl ?_
      refine WR_tI (y := 1) c3 ?_
      refine r_tswL (tg := 49) rfl (by decide) ?_
      refine r_aload rfl rfl ?_
      refine r_aload rfl rfl ?_
      refine r_getI rfl ⟨rfl, rfl, rfl⟩ (fx_t30 fx) ?_
      refine WR_tI (y := hI h (ad 9) 9) (Eq.trans (I_ne (fx_ne fx (by decide))) a2.symm) ?_
      refine r_cv (y := 224) (ra := [.int (hI h (ad 9) 9)]) (rest := []) rfl ⟨⟨rfl, rfl⟩, rfl, by decide⟩ (fx_t30 fx) rfl rfl (Nat.le_of_ble_eq_true rfl) ?_
      refine in_224 (Nat.le_of_ble_eq_true rfl) ?_
      show WR _ cd_224 0 [some (.ref (ad 30)), some (.int (hI h (ad 9) 9))] [] (sI h (ad 0) 6 0) _
      refine r_aload rfl rfl ?_
      refine r_ic (x := 0) rfl rfl ?_
      refine r_putI rfl ⟨rfl, rfl, rfl⟩ (fx_t30 fx) ?_
      refine r_iload rfl rfl ?_
      refine r_iret rfl ?_
      show WR _ cd_223 57 [some (.ref (ad 30)), some (.int w)] [.int (hI h (ad 9) 9)] (sI (sI h (ad 0) 6 0) (ad 30) 11 0) _
      refine r_iret rfl ?_
      exact ⟨rfl, Rel.why r ((Chg.rf.sI (fx_j fx) (.inl (by decide))).sI (fx_j fx) (.inl (by decide))) ⟨rfl, by decide⟩ (Eq.trans (Eq.trans (I_ne (fx_ne fx (by decide))) I_eq) (Eq.symm I_eq)), Nat.le_add_right _ _, Nat.le_add_right _ _⟩
    · have c4 : w = 2 := e_
      refine WR_pc (q := 60) (by rw [c4]; rfl) ?_
      refine r_aload rfl rfl ?_
      refine r_getA (b := ad 9) rfl ⟨rfl, rfl, rfl⟩ (fx_t0 fx) (fx_r0_3 fx) ?_
      refine r_getI rfl ⟨rfl, rfl, rfl⟩ (fx_t9 fx) ?_
      refine WR_tI (y := hI h (ad 9) 10) (I_ne (fx_ne fx (by decide))) ?_
      refine r_iret rfl ?_
      show EV _ 223 [.ref (ad 30), .int w] (sI h (ad 0) 6 0) _
      refine in_223 (Nat.le_of_ble_eq_true rfl) ?_
      show WR _ cd_223 0 [some (.ref (ad 30)), some (.int w)] [] (sI h (ad 0) 6 0) _
      refine r_iload rfl rfl ?_
      refine WR_tI (y := 2) c4 ?_
      refine r_tswL (tg := 58) rfl (by decide) ?_
      refine r_aload rfl rfl ?_
      refine r_aload rfl rfl ?_
      refine r_getI rfl ⟨rfl, rfl, rfl⟩ (fx_t30 fx) ?_
      refine WR_tI (y := hI h (ad 9) 10) (Eq.trans (I_ne (fx_ne fx (by decide))) a3.symm) ?_
      refine r_cv (y := 224) (ra := [.int (hI h (ad 9) 10)]) (rest := []) rfl ⟨⟨rfl, rfl⟩, rfl, by decide⟩ (fx_t30 fx) rfl rfl (Nat.le_of_ble_eq_true rfl) ?_
      refine in_224 (Nat.le_of_ble_eq_true rfl) ?_
      show WR _ cd_224 0 [some (.ref (ad 30)), some (.int (hI h (ad 9) 10))] [] (sI h (ad 0) 6 0) _
      refine r_aload rfl rfl ?_
      refine r_ic (x := 0) rfl rfl ?_
      refine r_putI rfl ⟨rfl, rfl, rfl⟩ (fx_t30 fx) ?_
      refine r_iload rfl rfl ?_
      refine r_iret rfl ?_
      show WR _ cd_223 66 [some (.ref (ad 30)), some (.int w)] [.int (hI h (ad 9) 10)] (sI (sI h (ad 0) 6 0) (ad 30) 11 0) _
      refine r_iret rfl ?_
      exact ⟨rfl, Rel.why r ((Chg.rf.sI (fx_j fx) (.inl (by decide))).sI (fx_j fx) (.inl (by decide))) ⟨rfl, by decide⟩ (Eq.trans (Eq.trans (I_ne (fx_ne fx (by decide))) I_eq) (Eq.symm I_eq)), Nat.le_add_right _ _, Nat.le_add_right _ _⟩
    · have c5 : w = 3 := e_
      refine WR_pc (q := 68) (by rw [c5]; rfl) ?_
      refine r_aload rfl rfl ?_
      refine r_getA (b := ad 9) rfl ⟨rfl, rfl, rfl⟩ (fx_t0 fx) (fx_r0_3 fx) ?_
      refine r_getI rfl ⟨rfl, rfl, rfl⟩ (fx_t9 fx) ?_
      refine WR_tI (y := nI ks) (Eq.trans (I_ne (fx_ne fx (by decide))) a6) ?_
      refine r_iret rfl ?_
      show EV _ 223 [.ref (ad 30), .int w] (sI h (ad 0) 6 0) _
      refine in_223 (Nat.le_of_ble_eq_true rfl) ?_
      show WR _ cd_223 0 [some (.ref (ad 30)), some (.int w)] [] (sI h (ad 0) 6 0) _
      refine r_iload rfl rfl ?_
      refine WR_tI (y := 3) c5 ?_
      refine r_tswL (tg := 67) rfl (by decide) ?_
      refine r_aload rfl rfl ?_
      refine r_aload rfl rfl ?_
      refine r_getI rfl ⟨rfl, rfl, rfl⟩ (fx_t30 fx) ?_
      refine WR_tI (y := nI ks) (Eq.trans (I_ne (fx_ne fx (by decide))) a7) ?_
      refine r_cv (y := 224) (ra := [.int (nI ks)]) (rest := []) rfl ⟨⟨rfl, rfl⟩, rfl, by decide⟩ (fx_t30 fx) rfl rfl (Nat.le_of_ble_eq_true rfl) ?_
      refine in_224 (Nat.le_of_ble_eq_true rfl) ?_
      show WR _ cd_224 0 [some (.ref (ad 30)), some (.int (nI ks))] [] (sI h (ad 0) 6 0) _
      refine r_aload rfl rfl ?_
      refine r_ic (x := 0) rfl rfl ?_
      refine r_putI rfl ⟨rfl, rfl, rfl⟩ (fx_t30 fx) ?_
      refine r_iload rfl rfl ?_
      refine r_iret rfl ?_
      show WR _ cd_223 75 [some (.ref (ad 30)), some (.int w)] [.int (nI ks)] (sI (sI h (ad 0) 6 0) (ad 30) 11 0) _
      refine r_iret rfl ?_
      exact ⟨rfl, Rel.why r ((Chg.rf.sI (fx_j fx) (.inl (by decide))).sI (fx_j fx) (.inl (by decide))) ⟨rfl, by decide⟩ (Eq.trans (Eq.trans (I_ne (fx_ne fx (by decide))) I_eq) (Eq.symm I_eq)), Nat.le_add_right _ _, Nat.le_add_right _ _⟩
    · have c6 : w = 4 := e_
      refine WR_pc (q := 76) (by rw [c6]; rfl) ?_
      refine r_aload rfl rfl ?_
      refine r_getA (b := ad 9) rfl ⟨rfl, rfl, rfl⟩ (fx_t0 fx) (fx_r0_3 fx) ?_
      refine r_getI rfl ⟨rfl, rfl, rfl⟩ (fx_t9 fx) ?_
      refine WR_tI (y := hI h (ad 9) 12) (I_ne (fx_ne fx (by decide))) ?_
      refine r_iret rfl ?_
      show EV _ 223 [.ref (ad 30), .int w] (sI h (ad 0) 6 0) _
      refine in_223 (Nat.le_of_ble_eq_true rfl) ?_
      show WR _ cd_223 0 [some (.ref (ad 30)), some (.int w)] [] (sI h (ad 0) 6 0) _
      refine r_iload rfl rfl ?_
      refine WR_tI (y := 4) c6 ?_
      refine r_tswL (tg := 76) rfl (by decide) ?_
      refine r_aload rfl rfl ?_
      refine r_aload rfl rfl ?_
      refine r_getI rfl ⟨rfl, rfl, rfl⟩ (fx_t30 fx) ?_
      refine WR_tI (y := hI h (ad 9) 12) (Eq.trans (I_ne (fx_ne fx (by decide))) a4.symm) ?_
      refine r_cv (y := 224) (ra := [.int (hI h (ad 9) 12)]) (rest := []) rfl ⟨⟨rfl, rfl⟩, rfl, by decide⟩ (fx_t30 fx) rfl rfl (Nat.le_of_ble_eq_true rfl) ?_
      refine in_224 (Nat.le_of_ble_eq_true rfl) ?_
      show WR _ cd_224 0 [some (.ref (ad 30)), some (.int (hI h (ad 9) 12))] [] (sI h (ad 0) 6 0) _
      refine r_aload rfl rfl ?_
      refine r_ic (x := 0) rfl rfl ?_
      refine r_putI rfl ⟨rfl, rfl, rfl⟩ (fx_t30 fx) ?_
      refine r_iload rfl rfl ?_
      refine r_iret rfl ?_
      show WR _ cd_223 84 [some (.ref (ad 30)), some (.int w)] [.int (hI h (ad 9) 12)] (sI (sI h (ad 0) 6 0) (ad 30) 11 0) _
      refine r_iret rfl ?_
      exact ⟨rfl, Rel.why r ((Chg.rf.sI (fx_j fx) (.inl (by decide))).sI (fx_j fx) (.inl (by decide))) ⟨rfl, by decide⟩ (Eq.trans (Eq.trans (I_ne (fx_ne fx (by decide))) I_eq) (Eq.symm I_eq)), Nat.le_add_right _ _, Nat.le_add_right _ _⟩
    · have c7 : w = 5 := e_
      refine WR_pc (q := 84) (by rw [c7]; rfl) ?_
      refine r_aload rfl rfl ?_
      refine r_getA (b := ad 9) rfl ⟨rfl, rfl, rfl⟩ (fx_t0 fx) (fx_r0_3 fx) ?_
      refine r_getI rfl ⟨rfl, rfl, rfl⟩ (fx_t9 fx) ?_
      refine WR_tI (y := hI h (ad 9) 13) (I_ne (fx_ne fx (by decide))) ?_
      refine r_iret rfl ?_
      show EV _ 223 [.ref (ad 30), .int w] (sI h (ad 0) 6 0) _
      refine in_223 (Nat.le_of_ble_eq_true rfl) ?_
      show WR _ cd_223 0 [some (.ref (ad 30)), some (.int w)] [] (sI h (ad 0) 6 0) _
      refine r_iload rfl rfl ?_
      refine WR_tI (y := 5) c7 ?_
      refine r_tswL (tg := 85) rfl (by decide) ?_
      refine r_aload rfl rfl ?_
      refine r_aload rfl rfl ?_
      refine r_getI rfl ⟨rfl, rfl, rfl⟩ (fx_t30 fx) ?_
      refine WR_tI (y := hI h (ad 9) 13) (Eq.trans (I_ne (fx_ne fx (by decide))) a5.symm) ?_
      refine r_cv (y := 224) (ra := [.int (hI h (ad 9) 13)]) (rest := []) rfl ⟨⟨rfl, rfl⟩, rfl, by decide⟩ (fx_t30 fx) rfl rfl (Nat.le_of_ble_eq_true rfl) ?_
      refine in_224 (Nat.le_of_ble_eq_true rfl) ?_
      show WR _ cd_224 0 [some (.ref (ad 30)), some (.int (hI h (ad 9) 13))] [] (sI h (ad 0) 6 0) _
      refine r_aload rfl rfl ?_
      refine r_ic (x := 0) rfl rfl ?_
      refine r_putI rfl ⟨rfl, rfl, rfl⟩ (fx_t30 fx) ?_
      refine r_iload rfl rfl ?_
      refine r_iret rfl ?_
      show WR _ cd_223 93 [some (.ref (ad 30)), some (.int w)] [.int (hI h (ad 9) 13)] (sI (sI h (ad 0) 6 0) (ad 30) 11 0) _
      refine r_iret rfl ?_
      exact ⟨rfl, Rel.why r ((Chg.rf.sI (fx_j fx) (.inl (by decide))).sI (fx_j fx) (.inl (by decide))) ⟨rfl, by decide⟩ (Eq.trans (Eq.trans (I_ne (fx_ne fx (by decide))) I_eq) (Eq.symm I_eq)), Nat.le_add_right _ _, Nat.le_add_right _ _⟩

set_option maxHeartbeats 2000000 in
theorem k_said {n : Nat} {ad sa : Nat → Nat} {z0 : Nat} {h : mH} (r : Rel n ad sa z0 h) (i : Int32) : AP n ad sa z0 h 120 225 [.int i] := by
  obtain ⟨mid, pa, np, fx, ry, rt, ra, rp, rf, rst, ru, rs⟩ := id r
  have fx0 := fx
  obtain ⟨a1, a2, a3, a4, a5, ks, hks, a6, a7, a8⟩ := id ra
  unfold AP
  refine in_120 (Nat.le_of_ble_eq_true rfl) ?_
  show WR _ cd_120 0 [some (.ref (ad 0)), some (.int i)] [] h _
  refine r_aload rfl rfl ?_
  refine r_ic (x := 0) rfl rfl ?_
  refine r_putI rfl ⟨rfl, rfl, rfl⟩ (fx_t0 fx) ?_
  refine r_iload rfl rfl ?_
  refine r_if_lt (tg := 38) rfl rfl (fun c1 => ?_) (fun c1 => ?_)
  · refine r_ic (x := 0) rfl rfl ?_
    refine r_iret rfl ?_
    show EV _ 225 [.ref (ad 30), .int i] (sI h (ad 0) 6 0) _
    refine in_225 (Nat.le_of_ble_eq_true rfl) ?_
    show WR _ cd_225 0 [some (.ref (ad 30)), some (.int i)] [] (sI h (ad 0) 6 0) _
    refine r_aload rfl rfl ?_
    refine r_ic (x := 0) rfl rfl ?_
    refine r_putI rfl ⟨rfl, rfl, rfl⟩ (fx_t30 fx) ?_
    refine r_iload rfl rfl ?_
    refine r_i2l rfl ?_
    refine r_lc (x := 0) rfl rfl ?_
    refine r_aload rfl rfl ?_
    refine r_getI rfl ⟨rfl, rfl, rfl⟩ (fx_t30 fx) ?_
    refine WR_tI (y := nI ks) (Eq.trans (I_nk (by decide)) (Eq.trans (I_ne (fx_ne fx (by decide))) a7)) ?_
    refine r_ic (x := 60) rfl rfl ?_
    refine r_icmp_ge (tg := 24) rfl rfl (fun c2 => ?_) (fun c2 => ?_)
    · refine r_ic (x := 60) rfl rfl ?_
      refine r_ic (x := 1) rfl rfl ?_
      refine r_isub rfl ?_
      refine WR_tI (y := 59) rfl ?_
      refine r_i2l rfl ?_
      refine WR_tL (y := 59) rfl ?_
      refine r_cs (y := 155) (ra := [.long 59, .long 0, .long i.toInt64]) (rest := []) rfl ⟨⟨rfl, rfl⟩, by decide⟩ rfl rfl (Nat.le_of_ble_eq_true rfl) ?_
      refine in_155 (Nat.le_of_ble_eq_true rfl) ?_
      show WR _ cd_155 0 [some (.long i.toInt64), none, some (.long 0), none, some (.long 59), none] [] (sI (sI h (ad 0) 6 0) (ad 30) 11 0) _
      refine r_lload rfl rfl ?_
      refine r_lload rfl rfl ?_
      refine r_lif_lt (tg := 17) rfl rfl rfl (fun _ => ?_) (fun q => False.elim (by have := i_rg i; have := w_t i; have : (0 : Int64).toInt = 0 := rfl; have := i_lt c1; have : (0 : Int32).toInt = 0 := rfl; have := l_nlt q; omega))
      refine r_ic (x := 0) rfl rfl ?_
      refine r_zret rfl (.inl rfl) ?_
      show WR _ cd_225 32 [some (.ref (ad 30)), some (.int i)] [.int 0] (sI (sI h (ad 0) 6 0) (ad 30) 11 0) _
      refine r_if_eq (tg := 44) rfl rfl (fun _ => ?_) (fun q => absurd q (by decide))
      refine r_ic (x := 0) rfl rfl ?_
      refine r_iret rfl ?_
      exact ⟨rfl, Rel.why r ((Chg.rf.sI (fx_j fx) (.inl (by decide))).sI (fx_j fx) (.inl (by decide))) ⟨rfl, by decide⟩ (Eq.trans (Eq.trans (I_ne (fx_ne fx (by decide))) I_eq) (Eq.symm I_eq)), Nat.le_add_right _ _, Nat.le_add_right _ _⟩
    · refine r_aload rfl rfl ?_
      refine r_getI rfl ⟨rfl, rfl, rfl⟩ (fx_t30 fx) ?_
      refine WR_tI (y := nI ks) (Eq.trans (I_nk (by decide)) (Eq.trans (I_ne (fx_ne fx (by decide))) a7)) ?_
      refine r_goto (tg := 26) rfl rfl ?_
      refine r_ic (x := 1) rfl rfl ?_
      refine r_isub rfl ?_
      refine r_i2l rfl ?_
      refine r_cs (y := 155) (ra := [.long (((nI ks) - 1).toInt64), .long 0, .long i.toInt64]) (rest := []) rfl ⟨⟨rfl, rfl⟩, by decide⟩ rfl rfl (Nat.le_of_ble_eq_true rfl) ?_
      refine in_155 (Nat.le_of_ble_eq_true rfl) ?_
      show WR _ cd_155 0 [some (.long i.toInt64), none, some (.long 0), none, some (.long (((nI ks) - 1).toInt64)), none] [] (sI (sI h (ad 0) 6 0) (ad 30) 11 0) _
      refine r_lload rfl rfl ?_
      refine r_lload rfl rfl ?_
      refine r_lif_lt (tg := 17) rfl rfl rfl (fun _ => ?_) (fun q => False.elim (by have := i_rg i; have := w_t i; have : (0 : Int64).toInt = 0 := rfl; have := i_lt c1; have : (0 : Int32).toInt = 0 := rfl; have := l_nlt q; omega))
      refine r_ic (x := 0) rfl rfl ?_
      refine r_zret rfl (.inl rfl) ?_
      show WR _ cd_225 32 [some (.ref (ad 30)), some (.int i)] [.int 0] (sI (sI h (ad 0) 6 0) (ad 30) 11 0) _
      refine r_if_eq (tg := 44) rfl rfl (fun _ => ?_) (fun q => absurd q (by decide))
      refine r_ic (x := 0) rfl rfl ?_
      refine r_iret rfl ?_
      exact ⟨rfl, Rel.why r ((Chg.rf.sI (fx_j fx) (.inl (by decide))).sI (fx_j fx) (.inl (by decide))) ⟨rfl, by decide⟩ (Eq.trans (Eq.trans (I_ne (fx_ne fx (by decide))) I_eq) (Eq.symm I_eq)), Nat.le_add_right _ _, Nat.le_add_right _ _⟩
  · obtain ⟨k3, hk3, ek3⟩ := ix_of (x := i) (n := 2147483648) (by have := i_rg i; have := i_nlt c1; have : (0 : Int32).toInt = 0 := rfl; omega) (by have := i_rg i; have := i_nlt c1; have : (0 : Int32).toInt = 0 := rfl; omega)
    refine r_iload rfl rfl ?_
    refine WR_tI (y := nI k3) ek3 ?_
    refine r_aload rfl rfl ?_
    refine r_getA (b := ad 9) rfl ⟨rfl, rfl, rfl⟩ (fx_t0 fx) (fx_r0_3 fx) ?_
    refine r_getI rfl ⟨rfl, rfl, rfl⟩ (fx_t9 fx) ?_
    refine WR_tI (y := nI ks) (Eq.trans (I_ne (fx_ne fx (by decide))) a6) ?_
    refine r_icmp_ge (tg := 38) rfl rfl (fun c4 => ?_) (fun c4 => ?_)
    · refine r_ic (x := 0) rfl rfl ?_
      refine r_iret rfl ?_
      show EV _ 225 [.ref (ad 30), .int i] (sI h (ad 0) 6 0) _
      refine in_225 (Nat.le_of_ble_eq_true rfl) ?_
      show WR _ cd_225 0 [some (.ref (ad 30)), some (.int i)] [] (sI h (ad 0) 6 0) _
      refine r_aload rfl rfl ?_
      refine r_ic (x := 0) rfl rfl ?_
      refine r_putI rfl ⟨rfl, rfl, rfl⟩ (fx_t30 fx) ?_
      refine r_iload rfl rfl ?_
      refine WR_tI (y := nI k3) ek3 ?_
      refine r_i2l rfl ?_
      refine WR_tL (y := lN k3) (nI_l (by have := i_eq ek3; have : (nI k3).toInt = ((k3 : Nat) : Int) := nI_toInt (by omega); have := i_rg i; have := i_le c4; have : (nI ks).toInt = ((ks : Nat) : Int) := nI_toInt (by omega); have := i_nlt c1; have : (0 : Int32).toInt = 0 := rfl; omega)) ?_
      refine r_lc (x := 0) rfl rfl ?_
      refine r_aload rfl rfl ?_
      refine r_getI rfl ⟨rfl, rfl, rfl⟩ (fx_t30 fx) ?_
      refine WR_tI (y := nI ks) (Eq.trans (I_nk (by decide)) (Eq.trans (I_ne (fx_ne fx (by decide))) a7)) ?_
      refine r_ic (x := 60) rfl rfl ?_
      refine r_icmp_ge (tg := 24) rfl rfl (fun c5 => ?_) (fun c5 => ?_)
      · refine r_ic (x := 60) rfl rfl ?_
        refine r_ic (x := 1) rfl rfl ?_
        refine r_isub rfl ?_
        refine WR_tI (y := 59) rfl ?_
        refine r_i2l rfl ?_
        refine WR_tL (y := 59) rfl ?_
        refine r_cs (y := 155) (ra := [.long 59, .long 0, .long (lN k3)]) (rest := []) rfl ⟨⟨rfl, rfl⟩, by decide⟩ rfl rfl (Nat.le_of_ble_eq_true rfl) ?_
        refine in_155 (Nat.le_of_ble_eq_true rfl) ?_
        show WR _ cd_155 0 [some (.long (lN k3)), none, some (.long 0), none, some (.long 59), none] [] (sI (sI h (ad 0) 6 0) (ad 30) 11 0) _
        refine r_lload rfl rfl ?_
        refine r_lload rfl rfl ?_
        refine r_lif_lt (tg := 17) rfl rfl rfl (fun q => False.elim (by have : (lN k3).toInt = ((k3 : Nat) : Int) := lN_toInt (by omega); have : (0 : Int64).toInt = 0 := rfl; have := i_eq ek3; have : (nI k3).toInt = ((k3 : Nat) : Int) := nI_toInt (by omega); have := i_rg i; have := i_le c4; have : (nI ks).toInt = ((ks : Nat) : Int) := nI_toInt (by omega); have := i_le c5; have : (60 : Int32).toInt = 60 := rfl; have := i_nlt c1; have : (0 : Int32).toInt = 0 := rfl; have := l_lt q; omega)) (fun _ => ?_)
        refine r_lload rfl rfl ?_
        refine r_lload rfl rfl ?_
        refine r_lif_gt (tg := 17) rfl rfl rfl (fun _ => ?_) (fun q => False.elim (by have : (lN k3).toInt = ((k3 : Nat) : Int) := lN_toInt (by omega); have : (59 : Int64).toInt = 59 := rfl; have := i_eq ek3; have : (nI k3).toInt = ((k3 : Nat) : Int) := nI_toInt (by omega); have := i_rg i; have := i_le c4; have : (nI ks).toInt = ((ks : Nat) : Int) := nI_toInt (by omega); have := i_le c5; have : (60 : Int32).toInt = 60 := rfl; have := i_nlt c1; have : (0 : Int32).toInt = 0 := rfl; have := l_nlt q; omega))
        refine r_ic (x := 0) rfl rfl ?_
        refine r_zret rfl (.inl rfl) ?_
        show WR _ cd_225 32 [some (.ref (ad 30)), some (.int i)] [.int 0] (sI (sI h (ad 0) 6 0) (ad 30) 11 0) _
        refine r_if_eq (tg := 44) rfl rfl (fun _ => ?_) (fun q => absurd q (by decide))
        refine r_ic (x := 0) rfl rfl ?_
        refine r_iret rfl ?_
        exact ⟨rfl, Rel.why r ((Chg.rf.sI (fx_j fx) (.inl (by decide))).sI (fx_j fx) (.inl (by decide))) ⟨rfl, by decide⟩ (Eq.trans (Eq.trans (I_ne (fx_ne fx (by decide))) I_eq) (Eq.symm I_eq)), Nat.le_add_right _ _, Nat.le_add_right _ _⟩
      · refine r_aload rfl rfl ?_
        refine r_getI rfl ⟨rfl, rfl, rfl⟩ (fx_t30 fx) ?_
        refine WR_tI (y := nI ks) (Eq.trans (I_nk (by decide)) (Eq.trans (I_ne (fx_ne fx (by decide))) a7)) ?_
        refine r_goto (tg := 26) rfl rfl ?_
        refine r_ic (x := 1) rfl rfl ?_
        refine r_isub rfl ?_
        refine r_i2l rfl ?_
        refine r_cs (y := 155) (ra := [.long (((nI ks) - 1).toInt64), .long 0, .long (lN k3)]) (rest := []) rfl ⟨⟨rfl, rfl⟩, by decide⟩ rfl rfl (Nat.le_of_ble_eq_true rfl) ?_
        refine in_155 (Nat.le_of_ble_eq_true rfl) ?_
        show WR _ cd_155 0 [some (.long (lN k3)), none, some (.long 0), none, some (.long (((nI ks) - 1).toInt64)), none] [] (sI (sI h (ad 0) 6 0) (ad 30) 11 0) _
        refine r_lload rfl rfl ?_
        refine r_lload rfl rfl ?_
        refine r_lif_lt (tg := 17) rfl rfl rfl (fun q => False.elim (by have : (lN k3).toInt = ((k3 : Nat) : Int) := lN_toInt (by omega); have : (0 : Int64).toInt = 0 := rfl; have := i_eq ek3; have : (nI k3).toInt = ((k3 : Nat) : Int) := nI_toInt (by omega); have := i_rg i; have := i_le c4; have : (nI ks).toInt = ((ks : Nat) : Int) := nI_toInt (by omega); have := i_nle c5; have : (60 : Int32).toInt = 60 := rfl; have := i_nlt c1; have : (0 : Int32).toInt = 0 := rfl; have := l_lt q; omega)) (fun _ => ?_)
        refine r_lload rfl rfl ?_
        refine r_lload rfl rfl ?_
        refine r_lif_gt (tg := 17) rfl rfl rfl (fun _ => ?_) (fun q => False.elim (by have : (lN k3).toInt = ((k3 : Nat) : Int) := lN_toInt (by omega); have : (nI ks).toInt = ((ks : Nat) : Int) := nI_toInt (by omega); have : (1 : Int32).toInt = 1 := rfl; have := sub_t (x := nI ks) (y := 1) (by have : (nI ks).toInt = ((ks : Nat) : Int) := nI_toInt (by omega); have : (1 : Int32).toInt = 1 := rfl; have := i_le c4; have : (nI k3).toInt = ((k3 : Nat) : Int) := nI_toInt (by omega); have := i_nle c5; have : (60 : Int32).toInt = 60 := rfl; have := i_eq ek3; have := i_rg i; have := i_nlt c1; have : (0 : Int32).toInt = 0 := rfl; omega) (by have : (nI ks).toInt = ((ks : Nat) : Int) := nI_toInt (by omega); have : (1 : Int32).toInt = 1 := rfl; have := i_le c4; have : (nI k3).toInt = ((k3 : Nat) : Int) := nI_toInt (by omega); have := i_nle c5; have : (60 : Int32).toInt = 60 := rfl; have := i_eq ek3; have := i_rg i; have := i_nlt c1; have : (0 : Int32).toInt = 0 := rfl; omega); have := w_t ((nI ks) - 1); have := i_eq ek3; have : (nI k3).toInt = ((k3 : Nat) : Int) := nI_toInt (by omega); have := i_rg i; have := i_le c4; have := i_nle c5; have : (60 : Int32).toInt = 60 := rfl; have := i_nlt c1; have : (0 : Int32).toInt = 0 := rfl; have := l_nlt q; omega))
        refine r_ic (x := 0) rfl rfl ?_
        refine r_zret rfl (.inl rfl) ?_
        show WR _ cd_225 32 [some (.ref (ad 30)), some (.int i)] [.int 0] (sI (sI h (ad 0) 6 0) (ad 30) 11 0) _
        refine r_if_eq (tg := 44) rfl rfl (fun _ => ?_) (fun q => absurd q (by decide))
        refine r_ic (x := 0) rfl rfl ?_
        refine r_iret rfl ?_
        exact ⟨rfl, Rel.why r ((Chg.rf.sI (fx_j fx) (.inl (by decide))).sI (fx_j fx) (.inl (by decide))) ⟨rfl, by decide⟩ (Eq.trans (Eq.trans (I_ne (fx_ne fx (by decide))) I_eq) (Eq.symm I_eq)), Nat.le_add_right _ _, Nat.le_add_right _ _⟩
    · refine r_iload rfl rfl ?_
      refine WR_tI (y := nI k3) ek3 ?_
      refine r_ic (x := 60) rfl rfl ?_
      refine r_icmp_ge (tg := 38) rfl rfl (fun c6 => ?_) (fun c6 => ?_)
      · refine r_ic (x := 0) rfl rfl ?_
        refine r_iret rfl ?_
        show EV _ 225 [.ref (ad 30), .int i] (sI h (ad 0) 6 0) _
        refine in_225 (Nat.le_of_ble_eq_true rfl) ?_
        show WR _ cd_225 0 [some (.ref (ad 30)), some (.int i)] [] (sI h (ad 0) 6 0) _
        refine r_aload rfl rfl ?_
        refine r_ic (x := 0) rfl rfl ?_
        refine r_putI rfl ⟨rfl, rfl, rfl⟩ (fx_t30 fx) ?_
        refine r_iload rfl rfl ?_
        refine WR_tI (y := nI k3) ek3 ?_
        refine r_i2l rfl ?_
        refine WR_tL (y := lN k3) (nI_l (by have := i_eq ek3; have : (nI k3).toInt = ((k3 : Nat) : Int) := nI_toInt (by omega); have := i_rg i; have := i_nle c4; have : (nI ks).toInt = ((ks : Nat) : Int) := nI_toInt (by omega); have := i_le c6; have : (60 : Int32).toInt = 60 := rfl; have := i_nlt c1; have : (0 : Int32).toInt = 0 := rfl; omega)) ?_
        refine r_lc (x := 0) rfl rfl ?_
        refine r_aload rfl rfl ?_
        refine r_getI rfl ⟨rfl, rfl, rfl⟩ (fx_t30 fx) ?_
        refine WR_tI (y := nI ks) (Eq.trans (I_nk (by decide)) (Eq.trans (I_ne (fx_ne fx (by decide))) a7)) ?_
        refine r_ic (x := 60) rfl rfl ?_
        refine r_icmp_ge (tg := 24) rfl rfl (fun _ => ?_) (fun q => False.elim (by have : (nI ks).toInt = ((ks : Nat) : Int) := nI_toInt (by omega); have : (60 : Int32).toInt = 60 := rfl; have := i_nle c4; have : (nI k3).toInt = ((k3 : Nat) : Int) := nI_toInt (by omega); have := i_le c6; have := i_eq ek3; have := i_rg i; have := i_nlt c1; have : (0 : Int32).toInt = 0 := rfl; have := i_nle q; omega))
        refine r_ic (x := 60) rfl rfl ?_
        refine r_ic (x := 1) rfl rfl ?_
        refine r_isub rfl ?_
        refine WR_tI (y := 59) rfl ?_
        refine r_i2l rfl ?_
        refine WR_tL (y := 59) rfl ?_
        refine r_cs (y := 155) (ra := [.long 59, .long 0, .long (lN k3)]) (rest := []) rfl ⟨⟨rfl, rfl⟩, by decide⟩ rfl rfl (Nat.le_of_ble_eq_true rfl) ?_
        refine in_155 (Nat.le_of_ble_eq_true rfl) ?_
        show WR _ cd_155 0 [some (.long (lN k3)), none, some (.long 0), none, some (.long 59), none] [] (sI (sI h (ad 0) 6 0) (ad 30) 11 0) _
        refine r_lload rfl rfl ?_
        refine r_lload rfl rfl ?_
        refine r_lif_lt (tg := 17) rfl rfl rfl (fun q => False.elim (by have : (lN k3).toInt = ((k3 : Nat) : Int) := lN_toInt (by omega); have : (0 : Int64).toInt = 0 := rfl; have := i_eq ek3; have : (nI k3).toInt = ((k3 : Nat) : Int) := nI_toInt (by omega); have := i_rg i; have := i_nle c4; have : (nI ks).toInt = ((ks : Nat) : Int) := nI_toInt (by omega); have := i_le c6; have : (60 : Int32).toInt = 60 := rfl; have := i_nlt c1; have : (0 : Int32).toInt = 0 := rfl; have := l_lt q; omega)) (fun _ => ?_)
        refine r_lload rfl rfl ?_
        refine r_lload rfl rfl ?_
        refine r_lif_gt (tg := 17) rfl rfl rfl (fun _ => ?_) (fun q => False.elim (by have : (lN k3).toInt = ((k3 : Nat) : Int) := lN_toInt (by omega); have : (59 : Int64).toInt = 59 := rfl; have := i_eq ek3; have : (nI k3).toInt = ((k3 : Nat) : Int) := nI_toInt (by omega); have := i_rg i; have := i_nle c4; have : (nI ks).toInt = ((ks : Nat) : Int) := nI_toInt (by omega); have := i_le c6; have : (60 : Int32).toInt = 60 := rfl; have := i_nlt c1; have : (0 : Int32).toInt = 0 := rfl; have := l_nlt q; omega))
        refine r_ic (x := 0) rfl rfl ?_
        refine r_zret rfl (.inl rfl) ?_
        show WR _ cd_225 32 [some (.ref (ad 30)), some (.int i)] [.int 0] (sI (sI h (ad 0) 6 0) (ad 30) 11 0) _
        refine r_if_eq (tg := 44) rfl rfl (fun _ => ?_) (fun q => absurd q (by decide))
        refine r_ic (x := 0) rfl rfl ?_
        refine r_iret rfl ?_
        exact ⟨rfl, Rel.why r ((Chg.rf.sI (fx_j fx) (.inl (by decide))).sI (fx_j fx) (.inl (by decide))) ⟨rfl, by decide⟩ (Eq.trans (Eq.trans (I_ne (fx_ne fx (by decide))) I_eq) (Eq.symm I_eq)), Nat.le_add_right _ _, Nat.le_add_right _ _⟩
      · refine r_aload rfl rfl ?_
        refine r_getA (b := ad 9) rfl ⟨rfl, rfl, rfl⟩ (fx_t0 fx) (fx_r0_3 fx) ?_
        refine r_getA (b := ad 12) rfl ⟨rfl, rfl, rfl⟩ (fx_t9 fx) (fx_r9_2 fx) ?_
        refine r_iload rfl rfl ?_
        refine WR_tI (y := nI k3) ek3 ?_
        refine r_iaload rfl (.inl (fx_t12 fx)) (vp_ct (fx_n12 fx) (vp_in_nI (by have := i_eq ek3; have : (nI k3).toInt = ((k3 : Nat) : Int) := nI_toInt (by omega); have := i_rg i; have := i_nle c4; have : (nI ks).toInt = ((ks : Nat) : Int) := nI_toInt (by omega); have := i_nle c6; have : (60 : Int32).toInt = 60 := rfl; have := i_nlt c1; have : (0 : Int32).toInt = 0 := rfl; omega) (by omega))) ?_
        refine WR_tI (congrArg (hI (sI h (ad 0) 6 0) (ad 12)) ((nI_clamp (by have := i_eq ek3; have : (nI k3).toInt = ((k3 : Nat) : Int) := nI_toInt (by omega); have := i_rg i; have := i_nle c4; have : (nI ks).toInt = ((ks : Nat) : Int) := nI_toInt (by omega); have := i_nle c6; have : (60 : Int32).toInt = 60 := rfl; have := i_nlt c1; have : (0 : Int32).toInt = 0 := rfl; omega)) : _ = k3)) ?_
        refine WR_tI (y := hI h (ad 12) k3) (I_ne (fx_ne fx (by decide))) ?_
        refine r_goto (tg := 39) rfl rfl ?_
        refine r_iret rfl ?_
        show EV _ 225 [.ref (ad 30), .int i] (sI h (ad 0) 6 0) _
        refine in_225 (Nat.le_of_ble_eq_true rfl) ?_
        show WR _ cd_225 0 [some (.ref (ad 30)), some (.int i)] [] (sI h (ad 0) 6 0) _
        refine r_aload rfl rfl ?_
        refine r_ic (x := 0) rfl rfl ?_
        refine r_putI rfl ⟨rfl, rfl, rfl⟩ (fx_t30 fx) ?_
        refine r_iload rfl rfl ?_
        refine WR_tI (y := nI k3) ek3 ?_
        refine r_i2l rfl ?_
        refine WR_tL (y := lN k3) (nI_l (by have := i_eq ek3; have : (nI k3).toInt = ((k3 : Nat) : Int) := nI_toInt (by omega); have := i_rg i; have := i_nle c4; have : (nI ks).toInt = ((ks : Nat) : Int) := nI_toInt (by omega); have := i_nle c6; have : (60 : Int32).toInt = 60 := rfl; have := i_nlt c1; have : (0 : Int32).toInt = 0 := rfl; omega)) ?_
        refine r_lc (x := 0) rfl rfl ?_
        refine r_aload rfl rfl ?_
        refine r_getI rfl ⟨rfl, rfl, rfl⟩ (fx_t30 fx) ?_
        refine WR_tI (y := nI ks) (Eq.trans (I_nk (by decide)) (Eq.trans (I_ne (fx_ne fx (by decide))) a7)) ?_
        refine r_ic (x := 60) rfl rfl ?_
        refine r_icmp_ge (tg := 24) rfl rfl (fun c7 => ?_) (fun c7 => ?_)
        · refine r_ic (x := 60) rfl rfl ?_
          refine r_ic (x := 1) rfl rfl ?_
          refine r_isub rfl ?_
          refine WR_tI (y := 59) rfl ?_
          refine r_i2l rfl ?_
          refine WR_tL (y := 59) rfl ?_
          refine r_cs (y := 155) (ra := [.long 59, .long 0, .long (lN k3)]) (rest := []) rfl ⟨⟨rfl, rfl⟩, by decide⟩ rfl rfl (Nat.le_of_ble_eq_true rfl) ?_
          refine in_155 (Nat.le_of_ble_eq_true rfl) ?_
          show WR _ cd_155 0 [some (.long (lN k3)), none, some (.long 0), none, some (.long 59), none] [] (sI (sI h (ad 0) 6 0) (ad 30) 11 0) _
          refine r_lload rfl rfl ?_
          refine r_lload rfl rfl ?_
          refine r_lif_lt (tg := 17) rfl rfl rfl (fun q => False.elim (by have : (lN k3).toInt = ((k3 : Nat) : Int) := lN_toInt (by omega); have : (0 : Int64).toInt = 0 := rfl; have := i_eq ek3; have : (nI k3).toInt = ((k3 : Nat) : Int) := nI_toInt (by omega); have := i_rg i; have := i_nle c4; have : (nI ks).toInt = ((ks : Nat) : Int) := nI_toInt (by omega); have := i_nle c6; have : (60 : Int32).toInt = 60 := rfl; have := i_le c7; have := i_nlt c1; have : (0 : Int32).toInt = 0 := rfl; have := l_lt q; omega)) (fun _ => ?_)
          refine r_lload rfl rfl ?_
          refine r_lload rfl rfl ?_
          refine r_lif_gt (tg := 17) rfl rfl rfl (fun q => False.elim (by have : (lN k3).toInt = ((k3 : Nat) : Int) := lN_toInt (by omega); have : (59 : Int64).toInt = 59 := rfl; have := i_eq ek3; have : (nI k3).toInt = ((k3 : Nat) : Int) := nI_toInt (by omega); have := i_rg i; have := i_nle c4; have : (nI ks).toInt = ((ks : Nat) : Int) := nI_toInt (by omega); have := i_nle c6; have : (60 : Int32).toInt = 60 := rfl; have := i_le c7; have := i_nlt c1; have : (0 : Int32).toInt = 0 := rfl; have := l_lt q; omega)) (fun _ => ?_)
          refine r_ic (x := 1) rfl rfl ?_
          refine r_goto (tg := 18) rfl rfl ?_
          refine r_zret rfl (.inr rfl) ?_
          show WR _ cd_225 32 [some (.ref (ad 30)), some (.int i)] [.int 1] (sI (sI h (ad 0) 6 0) (ad 30) 11 0) _
          refine r_if_eq (tg := 44) rfl rfl (fun q => absurd q (by decide)) (fun _ => ?_)
          refine r_aload rfl rfl ?_
          refine r_getA (b := ad 53) rfl ⟨rfl, rfl, rfl⟩ (fx_t30 fx) (fx_r30_36 fx) ?_
          refine r_iload rfl rfl ?_
          refine WR_tI (y := nI k3) ek3 ?_
          refine r_iaload rfl (.inl (fx_t53 fx)) (vp_ct (fx_n53 fx) (vp_in_nI (by have := i_eq ek3; have : (nI k3).toInt = ((k3 : Nat) : Int) := nI_toInt (by omega); have := i_rg i; have := i_nle c4; have : (nI ks).toInt = ((ks : Nat) : Int) := nI_toInt (by omega); have := i_nle c6; have : (60 : Int32).toInt = 60 := rfl; have := i_le c7; have := i_nlt c1; have : (0 : Int32).toInt = 0 := rfl; omega) (by omega))) ?_
          refine WR_tI (congrArg (hI (sI (sI h (ad 0) 6 0) (ad 30) 11 0) (ad 53)) ((nI_clamp (by have := i_eq ek3; have : (nI k3).toInt = ((k3 : Nat) : Int) := nI_toInt (by omega); have := i_rg i; have := i_nle c4; have : (nI ks).toInt = ((ks : Nat) : Int) := nI_toInt (by omega); have := i_nle c6; have : (60 : Int32).toInt = 60 := rfl; have := i_le c7; have := i_nlt c1; have : (0 : Int32).toInt = 0 := rfl; omega)) : _ = k3)) ?_
          refine WR_tI (y := hI h (ad 12) k3) (Eq.trans (I_ne (fx_ne fx (by decide))) (Eq.trans (I_ne (fx_ne fx (by decide))) (a8 _ (by have := i_eq ek3; have : (nI k3).toInt = ((k3 : Nat) : Int) := nI_toInt (by omega); have := i_rg i; have := i_nle c4; have : (nI ks).toInt = ((ks : Nat) : Int) := nI_toInt (by omega); have := i_nle c6; have : (60 : Int32).toInt = 60 := rfl; have := i_le c7; have := i_nlt c1; have : (0 : Int32).toInt = 0 := rfl; omega) (by have := i_eq ek3; have : (nI k3).toInt = ((k3 : Nat) : Int) := nI_toInt (by omega); have := i_rg i; have := i_nle c4; have : (nI ks).toInt = ((ks : Nat) : Int) := nI_toInt (by omega); have := i_nle c6; have : (60 : Int32).toInt = 60 := rfl; have := i_le c7; have := i_nlt c1; have : (0 : Int32).toInt = 0 := rfl; omega)).symm)) ?_
          refine r_goto (tg := 45) rfl rfl ?_
          refine r_iret rfl ?_
          exact ⟨rfl, Rel.why r ((Chg.rf.sI (fx_j fx) (.inl (by decide))).sI (fx_j fx) (.inl (by decide))) ⟨rfl, by decide⟩ (Eq.trans (Eq.trans (I_ne (fx_ne fx (by decide))) I_eq) (Eq.symm I_eq)), Nat.le_add_right _ _, Nat.le_add_right _ _⟩
        · refine r_aload rfl rfl ?_
          refine r_getI rfl ⟨rfl, rfl, rfl⟩ (fx_t30 fx) ?_
          refine WR_tI (y := nI ks) (Eq.trans (I_nk (by decide)) (Eq.trans (I_ne (fx_ne fx (by decide))) a7)) ?_
          refine r_goto (tg := 26) rfl rfl ?_
          refine r_ic (x := 1) rfl rfl ?_
          refine r_isub rfl ?_
          refine WR_tI (y := nI (ks - 1)) (Eq.trans (pk_sub (a := ks) (b := 1) (by have := i_nle c4; have : (nI k3).toInt = ((k3 : Nat) : Int) := nI_toInt (by omega); have : (nI ks).toInt = ((ks : Nat) : Int) := nI_toInt (by omega); have := i_nle c6; have : (60 : Int32).toInt = 60 := rfl; have := i_nle c7; have := i_eq ek3; have := i_rg i; have := i_nlt c1; have : (0 : Int32).toInt = 0 := rfl; omega)) (congrArg nI (by have := i_nle c4; have : (nI k3).toInt = ((k3 : Nat) : Int) := nI_toInt (by omega); have : (nI ks).toInt = ((ks : Nat) : Int) := nI_toInt (by omega); have := i_nle c6; have : (60 : Int32).toInt = 60 := rfl; have := i_nle c7; have := i_eq ek3; have := i_rg i; have := i_nlt c1; have : (0 : Int32).toInt = 0 := rfl; omega))) ?_
          refine r_i2l rfl ?_
          refine WR_tL (y := lN (ks - 1)) (nI_l (by have := i_nle c4; have : (nI k3).toInt = ((k3 : Nat) : Int) := nI_toInt (by omega); have : (nI ks).toInt = ((ks : Nat) : Int) := nI_toInt (by omega); have := i_nle c6; have : (60 : Int32).toInt = 60 := rfl; have := i_nle c7; have := i_eq ek3; have := i_rg i; have := i_nlt c1; have : (0 : Int32).toInt = 0 := rfl; omega)) ?_
          refine r_cs (y := 155) (ra := [.long (lN (ks - 1)), .long 0, .long (lN k3)]) (rest := []) rfl ⟨⟨rfl, rfl⟩, by decide⟩ rfl rfl (Nat.le_of_ble_eq_true rfl) ?_
          refine in_155 (Nat.le_of_ble_eq_true rfl) ?_
          show WR _ cd_155 0 [some (.long (lN k3)), none, some (.long 0), none, some (.long (lN (ks - 1))), none] [] (sI (sI h (ad 0) 6 0) (ad 30) 11 0) _
          refine r_lload rfl rfl ?_
          refine r_lload rfl rfl ?_
          refine r_lif_lt (tg := 17) rfl rfl rfl (fun q => False.elim (by have : (lN k3).toInt = ((k3 : Nat) : Int) := lN_toInt (by omega); have : (0 : Int64).toInt = 0 := rfl; have := i_eq ek3; have : (nI k3).toInt = ((k3 : Nat) : Int) := nI_toInt (by omega); have := i_rg i; have := i_nle c4; have : (nI ks).toInt = ((ks : Nat) : Int) := nI_toInt (by omega); have := i_nle c6; have : (60 : Int32).toInt = 60 := rfl; have := i_nle c7; have := i_nlt c1; have : (0 : Int32).toInt = 0 := rfl; have := l_lt q; omega)) (fun _ => ?_)
          refine r_lload rfl rfl ?_
          refine r_lload rfl rfl ?_
          refine r_lif_gt (tg := 17) rfl rfl rfl (fun q => False.elim (by have : (lN k3).toInt = ((k3 : Nat) : Int) := lN_toInt (by omega); have : (lN (ks - 1)).toInt = ((ks - 1 : Nat) : Int) := lN_toInt (by omega); have := i_eq ek3; have : (nI k3).toInt = ((k3 : Nat) : Int) := nI_toInt (by omega); have := i_rg i; have := i_nle c4; have : (nI ks).toInt = ((ks : Nat) : Int) := nI_toInt (by omega); have := i_nle c6; have : (60 : Int32).toInt = 60 := rfl; have := i_nle c7; have := i_nlt c1; have : (0 : Int32).toInt = 0 := rfl; have := l_lt q; omega)) (fun _ => ?_)
          refine r_ic (x := 1) rfl rfl ?_
          refine r_goto (tg := 18) rfl rfl ?_
          refine r_zret rfl (.inr rfl) ?_
          show WR _ cd_225 32 [some (.ref (ad 30)), some (.int i)] [.int 1] (sI (sI h (ad 0) 6 0) (ad 30) 11 0) _
          refine r_if_eq (tg := 44) rfl rfl (fun q => absurd q (by decide)) (fun _ => ?_)
          refine r_aload rfl rfl ?_
          refine r_getA (b := ad 53) rfl ⟨rfl, rfl, rfl⟩ (fx_t30 fx) (fx_r30_36 fx) ?_
          refine r_iload rfl rfl ?_
          refine WR_tI (y := nI k3) ek3 ?_
          refine r_iaload rfl (.inl (fx_t53 fx)) (vp_ct (fx_n53 fx) (vp_in_nI (by have := i_eq ek3; have : (nI k3).toInt = ((k3 : Nat) : Int) := nI_toInt (by omega); have := i_rg i; have := i_nle c4; have : (nI ks).toInt = ((ks : Nat) : Int) := nI_toInt (by omega); have := i_nle c6; have : (60 : Int32).toInt = 60 := rfl; have := i_nle c7; have := i_nlt c1; have : (0 : Int32).toInt = 0 := rfl; omega) (by omega))) ?_
          refine WR_tI (congrArg (hI (sI (sI h (ad 0) 6 0) (ad 30) 11 0) (ad 53)) ((nI_clamp (by have := i_eq ek3; have : (nI k3).toInt = ((k3 : Nat) : Int) := nI_toInt (by omega); have := i_rg i; have := i_nle c4; have : (nI ks).toInt = ((ks : Nat) : Int) := nI_toInt (by omega); have := i_nle c6; have : (60 : Int32).toInt = 60 := rfl; have := i_nle c7; have := i_nlt c1; have : (0 : Int32).toInt = 0 := rfl; omega)) : _ = k3)) ?_
          refine WR_tI (y := hI h (ad 12) k3) (Eq.trans (I_ne (fx_ne fx (by decide))) (Eq.trans (I_ne (fx_ne fx (by decide))) (a8 _ (by have := i_eq ek3; have : (nI k3).toInt = ((k3 : Nat) : Int) := nI_toInt (by omega); have := i_rg i; have := i_nle c4; have : (nI ks).toInt = ((ks : Nat) : Int) := nI_toInt (by omega); have := i_nle c6; have : (60 : Int32).toInt = 60 := rfl; have := i_nle c7; have := i_nlt c1; have : (0 : Int32).toInt = 0 := rfl; omega) (by have := i_eq ek3; have : (nI k3).toInt = ((k3 : Nat) : Int) := nI_toInt (by omega); have := i_rg i; have := i_nle c4; have : (nI ks).toInt = ((ks : Nat) : Int) := nI_toInt (by omega); have := i_nle c6; have : (60 : Int32).toInt = 60 := rfl; have := i_nle c7; have := i_nlt c1; have : (0 : Int32).toInt = 0 := rfl; omega)).symm)) ?_
          refine r_goto (tg := 45) rfl rfl ?_
          refine r_iret rfl ?_
          exact ⟨rfl, Rel.why r ((Chg.rf.sI (fx_j fx) (.inl (by decide))).sI (fx_j fx) (.inl (by decide))) ⟨rfl, by decide⟩ (Eq.trans (Eq.trans (I_ne (fx_ne fx (by decide))) I_eq) (Eq.symm I_eq)), Nat.le_add_right _ _, Nat.le_add_right _ _⟩

set_option maxHeartbeats 2000000 in
theorem k_finding {n : Nat} {ad sa : Nat → Nat} {z0 : Nat} {h : mH} (r : Rel n ad sa z0 h) (i : Int32) (w : Int32) : AP n ad sa z0 h 145 247 [.int i, .int w] := by
  obtain ⟨mid, pa, np, fx, ry, rt, ra, rp, rf, rst, ru, rs⟩ := id r
  have fx0 := fx
  obtain ⟨⟨kf, hkf, f1, f2, f3⟩, f4, ⟨f5, f6⟩, f7, f8⟩ := id rf
  unfold AP
  refine in_145 (Nat.le_of_ble_eq_true rfl) ?_
  show WR _ cd_145 0 [some (.ref (ad 0)), some (.int i), some (.int w)] [] h _
  refine r_aload rfl rfl ?_
  refine r_ic (x := 0) rfl rfl ?_
  refine r_putI rfl ⟨rfl, rfl, rfl⟩ (fx_t0 fx) ?_
  refine r_iload rfl rfl ?_
  refine r_if_lt (tg := 14) rfl rfl (fun c1 => ?_) (fun c1 => ?_)
  · refine r_aload rfl rfl ?_
    refine r_ic (x := (-3)) rfl rfl ?_
    refine r_cv (y := 13) (ra := [.int (-3)]) (rest := []) rfl ⟨⟨rfl, rfl⟩, rfl, by decide⟩ (fx_t0 fx) rfl rfl (Nat.le_of_ble_eq_true rfl) ?_
    refine in_13 (Nat.le_of_ble_eq_true rfl) ?_
    show WR _ cd_13 0 [some (.ref (ad 0)), some (.int (-3))] [] (sI h (ad 0) 6 0) _
    refine r_aload rfl rfl ?_
    refine r_iload rfl rfl ?_
    refine r_putI rfl ⟨rfl, rfl, rfl⟩ (fx_t0 fx) ?_
    refine r_iload rfl rfl ?_
    refine r_iret rfl ?_
    show WR _ cd_145 20 [some (.ref (ad 0)), some (.int i), some (.int w)] [.int (-3)] (sI (sI h (ad 0) 6 0) (ad 0) 6 (-3)) _
    refine r_iret rfl ?_
    show EV _ 247 [.ref (ad 30), .int i, .int w] (sI (sI h (ad 0) 6 0) (ad 0) 6 (-3)) _
    refine in_247 (Nat.le_of_ble_eq_true rfl) ?_
    show WR _ cd_247 0 [some (.ref (ad 30)), some (.int i), some (.int w)] [] (sI (sI h (ad 0) 6 0) (ad 0) 6 (-3)) _
    refine r_iload rfl rfl ?_
    refine r_i2l rfl ?_
    refine r_lc (x := 0) rfl rfl ?_
    refine r_ldc (x := .long 3) rfl rfl ?_
    refine r_cs (y := 155) (ra := [.long 3, .long 0, .long w.toInt64]) (rest := []) rfl ⟨⟨rfl, rfl⟩, by decide⟩ rfl rfl (Nat.le_of_ble_eq_true rfl) ?_
    refine in_155 (Nat.le_of_ble_eq_true rfl) ?_
    show WR _ cd_155 0 [some (.long w.toInt64), none, some (.long 0), none, some (.long 3), none] [] (sI (sI h (ad 0) 6 0) (ad 0) 6 (-3)) _
    refine r_lload rfl rfl ?_
    refine r_lload rfl rfl ?_
    refine r_lif_lt (tg := 17) rfl rfl rfl (fun _ => ?_) (fun q => False.elim (by have := i_rg w; have := w_t w; have : (0 : Int64).toInt = 0 := rfl; have := i_lt c1; have : (0 : Int32).toInt = 0 := rfl; have := l_nlt q; omega))
    refine r_ic (x := 0) rfl rfl ?_
    refine r_zret rfl (.inl rfl) ?_
    show WR _ cd_247 9 [some (.ref (ad 30)), some (.int i), some (.int w)] [.int 0] (sI (sI h (ad 0) 6 0) (ad 0) 6 (-3)) _
    refine r_if_ne (tg := 19) rfl rfl (fun q => absurd q (by decide)) (fun _ => ?_)
    refine r_aload rfl rfl ?_
    refine r_ic (x := (-3)) rfl rfl ?_
    refine r_cv (y := 154) (ra := [.int (-3)]) (rest := []) rfl ⟨⟨rfl, rfl⟩, rfl, by decide⟩ (fx_t30 fx) rfl rfl (Nat.le_of_ble_eq_true rfl) ?_
    refine in_154 (Nat.le_of_ble_eq_true rfl) ?_
    show WR _ cd_154 0 [some (.ref (ad 30)), some (.int (-3))] [] (sI (sI h (ad 0) 6 0) (ad 0) 6 (-3)) _
    refine r_aload rfl rfl ?_
    refine r_iload rfl rfl ?_
    refine r_ic (x := (-1)) rfl rfl ?_
    refine r_icmp_ge (tg := 10) rfl rfl (fun q => absurd q (by decide)) (fun _ => ?_)
    refine r_iload rfl rfl ?_
    refine r_goto (tg := 11) rfl rfl ?_
    refine r_putI rfl ⟨rfl, rfl, rfl⟩ (fx_t30 fx) ?_
    refine r_iload rfl rfl ?_
    refine r_iret rfl ?_
    show WR _ cd_247 18 [some (.ref (ad 30)), some (.int i), some (.int w)] [.int (-3)] (sI (sI (sI h (ad 0) 6 0) (ad 0) 6 (-3)) (ad 30) 11 (-3)) _
    refine r_iret rfl ?_
    exact ⟨rfl, Rel.why r (((Chg.rf.sI (fx_j fx) (.inl (by decide))).sI (fx_j fx) (.inl (by decide))).sI (fx_j fx) (.inl (by decide))) ⟨rfl, by decide⟩ (Eq.trans (Eq.trans (I_ne (fx_ne fx (by decide))) I_eq) (Eq.symm I_eq)), Nat.le_add_right _ _, Nat.le_add_right _ _⟩
  · obtain ⟨k2, hk2, ek2⟩ := ix_of (x := w) (n := 2147483648) (by have := i_rg w; have := i_nlt c1; have : (0 : Int32).toInt = 0 := rfl; omega) (by have := i_rg w; have := i_nlt c1; have : (0 : Int32).toInt = 0 := rfl; omega)
    refine r_iload rfl rfl ?_
    refine WR_tI (y := nI k2) ek2 ?_
    refine r_ic (x := 3) rfl rfl ?_
    refine r_icmp_le (tg := 21) rfl rfl (fun c3 => ?_) (fun c3 => ?_)
    · refine r_iload rfl rfl ?_
      refine r_if_lt (tg := 52) rfl rfl (fun c4 => ?_) (fun c4 => ?_)
      · refine r_ic (x := (-1)) rfl rfl ?_
        refine r_iret rfl ?_
        show EV _ 247 [.ref (ad 30), .int i, .int w] (sI h (ad 0) 6 0) _
        refine in_247 (Nat.le_of_ble_eq_true rfl) ?_
        show WR _ cd_247 0 [some (.ref (ad 30)), some (.int i), some (.int w)] [] (sI h (ad 0) 6 0) _
        refine r_iload rfl rfl ?_
        refine WR_tI (y := nI k2) ek2 ?_
        refine r_i2l rfl ?_
        refine WR_tL (y := lN k2) (nI_l (by have := i_eq ek2; have : (nI k2).toInt = ((k2 : Nat) : Int) := nI_toInt (by omega); have := i_rg w; have := i_le c3; have : (3 : Int32).toInt = 3 := rfl; have := i_nlt c1; have : (0 : Int32).toInt = 0 := rfl; omega)) ?_
        refine r_lc (x := 0) rfl rfl ?_
        refine r_ldc (x := .long 3) rfl rfl ?_
        refine r_cs (y := 155) (ra := [.long 3, .long 0, .long (lN k2)]) (rest := []) rfl ⟨⟨rfl, rfl⟩, by decide⟩ rfl rfl (Nat.le_of_ble_eq_true rfl) ?_
        refine in_155 (Nat.le_of_ble_eq_true rfl) ?_
        show WR _ cd_155 0 [some (.long (lN k2)), none, some (.long 0), none, some (.long 3), none] [] (sI h (ad 0) 6 0) _
        refine r_lload rfl rfl ?_
        refine r_lload rfl rfl ?_
        refine r_lif_lt (tg := 17) rfl rfl rfl (fun q => False.elim (by have : (lN k2).toInt = ((k2 : Nat) : Int) := lN_toInt (by omega); have : (0 : Int64).toInt = 0 := rfl; have := i_eq ek2; have : (nI k2).toInt = ((k2 : Nat) : Int) := nI_toInt (by omega); have := i_rg w; have := i_le c3; have : (3 : Int32).toInt = 3 := rfl; have := i_nlt c1; have : (0 : Int32).toInt = 0 := rfl; have := l_lt q; omega)) (fun _ => ?_)
        refine r_lload rfl rfl ?_
        refine r_lload rfl rfl ?_
        refine r_lif_gt (tg := 17) rfl rfl rfl (fun q => False.elim (by have : (lN k2).toInt = ((k2 : Nat) : Int) := lN_toInt (by omega); have : (3 : Int64).toInt = 3 := rfl; have := i_eq ek2; have : (nI k2).toInt = ((k2 : Nat) : Int) := nI_toInt (by omega); have := i_rg w; have := i_le c3; have : (3 : Int32).toInt = 3 := rfl; have := i_nlt c1; have : (0 : Int32).toInt = 0 := rfl; have := l_lt q; omega)) (fun _ => ?_)
        refine r_ic (x := 1) rfl rfl ?_
        refine r_goto (tg := 18) rfl rfl ?_
        refine r_zret rfl (.inr rfl) ?_
        show WR _ cd_247 9 [some (.ref (ad 30)), some (.int i), some (.int w)] [.int 1] (sI h (ad 0) 6 0) _
        refine r_if_ne (tg := 19) rfl rfl (fun _ => ?_) (fun q => absurd q (by decide))
        refine r_aload rfl rfl ?_
        refine r_ic (x := 0) rfl rfl ?_
        refine r_putI rfl ⟨rfl, rfl, rfl⟩ (fx_t30 fx) ?_
        refine r_iload rfl rfl ?_
        refine r_i2l rfl ?_
        refine r_lc (x := 0) rfl rfl ?_
        refine r_aload rfl rfl ?_
        refine r_getI rfl ⟨rfl, rfl, rfl⟩ (fx_t30 fx) ?_
        refine WR_tI (y := nI kf) (Eq.trans (I_nk (by decide)) (Eq.trans (I_ne (fx_ne fx (by decide))) f2)) ?_
        refine r_ic (x := 1) rfl rfl ?_
        refine r_isub rfl ?_
        refine r_i2l rfl ?_
        refine r_cs (y := 155) (ra := [.long (((nI kf) - 1).toInt64), .long 0, .long i.toInt64]) (rest := []) rfl ⟨⟨rfl, rfl⟩, by decide⟩ rfl rfl (Nat.le_of_ble_eq_true rfl) ?_
        refine in_155 (Nat.le_of_ble_eq_true rfl) ?_
        show WR _ cd_155 0 [some (.long i.toInt64), none, some (.long 0), none, some (.long (((nI kf) - 1).toInt64)), none] [] (sI (sI h (ad 0) 6 0) (ad 30) 11 0) _
        refine r_lload rfl rfl ?_
        refine r_lload rfl rfl ?_
        refine r_lif_lt (tg := 17) rfl rfl rfl (fun _ => ?_) (fun q => False.elim (by have := i_rg i; have := w_t i; have : (0 : Int64).toInt = 0 := rfl; have := i_lt c4; have : (0 : Int32).toInt = 0 := rfl; have := l_nlt q; omega))
        refine r_ic (x := 0) rfl rfl ?_
        refine r_zret rfl (.inl rfl) ?_
        show WR _ cd_247 37 [some (.ref (ad 30)), some (.int i), some (.int w)] [.int 0] (sI (sI h (ad 0) 6 0) (ad 30) 11 0) _
        refine r_if_eq (tg := 53) rfl rfl (fun _ => ?_) (fun q => absurd q (by decide))
        refine r_ic (x := (-1)) rfl rfl ?_
        refine r_iret rfl ?_
        exact ⟨rfl, Rel.why r ((Chg.rf.sI (fx_j fx) (.inl (by decide))).sI (fx_j fx) (.inl (by decide))) ⟨rfl, by decide⟩ (Eq.trans (Eq.trans (I_ne (fx_ne fx (by decide))) I_eq) (Eq.symm I_eq)), Nat.le_add_right _ _, Nat.le_add_right _ _⟩
      · obtain ⟨k5, hk5, ek5⟩ := ix_of (x := i) (n := 2147483648) (by have := i_rg i; have := i_nlt c4; have : (0 : Int32).toInt = 0 := rfl; omega) (by have := i_rg i; have := i_nlt c4; have : (0 : Int32).toInt = 0 := rfl; omega)
        refine r_iload rfl rfl ?_
        refine WR_tI (y := nI k5) ek5 ?_
        refine r_aload rfl rfl ?_
        refine r_getA (b := ad 4) rfl ⟨rfl, rfl, rfl⟩ (fx_t0 fx) (fx_r0_2 fx) ?_
        refine r_getI rfl ⟨rfl, rfl, rfl⟩ (fx_t4 fx) ?_
        refine WR_tI (y := nI kf) (Eq.trans (I_ne (fx_ne fx (by decide))) f1) ?_
        refine r_icmp_ge (tg := 52) rfl rfl (fun c6 => ?_) (fun c6 => ?_)
        · refine r_ic (x := (-1)) rfl rfl ?_
          refine r_iret rfl ?_
          show EV _ 247 [.ref (ad 30), .int i, .int w] (sI h (ad 0) 6 0) _
          refine in_247 (Nat.le_of_ble_eq_true rfl) ?_
          show WR _ cd_247 0 [some (.ref (ad 30)), some (.int i), some (.int w)] [] (sI h (ad 0) 6 0) _
          refine r_iload rfl rfl ?_
          refine WR_tI (y := nI k2) ek2 ?_
          refine r_i2l rfl ?_
          refine WR_tL (y := lN k2) (nI_l (by have := i_eq ek2; have : (nI k2).toInt = ((k2 : Nat) : Int) := nI_toInt (by omega); have := i_rg w; have := i_le c3; have : (3 : Int32).toInt = 3 := rfl; have := i_nlt c1; have : (0 : Int32).toInt = 0 := rfl; omega)) ?_
          refine r_lc (x := 0) rfl rfl ?_
          refine r_ldc (x := .long 3) rfl rfl ?_
          refine r_cs (y := 155) (ra := [.long 3, .long 0, .long (lN k2)]) (rest := []) rfl ⟨⟨rfl, rfl⟩, by decide⟩ rfl rfl (Nat.le_of_ble_eq_true rfl) ?_
          refine in_155 (Nat.le_of_ble_eq_true rfl) ?_
          show WR _ cd_155 0 [some (.long (lN k2)), none, some (.long 0), none, some (.long 3), none] [] (sI h (ad 0) 6 0) _
          refine r_lload rfl rfl ?_
          refine r_lload rfl rfl ?_
          refine r_lif_lt (tg := 17) rfl rfl rfl (fun q => False.elim (by have : (lN k2).toInt = ((k2 : Nat) : Int) := lN_toInt (by omega); have : (0 : Int64).toInt = 0 := rfl; have := i_eq ek2; have : (nI k2).toInt = ((k2 : Nat) : Int) := nI_toInt (by omega); have := i_rg w; have := i_le c3; have : (3 : Int32).toInt = 3 := rfl; have := i_nlt c1; have : (0 : Int32).toInt = 0 := rfl; have := l_lt q; omega)) (fun _ => ?_)
          refine r_lload rfl rfl ?_
          refine r_lload rfl rfl ?_
          refine r_lif_gt (tg := 17) rfl rfl rfl (fun q => False.elim (by have : (lN k2).toInt = ((k2 : Nat) : Int) := lN_toInt (by omega); have : (3 : Int64).toInt = 3 := rfl; have := i_eq ek2; have : (nI k2).toInt = ((k2 : Nat) : Int) := nI_toInt (by omega); have := i_rg w; have := i_le c3; have : (3 : Int32).toInt = 3 := rfl; have := i_nlt c1; have : (0 : Int32).toInt = 0 := rfl; have := l_lt q; omega)) (fun _ => ?_)
          refine r_ic (x := 1) rfl rfl ?_
          refine r_goto (tg := 18) rfl rfl ?_
          refine r_zret rfl (.inr rfl) ?_
          show WR _ cd_247 9 [some (.ref (ad 30)), some (.int i), some (.int w)] [.int 1] (sI h (ad 0) 6 0) _
          refine r_if_ne (tg := 19) rfl rfl (fun _ => ?_) (fun q => absurd q (by decide))
          refine r_aload rfl rfl ?_
          refine r_ic (x := 0) rfl rfl ?_
          refine r_putI rfl ⟨rfl, rfl, rfl⟩ (fx_t30 fx) ?_
          refine r_iload rfl rfl ?_
          refine WR_tI (y := nI k5) ek5 ?_
          refine r_i2l rfl ?_
          refine WR_tL (y := lN k5) (nI_l (by have := i_eq ek5; have : (nI k5).toInt = ((k5 : Nat) : Int) := nI_toInt (by omega); have := i_rg i; have := i_le c6; have : (nI kf).toInt = ((kf : Nat) : Int) := nI_toInt (by omega); have := i_nlt c4; have : (0 : Int32).toInt = 0 := rfl; omega)) ?_
          refine r_lc (x := 0) rfl rfl ?_
          refine r_aload rfl rfl ?_
          refine r_getI rfl ⟨rfl, rfl, rfl⟩ (fx_t30 fx) ?_
          refine WR_tI (y := nI kf) (Eq.trans (I_nk (by decide)) (Eq.trans (I_ne (fx_ne fx (by decide))) f2)) ?_
          refine r_ic (x := 1) rfl rfl ?_
          refine r_isub rfl ?_
          refine r_i2l rfl ?_
          refine r_cs (y := 155) (ra := [.long (((nI kf) - 1).toInt64), .long 0, .long (lN k5)]) (rest := []) rfl ⟨⟨rfl, rfl⟩, by decide⟩ rfl rfl (Nat.le_of_ble_eq_true rfl) ?_
          refine in_155 (Nat.le_of_ble_eq_true rfl) ?_
          show WR _ cd_155 0 [some (.long (lN k5)), none, some (.long 0), none, some (.long (((nI kf) - 1).toInt64)), none] [] (sI (sI h (ad 0) 6 0) (ad 30) 11 0) _
          refine r_lload rfl rfl ?_
          refine r_lload rfl rfl ?_
          refine r_lif_lt (tg := 17) rfl rfl rfl (fun q => False.elim (by have : (lN k5).toInt = ((k5 : Nat) : Int) := lN_toInt (by omega); have : (0 : Int64).toInt = 0 := rfl; have := i_eq ek5; have : (nI k5).toInt = ((k5 : Nat) : Int) := nI_toInt (by omega); have := i_rg i; have := i_le c6; have : (nI kf).toInt = ((kf : Nat) : Int) := nI_toInt (by omega); have := i_nlt c4; have : (0 : Int32).toInt = 0 := rfl; have := l_lt q; omega)) (fun _ => ?_)
          refine r_lload rfl rfl ?_
          refine r_lload rfl rfl ?_
          refine r_lif_gt (tg := 17) rfl rfl rfl (fun _ => ?_) (fun q => False.elim (by have : (lN k5).toInt = ((k5 : Nat) : Int) := lN_toInt (by omega); have : (nI kf).toInt = ((kf : Nat) : Int) := nI_toInt (by omega); have : (1 : Int32).toInt = 1 := rfl; have := sub_t (x := nI kf) (y := 1) (by have : (nI kf).toInt = ((kf : Nat) : Int) := nI_toInt (by omega); have : (1 : Int32).toInt = 1 := rfl; have := i_le c6; have : (nI k5).toInt = ((k5 : Nat) : Int) := nI_toInt (by omega); have := i_eq ek5; have := i_rg i; have := i_nlt c4; have : (0 : Int32).toInt = 0 := rfl; omega) (by have : (nI kf).toInt = ((kf : Nat) : Int) := nI_toInt (by omega); have : (1 : Int32).toInt = 1 := rfl; have := i_le c6; have : (nI k5).toInt = ((k5 : Nat) : Int) := nI_toInt (by omega); have := i_eq ek5; have := i_rg i; have := i_nlt c4; have : (0 : Int32).toInt = 0 := rfl; omega); have := w_t ((nI kf) - 1); have := i_eq ek5; have : (nI k5).toInt = ((k5 : Nat) : Int) := nI_toInt (by omega); have := i_rg i; have := i_le c6; have := i_nlt c4; have : (0 : Int32).toInt = 0 := rfl; have := l_nlt q; omega))
          refine r_ic (x := 0) rfl rfl ?_
          refine r_zret rfl (.inl rfl) ?_
          show WR _ cd_247 37 [some (.ref (ad 30)), some (.int i), some (.int w)] [.int 0] (sI (sI h (ad 0) 6 0) (ad 30) 11 0) _
          refine r_if_eq (tg := 53) rfl rfl (fun _ => ?_) (fun q => absurd q (by decide))
          refine r_ic (x := (-1)) rfl rfl ?_
          refine r_iret rfl ?_
          exact ⟨rfl, Rel.why r ((Chg.rf.sI (fx_j fx) (.inl (by decide))).sI (fx_j fx) (.inl (by decide))) ⟨rfl, by decide⟩ (Eq.trans (Eq.trans (I_ne (fx_ne fx (by decide))) I_eq) (Eq.symm I_eq)), Nat.le_add_right _ _, Nat.le_add_right _ _⟩
        · refine r_aload rfl rfl ?_
          refine r_getA (b := ad 4) rfl ⟨rfl, rfl, rfl⟩ (fx_t0 fx) (fx_r0_2 fx) ?_
          refine r_getA (b := ad 5) rfl ⟨rfl, rfl, rfl⟩ (fx_t4 fx) (fx_r4_1 fx) ?_
          refine r_iload rfl rfl ?_
          refine WR_tI (y := nI k5) ek5 ?_
          refine r_ic (x := 4) rfl rfl ?_
          refine r_imul rfl ?_
          refine WR_tI (y := nI (4 * k5)) (Eq.trans (pk_mul k5 4) (congrArg nI (by have := i_eq ek5; have : (nI k5).toInt = ((k5 : Nat) : Int) := nI_toInt (by omega); have := i_rg i; have := i_nle c6; have : (nI kf).toInt = ((kf : Nat) : Int) := nI_toInt (by omega); have := i_nlt c4; have : (0 : Int32).toInt = 0 := rfl; omega))) ?_
          refine r_iload rfl rfl ?_
          refine WR_tI (y := nI k2) ek2 ?_
          refine r_iadd rfl ?_
          refine WR_tI (y := nI (4 * k5 + k2)) (Eq.trans (nI_add (4 * k5) k2) (congrArg nI (by have := i_eq ek2; have : (nI k2).toInt = ((k2 : Nat) : Int) := nI_toInt (by omega); have := i_rg w; have := i_le c3; have : (3 : Int32).toInt = 3 := rfl; have := i_eq ek5; have : (nI k5).toInt = ((k5 : Nat) : Int) := nI_toInt (by omega); have := i_rg i; have := i_nle c6; have : (nI kf).toInt = ((kf : Nat) : Int) := nI_toInt (by omega); have := i_nlt c1; have : (0 : Int32).toInt = 0 := rfl; have := i_nlt c4; omega))) ?_
          refine r_iaload rfl (.inl (fx_t5 fx)) (vp_ct (fx_n5 fx) (vp_in_nI (by have := i_eq ek2; have : (nI k2).toInt = ((k2 : Nat) : Int) := nI_toInt (by omega); have := i_rg w; have := i_le c3; have : (3 : Int32).toInt = 3 := rfl; have := i_eq ek5; have : (nI k5).toInt = ((k5 : Nat) : Int) := nI_toInt (by omega); have := i_rg i; have := i_nle c6; have : (nI kf).toInt = ((kf : Nat) : Int) := nI_toInt (by omega); have := i_nlt c1; have : (0 : Int32).toInt = 0 := rfl; have := i_nlt c4; omega) (by omega))) ?_
          refine WR_tI (congrArg (hI (sI h (ad 0) 6 0) (ad 5)) ((nI_clamp (by have := i_eq ek2; have : (nI k2).toInt = ((k2 : Nat) : Int) := nI_toInt (by omega); have := i_rg w; have := i_le c3; have : (3 : Int32).toInt = 3 := rfl; have := i_eq ek5; have : (nI k5).toInt = ((k5 : Nat) : Int) := nI_toInt (by omega); have := i_rg i; have := i_nle c6; have : (nI kf).toInt = ((kf : Nat) : Int) := nI_toInt (by omega); have := i_nlt c1; have : (0 : Int32).toInt = 0 := rfl; have := i_nlt c4; omega)) : _ = 4 * k5 + k2)) ?_
          refine WR_tI (y := hI h (ad 5) (4 * k5 + k2)) (I_ne (fx_ne fx (by decide))) ?_
          refine r_goto (tg := 53) rfl rfl ?_
          refine r_iret rfl ?_
          show EV _ 247 [.ref (ad 30), .int i, .int w] (sI h (ad 0) 6 0) _
          refine in_247 (Nat.le_of_ble_eq_true rfl) ?_
          show WR _ cd_247 0 [some (.ref (ad 30)), some (.int i), some (.int w)] [] (sI h (ad 0) 6 0) _
          refine r_iload rfl rfl ?_
          refine WR_tI (y := nI k2) ek2 ?_
          refine r_i2l rfl ?_
          refine WR_tL (y := lN k2) (nI_l (by have := i_eq ek2; have : (nI k2).toInt = ((k2 : Nat) : Int) := nI_toInt (by omega); have := i_rg w; have := i_le c3; have : (3 : Int32).toInt = 3 := rfl; have := i_nlt c1; have : (0 : Int32).toInt = 0 := rfl; omega)) ?_
          refine r_lc (x := 0) rfl rfl ?_
          refine r_ldc (x := .long 3) rfl rfl ?_
          refine r_cs (y := 155) (ra := [.long 3, .long 0, .long (lN k2)]) (rest := []) rfl ⟨⟨rfl, rfl⟩, by decide⟩ rfl rfl (Nat.le_of_ble_eq_true rfl) ?_
          refine in_155 (Nat.le_of_ble_eq_true rfl) ?_
          show WR _ cd_155 0 [some (.long (lN k2)), none, some (.long 0), none, some (.long 3), none] [] (sI h (ad 0) 6 0) _
          refine r_lload rfl rfl ?_
          refine r_lload rfl rfl ?_
          refine r_lif_lt (tg := 17) rfl rfl rfl (fun q => False.elim (by have : (lN k2).toInt = ((k2 : Nat) : Int) := lN_toInt (by omega); have : (0 : Int64).toInt = 0 := rfl; have := i_eq ek2; have : (nI k2).toInt = ((k2 : Nat) : Int) := nI_toInt (by omega); have := i_rg w; have := i_le c3; have : (3 : Int32).toInt = 3 := rfl; have := i_nlt c1; have : (0 : Int32).toInt = 0 := rfl; have := l_lt q; omega)) (fun _ => ?_)
          refine r_lload rfl rfl ?_
          refine r_lload rfl rfl ?_
          refine r_lif_gt (tg := 17) rfl rfl rfl (fun q => False.elim (by have : (lN k2).toInt = ((k2 : Nat) : Int) := lN_toInt (by omega); have : (3 : Int64).toInt = 3 := rfl; have := i_eq ek2; have : (nI k2).toInt = ((k2 : Nat) : Int) := nI_toInt (by omega); have := i_rg w; have := i_le c3; have : (3 : Int32).toInt = 3 := rfl; have := i_nlt c1; have : (0 : Int32).toInt = 0 := rfl; have := l_lt q; omega)) (fun _ => ?_)
          refine r_ic (x := 1) rfl rfl ?_
          refine r_goto (tg := 18) rfl rfl ?_
          refine r_zret rfl (.inr rfl) ?_
          show WR _ cd_247 9 [some (.ref (ad 30)), some (.int i), some (.int w)] [.int 1] (sI h (ad 0) 6 0) _
          refine r_if_ne (tg := 19) rfl rfl (fun _ => ?_) (fun q => absurd q (by decide))
          refine r_aload rfl rfl ?_
          refine r_ic (x := 0) rfl rfl ?_
          refine r_putI rfl ⟨rfl, rfl, rfl⟩ (fx_t30 fx) ?_
          refine r_iload rfl rfl ?_
          refine WR_tI (y := nI k5) ek5 ?_
          refine r_i2l rfl ?_
          refine WR_tL (y := lN k5) (nI_l (by have := i_eq ek5; have : (nI k5).toInt = ((k5 : Nat) : Int) := nI_toInt (by omega); have := i_rg i; have := i_nle c6; have : (nI kf).toInt = ((kf : Nat) : Int) := nI_toInt (by omega); have := i_nlt c4; have : (0 : Int32).toInt = 0 := rfl; omega)) ?_
          refine r_lc (x := 0) rfl rfl ?_
          refine r_aload rfl rfl ?_
          refine r_getI rfl ⟨rfl, rfl, rfl⟩ (fx_t30 fx) ?_
          refine WR_tI (y := nI kf) (Eq.trans (I_nk (by decide)) (Eq.trans (I_ne (fx_ne fx (by decide))) f2)) ?_
          refine r_ic (x := 1) rfl rfl ?_
          refine r_isub rfl ?_
          refine WR_tI (y := nI (kf - 1)) (Eq.trans (pk_sub (a := kf) (b := 1) (by have := i_nle c6; have : (nI k5).toInt = ((k5 : Nat) : Int) := nI_toInt (by omega); have : (nI kf).toInt = ((kf : Nat) : Int) := nI_toInt (by omega); have := i_eq ek5; have := i_rg i; have := i_nlt c4; have : (0 : Int32).toInt = 0 := rfl; omega)) (congrArg nI (by have := i_nle c6; have : (nI k5).toInt = ((k5 : Nat) : Int) := nI_toInt (by omega); have : (nI kf).toInt = ((kf : Nat) : Int) := nI_toInt (by omega); have := i_eq ek5; have := i_rg i; have := i_nlt c4; have : (0 : Int32).toInt = 0 := rfl; omega))) ?_
          refine r_i2l rfl ?_
          refine WR_tL (y := lN (kf - 1)) (nI_l (by have := i_nle c6; have : (nI k5).toInt = ((k5 : Nat) : Int) := nI_toInt (by omega); have : (nI kf).toInt = ((kf : Nat) : Int) := nI_toInt (by omega); have := i_eq ek5; have := i_rg i; have := i_nlt c4; have : (0 : Int32).toInt = 0 := rfl; omega)) ?_
          refine r_cs (y := 155) (ra := [.long (lN (kf - 1)), .long 0, .long (lN k5)]) (rest := []) rfl ⟨⟨rfl, rfl⟩, by decide⟩ rfl rfl (Nat.le_of_ble_eq_true rfl) ?_
          refine in_155 (Nat.le_of_ble_eq_true rfl) ?_
          show WR _ cd_155 0 [some (.long (lN k5)), none, some (.long 0), none, some (.long (lN (kf - 1))), none] [] (sI (sI h (ad 0) 6 0) (ad 30) 11 0) _
          refine r_lload rfl rfl ?_
          refine r_lload rfl rfl ?_
          refine r_lif_lt (tg := 17) rfl rfl rfl (fun q => False.elim (by have : (lN k5).toInt = ((k5 : Nat) : Int) := lN_toInt (by omega); have : (0 : Int64).toInt = 0 := rfl; have := i_eq ek5; have : (nI k5).toInt = ((k5 : Nat) : Int) := nI_toInt (by omega); have := i_rg i; have := i_nle c6; have : (nI kf).toInt = ((kf : Nat) : Int) := nI_toInt (by omega); have := i_nlt c4; have : (0 : Int32).toInt = 0 := rfl; have := l_lt q; omega)) (fun _ => ?_)
          refine r_lload rfl rfl ?_
          refine r_lload rfl rfl ?_
          refine r_lif_gt (tg := 17) rfl rfl rfl (fun q => False.elim (by have : (lN k5).toInt = ((k5 : Nat) : Int) := lN_toInt (by omega); have : (lN (kf - 1)).toInt = ((kf - 1 : Nat) : Int) := lN_toInt (by omega); have := i_eq ek5; have : (nI k5).toInt = ((k5 : Nat) : Int) := nI_toInt (by omega); have := i_rg i; have := i_nle c6; have : (nI kf).toInt = ((kf : Nat) : Int) := nI_toInt (by omega); have := i_nlt c4; have : (0 : Int32).toInt = 0 := rfl; have := l_lt q; omega)) (fun _ => ?_)
          refine r_ic (x := 1) rfl rfl ?_
          refine r_goto (tg := 18) rfl rfl ?_
          refine r_zret rfl (.inr rfl) ?_
          show WR _ cd_247 37 [some (.ref (ad 30)), some (.int i), some (.int w)] [.int 1] (sI (sI h (ad 0) 6 0) (ad 30) 11 0) _
          refine r_if_eq (tg := 53) rfl rfl (fun q => absurd q (by decide)) (fun _ => ?_)
          refine r_aload rfl rfl ?_
          refine r_getA (b := ad 74) rfl ⟨rfl, rfl, rfl⟩ (fx_t30 fx) (fx_r30_66 fx) ?_
          refine r_ic (x := 4) rfl rfl ?_
          refine r_iload rfl rfl ?_
          refine WR_tI (y := nI k5) ek5 ?_
          refine r_imul rfl ?_
          refine WR_tI (y := nI (4 * k5)) (Eq.trans (pk_mul 4 k5) (congrArg nI (by have := i_eq ek5; have : (nI k5).toInt = ((k5 : Nat) : Int) := nI_toInt (by omega); have := i_rg i; have := i_nle c6; have : (nI kf).toInt = ((kf : Nat) : Int) := nI_toInt (by omega); have := i_nlt c4; have : (0 : Int32).toInt = 0 := rfl; omega))) ?_
          refine r_iload rfl rfl ?_
          refine WR_tI (y := nI k2) ek2 ?_
          refine r_iadd rfl ?_
          refine WR_tI (y := nI (4 * k5 + k2)) (Eq.trans (nI_add (4 * k5) k2) (congrArg nI (by have := i_eq ek2; have : (nI k2).toInt = ((k2 : Nat) : Int) := nI_toInt (by omega); have := i_rg w; have := i_le c3; have : (3 : Int32).toInt = 3 := rfl; have := i_eq ek5; have : (nI k5).toInt = ((k5 : Nat) : Int) := nI_toInt (by omega); have := i_rg i; have := i_nle c6; have : (nI kf).toInt = ((kf : Nat) : Int) := nI_toInt (by omega); have := i_nlt c1; have : (0 : Int32).toInt = 0 := rfl; have := i_nlt c4; omega))) ?_
          refine r_iaload rfl (.inl (fx_t74 fx)) (vp_ct (fx_n74 fx) (vp_in_nI (by have := i_eq ek2; have : (nI k2).toInt = ((k2 : Nat) : Int) := nI_toInt (by omega); have := i_rg w; have := i_le c3; have : (3 : Int32).toInt = 3 := rfl; have := i_eq ek5; have : (nI k5).toInt = ((k5 : Nat) : Int) := nI_toInt (by omega); have := i_rg i; have := i_nle c6; have : (nI kf).toInt = ((kf : Nat) : Int) := nI_toInt (by omega); have := i_nlt c1; have : (0 : Int32).toInt = 0 := rfl; have := i_nlt c4; omega) (by omega))) ?_
          refine WR_tI (congrArg (hI (sI (sI h (ad 0) 6 0) (ad 30) 11 0) (ad 74)) ((nI_clamp (by have := i_eq ek2; have : (nI k2).toInt = ((k2 : Nat) : Int) := nI_toInt (by omega); have := i_rg w; have := i_le c3; have : (3 : Int32).toInt = 3 := rfl; have := i_eq ek5; have : (nI k5).toInt = ((k5 : Nat) : Int) := nI_toInt (by omega); have := i_rg i; have := i_nle c6; have : (nI kf).toInt = ((kf : Nat) : Int) := nI_toInt (by omega); have := i_nlt c1; have : (0 : Int32).toInt = 0 := rfl; have := i_nlt c4; omega)) : _ = 4 * k5 + k2)) ?_
          refine WR_tI (y := hI h (ad 5) (4 * k5 + k2)) (Eq.trans (I_ne (fx_ne fx (by decide))) (Eq.trans (I_ne (fx_ne fx (by decide))) (f3 _ (by have := i_eq ek2; have : (nI k2).toInt = ((k2 : Nat) : Int) := nI_toInt (by omega); have := i_rg w; have := i_le c3; have : (3 : Int32).toInt = 3 := rfl; have := i_eq ek5; have : (nI k5).toInt = ((k5 : Nat) : Int) := nI_toInt (by omega); have := i_rg i; have := i_nle c6; have : (nI kf).toInt = ((kf : Nat) : Int) := nI_toInt (by omega); have := i_nlt c1; have : (0 : Int32).toInt = 0 := rfl; have := i_nlt c4; omega)).symm)) ?_
          refine r_goto (tg := 54) rfl rfl ?_
          refine r_iret rfl ?_
          exact ⟨rfl, Rel.why r ((Chg.rf.sI (fx_j fx) (.inl (by decide))).sI (fx_j fx) (.inl (by decide))) ⟨rfl, by decide⟩ (Eq.trans (Eq.trans (I_ne (fx_ne fx (by decide))) I_eq) (Eq.symm I_eq)), Nat.le_add_right _ _, Nat.le_add_right _ _⟩
    · refine r_aload rfl rfl ?_
      refine r_ic (x := (-3)) rfl rfl ?_
      refine r_cv (y := 13) (ra := [.int (-3)]) (rest := []) rfl ⟨⟨rfl, rfl⟩, rfl, by decide⟩ (fx_t0 fx) rfl rfl (Nat.le_of_ble_eq_true rfl) ?_
      refine in_13 (Nat.le_of_ble_eq_true rfl) ?_
      show WR _ cd_13 0 [some (.ref (ad 0)), some (.int (-3))] [] (sI h (ad 0) 6 0) _
      refine r_aload rfl rfl ?_
      refine r_iload rfl rfl ?_
      refine r_putI rfl ⟨rfl, rfl, rfl⟩ (fx_t0 fx) ?_
      refine r_iload rfl rfl ?_
      refine r_iret rfl ?_
      show WR _ cd_145 20 [some (.ref (ad 0)), some (.int i), some (.int w)] [.int (-3)] (sI (sI h (ad 0) 6 0) (ad 0) 6 (-3)) _
      refine r_iret rfl ?_
      show EV _ 247 [.ref (ad 30), .int i, .int w] (sI (sI h (ad 0) 6 0) (ad 0) 6 (-3)) _
      refine in_247 (Nat.le_of_ble_eq_true rfl) ?_
      show WR _ cd_247 0 [some (.ref (ad 30)), some (.int i), some (.int w)] [] (sI (sI h (ad 0) 6 0) (ad 0) 6 (-3)) _
      refine r_iload rfl rfl ?_
      refine WR_tI (y := nI k2) ek2 ?_
      refine r_i2l rfl ?_
      refine WR_tL (y := lN k2) (nI_l (by have := i_eq ek2; have : (nI k2).toInt = ((k2 : Nat) : Int) := nI_toInt (by omega); have := i_rg w; have := i_nle c3; have : (3 : Int32).toInt = 3 := rfl; have := i_nlt c1; have : (0 : Int32).toInt = 0 := rfl; omega)) ?_
      refine r_lc (x := 0) rfl rfl ?_
      refine r_ldc (x := .long 3) rfl rfl ?_
      refine r_cs (y := 155) (ra := [.long 3, .long 0, .long (lN k2)]) (rest := []) rfl ⟨⟨rfl, rfl⟩, by decide⟩ rfl rfl (Nat.le_of_ble_eq_true rfl) ?_
      refine in_155 (Nat.le_of_ble_eq_true rfl) ?_
      show WR _ cd_155 0 [some (.long (lN k2)), none, some (.long 0), none, some (.long 3), none] [] (sI (sI h (ad 0) 6 0) (ad 0) 6 (-3)) _
      refine r_lload rfl rfl ?_
      refine r_lload rfl rfl ?_
      refine r_lif_lt (tg := 17) rfl rfl rfl (fun q => False.elim (by have : (lN k2).toInt = ((k2 : Nat) : Int) := lN_toInt (by omega); have : (0 : Int64).toInt = 0 := rfl; have := i_eq ek2; have : (nI k2).toInt = ((k2 : Nat) : Int) := nI_toInt (by omega); have := i_rg w; have := i_nle c3; have : (3 : Int32).toInt = 3 := rfl; have := i_nlt c1; have : (0 : Int32).toInt = 0 := rfl; have := l_lt q; omega)) (fun _ => ?_)
      refine r_lload rfl rfl ?_
      refine r_lload rfl rfl ?_
      refine r_lif_gt (tg := 17) rfl rfl rfl (fun _ => ?_) (fun q => False.elim (by have : (lN k2).toInt = ((k2 : Nat) : Int) := lN_toInt (by omega); have : (3 : Int64).toInt = 3 := rfl; have := i_eq ek2; have : (nI k2).toInt = ((k2 : Nat) : Int) := nI_toInt (by omega); have := i_rg w; have := i_nle c3; have : (3 : Int32).toInt = 3 := rfl; have := i_nlt c1; have : (0 : Int32).toInt = 0 := rfl; have := l_nlt q; omega))
      refine r_ic (x := 0) rfl rfl ?_
      refine r_zret rfl (.inl rfl) ?_
      show WR _ cd_247 9 [some (.ref (ad 30)), some (.int i), some (.int w)] [.int 0] (sI (sI h (ad 0) 6 0) (ad 0) 6 (-3)) _
      refine r_if_ne (tg := 19) rfl rfl (fun q => absurd q (by decide)) (fun _ => ?_)
      refine r_aload rfl rfl ?_
      refine r_ic (x := (-3)) rfl rfl ?_
      refine r_cv (y := 154) (ra := [.int (-3)]) (rest := []) rfl ⟨⟨rfl, rfl⟩, rfl, by decide⟩ (fx_t30 fx) rfl rfl (Nat.le_of_ble_eq_true rfl) ?_
      refine in_154 (Nat.le_of_ble_eq_true rfl) ?_
      show WR _ cd_154 0 [some (.ref (ad 30)), some (.int (-3))] [] (sI (sI h (ad 0) 6 0) (ad 0) 6 (-3)) _
      refine r_aload rfl rfl ?_
      refine r_iload rfl rfl ?_
      refine r_ic (x := (-1)) rfl rfl ?_
      refine r_icmp_ge (tg := 10) rfl rfl (fun q => absurd q (by decide)) (fun _ => ?_)
      refine r_iload rfl rfl ?_
      refine r_goto (tg := 11) rfl rfl ?_
      refine r_putI rfl ⟨rfl, rfl, rfl⟩ (fx_t30 fx) ?_
      refine r_iload rfl rfl ?_
      refine r_iret rfl ?_
      show WR _ cd_247 18 [some (.ref (ad 30)), some (.int i), some (.int w)] [.int (-3)] (sI (sI (sI h (ad 0) 6 0) (ad 0) 6 (-3)) (ad 30) 11 (-3)) _
      refine r_iret rfl ?_
      exact ⟨rfl, Rel.why r (((Chg.rf.sI (fx_j fx) (.inl (by decide))).sI (fx_j fx) (.inl (by decide))).sI (fx_j fx) (.inl (by decide))) ⟨rfl, by decide⟩ (Eq.trans (Eq.trans (I_ne (fx_ne fx (by decide))) I_eq) (Eq.symm I_eq)), Nat.le_add_right _ _, Nat.le_add_right _ _⟩

set_option maxHeartbeats 2000000 in
theorem k_forget {n : Nat} {ad sa : Nat → Nat} {z0 : Nat} {h : mH} (r : Rel n ad sa z0 h) : AP n ad sa z0 h 74 192 [] := by
  obtain ⟨mid, pa, np, fx, ry, rt, ra, rp, rf, rst, ru, rs⟩ := id r
  have fx0 := fx
  obtain ⟨kt, hkt, t1, t2, t3⟩ := id rt
  unfold AP
  refine in_74 (Nat.le_of_ble_eq_true rfl) ?_
  show WR _ cd_74 0 [some (.ref (ad 0)), none] [] h _
  refine r_aload rfl rfl ?_
  refine r_ic (x := 0) rfl rfl ?_
  refine r_putI rfl ⟨rfl, rfl, rfl⟩ (fx_t0 fx) ?_
  refine r_aload rfl rfl ?_
  refine r_getA (b := ad 2) rfl ⟨rfl, rfl, rfl⟩ (fx_t0 fx) (fx_r0_1 fx) ?_
  refine r_getI rfl ⟨rfl, rfl, rfl⟩ (fx_t2 fx) ?_
  refine WR_tI (y := nI kt) (Eq.trans (I_ne (fx_ne fx (by decide))) t1) ?_
  refine r_istore (lv' := [some (.ref (ad 0)), some (.int (nI kt))]) rfl (Nat.le_of_ble_eq_true rfl) rfl ?_
  refine r_aload rfl rfl ?_
  refine r_getA (b := ad 2) rfl ⟨rfl, rfl, rfl⟩ (fx_t0 fx) (fx_r0_1 fx) ?_
  refine r_ic (x := 0) rfl rfl ?_
  refine r_putI rfl ⟨rfl, rfl, rfl⟩ (fx_t2 fx) ?_
  refine r_iload rfl rfl ?_
  refine r_iret rfl ?_
  show EV _ 192 [.ref (ad 30)] (sI (sI h (ad 0) 6 0) (ad 2) 1 0) _
  refine in_192 (Nat.le_of_ble_eq_true rfl) ?_
  show WR _ cd_192 0 [some (.ref (ad 30)), none] [] (sI (sI h (ad 0) 6 0) (ad 2) 1 0) _
  refine r_aload rfl rfl ?_
  refine r_getI rfl ⟨rfl, rfl, rfl⟩ (fx_t30 fx) ?_
  refine WR_tI (y := nI kt) (Eq.trans (I_ne (fx_ne fx (by decide))) (Eq.trans (I_ne (fx_ne fx (by decide))) t2)) ?_
  refine r_istore (lv' := [some (.ref (ad 30)), some (.int (nI kt))]) rfl (Nat.le_of_ble_eq_true rfl) rfl ?_
  refine r_aload rfl rfl ?_
  refine r_ic (x := 0) rfl rfl ?_
  refine r_putI rfl ⟨rfl, rfl, rfl⟩ (fx_t30 fx) ?_
  refine r_aload rfl rfl ?_
  refine r_iload rfl rfl ?_
  refine r_cv (y := 154) (ra := [.int (nI kt)]) (rest := []) rfl ⟨⟨rfl, rfl⟩, rfl, by decide⟩ (fx_t30 fx) rfl rfl (Nat.le_of_ble_eq_true rfl) ?_
  refine in_154 (Nat.le_of_ble_eq_true rfl) ?_
  show WR _ cd_154 0 [some (.ref (ad 30)), some (.int (nI kt))] [] (sI (sI (sI h (ad 0) 6 0) (ad 2) 1 0) (ad 30) 9 0) _
  refine r_aload rfl rfl ?_
  refine r_iload rfl rfl ?_
  refine r_ic (x := (-1)) rfl rfl ?_
  refine r_icmp_ge (tg := 10) rfl rfl (fun _ => ?_) (fun q => False.elim (by have : (nI kt).toInt = ((kt : Nat) : Int) := nI_toInt (by omega); have : (-1 : Int32).toInt = -1 := rfl; have := i_nle q; omega))
  refine r_ic (x := 0) rfl rfl ?_
  refine r_putI rfl ⟨rfl, rfl, rfl⟩ (fx_t30 fx) ?_
  refine r_iload rfl rfl ?_
  refine r_iret rfl ?_
  show WR _ cd_192 15 [some (.ref (ad 30)), some (.int (nI kt))] [.int (nI kt)] (sI (sI (sI (sI h (ad 0) 6 0) (ad 2) 1 0) (ad 30) 9 0) (ad 30) 11 0) _
  refine r_iret rfl ?_
  have cg : Chg n ad [(30, 11), (30, 9), (2, 1), (0, 6)] [] h (sI (sI (sI (sI h (ad 0) 6 0) (ad 2) 1 0) (ad 30) 9 0) (ad 30) 11 0) := ((((Chg.rf.sI (fx_j fx0) (k := 6) (v := 0) (.inl (by decide))).sI (fx_j fx0) (k := 1) (v := 0) (.inl (by decide))).sI (fx_j fx0) (k := 9) (v := 0) (.inl (by decide))).sI (fx_j fx0) (k := 11) (v := 0) (.inl (by decide)))
  refine ⟨rfl, ⟨mid, pa, np, FX.k fx0 cg.1 cg.2.1 cg.2.2 (by decide), Eq.trans (Eq.trans (I_ne (fx_ne fx (by decide))) (Eq.trans (I_ne (fx_ne fx (by decide))) (Eq.trans (I_ne (fx_ne fx (by decide))) I_eq))) (Eq.symm I_eq), ?_, ra.k cg.2.1 (by decide), rp.k cg.2.1 (by decide), rf.k cg.2.1 (by decide), Rst.k fx0 rst cg.2.2, Ru.k fx0 ru cg.2.1 (by decide), Rs.k fx0 rs cg.1 cg.2.1 cg.2.2 (by decide)⟩, Nat.le_add_right _ _, Nat.le_add_right _ _⟩
  · exact ⟨0, by decide, (Eq.trans (I_ne (fx_ne fx (by decide))) (Eq.trans (I_ne (fx_ne fx (by decide))) I_eq)), (Eq.trans (I_nk (by decide)) I_eq), fun i hi => absurd hi (Nat.not_lt_zero i)⟩

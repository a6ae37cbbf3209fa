/-! ===== grid; printed ===== -/
set_option maxHeartbeats 1000000 in
theorem w_gm0 {d : Nat} {Q : mQ} {n : Nat} {ad sa : Nat → Nat} {z0 : Nat} {h : mH} (fx : FX n ad sa z0 h) (c k l : Int32) 
    
    (L1 : c < 0 → Q (some (.int (-2))) (sI h (ad 30) 11 (-2))) (L2 : ¬ c < 0 → 24 ≤ c → Q (some (.int (-2))) (sI h (ad 30) 11 (-2))) (L3 : ¬ c < 0 → ¬ 24 ≤ c → 8 < k → Q (some (.int (-3))) (sI h (ad 30) 11 (-3))) (L4 : ¬ c < 0 → ¬ 24 ≤ c → ¬ 8 < k → l ≤ 12 → k < 0 → (-1 : Int32) ≤ ((-10) - 3) → Q (some (.int ((-10) - 3))) (sI h (ad 30) 11 0)) (L5 : ¬ c < 0 → ¬ 24 ≤ c → ¬ 8 < k → l ≤ 12 → k < 0 → ¬ (-1 : Int32) ≤ ((-10) - 3) → Q (some (.int ((-10) - 3))) (sI h (ad 30) 11 ((-10) - 3))) (K1 : ¬ c < 0 → ¬ 24 ≤ c → ¬ 8 < k → l ≤ 12 → ¬ k < 0 → (-1) ≤ l → WR (d + 2) cd_160 48 [some (.ref (ad 30)), some (.int c), some (.int k), some (.int l), none, none] [] h Q) (L6 : ¬ c < 0 → ¬ 24 ≤ c → ¬ 8 < k → l ≤ 12 → ¬ k < 0 → ¬ (-1) ≤ l → (-1 : Int32) ≤ ((-10) - 3) → Q (some (.int ((-10) - 3))) (sI h (ad 30) 11 0)) (L7 : ¬ c < 0 → ¬ 24 ≤ c → ¬ 8 < k → l ≤ 12 → ¬ k < 0 → ¬ (-1) ≤ l → ¬ (-1 : Int32) ≤ ((-10) - 3) → Q (some (.int ((-10) - 3))) (sI h (ad 30) 11 ((-10) - 3))) (L8 : ¬ c < 0 → ¬ 24 ≤ c → ¬ 8 < k → ¬ l ≤ 12 → Q (some (.int (-3))) (sI h (ad 30) 11 (-3))) : EV (d + 3) 160 [.ref (ad 30), .int c, .int k, .int l] h Q := by
  refine in_160 (Nat.le_of_ble_eq_true rfl) ?_
  show WR _ cd_160 0 [some (.ref (ad 30)), some (.int c), some (.int k), some (.int l), none, none] [] h _
  refine r_iload rfl rfl ?_
  refine r_cs (y := 153) (ra := [.int c]) (rest := []) rfl ⟨⟨rfl, rfl⟩, by decide⟩ rfl rfl (Nat.le_of_ble_eq_true rfl) ?_
  refine in_153 (Nat.le_of_ble_eq_true rfl) ?_
  show WR _ cd_153 0 [some (.int c)] [] h _
  refine r_iload rfl rfl ?_
  refine r_if_lt (tg := 14) rfl rfl (fun c1 => ?_) (fun c1 => ?_)
  · refine r_ic (x := 0) rfl rfl ?_
    refine r_zret rfl (.inl rfl) ?_
    show WR _ cd_160 4 [some (.ref (ad 30)), some (.int c), some (.int k), some (.int l), none, none] [.int 0] h _
    refine r_if_ne (tg := 14) rfl rfl (fun q => absurd q (by decide)) (fun _ => ?_)
    refine r_aload rfl rfl ?_
    refine r_ic (x := (-2)) rfl rfl ?_
    refine r_cv (y := 154) (ra := [.int (-2)]) (rest := []) rfl ⟨⟨rfl, rfl⟩, rfl, by decide⟩ (fx_t30 fx) rfl rfl (Nat.le_of_ble_eq_true rfl) ?_
    refine in_154 (Nat.le_of_ble_eq_true rfl) ?_
    show WR _ cd_154 0 [some (.ref (ad 30)), some (.int (-2))] [] h _
    refine r_aload rfl rfl ?_
    refine r_iload rfl rfl ?_
    refine r_ic (x := (-1)) rfl rfl ?_
    refine r_icmp_ge (tg := 10) rfl rfl (fun q => absurd q (by decide)) (fun _ => ?_)
    refine r_iload rfl rfl ?_
    refine r_goto (tg := 11) rfl rfl ?_
    refine r_putI rfl ⟨rfl, rfl, rfl⟩ (fx_t30 fx) ?_
    refine r_iload rfl rfl ?_
    refine r_iret rfl ?_
    show WR _ cd_160 13 [some (.ref (ad 30)), some (.int c), some (.int k), some (.int l), none, none] [.int (-2)] (sI h (ad 30) 11 (-2)) _
    refine r_iret rfl ?_
    exact L1 c1
  · refine r_iload rfl rfl ?_
    refine r_ic (x := 24) rfl rfl ?_
    refine r_icmp_ge (tg := 14) rfl rfl (fun c2 => ?_) (fun c2 => ?_)
    · refine r_ic (x := 0) rfl rfl ?_
      refine r_zret rfl (.inl rfl) ?_
      show WR _ cd_160 4 [some (.ref (ad 30)), some (.int c), some (.int k), some (.int l), none, none] [.int 0] h _
      refine r_if_ne (tg := 14) rfl rfl (fun q => absurd q (by decide)) (fun _ => ?_)
      refine r_aload rfl rfl ?_
      refine r_ic (x := (-2)) rfl rfl ?_
      refine r_cv (y := 154) (ra := [.int (-2)]) (rest := []) rfl ⟨⟨rfl, rfl⟩, rfl, by decide⟩ (fx_t30 fx) rfl rfl (Nat.le_of_ble_eq_true rfl) ?_
      refine in_154 (Nat.le_of_ble_eq_true rfl) ?_
      show WR _ cd_154 0 [some (.ref (ad 30)), some (.int (-2))] [] h _
      refine r_aload rfl rfl ?_
      refine r_iload rfl rfl ?_
      refine r_ic (x := (-1)) rfl rfl ?_
      refine r_icmp_ge (tg := 10) rfl rfl (fun q => absurd q (by decide)) (fun _ => ?_)
      refine r_iload rfl rfl ?_
      refine r_goto (tg := 11) rfl rfl ?_
      refine r_putI rfl ⟨rfl, rfl, rfl⟩ (fx_t30 fx) ?_
      refine r_iload rfl rfl ?_
      refine r_iret rfl ?_
      show WR _ cd_160 13 [some (.ref (ad 30)), some (.int c), some (.int k), some (.int l), none, none] [.int (-2)] (sI h (ad 30) 11 (-2)) _
      refine r_iret rfl ?_
      exact L2 c1 c2
    · refine r_ic (x := 1) rfl rfl ?_
      refine r_goto (tg := 15) rfl rfl ?_
      refine r_zret rfl (.inr rfl) ?_
      show WR _ cd_160 4 [some (.ref (ad 30)), some (.int c), some (.int k), some (.int l), none, none] [.int 1] h _
      refine r_if_ne (tg := 14) rfl rfl (fun _ => ?_) (fun q => absurd q (by decide))
      refine r_iload rfl rfl ?_
      refine r_ic (x := 8) rfl rfl ?_
      refine r_icmp_gt (tg := 26) rfl rfl (fun c3 => ?_) (fun c3 => ?_)
      · refine r_aload rfl rfl ?_
        refine r_ic (x := (-3)) rfl rfl ?_
        refine r_cv (y := 154) (ra := [.int (-3)]) (rest := []) rfl ⟨⟨rfl, rfl⟩, rfl, by decide⟩ (fx_t30 fx) rfl rfl (Nat.le_of_ble_eq_true rfl) ?_
        refine in_154 (Nat.le_of_ble_eq_true rfl) ?_
        show WR _ cd_154 0 [some (.ref (ad 30)), some (.int (-3))] [] h _
        refine r_aload rfl rfl ?_
        refine r_iload rfl rfl ?_
        refine r_ic (x := (-1)) rfl rfl ?_
        refine r_icmp_ge (tg := 10) rfl rfl (fun q => absurd q (by decide)) (fun _ => ?_)
        refine r_iload rfl rfl ?_
        refine r_goto (tg := 11) rfl rfl ?_
        refine r_putI rfl ⟨rfl, rfl, rfl⟩ (fx_t30 fx) ?_
        refine r_iload rfl rfl ?_
        refine r_iret rfl ?_
        show WR _ cd_160 32 [some (.ref (ad 30)), some (.int c), some (.int k), some (.int l), none, none] [.int (-3)] (sI h (ad 30) 11 (-3)) _
        refine r_iret rfl ?_
        exact L3 c1 c2 c3
      · refine r_iload rfl rfl ?_
        refine r_ic (x := 12) rfl rfl ?_
        refine r_icmp_le (tg := 33) rfl rfl (fun c4 => ?_) (fun c4 => ?_)
        · refine r_iload rfl rfl ?_
          refine r_if_lt (tg := 42) rfl rfl (fun c5 => ?_) (fun c5 => ?_)
          · refine r_aload rfl rfl ?_
            refine r_ic (x := 3) rfl rfl ?_
            refine r_cv (y := 156) (ra := [.int 3]) (rest := []) rfl ⟨⟨rfl, rfl⟩, rfl, by decide⟩ (fx_t30 fx) rfl rfl (Nat.le_of_ble_eq_true rfl) ?_
            refine in_156 (Nat.le_of_ble_eq_true rfl) ?_
            show WR _ cd_156 0 [some (.ref (ad 30)), some (.int 3)] [] h _
            refine r_aload rfl rfl ?_
            refine r_ic (x := (-10)) rfl rfl ?_
            refine r_iload rfl rfl ?_
            refine r_isub rfl ?_
            refine r_cv (y := 154) (ra := [.int ((-10) - 3)]) (rest := []) rfl ⟨⟨rfl, rfl⟩, rfl, by decide⟩ (fx_t30 fx) rfl rfl (Nat.le_of_ble_eq_true rfl) ?_
            refine in_154 (Nat.le_of_ble_eq_true rfl) ?_
            show WR _ cd_154 0 [some (.ref (ad 30)), some (.int ((-10) - 3))] [] h _
            refine r_aload rfl rfl ?_
            refine r_iload rfl rfl ?_
            refine r_ic (x := (-1)) rfl rfl ?_
            refine r_icmp_ge (tg := 10) rfl rfl (fun c6 => ?_) (fun c6 => ?_)
            · refine r_ic (x := 0) rfl rfl ?_
              refine r_putI rfl ⟨rfl, rfl, rfl⟩ (fx_t30 fx) ?_
              refine r_iload rfl rfl ?_
              refine r_iret rfl ?_
              show WR _ cd_156 8 [some (.ref (ad 30)), some (.int 3)] [.int ((-10) - 3)] (sI h (ad 30) 11 0) _
              refine r_iret rfl ?_
              show WR _ cd_160 47 [some (.ref (ad 30)), some (.int c), some (.int k), some (.int l), none, none] [.int ((-10) - 3)] (sI h (ad 30) 11 0) _
              refine r_iret rfl ?_
              exact L4 c1 c2 c3 c4 c5 c6
            · refine r_iload rfl rfl ?_
              refine r_goto (tg := 11) rfl rfl ?_
              refine r_putI rfl ⟨rfl, rfl, rfl⟩ (fx_t30 fx) ?_
              refine r_iload rfl rfl ?_
              refine r_iret rfl ?_
              show WR _ cd_156 8 [some (.ref (ad 30)), some (.int 3)] [.int ((-10) - 3)] (sI h (ad 30) 11 ((-10) - 3)) _
              refine r_iret rfl ?_
              show WR _ cd_160 47 [some (.ref (ad 30)), some (.int c), some (.int k), some (.int l), none, none] [.int ((-10) - 3)] (sI h (ad 30) 11 ((-10) - 3)) _
              refine r_iret rfl ?_
              exact L5 c1 c2 c3 c4 c5 c6
          · refine r_iload rfl rfl ?_
            refine r_ic (x := (-1)) rfl rfl ?_
            refine r_icmp_ge (tg := 48) rfl rfl (fun c7 => ?_) (fun c7 => ?_)
            · exact K1 c1 c2 c3 c4 c5 c7
            · refine r_aload rfl rfl ?_
              refine r_ic (x := 3) rfl rfl ?_
              refine r_cv (y := 156) (ra := [.int 3]) (rest := []) rfl ⟨⟨rfl, rfl⟩, rfl, by decide⟩ (fx_t30 fx) rfl rfl (Nat.le_of_ble_eq_true rfl) ?_
              refine in_156 (Nat.le_of_ble_eq_true rfl) ?_
              show WR _ cd_156 0 [some (.ref (ad 30)), some (.int 3)] [] h _
              refine r_aload rfl rfl ?_
              refine r_ic (x := (-10)) rfl rfl ?_
              refine r_iload rfl rfl ?_
              refine r_isub rfl ?_
              refine r_cv (y := 154) (ra := [.int ((-10) - 3)]) (rest := []) rfl ⟨⟨rfl, rfl⟩, rfl, by decide⟩ (fx_t30 fx) rfl rfl (Nat.le_of_ble_eq_true rfl) ?_
              refine in_154 (Nat.le_of_ble_eq_true rfl) ?_
              show WR _ cd_154 0 [some (.ref (ad 30)), some (.int ((-10) - 3))] [] h _
              refine r_aload rfl rfl ?_
              refine r_iload rfl rfl ?_
              refine r_ic (x := (-1)) rfl rfl ?_
              refine r_icmp_ge (tg := 10) rfl rfl (fun c8 => ?_) (fun c8 => ?_)
              · refine r_ic (x := 0) rfl rfl ?_
                refine r_putI rfl ⟨rfl, rfl, rfl⟩ (fx_t30 fx) ?_
                refine r_iload rfl rfl ?_
                refine r_iret rfl ?_
                show WR _ cd_156 8 [some (.ref (ad 30)), some (.int 3)] [.int ((-10) - 3)] (sI h (ad 30) 11 0) _
                refine r_iret rfl ?_
                show WR _ cd_160 47 [some (.ref (ad 30)), some (.int c), some (.int k), some (.int l), none, none] [.int ((-10) - 3)] (sI h (ad 30) 11 0) _
                refine r_iret rfl ?_
                exact L6 c1 c2 c3 c4 c5 c7 c8
              · refine r_iload rfl rfl ?_
                refine r_goto (tg := 11) rfl rfl ?_
                refine r_putI rfl ⟨rfl, rfl, rfl⟩ (fx_t30 fx) ?_
                refine r_iload rfl rfl ?_
                refine r_iret rfl ?_
                show WR _ cd_156 8 [some (.ref (ad 30)), some (.int 3)] [.int ((-10) - 3)] (sI h (ad 30) 11 ((-10) - 3)) _
                refine r_iret rfl ?_
                show WR _ cd_160 47 [some (.ref (ad 30)), some (.int c), some (.int k), some (.int l), none, none] [.int ((-10) - 3)] (sI h (ad 30) 11 ((-10) - 3)) _
                refine r_iret rfl ?_
                exact L7 c1 c2 c3 c4 c5 c7 c8
        · refine r_aload rfl rfl ?_
          refine r_ic (x := (-3)) rfl rfl ?_
          refine r_cv (y := 154) (ra := [.int (-3)]) (rest := []) rfl ⟨⟨rfl, rfl⟩, rfl, by decide⟩ (fx_t30 fx) rfl rfl (Nat.le_of_ble_eq_true rfl) ?_
          refine in_154 (Nat.le_of_ble_eq_true rfl) ?_
          show WR _ cd_154 0 [some (.ref (ad 30)), some (.int (-3))] [] h _
          refine r_aload rfl rfl ?_
          refine r_iload rfl rfl ?_
          refine r_ic (x := (-1)) rfl rfl ?_
          refine r_icmp_ge (tg := 10) rfl rfl (fun q => absurd q (by decide)) (fun _ => ?_)
          refine r_iload rfl rfl ?_
          refine r_goto (tg := 11) rfl rfl ?_
          refine r_putI rfl ⟨rfl, rfl, rfl⟩ (fx_t30 fx) ?_
          refine r_iload rfl rfl ?_
          refine r_iret rfl ?_
          show WR _ cd_160 32 [some (.ref (ad 30)), some (.int c), some (.int k), some (.int l), none, none] [.int (-3)] (sI h (ad 30) 11 (-3)) _
          refine r_iret rfl ?_
          exact L8 c1 c2 c3 c4

theorem lv_of {m : Int32} (h1 : m ≤ 12) (h2 : (-1) ≤ m) : m = -1 ∨ ∃ l, l ≤ 12 ∧ m = nI l := by
  by_cases q : m.toInt < 0
  · left
    have a := i_le h2
    have b : (-1 : Int32).toInt = -1 := rfl
    have e : m.toInt = (-1 : Int32).toInt := by omega
    exact Int32.toInt_inj.mp e
  · right
    obtain ⟨l, hl, e⟩ := ix_of (x := m) (n := 13) (by omega) (by have := i_le h1; have : (12 : Int32).toInt = 12 := rfl; omega)
    exact ⟨l, by omega, e⟩
section GT
variable {d : Nat} {Q : mQ} {n : Nat} {ad sa : Nat → Nat} {z0 : Nat} {h C H : mH} {sz kc : Nat} {lv : Int32}
theorem cg_101 (fx : FX n ad sa z0 C) {Z : Nat} {o5 : Option Value} (hc : kc < 24) (tZ : hT C Z = 6) (hQ : Q (some (.int (nI sz))) (sR C (ad 1) kc (some Z))) : WR d cd_17 101 [some (.ref (ad 0)), some (.int (nI kc)), some (.int (nI sz)), some (.int lv), some (.ref Z), o5] [] C Q := by
  refine r_aload rfl rfl ?_
  refine r_getA (b := ad 1) rfl ⟨rfl, rfl, rfl⟩ (fx_t0 fx) (fx_r0_0 fx) ?_
  refine r_iload rfl rfl ?_
  refine r_aload rfl rfl ?_
  refine r_aastoreA rfl (isQ_of (fx_t1 fx) (by decide)) (vp_ct (fx_n1 fx) (vp_in_nI hc (by omega))) (okR_of (fx_t1 fx) tZ (by decide)) ?_
  refine WR_h (h2 := sR C (ad 1) kc (some Z)) (congrArg (fun z => sR C (ad 1) z (some Z)) (nI_clamp (by omega))) ?_
  refine r_iload rfl rfl ?_
  refine r_iret rfl ?_
  exact hQ
theorem mg_102 (fx : FX n ad sa z0 H) {t : Nat} {o5 : Option Value} (hc : kc < 24) (hs : sz ≤ 8) (hQ : Q (some (.int (nI sz))) (fin2 ad H kc t)) : WR (d + 1) cd_160 102 [some (.ref (ad 30)), some (.int (nI kc)), some (.int (nI sz)), some (.int lv), some (.int (nI t)), o5] [] H Q := by
  refine r_aload rfl rfl ?_
  refine r_getA (b := ad 31) rfl ⟨rfl, rfl, rfl⟩ (fx_t30 fx) (fx_r30_0 fx) ?_
  refine r_iload rfl rfl ?_
  refine r_iload rfl rfl ?_
  refine r_iastore rfl (fx_t31 fx) (vp_ct (fx_n31 fx) (vp_in_nI hc (by omega))) ?_
  refine WR_h (h2 := sI H (ad 31) kc (nI t)) (congrArg (fun z => sI H (ad 31) z (nI t)) (nI_clamp (by omega))) ?_
  refine r_aload rfl rfl ?_
  refine r_iload rfl rfl ?_
  refine r_cv (y := 154) (ra := [.int (nI sz)]) (rest := []) rfl ⟨⟨rfl, rfl⟩, rfl, by decide⟩ (fx_t30 (FX.sI fx)) rfl rfl (Nat.le_of_ble_eq_true rfl) ?_
  refine told_0 (FX.sI fx) (by omega) ?_
  show WR _ cd_160 115 [some (.ref (ad 30)), some (.int (nI kc)), some (.int (nI sz)), some (.int lv), some (.int (nI t)), o5] [.int (nI sz)] _ _
  refine r_iret rfl ?_
  exact hQ
theorem tm_grid {J l : Nat} (fx : FX n ad sa z0 H) (wf : WF ad H) (hc : kc < 24) (hs : sz ≤ 8) (hlv : (lv = -1 ∧ J = 0) ∨ (l ≤ 12 ∧ lv = nI l ∧ J = sz)) (hQ : ∀ t M U f, t < 250 → ¬ live ad H t → GM ad H M t U f sz l J → Q (some (.int (nI sz))) (fin2 ad M kc t)) : WR (d + 3) cd_160 48 [some (.ref (ad 30)), some (.int (nI kc)), some (.int (nI sz)), some (.int lv), none, none] [] H Q := by
  refine r_aload rfl rfl ?_
  refine r_cv (y := 157) (ra := []) (rest := []) rfl ⟨⟨rfl, rfl⟩, rfl, by decide⟩ (fx_t30 fx) rfl rfl (Nat.le_of_ble_eq_true rfl) ?_
  refine c_sweep fx wf (fun H1 f e1 m1 l1 => ?_)
  show WR _ cd_160 52 [some (.ref (ad 30)), some (.int (nI kc)), some (.int (nI sz)), some (.int lv), none, none] [] H1 _
  have fx1 := e1.fx fx
  refine r_aload rfl rfl ?_
  refine r_ic (x := 8) rfl rfl ?_
  refine r_ic (x := 0) rfl rfl ?_
  refine r_iload rfl rfl ?_
  refine r_cv (y := 159) (ra := [.int (nI sz), .int 0, .int 8]) (rest := []) rfl ⟨⟨rfl, rfl⟩, rfl, by decide⟩ (fx_t30 fx1) rfl rfl (Nat.le_of_ble_eq_true rfl) ?_
  refine c_make fx1 m1 (by decide) (fun t M ht ut e2 => ?_)
  show WR _ cd_160 60 [some (.ref (ad 30)), some (.int (nI kc)), some (.int (nI sz)), some (.int lv), none, none] [.int (nI t)] M _
  have nl : ¬ live ad H t := fun w => absurd ((l1 t ht w).symm.trans ut) (by decide)
  refine r_istore (lv' := [some (.ref (ad 30)), some (.int (nI kc)), some (.int (nI sz)), some (.int lv), some (.int (nI t)), none]) rfl (Nat.le_of_ble_eq_true rfl) rfl ?_
  refine r_ic (x := 0) rfl rfl ?_
  refine r_istore (lv' := [some (.ref (ad 30)), some (.int (nI kc)), some (.int (nI sz)), some (.int lv), some (.int (nI t)), some (.int 0)]) rfl (Nat.le_of_ble_eq_true rfl) rfl ?_
  have g0 := GM.in0 (ln := l) e1 m1 l1 e2
  rcases hlv with ⟨rfl, rfl⟩ | ⟨hl, rfl, rfl⟩
  · have fin : WR (d + 3) cd_160 102 [some (.ref (ad 30)), some (.int (nI kc)), some (.int (nI sz)), some (.int (-1)), some (.int (nI t)), some (.int 0)] [] M Q := mg_102 (g0.fx fx) hc hs (hQ t M _ _ ht nl g0)
    refine r_iload rfl rfl ?_
    refine r_iload rfl rfl ?_
    refine r_icmp_ge (tg := 102) rfl rfl (fun _ => fin) (fun _ => ?_)
    refine r_iload rfl rfl ?_
    exact r_if_lt (tg := 102) rfl rfl (fun _ => fin) (fun q => absurd (by decide) q)
  · exact gm_65 fx ht hs hl (fun M2 U f2 g => mg_102 (g.fx fx) hc hs (hQ t M2 U f2 ht nl g)) J 0 M _ _ (by omega) g0
theorem t_grid (r : Rel n ad sa z0 h) (hc : kc < 24) (hs : sz ≤ 8) (hlv : lv = -1 ∨ ∃ l, l ≤ 12 ∧ lv = nI l) : WR 99 cd_17 54 [some (.ref (ad 0)), some (.int (nI kc)), some (.int (nI sz)), some (.int lv), none, none] [] (sI h (ad 0) 6 0) (fun v h1 => EV 100 160 [.ref (ad 30), .int (nI kc), .int (nI sz), .int lv] h1 (fun v2 h2 => v2 = v ∧ Rel n ad sa z0 h2 ∧ hZ h2 ≤ hZ h + 20 ∧ hU h2 ≤ hU h + 150)) := by
  obtain ⟨mid, pa, np, fx, ry, rt, ra, rp, rf, rst, ru, rs⟩ := id r
  have hz0 : hzO h := rs.2.2.2
  have mdl : ∀ C J l, (lv = -1 ∧ J = 0) ∨ (l ≤ 12 ∧ lv = nI l ∧ J = sz) → l ≤ 12 → J ≤ sz → GC n ad sa z0 h C sz l J → EV 100 160 [.ref (ad 30), .int (nI kc), .int (nI sz), .int lv] (sR C (ad 1) kc (some (hZ h))) (fun v2 h2 => v2 = some (.int (nI sz)) ∧ Rel n ad sa z0 h2 ∧ hZ h2 ≤ hZ h + 20 ∧ hU h2 ≤ hU h + 150) := by
    intro C J l hl hl2 hJ g
    have fxC : FX n ad sa z0 (sR C (ad 1) kc (some (hZ h))) := FX.sRA (i := 1) g.2.2.2.2.2.2.2.2 (.inl (by decide)) (by decide)
    have n1 : ¬ nI kc < 0 := nI_pos (by omega)
    have n2 : ¬ (24 : Int32) ≤ nI kc := fun q => by have := (nI_leI (a := 24) (b := kc) (by decide) (by omega)).mp q; omega
    have n3 : ¬ (8 : Int32) < nI sz := fun q => by
      have a := i_lt q
      have b : (nI sz).toInt = ((sz : Nat) : Int) := nI_toInt (by omega)
      have c : (8 : Int32).toInt = 8 := rfl
      omega
    have n4 : ¬ nI sz < 0 := nI_pos (by omega)
    have p1 : lv ≤ 12 ∧ (-1) ≤ lv := by
      rcases hl with ⟨e, -⟩ | ⟨q, e, -⟩
      · rw [e]; decide
      · rw [e]
        have b : (nI l).toInt = ((l : Nat) : Int) := nI_toInt (by omega)
        have c : (12 : Int32).toInt = 12 := rfl
        have c2 : (-1 : Int32).toInt = -1 := rfl
        exact ⟨Int32.le_iff_toInt_le.mpr (by omega), Int32.le_iff_toInt_le.mpr (by omega)⟩
    refine w_gm0 fxC (nI kc) (nI sz) lv (fun q => absurd q n1) (fun _ q => absurd q n2) (fun _ _ q => absurd q n3) (fun _ _ _ _ q => absurd q n4) (fun _ _ _ _ q => absurd q n4) (fun _ _ _ _ _ _ => ?_) (fun _ _ _ _ _ q => absurd p1.2 q) (fun _ _ _ _ _ q => absurd p1.2 q) (fun _ _ _ q => absurd p1.1 q)
    refine tm_grid (J := J) (l := l) fxC (GC.wf fx g rs) hc hs hl (fun t M U f ht nl gm => ?_)
    obtain ⟨x1, x2, x3⟩ := Rel.newgrid r g hJ hs hl2 ht nl gm
    exact ⟨rfl, x1, x2, x3⟩
  refine r_new (m := 2) rfl rfl ?_
  refine r_dup rfl rfl ?_
  refine r_ic (x := (-1)) rfl rfl ?_
  refine r_iload rfl rfl ?_
  refine r_cp (y := 18) (ra := [.int (nI sz), .int (-1)]) (rest := [.ref (hZ (sI h (ad 0) 6 0))]) rfl ⟨⟨rfl, rfl⟩, by decide⟩ rfl rfl (Nat.le_of_ble_eq_true rfl) ?_
  refine c_sini (H := sI h (ad 0) 6 0) (by omega) ?_
  show WR _ cd_17 63 [some (.ref (ad 0)), some (.int (nI kc)), some (.int (nI sz)), some (.int lv), none, none] [.ref (hZ h)] (N2 (sI h (ad 0) 6 0) 6 24 (-1) sz) _
  refine r_astore (lv' := [some (.ref (ad 0)), some (.int (nI kc)), some (.int (nI sz)), some (.int lv), some (.ref (hZ h)), none]) rfl (Nat.le_of_ble_eq_true rfl) rfl ?_
  refine r_iload rfl rfl ?_
  rcases hlv with e | ⟨l, hl, e⟩
  · have g0 : GC n ad sa z0 h (N2 (sI h (ad 0) 6 0) 6 24 (-1) sz) sz 0 0 := GC.in0 fx hz0
    refine r_if_lt (tg := 101) rfl rfl (fun _ => ?_) (fun q => absurd (by rw [e]; decide) q)
    exact cg_101 g0.2.2.2.2.2.2.2.2 hc g0.2.2.1.1 (mdl _ 0 0 (.inl ⟨e, rfl⟩) (by decide) (by omega) g0)
  · have g0 : GC n ad sa z0 h (N2 (sI h (ad 0) 6 0) 6 24 (-1) sz) sz l 0 := GC.in0 fx hz0
    subst e
    refine r_if_lt (tg := 101) rfl rfl (fun q => absurd q (nI_pos (by omega))) (fun _ => ?_)
    refine r_ic (x := 0) rfl rfl ?_
    refine r_istore (lv' := [some (.ref (ad 0)), some (.int (nI kc)), some (.int (nI sz)), some (.int (nI l)), some (.ref (hZ h)), some (.int 0)]) rfl (Nat.le_of_ble_eq_true rfl) rfl ?_
    exact gc_72 fx hs hl (fun C g => cg_101 g.2.2.2.2.2.2.2.2 hc g.2.2.1.1 (mdl _ sz l (.inr ⟨hl, rfl, rfl⟩) hl (Nat.le_refl _) g)) sz 0 _ (by omega) g0
end GT
set_option maxHeartbeats 2000000 in
theorem k_grid {n : Nat} {ad sa : Nat → Nat} {z0 : Nat} {h : mH} (r : Rel n ad sa z0 h) (c : Int32) (k : Int32) (m : Int32) : AP n ad sa z0 h 17 160 [.int c, .int k, .int m] := by
  obtain ⟨mid, pa, np, fx, ry, rt, ra, rp, rf, rst, ru, rs⟩ := id r
  have fx0 := fx
  obtain ⟨np1, np2, np3, -, -⟩ := id rs.1
  have hz0 : hzO h := rs.2.2.2
  unfold AP
  refine in_17 (Nat.le_of_ble_eq_true rfl) ?_
  show WR _ cd_17 0 [some (.ref (ad 0)), some (.int c), some (.int k), some (.int m), none, none] [] h _
  refine r_aload rfl rfl ?_
  refine r_ic (x := 0) rfl rfl ?_
  refine r_putI rfl ⟨rfl, rfl, rfl⟩ (fx_t0 fx) ?_
  refine r_iload rfl rfl ?_
  refine r_cs (y := 12) (ra := [.int c]) (rest := []) rfl ⟨⟨rfl, rfl⟩, by decide⟩ rfl rfl (Nat.le_of_ble_eq_true rfl) ?_
  refine in_12 (Nat.le_of_ble_eq_true rfl) ?_
  show WR _ cd_12 0 [some (.int c)] [] (sI h (ad 0) 6 0) _
  refine r_iload rfl rfl ?_
  refine r_if_lt (tg := 14) rfl rfl (fun c1 => ?_) (fun c1 => ?_)
  · refine r_ic (x := 0) rfl rfl ?_
    refine r_zret rfl (.inl rfl) ?_
    show WR _ cd_17 9 [some (.ref (ad 0)), some (.int c), some (.int k), some (.int m), none, none] [.int 0] (sI h (ad 0) 6 0) _
    refine r_if_ne (tg := 19) rfl rfl (fun q => absurd q (by decide)) (fun _ => ?_)
    refine r_aload rfl rfl ?_
    refine r_ic (x := (-2)) rfl rfl ?_
    refine r_cv (y := 13) (ra := [.int (-2)]) (rest := []) rfl ⟨⟨rfl, rfl⟩, rfl, by decide⟩ (fx_t0 fx) rfl rfl (Nat.le_of_ble_eq_true rfl) ?_
    refine in_13 (Nat.le_of_ble_eq_true rfl) ?_
    show WR _ cd_13 0 [some (.ref (ad 0)), some (.int (-2))] [] (sI h (ad 0) 6 0) _
    refine r_aload rfl rfl ?_
    refine r_iload rfl rfl ?_
    refine r_putI rfl ⟨rfl, rfl, rfl⟩ (fx_t0 fx) ?_
    refine r_iload rfl rfl ?_
    refine r_iret rfl ?_
    show WR _ cd_17 18 [some (.ref (ad 0)), some (.int c), some (.int k), some (.int m), none, none] [.int (-2)] (sI (sI h (ad 0) 6 0) (ad 0) 6 (-2)) _
    refine r_iret rfl ?_
    show EV _ 160 [.ref (ad 30), .int c, .int k, .int m] (sI (sI h (ad 0) 6 0) (ad 0) 6 (-2)) _
    refine in_160 (Nat.le_of_ble_eq_true rfl) ?_
    show WR _ cd_160 0 [some (.ref (ad 30)), some (.int c), some (.int k), some (.int m), none, none] [] (sI (sI h (ad 0) 6 0) (ad 0) 6 (-2)) _
    refine r_iload rfl rfl ?_
    refine r_cs (y := 153) (ra := [.int c]) (rest := []) rfl ⟨⟨rfl, rfl⟩, by decide⟩ rfl rfl (Nat.le_of_ble_eq_true rfl) ?_
    refine in_153 (Nat.le_of_ble_eq_true rfl) ?_
    show WR _ cd_153 0 [some (.int c)] [] (sI (sI h (ad 0) 6 0) (ad 0) 6 (-2)) _
    refine r_iload rfl rfl ?_
    refine r_if_lt (tg := 14) rfl rfl (fun _ => ?_) (fun q => False.elim (by have := i_lt c1; have := i_rg c; have : (0 : Int32).toInt = 0 := rfl; have := i_nlt q; omega))
    refine r_ic (x := 0) rfl rfl ?_
    refine r_zret rfl (.inl rfl) ?_
    show WR _ cd_160 4 [some (.ref (ad 30)), some (.int c), some (.int k), some (.int m), none, none] [.int 0] (sI (sI h (ad 0) 6 0) (ad 0) 6 (-2)) _
    refine r_if_ne (tg := 14) rfl rfl (fun q => absurd q (by decide)) (fun _ => ?_)
    refine r_aload rfl rfl ?_
    refine r_ic (x := (-2)) rfl rfl ?_
    refine r_cv (y := 154) (ra := [.int (-2)]) (rest := []) rfl ⟨⟨rfl, rfl⟩, rfl, by decide⟩ (fx_t30 fx) rfl rfl (Nat.le_of_ble_eq_true rfl) ?_
    refine in_154 (Nat.le_of_ble_eq_true rfl) ?_
    show WR _ cd_154 0 [some (.ref (ad 30)), some (.int (-2))] [] (sI (sI h (ad 0) 6 0) (ad 0) 6 (-2)) _
    refine r_aload rfl rfl ?_
    refine r_iload rfl rfl ?_
    refine r_ic (x := (-1)) rfl rfl ?_
    refine r_icmp_ge (tg := 10) rfl rfl (fun q => absurd q (by decide)) (fun _ => ?_)
    refine r_iload rfl rfl ?_
    refine r_goto (tg := 11) rfl rfl ?_
    refine r_putI rfl ⟨rfl, rfl, rfl⟩ (fx_t30 fx) ?_
    refine r_iload rfl rfl ?_
    refine r_iret rfl ?_
    show WR _ cd_160 13 [some (.ref (ad 30)), some (.int c), some (.int k), some (.int m), none, none] [.int (-2)] (sI (sI (sI h (ad 0) 6 0) (ad 0) 6 (-2)) (ad 30) 11 (-2)) _
    refine r_iret rfl ?_
    exact ⟨rfl, Rel.why r (((Chg.rf.sI (fx_j fx) (.inl (by decide))).sI (fx_j fx) (.inl (by decide))).sI (fx_j fx) (.inl (by decide))) ⟨rfl, by decide⟩ (Eq.trans (Eq.trans (I_ne (fx_ne fx (by decide))) I_eq) (Eq.symm I_eq)), Nat.le_add_right _ _, Nat.le_add_right _ _⟩
  · obtain ⟨k2, hk2, ek2⟩ := ix_of (x := c) (n := 2147483648) (by have := i_nlt c1; have := i_rg c; have : (0 : Int32).toInt = 0 := rfl; omega) (by have := i_nlt c1; have := i_rg c; have : (0 : Int32).toInt = 0 := rfl; omega)
    refine r_iload rfl rfl ?_
    refine WR_tI (y := nI k2) ek2 ?_
    refine r_ic (x := 24) rfl rfl ?_
    refine r_icmp_ge (tg := 14) rfl rfl (fun c3 => ?_) (fun c3 => ?_)
    · refine r_ic (x := 0) rfl rfl ?_
      refine r_zret rfl (.inl rfl) ?_
      show WR _ cd_17 9 [some (.ref (ad 0)), some (.int c), some (.int k), some (.int m), none, none] [.int 0] (sI h (ad 0) 6 0) _
      refine r_if_ne (tg := 19) rfl rfl (fun q => absurd q (by decide)) (fun _ => ?_)
      refine r_aload rfl rfl ?_
      refine r_ic (x := (-2)) rfl rfl ?_
      refine r_cv (y := 13) (ra := [.int (-2)]) (rest := []) rfl ⟨⟨rfl, rfl⟩, rfl, by decide⟩ (fx_t0 fx) rfl rfl (Nat.le_of_ble_eq_true rfl) ?_
      refine in_13 (Nat.le_of_ble_eq_true rfl) ?_
      show WR _ cd_13 0 [some (.ref (ad 0)), some (.int (-2))] [] (sI h (ad 0) 6 0) _
      refine r_aload rfl rfl ?_
      refine r_iload rfl rfl ?_
      refine r_putI rfl ⟨rfl, rfl, rfl⟩ (fx_t0 fx) ?_
      refine r_iload rfl rfl ?_
      refine r_iret rfl ?_
      show WR _ cd_17 18 [some (.ref (ad 0)), some (.int c), some (.int k), some (.int m), none, none] [.int (-2)] (sI (sI h (ad 0) 6 0) (ad 0) 6 (-2)) _
      refine r_iret rfl ?_
      show EV _ 160 [.ref (ad 30), .int c, .int k, .int m] (sI (sI h (ad 0) 6 0) (ad 0) 6 (-2)) _
      refine in_160 (Nat.le_of_ble_eq_true rfl) ?_
      show WR _ cd_160 0 [some (.ref (ad 30)), some (.int c), some (.int k), some (.int m), none, none] [] (sI (sI h (ad 0) 6 0) (ad 0) 6 (-2)) _
      refine r_iload rfl rfl ?_
      refine WR_tI (y := nI k2) ek2 ?_
      refine r_cs (y := 153) (ra := [.int (nI k2)]) (rest := []) rfl ⟨⟨rfl, rfl⟩, by decide⟩ rfl rfl (Nat.le_of_ble_eq_true rfl) ?_
      refine in_153 (Nat.le_of_ble_eq_true rfl) ?_
      show WR _ cd_153 0 [some (.int (nI k2))] [] (sI (sI h (ad 0) 6 0) (ad 0) 6 (-2)) _
      refine r_iload rfl rfl ?_
      refine r_if_lt (tg := 14) rfl rfl (fun q => False.elim (by have := i_nlt c1; have := i_rg c; have : (0 : Int32).toInt = 0 := rfl; have := i_eq ek2; have : (nI k2).toInt = ((k2 : Nat) : Int) := nI_toInt (by omega); have := i_le c3; have : (24 : Int32).toInt = 24 := rfl; have := i_lt q; omega)) (fun _ => ?_)
      refine r_iload rfl rfl ?_
      refine r_ic (x := 24) rfl rfl ?_
      refine r_icmp_ge (tg := 14) rfl rfl (fun _ => ?_) (fun q => False.elim (by have := i_nlt c1; have := i_rg c; have : (0 : Int32).toInt = 0 := rfl; have := i_eq ek2; have : (nI k2).toInt = ((k2 : Nat) : Int) := nI_toInt (by omega); have := i_le c3; have : (24 : Int32).toInt = 24 := rfl; have := i_nle q; omega))
      refine r_ic (x := 0) rfl rfl ?_
      refine r_zret rfl (.inl rfl) ?_
      show WR _ cd_160 4 [some (.ref (ad 30)), some (.int c), some (.int k), some (.int m), none, none] [.int 0] (sI (sI h (ad 0) 6 0) (ad 0) 6 (-2)) _
      refine r_if_ne (tg := 14) rfl rfl (fun q => absurd q (by decide)) (fun _ => ?_)
      refine r_aload rfl rfl ?_
      refine r_ic (x := (-2)) rfl rfl ?_
      refine r_cv (y := 154) (ra := [.int (-2)]) (rest := []) rfl ⟨⟨rfl, rfl⟩, rfl, by decide⟩ (fx_t30 fx) rfl rfl (Nat.le_of_ble_eq_true rfl) ?_
      refine in_154 (Nat.le_of_ble_eq_true rfl) ?_
      show WR _ cd_154 0 [some (.ref (ad 30)), some (.int (-2))] [] (sI (sI h (ad 0) 6 0) (ad 0) 6 (-2)) _
      refine r_aload rfl rfl ?_
      refine r_iload rfl rfl ?_
      refine r_ic (x := (-1)) rfl rfl ?_
      refine r_icmp_ge (tg := 10) rfl rfl (fun q => absurd q (by decide)) (fun _ => ?_)
      refine r_iload rfl rfl ?_
      refine r_goto (tg := 11) rfl rfl ?_
      refine r_putI rfl ⟨rfl, rfl, rfl⟩ (fx_t30 fx) ?_
      refine r_iload rfl rfl ?_
      refine r_iret rfl ?_
      show WR _ cd_160 13 [some (.ref (ad 30)), some (.int c), some (.int k), some (.int m), none, none] [.int (-2)] (sI (sI (sI h (ad 0) 6 0) (ad 0) 6 (-2)) (ad 30) 11 (-2)) _
      refine r_iret rfl ?_
      exact ⟨rfl, Rel.why r (((Chg.rf.sI (fx_j fx) (.inl (by decide))).sI (fx_j fx) (.inl (by decide))).sI (fx_j fx) (.inl (by decide))) ⟨rfl, by decide⟩ (Eq.trans (Eq.trans (I_ne (fx_ne fx (by decide))) I_eq) (Eq.symm I_eq)), Nat.le_add_right _ _, Nat.le_add_right _ _⟩
    · refine r_ic (x := 1) rfl rfl ?_
      refine r_goto (tg := 15) rfl rfl ?_
      refine r_zret rfl (.inr rfl) ?_
      show WR _ cd_17 9 [some (.ref (ad 0)), some (.int c), some (.int k), some (.int m), none, none] [.int 1] (sI h (ad 0) 6 0) _
      refine r_if_ne (tg := 19) rfl rfl (fun _ => ?_) (fun q => absurd q (by decide))
      refine r_iload rfl rfl ?_
      refine r_ic (x := 8) rfl rfl ?_
      refine r_icmp_gt (tg := 31) rfl rfl (fun c4 => ?_) (fun c4 => ?_)
      · refine r_aload rfl rfl ?_
        refine r_ic (x := (-3)) rfl rfl ?_
        refine r_cv (y := 13) (ra := [.int (-3)]) (rest := []) rfl ⟨⟨rfl, rfl⟩, rfl, by decide⟩ (fx_t0 fx) rfl rfl (Nat.le_of_ble_eq_true rfl) ?_
        refine in_13 (Nat.le_of_ble_eq_true rfl) ?_
        show WR _ cd_13 0 [some (.ref (ad 0)), some (.int (-3))] [] (sI h (ad 0) 6 0) _
        refine r_aload rfl rfl ?_
        refine r_iload rfl rfl ?_
        refine r_putI rfl ⟨rfl, rfl, rfl⟩ (fx_t0 fx) ?_
        refine r_iload rfl rfl ?_
        refine r_iret rfl ?_
        show WR _ cd_17 37 [some (.ref (ad 0)), some (.int c), some (.int k), some (.int m), none, none] [.int (-3)] (sI (sI h (ad 0) 6 0) (ad 0) 6 (-3)) _
        refine r_iret rfl ?_
        show EV _ 160 [.ref (ad 30), .int c, .int k, .int m] (sI (sI h (ad 0) 6 0) (ad 0) 6 (-3)) _
        refine in_160 (Nat.le_of_ble_eq_true rfl) ?_
        show WR _ cd_160 0 [some (.ref (ad 30)), some (.int c), some (.int k), some (.int m), none, none] [] (sI (sI h (ad 0) 6 0) (ad 0) 6 (-3)) _
        refine r_iload rfl rfl ?_
        refine WR_tI (y := nI k2) ek2 ?_
        refine r_cs (y := 153) (ra := [.int (nI k2)]) (rest := []) rfl ⟨⟨rfl, rfl⟩, by decide⟩ rfl rfl (Nat.le_of_ble_eq_true rfl) ?_
        refine in_153 (Nat.le_of_ble_eq_true rfl) ?_
        show WR _ cd_153 0 [some (.int (nI k2))] [] (sI (sI h (ad 0) 6 0) (ad 0) 6 (-3)) _
        refine r_iload rfl rfl ?_
        refine r_if_lt (tg := 14) rfl rfl (fun q => False.elim (by have := i_nlt c1; have := i_rg c; have : (0 : Int32).toInt = 0 := rfl; have := i_eq ek2; have : (nI k2).toInt = ((k2 : Nat) : Int) := nI_toInt (by omega); have := i_nle c3; have : (24 : Int32).toInt = 24 := rfl; have := i_lt q; omega)) (fun _ => ?_)
        refine r_iload rfl rfl ?_
        refine r_ic (x := 24) rfl rfl ?_
        refine r_icmp_ge (tg := 14) rfl rfl (fun q => False.elim (by have := i_nlt c1; have := i_rg c; have : (0 : Int32).toInt = 0 := rfl; have := i_eq ek2; have : (nI k2).toInt = ((k2 : Nat) : Int) := nI_toInt (by omega); have := i_nle c3; have : (24 : Int32).toInt = 24 := rfl; have := i_le q; omega)) (fun _ => ?_)
        refine r_ic (x := 1) rfl rfl ?_
        refine r_goto (tg := 15) rfl rfl ?_
        refine r_zret rfl (.inr rfl) ?_
        show WR _ cd_160 4 [some (.ref (ad 30)), some (.int c), some (.int k), some (.int m), none, none] [.int 1] (sI (sI h (ad 0) 6 0) (ad 0) 6 (-3)) _
        refine r_if_ne (tg := 14) rfl rfl (fun _ => ?_) (fun q => absurd q (by decide))
        obtain ⟨k5, hk5, ek5⟩ := ix_of (x := k) (n := 2147483648) (by have := i_lt c4; have := i_rg k; have : (8 : Int32).toInt = 8 := rfl; omega) (by have := i_lt c4; have := i_rg k; have : (8 : Int32).toInt = 8 := rfl; omega)
        refine r_iload rfl rfl ?_
        refine WR_tI (y := nI k5) ek5 ?_
        refine r_ic (x := 8) rfl rfl ?_
        refine r_icmp_gt (tg := 26) rfl rfl (fun _ => ?_) (fun q => False.elim (by have := i_lt c4; have := i_rg k; have : (8 : Int32).toInt = 8 := rfl; have := i_eq ek5; have : (nI k5).toInt = ((k5 : Nat) : Int) := nI_toInt (by omega); have := i_nlt q; omega))
        refine r_aload rfl rfl ?_
        refine r_ic (x := (-3)) rfl rfl ?_
        refine r_cv (y := 154) (ra := [.int (-3)]) (rest := []) rfl ⟨⟨rfl, rfl⟩, rfl, by decide⟩ (fx_t30 fx) rfl rfl (Nat.le_of_ble_eq_true rfl) ?_
        refine in_154 (Nat.le_of_ble_eq_true rfl) ?_
        show WR _ cd_154 0 [some (.ref (ad 30)), some (.int (-3))] [] (sI (sI h (ad 0) 6 0) (ad 0) 6 (-3)) _
        refine r_aload rfl rfl ?_
        refine r_iload rfl rfl ?_
        refine r_ic (x := (-1)) rfl rfl ?_
        refine r_icmp_ge (tg := 10) rfl rfl (fun q => absurd q (by decide)) (fun _ => ?_)
        refine r_iload rfl rfl ?_
        refine r_goto (tg := 11) rfl rfl ?_
        refine r_putI rfl ⟨rfl, rfl, rfl⟩ (fx_t30 fx) ?_
        refine r_iload rfl rfl ?_
        refine r_iret rfl ?_
        show WR _ cd_160 32 [some (.ref (ad 30)), some (.int c), some (.int k), some (.int m), none, none] [.int (-3)] (sI (sI (sI h (ad 0) 6 0) (ad 0) 6 (-3)) (ad 30) 11 (-3)) _
        refine r_iret rfl ?_
        exact ⟨rfl, Rel.why r (((Chg.rf.sI (fx_j fx) (.inl (by decide))).sI (fx_j fx) (.inl (by decide))).sI (fx_j fx) (.inl (by decide))) ⟨rfl, by decide⟩ (Eq.trans (Eq.trans (I_ne (fx_ne fx (by decide))) I_eq) (Eq.symm I_eq)), Nat.le_add_right _ _, Nat.le_add_right _ _⟩
      · refine r_iload rfl rfl ?_
        refine r_ic (x := 12) rfl rfl ?_
        refine r_icmp_le (tg := 38) rfl rfl (fun c6 => ?_) (fun c6 => ?_)
        · refine r_iload rfl rfl ?_
          refine r_if_lt (tg := 47) rfl rfl (fun c7 => ?_) (fun c7 => ?_)
          · refine r_aload rfl rfl ?_
            refine r_ic (x := (-13)) rfl rfl ?_
            refine r_cv (y := 13) (ra := [.int (-13)]) (rest := []) rfl ⟨⟨rfl, rfl⟩, rfl, by decide⟩ (fx_t0 fx) rfl rfl (Nat.le_of_ble_eq_true rfl) ?_
            refine in_13 (Nat.le_of_ble_eq_true rfl) ?_
            show WR _ cd_13 0 [some (.ref (ad 0)), some (.int (-13))] [] (sI h (ad 0) 6 0) _
            refine r_aload rfl rfl ?_
            refine r_iload rfl rfl ?_
            refine r_putI rfl ⟨rfl, rfl, rfl⟩ (fx_t0 fx) ?_
            refine r_iload rfl rfl ?_
            refine r_iret rfl ?_
            show WR _ cd_17 53 [some (.ref (ad 0)), some (.int c), some (.int k), some (.int m), none, none] [.int (-13)] (sI (sI h (ad 0) 6 0) (ad 0) 6 (-13)) _
            refine r_iret rfl ?_
            show EV _ 160 [.ref (ad 30), .int c, .int k, .int m] (sI (sI h (ad 0) 6 0) (ad 0) 6 (-13)) _
            refine in_160 (Nat.le_of_ble_eq_true rfl) ?_
            show WR _ cd_160 0 [some (.ref (ad 30)), some (.int c), some (.int k), some (.int m), none, none] [] (sI (sI h (ad 0) 6 0) (ad 0) 6 (-13)) _
            refine r_iload rfl rfl ?_
            refine WR_tI (y := nI k2) ek2 ?_
            refine r_cs (y := 153) (ra := [.int (nI k2)]) (rest := []) rfl ⟨⟨rfl, rfl⟩, by decide⟩ rfl rfl (Nat.le_of_ble_eq_true rfl) ?_
            refine in_153 (Nat.le_of_ble_eq_true rfl) ?_
            show WR _ cd_153 0 [some (.int (nI k2))] [] (sI (sI h (ad 0) 6 0) (ad 0) 6 (-13)) _
            refine r_iload rfl rfl ?_
            refine r_if_lt (tg := 14) rfl rfl (fun q => False.elim (by have := i_nlt c1; have := i_rg c; have : (0 : Int32).toInt = 0 := rfl; have := i_eq ek2; have : (nI k2).toInt = ((k2 : Nat) : Int) := nI_toInt (by omega); have := i_nle c3; have : (24 : Int32).toInt = 24 := rfl; have := i_lt q; omega)) (fun _ => ?_)
            refine r_iload rfl rfl ?_
            refine r_ic (x := 24) rfl rfl ?_
            refine r_icmp_ge (tg := 14) rfl rfl (fun q => False.elim (by have := i_nlt c1; have := i_rg c; have : (0 : Int32).toInt = 0 := rfl; have := i_eq ek2; have : (nI k2).toInt = ((k2 : Nat) : Int) := nI_toInt (by omega); have := i_nle c3; have : (24 : Int32).toInt = 24 := rfl; have := i_le q; omega)) (fun _ => ?_)
            refine r_ic (x := 1) rfl rfl ?_
            refine r_goto (tg := 15) rfl rfl ?_
            refine r_zret rfl (.inr rfl) ?_
            show WR _ cd_160 4 [some (.ref (ad 30)), some (.int c), some (.int k), some (.int m), none, none] [.int 1] (sI (sI h (ad 0) 6 0) (ad 0) 6 (-13)) _
            refine r_if_ne (tg := 14) rfl rfl (fun _ => ?_) (fun q => absurd q (by decide))
            refine r_iload rfl rfl ?_
            refine r_ic (x := 8) rfl rfl ?_
            refine r_icmp_gt (tg := 26) rfl rfl (fun q => False.elim (by have := i_nlt c4; have := i_rg k; have : (8 : Int32).toInt = 8 := rfl; have := i_lt c7; have : (0 : Int32).toInt = 0 := rfl; have := i_lt q; omega)) (fun _ => ?_)
            refine r_iload rfl rfl ?_
            refine r_ic (x := 12) rfl rfl ?_
            refine r_icmp_le (tg := 33) rfl rfl (fun _ => ?_) (fun q => False.elim (by have := i_le c6; have := i_rg m; have : (12 : Int32).toInt = 12 := rfl; have := i_nle q; omega))
            refine r_iload rfl rfl ?_
            refine r_if_lt (tg := 42) rfl rfl (fun _ => ?_) (fun q => False.elim (by have := i_nlt c4; have := i_rg k; have : (8 : Int32).toInt = 8 := rfl; have := i_lt c7; have : (0 : Int32).toInt = 0 := rfl; have := i_nlt q; omega))
            refine r_aload rfl rfl ?_
            refine r_ic (x := 3) rfl rfl ?_
            refine r_cv (y := 156) (ra := [.int 3]) (rest := []) rfl ⟨⟨rfl, rfl⟩, rfl, by decide⟩ (fx_t30 fx) rfl rfl (Nat.le_of_ble_eq_true rfl) ?_
            refine in_156 (Nat.le_of_ble_eq_true rfl) ?_
            show WR _ cd_156 0 [some (.ref (ad 30)), some (.int 3)] [] (sI (sI h (ad 0) 6 0) (ad 0) 6 (-13)) _
            refine r_aload rfl rfl ?_
            refine r_ic (x := (-10)) rfl rfl ?_
            refine r_iload rfl rfl ?_
            refine r_isub rfl ?_
            refine WR_tI (y := (-13)) rfl ?_
            refine r_cv (y := 154) (ra := [.int (-13)]) (rest := []) rfl ⟨⟨rfl, rfl⟩, rfl, by decide⟩ (fx_t30 fx) rfl rfl (Nat.le_of_ble_eq_true rfl) ?_
            refine in_154 (Nat.le_of_ble_eq_true rfl) ?_
            show WR _ cd_154 0 [some (.ref (ad 30)), some (.int (-13))] [] (sI (sI h (ad 0) 6 0) (ad 0) 6 (-13)) _
            refine r_aload rfl rfl ?_
            refine r_iload rfl rfl ?_
            refine r_ic (x := (-1)) rfl rfl ?_
            refine r_icmp_ge (tg := 10) rfl rfl (fun q => absurd q (by decide)) (fun _ => ?_)
            refine r_iload rfl rfl ?_
            refine r_goto (tg := 11) rfl rfl ?_
            refine r_putI rfl ⟨rfl, rfl, rfl⟩ (fx_t30 fx) ?_
            refine r_iload rfl rfl ?_
            refine r_iret rfl ?_
            show WR _ cd_156 8 [some (.ref (ad 30)), some (.int 3)] [.int (-13)] (sI (sI (sI h (ad 0) 6 0) (ad 0) 6 (-13)) (ad 30) 11 (-13)) _
            refine r_iret rfl ?_
            show WR _ cd_160 47 [some (.ref (ad 30)), some (.int c), some (.int k), some (.int m), none, none] [.int (-13)] (sI (sI (sI h (ad 0) 6 0) (ad 0) 6 (-13)) (ad 30) 11 (-13)) _
            refine r_iret rfl ?_
            exact ⟨rfl, Rel.why r (((Chg.rf.sI (fx_j fx) (.inl (by decide))).sI (fx_j fx) (.inl (by decide))).sI (fx_j fx) (.inl (by decide))) ⟨rfl, by decide⟩ (Eq.trans (Eq.trans (I_ne (fx_ne fx (by decide))) I_eq) (Eq.symm I_eq)), Nat.le_add_right _ _, Nat.le_add_right _ _⟩
          · refine r_iload rfl rfl ?_
            refine r_ic (x := (-1)) rfl rfl ?_
            refine r_icmp_ge (tg := 54) rfl rfl (fun c8 => ?_) (fun c8 => ?_)
            · obtain ⟨k9, hk9, ek9⟩ := ix_of (x := k) (n := 2147483648) (by have := i_nlt c4; have := i_rg k; have : (8 : Int32).toInt = 8 := rfl; have := i_nlt c7; have : (0 : Int32).toInt = 0 := rfl; omega) (by have := i_nlt c4; have := i_rg k; have : (8 : Int32).toInt = 8 := rfl; have := i_nlt c7; have : (0 : Int32).toInt = 0 := rfl; omega)
              have b0 : k2 < 24 := (by have := i_nlt c1; have := i_rg c; have : (0 : Int32).toInt = 0 := rfl; have := i_eq ek2; have : (nI k2).toInt = ((k2 : Nat) : Int) := nI_toInt (by omega); have := i_nle c3; have : (24 : Int32).toInt = 24 := rfl; omega)
              have b1 : k9 ≤ 8 := (by have := i_nlt c4; have := i_rg k; have : (8 : Int32).toInt = 8 := rfl; have := i_nlt c7; have : (0 : Int32).toInt = 0 := rfl; have := i_eq ek9; have : (nI k9).toInt = ((k9 : Nat) : Int) := nI_toInt (by omega); omega)
              have b2 := lv_of c6 c8
              subst ek2; subst ek9
              exact t_grid r b0 b1 b2
            · refine r_aload rfl rfl ?_
              refine r_ic (x := (-13)) rfl rfl ?_
              refine r_cv (y := 13) (ra := [.int (-13)]) (rest := []) rfl ⟨⟨rfl, rfl⟩, rfl, by decide⟩ (fx_t0 fx) rfl rfl (Nat.le_of_ble_eq_true rfl) ?_
              refine in_13 (Nat.le_of_ble_eq_true rfl) ?_
              show WR _ cd_13 0 [some (.ref (ad 0)), some (.int (-13))] [] (sI h (ad 0) 6 0) _
              refine r_aload rfl rfl ?_
              refine r_iload rfl rfl ?_
              refine r_putI rfl ⟨rfl, rfl, rfl⟩ (fx_t0 fx) ?_
              refine r_iload rfl rfl ?_
              refine r_iret rfl ?_
              show WR _ cd_17 53 [some (.ref (ad 0)), some (.int c), some (.int k), some (.int m), none, none] [.int (-13)] (sI (sI h (ad 0) 6 0) (ad 0) 6 (-13)) _
              refine r_iret rfl ?_
              show EV _ 160 [.ref (ad 30), .int c, .int k, .int m] (sI (sI h (ad 0) 6 0) (ad 0) 6 (-13)) _
              refine in_160 (Nat.le_of_ble_eq_true rfl) ?_
              show WR _ cd_160 0 [some (.ref (ad 30)), some (.int c), some (.int k), some (.int m), none, none] [] (sI (sI h (ad 0) 6 0) (ad 0) 6 (-13)) _
              refine r_iload rfl rfl ?_
              refine WR_tI (y := nI k2) ek2 ?_
              refine r_cs (y := 153) (ra := [.int (nI k2)]) (rest := []) rfl ⟨⟨rfl, rfl⟩, by decide⟩ rfl rfl (Nat.le_of_ble_eq_true rfl) ?_
              refine in_153 (Nat.le_of_ble_eq_true rfl) ?_
              show WR _ cd_153 0 [some (.int (nI k2))] [] (sI (sI h (ad 0) 6 0) (ad 0) 6 (-13)) _
              refine r_iload rfl rfl ?_
              refine r_if_lt (tg := 14) rfl rfl (fun q => False.elim (by have := i_nlt c1; have := i_rg c; have : (0 : Int32).toInt = 0 := rfl; have := i_eq ek2; have : (nI k2).toInt = ((k2 : Nat) : Int) := nI_toInt (by omega); have := i_nle c3; have : (24 : Int32).toInt = 24 := rfl; have := i_lt q; omega)) (fun _ => ?_)
              refine r_iload rfl rfl ?_
              refine r_ic (x := 24) rfl rfl ?_
              refine r_icmp_ge (tg := 14) rfl rfl (fun q => False.elim (by have := i_nlt c1; have := i_rg c; have : (0 : Int32).toInt = 0 := rfl; have := i_eq ek2; have : (nI k2).toInt = ((k2 : Nat) : Int) := nI_toInt (by omega); have := i_nle c3; have : (24 : Int32).toInt = 24 := rfl; have := i_le q; omega)) (fun _ => ?_)
              refine r_ic (x := 1) rfl rfl ?_
              refine r_goto (tg := 15) rfl rfl ?_
              refine r_zret rfl (.inr rfl) ?_
              show WR _ cd_160 4 [some (.ref (ad 30)), some (.int c), some (.int k), some (.int m), none, none] [.int 1] (sI (sI h (ad 0) 6 0) (ad 0) 6 (-13)) _
              refine r_if_ne (tg := 14) rfl rfl (fun _ => ?_) (fun q => absurd q (by decide))
              obtain ⟨k10, hk10, ek10⟩ := ix_of (x := k) (n := 2147483648) (by have := i_nlt c4; have := i_rg k; have : (8 : Int32).toInt = 8 := rfl; have := i_nlt c7; have : (0 : Int32).toInt = 0 := rfl; omega) (by have := i_nlt c4; have := i_rg k; have : (8 : Int32).toInt = 8 := rfl; have := i_nlt c7; have : (0 : Int32).toInt = 0 := rfl; omega)
              refine r_iload rfl rfl ?_
              refine WR_tI (y := nI k10) ek10 ?_
              refine r_ic (x := 8) rfl rfl ?_
              refine r_icmp_gt (tg := 26) rfl rfl (fun q => False.elim (by have := i_nlt c4; have := i_rg k; have : (8 : Int32).toInt = 8 := rfl; have := i_nlt c7; have : (0 : Int32).toInt = 0 := rfl; have := i_eq ek10; have : (nI k10).toInt = ((k10 : Nat) : Int) := nI_toInt (by omega); have := i_lt q; omega)) (fun _ => ?_)
              refine r_iload rfl rfl ?_
              refine r_ic (x := 12) rfl rfl ?_
              refine r_icmp_le (tg := 33) rfl rfl (fun _ => ?_) (fun q => False.elim (by have := i_le c6; have := i_rg m; have : (12 : Int32).toInt = 12 := rfl; have := i_nle c8; have : (-1 : Int32).toInt = -1 := rfl; have := i_nle q; omega))
              refine r_iload rfl rfl ?_
              refine WR_tI (y := nI k10) ek10 ?_
              refine r_if_lt (tg := 42) rfl rfl (fun q => False.elim (by have := i_nlt c4; have := i_rg k; have : (8 : Int32).toInt = 8 := rfl; have := i_nlt c7; have : (0 : Int32).toInt = 0 := rfl; have := i_eq ek10; have : (nI k10).toInt = ((k10 : Nat) : Int) := nI_toInt (by omega); have := i_lt q; omega)) (fun _ => ?_)
              refine r_iload rfl rfl ?_
              refine r_ic (x := (-1)) rfl rfl ?_
              refine r_icmp_ge (tg := 48) rfl rfl (fun q => False.elim (by have := i_le c6; have := i_rg m; have : (12 : Int32).toInt = 12 := rfl; have := i_nle c8; have : (-1 : Int32).toInt = -1 := rfl; have := i_le q; omega)) (fun _ => ?_)
              refine r_aload rfl rfl ?_
              refine r_ic (x := 3) rfl rfl ?_
              refine r_cv (y := 156) (ra := [.int 3]) (rest := []) rfl ⟨⟨rfl, rfl⟩, rfl, by decide⟩ (fx_t30 fx) rfl rfl (Nat.le_of_ble_eq_true rfl) ?_
              refine in_156 (Nat.le_of_ble_eq_true rfl) ?_
              show WR _ cd_156 0 [some (.ref (ad 30)), some (.int 3)] [] (sI (sI h (ad 0) 6 0) (ad 0) 6 (-13)) _
              refine r_aload rfl rfl ?_
              refine r_ic (x := (-10)) rfl rfl ?_
              refine r_iload rfl rfl ?_
              refine r_isub rfl ?_
              refine WR_tI (y := (-13)) rfl ?_
              refine r_cv (y := 154) (ra := [.int (-13)]) (rest := []) rfl ⟨⟨rfl, rfl⟩, rfl, by decide⟩ (fx_t30 fx) rfl rfl (Nat.le_of_ble_eq_true rfl) ?_
              refine in_154 (Nat.le_of_ble_eq_true rfl) ?_
              show WR _ cd_154 0 [some (.ref (ad 30)), some (.int (-13))] [] (sI (sI h (ad 0) 6 0) (ad 0) 6 (-13)) _
              refine r_aload rfl rfl ?_
              refine r_iload rfl rfl ?_
              refine r_ic (x := (-1)) rfl rfl ?_
              refine r_icmp_ge (tg := 10) rfl rfl (fun q => absurd q (by decide)) (fun _ => ?_)
              refine r_iload rfl rfl ?_
              refine r_goto (tg := 11) rfl rfl ?_
              refine r_putI rfl ⟨rfl, rfl, rfl⟩ (fx_t30 fx) ?_
              refine r_iload rfl rfl ?_
              refine r_iret rfl ?_
              show WR _ cd_156 8 [some (.ref (ad 30)), some (.int 3)] [.int (-13)] (sI (sI (sI h (ad 0) 6 0) (ad 0) 6 (-13)) (ad 30) 11 (-13)) _
              refine r_iret rfl ?_
              show WR _ cd_160 47 [some (.ref (ad 30)), some (.int c), some (.int k), some (.int m), none, none] [.int (-13)] (sI (sI (sI h (ad 0) 6 0) (ad 0) 6 (-13)) (ad 30) 11 (-13)) _
              refine r_iret rfl ?_
              exact ⟨rfl, Rel.why r (((Chg.rf.sI (fx_j fx) (.inl (by decide))).sI (fx_j fx) (.inl (by decide))).sI (fx_j fx) (.inl (by decide))) ⟨rfl, by decide⟩ (Eq.trans (Eq.trans (I_ne (fx_ne fx (by decide))) I_eq) (Eq.symm I_eq)), Nat.le_add_right _ _, Nat.le_add_right _ _⟩
        · refine r_aload rfl rfl ?_
          refine r_ic (x := (-3)) rfl rfl ?_
          refine r_cv (y := 13) (ra := [.int (-3)]) (rest := []) rfl ⟨⟨rfl, rfl⟩, rfl, by decide⟩ (fx_t0 fx) rfl rfl (Nat.le_of_ble_eq_true rfl) ?_
          refine in_13 (Nat.le_of_ble_eq_true rfl) ?_
          show WR _ cd_13 0 [some (.ref (ad 0)), some (.int (-3))] [] (sI h (ad 0) 6 0) _
          refine r_aload rfl rfl ?_
          refine r_iload rfl rfl ?_
          refine r_putI rfl ⟨rfl, rfl, rfl⟩ (fx_t0 fx) ?_
          refine r_iload rfl rfl ?_
          refine r_iret rfl ?_
          show WR _ cd_17 37 [some (.ref (ad 0)), some (.int c), some (.int k), some (.int m), none, none] [.int (-3)] (sI (sI h (ad 0) 6 0) (ad 0) 6 (-3)) _
          refine r_iret rfl ?_
          show EV _ 160 [.ref (ad 30), .int c, .int k, .int m] (sI (sI h (ad 0) 6 0) (ad 0) 6 (-3)) _
          refine in_160 (Nat.le_of_ble_eq_true rfl) ?_
          show WR _ cd_160 0 [some (.ref (ad 30)), some (.int c), some (.int k), some (.int m), none, none] [] (sI (sI h (ad 0) 6 0) (ad 0) 6 (-3)) _
          refine r_iload rfl rfl ?_
          refine WR_tI (y := nI k2) ek2 ?_
          refine r_cs (y := 153) (ra := [.int (nI k2)]) (rest := []) rfl ⟨⟨rfl, rfl⟩, by decide⟩ rfl rfl (Nat.le_of_ble_eq_true rfl) ?_
          refine in_153 (Nat.le_of_ble_eq_true rfl) ?_
          show WR _ cd_153 0 [some (.int (nI k2))] [] (sI (sI h (ad 0) 6 0) (ad 0) 6 (-3)) _
          refine r_iload rfl rfl ?_
          refine r_if_lt (tg := 14) rfl rfl (fun q => False.elim (by have := i_nlt c1; have := i_rg c; have : (0 : Int32).toInt = 0 := rfl; have := i_eq ek2; have : (nI k2).toInt = ((k2 : Nat) : Int) := nI_toInt (by omega); have := i_nle c3; have : (24 : Int32).toInt = 24 := rfl; have := i_lt q; omega)) (fun _ => ?_)
          refine r_iload rfl rfl ?_
          refine r_ic (x := 24) rfl rfl ?_
          refine r_icmp_ge (tg := 14) rfl rfl (fun q => False.elim (by have := i_nlt c1; have := i_rg c; have : (0 : Int32).toInt = 0 := rfl; have := i_eq ek2; have : (nI k2).toInt = ((k2 : Nat) : Int) := nI_toInt (by omega); have := i_nle c3; have : (24 : Int32).toInt = 24 := rfl; have := i_le q; omega)) (fun _ => ?_)
          refine r_ic (x := 1) rfl rfl ?_
          refine r_goto (tg := 15) rfl rfl ?_
          refine r_zret rfl (.inr rfl) ?_
          show WR _ cd_160 4 [some (.ref (ad 30)), some (.int c), some (.int k), some (.int m), none, none] [.int 1] (sI (sI h (ad 0) 6 0) (ad 0) 6 (-3)) _
          refine r_if_ne (tg := 14) rfl rfl (fun _ => ?_) (fun q => absurd q (by decide))
          refine r_iload rfl rfl ?_
          refine r_ic (x := 8) rfl rfl ?_
          refine r_icmp_gt (tg := 26) rfl rfl (fun q => False.elim (by have := i_nlt c4; have := i_rg k; have : (8 : Int32).toInt = 8 := rfl; have := i_lt q; omega)) (fun _ => ?_)
          obtain ⟨k11, hk11, ek11⟩ := ix_of (x := m) (n := 2147483648) (by have := i_nle c6; have := i_rg m; have : (12 : Int32).toInt = 12 := rfl; omega) (by have := i_nle c6; have := i_rg m; have : (12 : Int32).toInt = 12 := rfl; omega)
          refine r_iload rfl rfl ?_
          refine WR_tI (y := nI k11) ek11 ?_
          refine r_ic (x := 12) rfl rfl ?_
          refine r_icmp_le (tg := 33) rfl rfl (fun q => False.elim (by have := i_nle c6; have := i_rg m; have : (12 : Int32).toInt = 12 := rfl; have := i_eq ek11; have : (nI k11).toInt = ((k11 : Nat) : Int) := nI_toInt (by omega); have := i_le q; omega)) (fun _ => ?_)
          refine r_aload rfl rfl ?_
          refine r_ic (x := (-3)) rfl rfl ?_
          refine r_cv (y := 154) (ra := [.int (-3)]) (rest := []) rfl ⟨⟨rfl, rfl⟩, rfl, by decide⟩ (fx_t30 fx) rfl rfl (Nat.le_of_ble_eq_true rfl) ?_
          refine in_154 (Nat.le_of_ble_eq_true rfl) ?_
          show WR _ cd_154 0 [some (.ref (ad 30)), some (.int (-3))] [] (sI (sI h (ad 0) 6 0) (ad 0) 6 (-3)) _
          refine r_aload rfl rfl ?_
          refine r_iload rfl rfl ?_
          refine r_ic (x := (-1)) rfl rfl ?_
          refine r_icmp_ge (tg := 10) rfl rfl (fun q => absurd q (by decide)) (fun _ => ?_)
          refine r_iload rfl rfl ?_
          refine r_goto (tg := 11) rfl rfl ?_
          refine r_putI rfl ⟨rfl, rfl, rfl⟩ (fx_t30 fx) ?_
          refine r_iload rfl rfl ?_
          refine r_iret rfl ?_
          show WR _ cd_160 32 [some (.ref (ad 30)), some (.int c), some (.int k), some (.int m), none, none] [.int (-3)] (sI (sI (sI h (ad 0) 6 0) (ad 0) 6 (-3)) (ad 30) 11 (-3)) _
          refine r_iret rfl ?_
          exact ⟨rfl, Rel.why r (((Chg.rf.sI (fx_j fx) (.inl (by decide))).sI (fx_j fx) (.inl (by decide))).sI (fx_j fx) (.inl (by decide))) ⟨rfl, by decide⟩ (Eq.trans (Eq.trans (I_ne (fx_ne fx (by decide))) I_eq) (Eq.symm I_eq)), Nat.le_add_right _ _, Nat.le_add_right _ _⟩


/-! ===== of what kinds a part is; printed ===== -/
set_option maxHeartbeats 1000000 in
theorem x_isOf {d : Nat} {Q : mQ} {n : Nat} {ad sa : Nat → Nat} {z0 : Nat} {h : mH} (fx : FX n ad sa z0 h) {a : Nat} (ta : hT h a = 4) (k : Int32) 
    (B1 : vp_in (hI h a 0) 7)
    (L1 : (((hI h (sa 0) (hI h a 0).toNatClampNeg) >>> (k &&& 31)) &&& 1) = 0 → Q (some (.int 0)) h) (L2 : ¬ (((hI h (sa 0) (hI h a 0).toNatClampNeg) >>> (k &&& 31)) &&& 1) = 0 → Q (some (.int 1)) h) : EV (d + 1) 48 [.ref a, .int k] h Q := by
  refine in_48 (Nat.le_of_ble_eq_true rfl) ?_
  show WR _ cd_48 0 [some (.ref a), some (.int k)] [] h _
  refine r_getstatic (a := sa 0) rfl (fx_st fx 0 (by decide)).1 ?_
  refine r_aload rfl rfl ?_
  refine r_getI rfl ⟨rfl, rfl, rfl⟩ ta ?_
  refine r_iaload rfl (.inr (fx_st fx 0 (by decide)).2.1) (vp_ct ((fx_st fx 0 (by decide)).2.2) (B1)) ?_
  refine r_iload rfl rfl ?_
  refine r_ishr rfl ?_
  refine r_ic (x := 1) rfl rfl ?_
  refine r_iand rfl ?_
  refine r_if_eq (tg := 19) rfl rfl (fun c1 => ?_) (fun c1 => ?_)
  · refine r_ic (x := 0) rfl rfl ?_
    refine r_zret rfl (.inl rfl) ?_
    exact L1 c1
  · refine r_ic (x := 1) rfl rfl ?_
    refine r_goto (tg := 20) rfl rfl ?_
    refine r_zret rfl (.inr rfl) ?_
    exact L2 c1

set_option maxHeartbeats 1000000 in
theorem m_isOf {d : Nat} {Q : mQ} {n : Nat} {ad sa : Nat → Nat} {z0 : Nat} {h : mH} (fx : FX n ad sa z0 h) (q k : Int32) 
    (B1 : vp_in q 60)
    (L1 : (hI h (ad 37) q.toNatClampNeg) = k → Q (some (.int 1)) h) (L2 : ¬ (hI h (ad 37) q.toNatClampNeg) = k → ¬ (hI h (ad 37) q.toNatClampNeg) = 2 → ¬ (hI h (ad 37) q.toNatClampNeg) = 4 → ¬ (hI h (ad 37) q.toNatClampNeg) = 6 → 3 ≤ (hI h (ad 37) q.toNatClampNeg) → Q (some (.int 0)) h) (L3 : ¬ (hI h (ad 37) q.toNatClampNeg) = k → ¬ (hI h (ad 37) q.toNatClampNeg) = 2 → ¬ (hI h (ad 37) q.toNatClampNeg) = 4 → ¬ (hI h (ad 37) q.toNatClampNeg) = 6 → ¬ 3 ≤ (hI h (ad 37) q.toNatClampNeg) → ¬ k = 7 → Q (some (.int 0)) h) (L4 : ¬ (hI h (ad 37) q.toNatClampNeg) = k → ¬ (hI h (ad 37) q.toNatClampNeg) = 2 → ¬ (hI h (ad 37) q.toNatClampNeg) = 4 → ¬ (hI h (ad 37) q.toNatClampNeg) = 6 → ¬ 3 ≤ (hI h (ad 37) q.toNatClampNeg) → k = 7 → Q (some (.int 1)) h) (L5 : ¬ (hI h (ad 37) q.toNatClampNeg) = k → ¬ (hI h (ad 37) q.toNatClampNeg) = 2 → ¬ (hI h (ad 37) q.toNatClampNeg) = 4 → (hI h (ad 37) q.toNatClampNeg) = 6 → k = 5 → Q (some (.int 1)) h) (L6 : ¬ (hI h (ad 37) q.toNatClampNeg) = k → ¬ (hI h (ad 37) q.toNatClampNeg) = 2 → ¬ (hI h (ad 37) q.toNatClampNeg) = 4 → (hI h (ad 37) q.toNatClampNeg) = 6 → ¬ k = 5 → 3 ≤ (hI h (ad 37) q.toNatClampNeg) → Q (some (.int 0)) h) (L7 : ¬ (hI h (ad 37) q.toNatClampNeg) = k → ¬ (hI h (ad 37) q.toNatClampNeg) = 2 → ¬ (hI h (ad 37) q.toNatClampNeg) = 4 → (hI h (ad 37) q.toNatClampNeg) = 6 → ¬ k = 5 → ¬ 3 ≤ (hI h (ad 37) q.toNatClampNeg) → ¬ k = 7 → Q (some (.int 0)) h) (L8 : ¬ (hI h (ad 37) q.toNatClampNeg) = k → ¬ (hI h (ad 37) q.toNatClampNeg) = 2 → ¬ (hI h (ad 37) q.toNatClampNeg) = 4 → (hI h (ad 37) q.toNatClampNeg) = 6 → ¬ k = 5 → ¬ 3 ≤ (hI h (ad 37) q.toNatClampNeg) → k = 7 → Q (some (.int 1)) h) (L9 : ¬ (hI h (ad 37) q.toNatClampNeg) = k → ¬ (hI h (ad 37) q.toNatClampNeg) = 2 → (hI h (ad 37) q.toNatClampNeg) = 4 → k = 3 → Q (some (.int 1)) h) (L10 : ¬ (hI h (ad 37) q.toNatClampNeg) = k → ¬ (hI h (ad 37) q.toNatClampNeg) = 2 → (hI h (ad 37) q.toNatClampNeg) = 4 → ¬ k = 3 → ¬ (hI h (ad 37) q.toNatClampNeg) = 6 → 3 ≤ (hI h (ad 37) q.toNatClampNeg) → Q (some (.int 0)) h) (L11 : ¬ (hI h (ad 37) q.toNatClampNeg) = k → ¬ (hI h (ad 37) q.toNatClampNeg) = 2 → (hI h (ad 37) q.toNatClampNeg) = 4 → ¬ k = 3 → ¬ (hI h (ad 37) q.toNatClampNeg) = 6 → ¬ 3 ≤ (hI h (ad 37) q.toNatClampNeg) → ¬ k = 7 → Q (some (.int 0)) h) (L12 : ¬ (hI h (ad 37) q.toNatClampNeg) = k → ¬ (hI h (ad 37) q.toNatClampNeg) = 2 → (hI h (ad 37) q.toNatClampNeg) = 4 → ¬ k = 3 → ¬ (hI h (ad 37) q.toNatClampNeg) = 6 → ¬ 3 ≤ (hI h (ad 37) q.toNatClampNeg) → k = 7 → Q (some (.int 1)) h) (L13 : ¬ (hI h (ad 37) q.toNatClampNeg) = k → ¬ (hI h (ad 37) q.toNatClampNeg) = 2 → (hI h (ad 37) q.toNatClampNeg) = 4 → ¬ k = 3 → (hI h (ad 37) q.toNatClampNeg) = 6 → k = 5 → Q (some (.int 1)) h) (L14 : ¬ (hI h (ad 37) q.toNatClampNeg) = k → ¬ (hI h (ad 37) q.toNatClampNeg) = 2 → (hI h (ad 37) q.toNatClampNeg) = 4 → ¬ k = 3 → (hI h (ad 37) q.toNatClampNeg) = 6 → ¬ k = 5 → 3 ≤ (hI h (ad 37) q.toNatClampNeg) → Q (some (.int 0)) h) (L15 : ¬ (hI h (ad 37) q.toNatClampNeg) = k → ¬ (hI h (ad 37) q.toNatClampNeg) = 2 → (hI h (ad 37) q.toNatClampNeg) = 4 → ¬ k = 3 → (hI h (ad 37) q.toNatClampNeg) = 6 → ¬ k = 5 → ¬ 3 ≤ (hI h (ad 37) q.toNatClampNeg) → ¬ k = 7 → Q (some (.int 0)) h) (L16 : ¬ (hI h (ad 37) q.toNatClampNeg) = k → ¬ (hI h (ad 37) q.toNatClampNeg) = 2 → (hI h (ad 37) q.toNatClampNeg) = 4 → ¬ k = 3 → (hI h (ad 37) q.toNatClampNeg) = 6 → ¬ k = 5 → ¬ 3 ≤ (hI h (ad 37) q.toNatClampNeg) → k = 7 → Q (some (.int 1)) h) (L17 : ¬ (hI h (ad 37) q.toNatClampNeg) = k → (hI h (ad 37) q.toNatClampNeg) = 2 → k = 1 → Q (some (.int 1)) h) (L18 : ¬ (hI h (ad 37) q.toNatClampNeg) = k → (hI h (ad 37) q.toNatClampNeg) = 2 → ¬ k = 1 → ¬ (hI h (ad 37) q.toNatClampNeg) = 4 → ¬ (hI h (ad 37) q.toNatClampNeg) = 6 → 3 ≤ (hI h (ad 37) q.toNatClampNeg) → Q (some (.int 0)) h) (L19 : ¬ (hI h (ad 37) q.toNatClampNeg) = k → (hI h (ad 37) q.toNatClampNeg) = 2 → ¬ k = 1 → ¬ (hI h (ad 37) q.toNatClampNeg) = 4 → ¬ (hI h (ad 37) q.toNatClampNeg) = 6 → ¬ 3 ≤ (hI h (ad 37) q.toNatClampNeg) → ¬ k = 7 → Q (some (.int 0)) h) (L20 : ¬ (hI h (ad 37) q.toNatClampNeg) = k → (hI h (ad 37) q.toNatClampNeg) = 2 → ¬ k = 1 → ¬ (hI h (ad 37) q.toNatClampNeg) = 4 → ¬ (hI h (ad 37) q.toNatClampNeg) = 6 → ¬ 3 ≤ (hI h (ad 37) q.toNatClampNeg) → k = 7 → Q (some (.int 1)) h) (L21 : ¬ (hI h (ad 37) q.toNatClampNeg) = k → (hI h (ad 37) q.toNatClampNeg) = 2 → ¬ k = 1 → ¬ (hI h (ad 37) q.toNatClampNeg) = 4 → (hI h (ad 37) q.toNatClampNeg) = 6 → k = 5 → Q (some (.int 1)) h) (L22 : ¬ (hI h (ad 37) q.toNatClampNeg) = k → (hI h (ad 37) q.toNatClampNeg) = 2 → ¬ k = 1 → ¬ (hI h (ad 37) q.toNatClampNeg) = 4 → (hI h (ad 37) q.toNatClampNeg) = 6 → ¬ k = 5 → 3 ≤ (hI h (ad 37) q.toNatClampNeg) → Q (some (.int 0)) h) (L23 : ¬ (hI h (ad 37) q.toNatClampNeg) = k → (hI h (ad 37) q.toNatClampNeg) = 2 → ¬ k = 1 → ¬ (hI h (ad 37) q.toNatClampNeg) = 4 → (hI h (ad 37) q.toNatClampNeg) = 6 → ¬ k = 5 → ¬ 3 ≤ (hI h (ad 37) q.toNatClampNeg) → ¬ k = 7 → Q (some (.int 0)) h) (L24 : ¬ (hI h (ad 37) q.toNatClampNeg) = k → (hI h (ad 37) q.toNatClampNeg) = 2 → ¬ k = 1 → ¬ (hI h (ad 37) q.toNatClampNeg) = 4 → (hI h (ad 37) q.toNatClampNeg) = 6 → ¬ k = 5 → ¬ 3 ≤ (hI h (ad 37) q.toNatClampNeg) → k = 7 → Q (some (.int 1)) h) (L25 : ¬ (hI h (ad 37) q.toNatClampNeg) = k → (hI h (ad 37) q.toNatClampNeg) = 2 → ¬ k = 1 → (hI h (ad 37) q.toNatClampNeg) = 4 → k = 3 → Q (some (.int 1)) h) (L26 : ¬ (hI h (ad 37) q.toNatClampNeg) = k → (hI h (ad 37) q.toNatClampNeg) = 2 → ¬ k = 1 → (hI h (ad 37) q.toNatClampNeg) = 4 → ¬ k = 3 → ¬ (hI h (ad 37) q.toNatClampNeg) = 6 → 3 ≤ (hI h (ad 37) q.toNatClampNeg) → Q (some (.int 0)) h) (L27 : ¬ (hI h (ad 37) q.toNatClampNeg) = k → (hI h (ad 37) q.toNatClampNeg) = 2 → ¬ k = 1 → (hI h (ad 37) q.toNatClampNeg) = 4 → ¬ k = 3 → ¬ (hI h (ad 37) q.toNatClampNeg) = 6 → ¬ 3 ≤ (hI h (ad 37) q.toNatClampNeg) → ¬ k = 7 → Q (some (.int 0)) h) (L28 : ¬ (hI h (ad 37) q.toNatClampNeg) = k → (hI h (ad 37) q.toNatClampNeg) = 2 → ¬ k = 1 → (hI h (ad 37) q.toNatClampNeg) = 4 → ¬ k = 3 → ¬ (hI h (ad 37) q.toNatClampNeg) = 6 → ¬ 3 ≤ (hI h (ad 37) q.toNatClampNeg) → k = 7 → Q (some (.int 1)) h) (L29 : ¬ (hI h (ad 37) q.toNatClampNeg) = k → (hI h (ad 37) q.toNatClampNeg) = 2 → ¬ k = 1 → (hI h (ad 37) q.toNatClampNeg) = 4 → ¬ k = 3 → (hI h (ad 37) q.toNatClampNeg) = 6 → k = 5 → Q (some (.int 1)) h) (L30 : ¬ (hI h (ad 37) q.toNatClampNeg) = k → (hI h (ad 37) q.toNatClampNeg) = 2 → ¬ k = 1 → (hI h (ad 37) q.toNatClampNeg) = 4 → ¬ k = 3 → (hI h (ad 37) q.toNatClampNeg) = 6 → ¬ k = 5 → 3 ≤ (hI h (ad 37) q.toNatClampNeg) → Q (some (.int 0)) h) (L31 : ¬ (hI h (ad 37) q.toNatClampNeg) = k → (hI h (ad 37) q.toNatClampNeg) = 2 → ¬ k = 1 → (hI h (ad 37) q.toNatClampNeg) = 4 → ¬ k = 3 → (hI h (ad 37) q.toNatClampNeg) = 6 → ¬ k = 5 → ¬ 3 ≤ (hI h (ad 37) q.toNatClampNeg) → ¬ k = 7 → Q (some (.int 0)) h) (L32 : ¬ (hI h (ad 37) q.toNatClampNeg) = k → (hI h (ad 37) q.toNatClampNeg) = 2 → ¬ k = 1 → (hI h (ad 37) q.toNatClampNeg) = 4 → ¬ k = 3 → (hI h (ad 37) q.toNatClampNeg) = 6 → ¬ k = 5 → ¬ 3 ≤ (hI h (ad 37) q.toNatClampNeg) → k = 7 → Q (some (.int 1)) h) : EV (d + 1) 177 [.ref (ad 30), .int q, .int k] h Q := by
  refine in_177 (Nat.le_of_ble_eq_true rfl) ?_
  show WR _ cd_177 0 [some (.ref (ad 30)), some (.int q), some (.int k), none] [] h _
  refine r_aload rfl rfl ?_
  refine r_getA (b := ad 37) rfl ⟨rfl, rfl, rfl⟩ (fx_t30 fx) (fx_r30_7 fx) ?_
  refine r_iload rfl rfl ?_
  refine r_iaload rfl (.inl (fx_t37 fx)) (vp_ct (fx_n37 fx) (B1)) ?_
  refine r_istore (lv' := [some (.ref (ad 30)), some (.int q), some (.int k), some (.int (hI h (ad 37) q.toNatClampNeg))]) rfl (Nat.le_of_ble_eq_true rfl) rfl ?_
  refine r_iload rfl rfl ?_
  refine r_iload rfl rfl ?_
  refine r_icmp_eq (tg := 54) rfl rfl (fun c1 => ?_) (fun c1 => ?_)
  · refine r_ic (x := 1) rfl rfl ?_
    refine r_goto (tg := 59) rfl rfl ?_
    refine r_zret rfl (.inr rfl) ?_
    exact L1 c1
  · refine r_iload rfl rfl ?_
    refine r_ic (x := 2) rfl rfl ?_
    refine r_icmp_ne (tg := 22) rfl rfl (fun c2 => ?_) (fun c2 => ?_)
    · refine r_iload rfl rfl ?_
      refine r_ic (x := 4) rfl rfl ?_
      refine r_icmp_ne (tg := 32) rfl rfl (fun c3 => ?_) (fun c3 => ?_)
      · refine r_iload rfl rfl ?_
        refine r_ic (x := 6) rfl rfl ?_
        refine r_icmp_ne (tg := 43) rfl rfl (fun c4 => ?_) (fun c4 => ?_)
        · refine r_iload rfl rfl ?_
          refine r_ic (x := 3) rfl rfl ?_
          refine r_icmp_ge (tg := 58) rfl rfl (fun c5 => ?_) (fun c5 => ?_)
          · refine r_ic (x := 0) rfl rfl ?_
            refine r_zret rfl (.inl rfl) ?_
            exact L2 c1 c2 c3 c4 c5
          · refine r_iload rfl rfl ?_
            refine r_ic (x := 7) rfl rfl ?_
            refine r_icmp_ne (tg := 58) rfl rfl (fun c6 => ?_) (fun c6 => ?_)
            · refine r_ic (x := 0) rfl rfl ?_
              refine r_zret rfl (.inl rfl) ?_
              exact L3 c1 c2 c3 c4 c5 c6
            · refine r_ic (x := 1) rfl rfl ?_
              refine r_goto (tg := 59) rfl rfl ?_
              refine r_zret rfl (.inr rfl) ?_
              exact L4 c1 c2 c3 c4 c5 c6
        · refine r_iload rfl rfl ?_
          refine r_ic (x := 5) rfl rfl ?_
          refine r_icmp_eq (tg := 54) rfl rfl (fun c7 => ?_) (fun c7 => ?_)
          · refine r_ic (x := 1) rfl rfl ?_
            refine r_goto (tg := 59) rfl rfl ?_
            refine r_zret rfl (.inr rfl) ?_
            exact L5 c1 c2 c3 c4 c7
          · refine r_iload rfl rfl ?_
            refine r_ic (x := 3) rfl rfl ?_
            refine r_icmp_ge (tg := 58) rfl rfl (fun c8 => ?_) (fun c8 => ?_)
            · refine r_ic (x := 0) rfl rfl ?_
              refine r_zret rfl (.inl rfl) ?_
              exact L6 c1 c2 c3 c4 c7 c8
            · refine r_iload rfl rfl ?_
              refine r_ic (x := 7) rfl rfl ?_
              refine r_icmp_ne (tg := 58) rfl rfl (fun c9 => ?_) (fun c9 => ?_)
              · refine r_ic (x := 0) rfl rfl ?_
                refine r_zret rfl (.inl rfl) ?_
                exact L7 c1 c2 c3 c4 c7 c8 c9
              · refine r_ic (x := 1) rfl rfl ?_
                refine r_goto (tg := 59) rfl rfl ?_
                refine r_zret rfl (.inr rfl) ?_
                exact L8 c1 c2 c3 c4 c7 c8 c9
      · refine r_iload rfl rfl ?_
        refine r_ic (x := 3) rfl rfl ?_
        refine r_icmp_eq (tg := 54) rfl rfl (fun c10 => ?_) (fun c10 => ?_)
        · refine r_ic (x := 1) rfl rfl ?_
          refine r_goto (tg := 59) rfl rfl ?_
          refine r_zret rfl (.inr rfl) ?_
          exact L9 c1 c2 c3 c10
        · refine r_iload rfl rfl ?_
          refine r_ic (x := 6) rfl rfl ?_
          refine r_icmp_ne (tg := 43) rfl rfl (fun c11 => ?_) (fun c11 => ?_)
          · refine r_iload rfl rfl ?_
            refine r_ic (x := 3) rfl rfl ?_
            refine r_icmp_ge (tg := 58) rfl rfl (fun c12 => ?_) (fun c12 => ?_)
            · refine r_ic (x := 0) rfl rfl ?_
              refine r_zret rfl (.inl rfl) ?_
              exact L10 c1 c2 c3 c10 c11 c12
            · refine r_iload rfl rfl ?_
              refine r_ic (x := 7) rfl rfl ?_
              refine r_icmp_ne (tg := 58) rfl rfl (fun c13 => ?_) (fun c13 => ?_)
              · refine r_ic (x := 0) rfl rfl ?_
                refine r_zret rfl (.inl rfl) ?_
                exact L11 c1 c2 c3 c10 c11 c12 c13
              · refine r_ic (x := 1) rfl rfl ?_
                refine r_goto (tg := 59) rfl rfl ?_
                refine r_zret rfl (.inr rfl) ?_
                exact L12 c1 c2 c3 c10 c11 c12 c13
          · refine r_iload rfl rfl ?_
            refine r_ic (x := 5) rfl rfl ?_
            refine r_icmp_eq (tg := 54) rfl rfl (fun c14 => ?_) (fun c14 => ?_)
            · refine r_ic (x := 1) rfl rfl ?_
              refine r_goto (tg := 59) rfl rfl ?_
              refine r_zret rfl (.inr rfl) ?_
              exact L13 c1 c2 c3 c10 c11 c14
            · refine r_iload rfl rfl ?_
              refine r_ic (x := 3) rfl rfl ?_
              refine r_icmp_ge (tg := 58) rfl rfl (fun c15 => ?_) (fun c15 => ?_)
              · refine r_ic (x := 0) rfl rfl ?_
                refine r_zret rfl (.inl rfl) ?_
                exact L14 c1 c2 c3 c10 c11 c14 c15
              · refine r_iload rfl rfl ?_
                refine r_ic (x := 7) rfl rfl ?_
                refine r_icmp_ne (tg := 58) rfl rfl (fun c16 => ?_) (fun c16 => ?_)
                · refine r_ic (x := 0) rfl rfl ?_
                  refine r_zret rfl (.inl rfl) ?_
                  exact L15 c1 c2 c3 c10 c11 c14 c15 c16
                · refine r_ic (x := 1) rfl rfl ?_
                  refine r_goto (tg := 59) rfl rfl ?_
                  refine r_zret rfl (.inr rfl) ?_
                  exact L16 c1 c2 c3 c10 c11 c14 c15 c16
    · refine r_iload rfl rfl ?_
      refine r_ic (x := 1) rfl rfl ?_
      refine r_icmp_eq (tg := 54) rfl rfl (fun c17 => ?_) (fun c17 => ?_)
      · refine r_ic (x := 1) rfl rfl ?_
        refine r_goto (tg := 59) rfl rfl ?_
        refine r_zret rfl (.inr rfl) ?_
        exact L17 c1 c2 c17
      · refine r_iload rfl rfl ?_
        refine r_ic (x := 4) rfl rfl ?_
        refine r_icmp_ne (tg := 32) rfl rfl (fun c18 => ?_) (fun c18 => ?_)
        · refine r_iload rfl rfl ?_
          refine r_ic (x := 6) rfl rfl ?_
          refine r_icmp_ne (tg := 43) rfl rfl (fun c19 => ?_) (fun c19 => ?_)
          · refine r_iload rfl rfl ?_
            refine r_ic (x := 3) rfl rfl ?_
            refine r_icmp_ge (tg := 58) rfl rfl (fun c20 => ?_) (fun c20 => ?_)
            · refine r_ic (x := 0) rfl rfl ?_
              refine r_zret rfl (.inl rfl) ?_
              exact L18 c1 c2 c17 c18 c19 c20
            · refine r_iload rfl rfl ?_
              refine r_ic (x := 7) rfl rfl ?_
              refine r_icmp_ne (tg := 58) rfl rfl (fun c21 => ?_) (fun c21 => ?_)
              · refine r_ic (x := 0) rfl rfl ?_
                refine r_zret rfl (.inl rfl) ?_
                exact L19 c1 c2 c17 c18 c19 c20 c21
              · refine r_ic (x := 1) rfl rfl ?_
                refine r_goto (tg := 59) rfl rfl ?_
                refine r_zret rfl (.inr rfl) ?_
                exact L20 c1 c2 c17 c18 c19 c20 c21
          · refine r_iload rfl rfl ?_
            refine r_ic (x := 5) rfl rfl ?_
            refine r_icmp_eq (tg := 54) rfl rfl (fun c22 => ?_) (fun c22 => ?_)
            · refine r_ic (x := 1) rfl rfl ?_
              refine r_goto (tg := 59) rfl rfl ?_
              refine r_zret rfl (.inr rfl) ?_
              exact L21 c1 c2 c17 c18 c19 c22
            · refine r_iload rfl rfl ?_
              refine r_ic (x := 3) rfl rfl ?_
              refine r_icmp_ge (tg := 58) rfl rfl (fun c23 => ?_) (fun c23 => ?_)
              · refine r_ic (x := 0) rfl rfl ?_
                refine r_zret rfl (.inl rfl) ?_
                exact L22 c1 c2 c17 c18 c19 c22 c23
              · refine r_iload rfl rfl ?_
                refine r_ic (x := 7) rfl rfl ?_
                refine r_icmp_ne (tg := 58) rfl rfl (fun c24 => ?_) (fun c24 => ?_)
                · refine r_ic (x := 0) rfl rfl ?_
                  refine r_zret rfl (.inl rfl) ?_
                  exact L23 c1 c2 c17 c18 c19 c22 c23 c24
                · refine r_ic (x := 1) rfl rfl ?_
                  refine r_goto (tg := 59) rfl rfl ?_
                  refine r_zret rfl (.inr rfl) ?_
                  exact L24 c1 c2 c17 c18 c19 c22 c23 c24
        · refine r_iload rfl rfl ?_
          refine r_ic (x := 3) rfl rfl ?_
          refine r_icmp_eq (tg := 54) rfl rfl (fun c25 => ?_) (fun c25 => ?_)
          · refine r_ic (x := 1) rfl rfl ?_
            refine r_goto (tg := 59) rfl rfl ?_
            refine r_zret rfl (.inr rfl) ?_
            exact L25 c1 c2 c17 c18 c25
          · refine r_iload rfl rfl ?_
            refine r_ic (x := 6) rfl rfl ?_
            refine r_icmp_ne (tg := 43) rfl rfl (fun c26 => ?_) (fun c26 => ?_)
            · refine r_iload rfl rfl ?_
              refine r_ic (x := 3) rfl rfl ?_
              refine r_icmp_ge (tg := 58) rfl rfl (fun c27 => ?_) (fun c27 => ?_)
              · refine r_ic (x := 0) rfl rfl ?_
                refine r_zret rfl (.inl rfl) ?_
                exact L26 c1 c2 c17 c18 c25 c26 c27
              · refine r_iload rfl rfl ?_
                refine r_ic (x := 7) rfl rfl ?_
                refine r_icmp_ne (tg := 58) rfl rfl (fun c28 => ?_) (fun c28 => ?_)
                · refine r_ic (x := 0) rfl rfl ?_
                  refine r_zret rfl (.inl rfl) ?_
                  exact L27 c1 c2 c17 c18 c25 c26 c27 c28
                · refine r_ic (x := 1) rfl rfl ?_
                  refine r_goto (tg := 59) rfl rfl ?_
                  refine r_zret rfl (.inr rfl) ?_
                  exact L28 c1 c2 c17 c18 c25 c26 c27 c28
            · refine r_iload rfl rfl ?_
              refine r_ic (x := 5) rfl rfl ?_
              refine r_icmp_eq (tg := 54) rfl rfl (fun c29 => ?_) (fun c29 => ?_)
              · refine r_ic (x := 1) rfl rfl ?_
                refine r_goto (tg := 59) rfl rfl ?_
                refine r_zret rfl (.inr rfl) ?_
                exact L29 c1 c2 c17 c18 c25 c26 c29
              · refine r_iload rfl rfl ?_
                refine r_ic (x := 3) rfl rfl ?_
                refine r_icmp_ge (tg := 58) rfl rfl (fun c30 => ?_) (fun c30 => ?_)
                · refine r_ic (x := 0) rfl rfl ?_
                  refine r_zret rfl (.inl rfl) ?_
                  exact L30 c1 c2 c17 c18 c25 c26 c29 c30
                · refine r_iload rfl rfl ?_
                  refine r_ic (x := 7) rfl rfl ?_
                  refine r_icmp_ne (tg := 58) rfl rfl (fun c31 => ?_) (fun c31 => ?_)
                  · refine r_ic (x := 0) rfl rfl ?_
                    refine r_zret rfl (.inl rfl) ?_
                    exact L31 c1 c2 c17 c18 c25 c26 c29 c30 c31
                  · refine r_ic (x := 1) rfl rfl ?_
                    refine r_goto (tg := 59) rfl rfl ?_
                    refine r_zret rfl (.inr rfl) ?_
                    exact L32 c1 c2 c17 c18 c25 c26 c29 c30 c31

theorem ofK_s {kd k : Nat} (h1 : kd < 7) (h2 : k < 8) : (((stA 0).getD kd 0 >>> (nI k &&& 31)) &&& 1) = if ofK kd k = true then 1 else 0 := by
  have all : ∀ kd, kd < 7 → ∀ k, k < 8 → (((stA 0).getD kd 0 >>> (nI k &&& 31)) &&& 1) = if ofK kd k = true then 1 else 0 := by decide +kernel
  exact all kd h1 k h2
theorem ofK_m {kd k : Nat} (h1 : kd < 7) (h2 : k < 8) : ofK kd k = true ↔ (nI kd = nI k ∨ (nI kd = 2 ∧ nI k = 1) ∨ (nI kd = 4 ∧ nI k = 3) ∨ (nI kd = 6 ∧ nI k = 5) ∨ (¬ 3 ≤ nI kd ∧ nI k = 7)) := by
  have all : ∀ kd, kd < 7 → ∀ k, k < 8 → (ofK kd k = true ↔ (nI kd = nI k ∨ (nI kd = 2 ∧ nI k = 1) ∨ (nI kd = 4 ∧ nI k = 3) ∨ (nI kd = 6 ∧ nI k = 5) ∨ (¬ 3 ≤ nI kd ∧ nI k = 7))) := by decide +kernel
  exact all kd h1 k h2
theorem c_isOf {d : Nat} {Q : mQ} {n : Nat} {ad sa : Nat → Nat} {z0 : Nat} {h : mH} (fx : FX n ad sa z0 h) (rst : Rst sa h) {a kd k : Nat} (ta : hT h a = 4) (e : hI h a 0 = nI kd) (h1 : kd < 7) (h2 : k < 8)
    (q : Q (some (.int (if ofK kd k = true then 1 else 0))) h) : EV (d + 1) 48 [.ref a, .int (nI k)] h Q := by
  have e2 : hI h (sa 0) (hI h a 0).toNatClampNeg = (stA 0).getD kd 0 := by
    rw [e, nI_clamp (by omega)]
    exact rst 0 (by decide) kd h1
  refine x_isOf fx ta (nI k) ?_ ?_ ?_
  · rw [e]; exact vp_in_nI h1 (by omega)
  · intro c1
    rw [e2, ofK_s h1 h2] at c1
    rw [c1] at q; exact q
  · intro c1
    rw [e2, ofK_s h1 h2] at c1
    by_cases z : ofK kd k = true
    · rw [if_pos z] at q; exact q
    · rw [if_neg z] at c1; exact absurd rfl c1
set_option maxHeartbeats 4000000 in
theorem c_misOf {d : Nat} {Q : mQ} {n : Nat} {ad sa : Nat → Nat} {z0 : Nat} {h : mH} (fx : FX n ad sa z0 h) {q kd k : Nat} (hq : q < 60) (e : hI h (ad 37) q = nI kd) (h1 : kd < 7) (h2 : k < 8)
    (hQ : Q (some (.int (if ofK kd k = true then 1 else 0))) h) : EV (d + 1) 177 [.ref (ad 30), .int (nI q), .int (nI k)] h Q := by
  have e2 : hI h (ad 37) (nI q).toNatClampNeg = nI kd := by rw [nI_clamp (by omega)]; exact e
  have f := ofK_m h1 h2
  have q1 : (nI kd = nI k ∨ (nI kd = 2 ∧ nI k = 1) ∨ (nI kd = 4 ∧ nI k = 3) ∨ (nI kd = 6 ∧ nI k = 5) ∨ (¬ 3 ≤ nI kd ∧ nI k = 7)) → Q (some (.int 1)) h := fun z => by rw [if_pos (f.mpr z)] at hQ; exact hQ
  have q0 : ¬ (nI kd = nI k ∨ (nI kd = 2 ∧ nI k = 1) ∨ (nI kd = 4 ∧ nI k = 3) ∨ (nI kd = 6 ∧ nI k = 5) ∨ (¬ 3 ≤ nI kd ∧ nI k = 7)) → Q (some (.int 0)) h := fun z => by rw [if_neg (fun w => z (f.mp w))] at hQ; exact hQ
  clear hQ f
  refine m_isOf fx (nI q) (nI k) (vp_in_nI hq (by omega)) ?_ ?_ ?_ ?_ ?_ ?_ ?_ ?_ ?_ ?_ ?_ ?_ ?_ ?_ ?_ ?_ ?_ ?_ ?_ ?_ ?_ ?_ ?_ ?_ ?_ ?_ ?_ ?_ ?_ ?_ ?_ ?_
  all_goals (rw [e2]; intros; first | (refine q0 (fun z => ?_); rcases z with z | z | z | z | z <;> simp_all; done) | (refine q1 ?_; simp_all; done))

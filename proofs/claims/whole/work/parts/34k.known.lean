/-! ===== is what a step names known; printed ===== -/
def knS (n : Nat) (op a b c : Int32) : Prop := ((op = 0 ∨ op = 1 ∨ op = 2) → isC a) ∧ (op = 7 → isP a) ∧ (op = 8 → isP a ∧ isP c) ∧ (op = 9 → isP a ∧ isP b) ∧ (op = 10 → isB n a ∧ isP b) ∧ (op = 11 → isB n a) ∧ ((op = 12 ∨ op = 13) → isB n a ∧ isS b)
set_option maxHeartbeats 1000000 in
theorem x_known {d : Nat} {Q : mQ} {n : Nat} {ad sa : Nat → Nat} {z0 : Nat} {h : mH} (fx : FX n ad sa z0 h) (o a b c : Int32) 
    
    (L1 : (o.toInt < 0 ∨ 13 < o.toInt) → Q (some (.int 1)) h) (L2 : o = 0 → a < 0 → Q (some (.int 0)) h) (L3 : o = 0 → ¬ a < 0 → 24 ≤ a → Q (some (.int 0)) h) (L4 : o = 0 → ¬ a < 0 → ¬ 24 ≤ a → Q (some (.int 1)) h) (L5 : o = 1 → a < 0 → Q (some (.int 0)) h) (L6 : o = 1 → ¬ a < 0 → 24 ≤ a → Q (some (.int 0)) h) (L7 : o = 1 → ¬ a < 0 → ¬ 24 ≤ a → Q (some (.int 1)) h) (L8 : o = 2 → a < 0 → Q (some (.int 0)) h) (L9 : o = 2 → ¬ a < 0 → 24 ≤ a → Q (some (.int 0)) h) (L10 : o = 2 → ¬ a < 0 → ¬ 24 ≤ a → Q (some (.int 1)) h) (L11 : o = 3 → Q (some (.int 1)) h) (L12 : o = 4 → Q (some (.int 1)) h) (L13 : o = 5 → Q (some (.int 1)) h) (L14 : o = 6 → Q (some (.int 1)) h) (L15 : o = 7 → a < 0 → Q (some (.int 0)) h) (L16 : o = 7 → ¬ a < 0 → 10 ≤ a → Q (some (.int 0)) h) (L17 : o = 7 → ¬ a < 0 → ¬ 10 ≤ a → Q (some (.int 1)) h) (L18 : o = 8 → a < 0 → Q (some (.int 0)) h) (L19 : o = 8 → ¬ a < 0 → 10 ≤ a → Q (some (.int 0)) h) (L20 : o = 8 → ¬ a < 0 → ¬ 10 ≤ a → c < 0 → Q (some (.int 0)) h) (L21 : o = 8 → ¬ a < 0 → ¬ 10 ≤ a → ¬ c < 0 → 10 ≤ c → Q (some (.int 0)) h) (L22 : o = 8 → ¬ a < 0 → ¬ 10 ≤ a → ¬ c < 0 → ¬ 10 ≤ c → Q (some (.int 1)) h) (L23 : o = 9 → a < 0 → Q (some (.int 0)) h) (L24 : o = 9 → ¬ a < 0 → 10 ≤ a → Q (some (.int 0)) h) (L25 : o = 9 → ¬ a < 0 → ¬ 10 ≤ a → b < 0 → Q (some (.int 0)) h) (L26 : o = 9 → ¬ a < 0 → ¬ 10 ≤ a → ¬ b < 0 → 10 ≤ b → Q (some (.int 0)) h) (L27 : o = 9 → ¬ a < 0 → ¬ 10 ≤ a → ¬ b < 0 → ¬ 10 ≤ b → Q (some (.int 1)) h) (L28 : o = 10 → a < 0 → Q (some (.int 0)) h) (L29 : o = 10 → ¬ a < 0 → (nI n) ≤ a → Q (some (.int 0)) h) (L30 : o = 10 → ¬ a < 0 → ¬ (nI n) ≤ a → b < 0 → Q (some (.int 0)) h) (L31 : o = 10 → ¬ a < 0 → ¬ (nI n) ≤ a → ¬ b < 0 → 10 ≤ b → Q (some (.int 0)) h) (L32 : o = 10 → ¬ a < 0 → ¬ (nI n) ≤ a → ¬ b < 0 → ¬ 10 ≤ b → Q (some (.int 1)) h) (L33 : o = 11 → a < 0 → Q (some (.int 0)) h) (L34 : o = 11 → ¬ a < 0 → (nI n) ≤ a → Q (some (.int 0)) h) (L35 : o = 11 → ¬ a < 0 → ¬ (nI n) ≤ a → Q (some (.int 1)) h) (L36 : o = 12 → a < 0 → Q (some (.int 0)) h) (L37 : o = 12 → ¬ a < 0 → (nI n) ≤ a → Q (some (.int 0)) h) (L38 : o = 12 → ¬ a < 0 → ¬ (nI n) ≤ a → b < 0 → Q (some (.int 0)) h) (L39 : o = 12 → ¬ a < 0 → ¬ (nI n) ≤ a → ¬ b < 0 → 5 ≤ b → Q (some (.int 0)) h) (L40 : o = 12 → ¬ a < 0 → ¬ (nI n) ≤ a → ¬ b < 0 → ¬ 5 ≤ b → Q (some (.int 1)) h) (L41 : o = 13 → a < 0 → Q (some (.int 0)) h) (L42 : o = 13 → ¬ a < 0 → (nI n) ≤ a → Q (some (.int 0)) h) (L43 : o = 13 → ¬ a < 0 → ¬ (nI n) ≤ a → b < 0 → Q (some (.int 0)) h) (L44 : o = 13 → ¬ a < 0 → ¬ (nI n) ≤ a → ¬ b < 0 → 5 ≤ b → Q (some (.int 0)) h) (L45 : o = 13 → ¬ a < 0 → ¬ (nI n) ≤ a → ¬ b < 0 → ¬ 5 ≤ b → Q (some (.int 1)) h) : EV (d + 2) 94 [.ref (ad 0), .int o, .int a, .int b, .int c] h Q := by
  refine in_94 (Nat.le_of_ble_eq_true rfl) ?_
  show WR _ cd_94 0 [some (.ref (ad 0)), some (.int o), some (.int a), some (.int b), some (.int c)] [] h _
  refine r_iload rfl rfl ?_
  refine r_tsw (tg := 173) rfl rfl (fun c1 => ?_) (fun c1 => ?_)
  · refine r_ic (x := 1) rfl rfl ?_
    refine r_zret rfl (.inr rfl) ?_
    exact L1 c1
  · rcases tsw_0_13 c1 with e_ | e_ | e_ | e_ | e_ | e_ | e_ | e_ | e_ | e_ | e_ | e_ | e_ | e_
    · have c2 : o = 0 := e_
      refine WR_pc (q := 72) (by rw [c2]; rfl) ?_
      refine r_iload rfl rfl ?_
      refine r_cs (y := 12) (ra := [.int a]) (rest := []) rfl ⟨⟨rfl, rfl⟩, by decide⟩ rfl rfl (Nat.le_of_ble_eq_true rfl) ?_
      refine in_12 (Nat.le_of_ble_eq_true rfl) ?_
      show WR _ cd_12 0 [some (.int a)] [] h _
      refine r_iload rfl rfl ?_
      refine r_if_lt (tg := 14) rfl rfl (fun c3 => ?_) (fun c3 => ?_)
      · refine r_ic (x := 0) rfl rfl ?_
        refine r_zret rfl (.inl rfl) ?_
        show WR _ cd_94 76 [some (.ref (ad 0)), some (.int o), some (.int a), some (.int b), some (.int c)] [.int 0] h _
        refine r_zret rfl (.inl rfl) ?_
        exact L2 c2 c3
      · refine r_iload rfl rfl ?_
        refine r_ic (x := 24) rfl rfl ?_
        refine r_icmp_ge (tg := 14) rfl rfl (fun c4 => ?_) (fun c4 => ?_)
        · refine r_ic (x := 0) rfl rfl ?_
          refine r_zret rfl (.inl rfl) ?_
          show WR _ cd_94 76 [some (.ref (ad 0)), some (.int o), some (.int a), some (.int b), some (.int c)] [.int 0] h _
          refine r_zret rfl (.inl rfl) ?_
          exact L3 c2 c3 c4
        · refine r_ic (x := 1) rfl rfl ?_
          refine r_goto (tg := 15) rfl rfl ?_
          refine r_zret rfl (.inr rfl) ?_
          show WR _ cd_94 76 [some (.ref (ad 0)), some (.int o), some (.int a), some (.int b), some (.int c)] [.int 1] h _
          refine r_zret rfl (.inr rfl) ?_
          exact L4 c2 c3 c4
    · have c5 : o = 1 := e_
      refine WR_pc (q := 72) (by rw [c5]; rfl) ?_
      refine r_iload rfl rfl ?_
      refine r_cs (y := 12) (ra := [.int a]) (rest := []) rfl ⟨⟨rfl, rfl⟩, by decide⟩ rfl rfl (Nat.le_of_ble_eq_true rfl) ?_
      refine in_12 (Nat.le_of_ble_eq_true rfl) ?_
      show WR _ cd_12 0 [some (.int a)] [] h _
      refine r_iload rfl rfl ?_
      refine r_if_lt (tg := 14) rfl rfl (fun c6 => ?_) (fun c6 => ?_)
      · refine r_ic (x := 0) rfl rfl ?_
        refine r_zret rfl (.inl rfl) ?_
        show WR _ cd_94 76 [some (.ref (ad 0)), some (.int o), some (.int a), some (.int b), some (.int c)] [.int 0] h _
        refine r_zret rfl (.inl rfl) ?_
        exact L5 c5 c6
      · refine r_iload rfl rfl ?_
        refine r_ic (x := 24) rfl rfl ?_
        refine r_icmp_ge (tg := 14) rfl rfl (fun c7 => ?_) (fun c7 => ?_)
        · refine r_ic (x := 0) rfl rfl ?_
          refine r_zret rfl (.inl rfl) ?_
          show WR _ cd_94 76 [some (.ref (ad 0)), some (.int o), some (.int a), some (.int b), some (.int c)] [.int 0] h _
          refine r_zret rfl (.inl rfl) ?_
          exact L6 c5 c6 c7
        · refine r_ic (x := 1) rfl rfl ?_
          refine r_goto (tg := 15) rfl rfl ?_
          refine r_zret rfl (.inr rfl) ?_
          show WR _ cd_94 76 [some (.ref (ad 0)), some (.int o), some (.int a), some (.int b), some (.int c)] [.int 1] h _
          refine r_zret rfl (.inr rfl) ?_
          exact L7 c5 c6 c7
    · have c8 : o = 2 := e_
      refine WR_pc (q := 72) (by rw [c8]; rfl) ?_
      refine r_iload rfl rfl ?_
      refine r_cs (y := 12) (ra := [.int a]) (rest := []) rfl ⟨⟨rfl, rfl⟩, by decide⟩ rfl rfl (Nat.le_of_ble_eq_true rfl) ?_
      refine in_12 (Nat.le_of_ble_eq_true rfl) ?_
      show WR _ cd_12 0 [some (.int a)] [] h _
      refine r_iload rfl rfl ?_
      refine r_if_lt (tg := 14) rfl rfl (fun c9 => ?_) (fun c9 => ?_)
      · refine r_ic (x := 0) rfl rfl ?_
        refine r_zret rfl (.inl rfl) ?_
        show WR _ cd_94 76 [some (.ref (ad 0)), some (.int o), some (.int a), some (.int b), some (.int c)] [.int 0] h _
        refine r_zret rfl (.inl rfl) ?_
        exact L8 c8 c9
      · refine r_iload rfl rfl ?_
        refine r_ic (x := 24) rfl rfl ?_
        refine r_icmp_ge (tg := 14) rfl rfl (fun c10 => ?_) (fun c10 => ?_)
        · refine r_ic (x := 0) rfl rfl ?_
          refine r_zret rfl (.inl rfl) ?_
          show WR _ cd_94 76 [some (.ref (ad 0)), some (.int o), some (.int a), some (.int b), some (.int c)] [.int 0] h _
          refine r_zret rfl (.inl rfl) ?_
          exact L9 c8 c9 c10
        · refine r_ic (x := 1) rfl rfl ?_
          refine r_goto (tg := 15) rfl rfl ?_
          refine r_zret rfl (.inr rfl) ?_
          show WR _ cd_94 76 [some (.ref (ad 0)), some (.int o), some (.int a), some (.int b), some (.int c)] [.int 1] h _
          refine r_zret rfl (.inr rfl) ?_
          exact L10 c8 c9 c10
    · have c11 : o = 3 := e_
      refine WR_pc (q := 173) (by rw [c11]; rfl) ?_
      refine r_ic (x := 1) rfl rfl ?_
      refine r_zret rfl (.inr rfl) ?_
      exact L11 c11
    · have c12 : o = 4 := e_
      refine WR_pc (q := 173) (by rw [c12]; rfl) ?_
      refine r_ic (x := 1) rfl rfl ?_
      refine r_zret rfl (.inr rfl) ?_
      exact L12 c12
    · have c13 : o = 5 := e_
      refine WR_pc (q := 173) (by rw [c13]; rfl) ?_
      refine r_ic (x := 1) rfl rfl ?_
      refine r_zret rfl (.inr rfl) ?_
      exact L13 c13
    · have c14 : o = 6 := e_
      refine WR_pc (q := 173) (by rw [c14]; rfl) ?_
      refine r_ic (x := 1) rfl rfl ?_
      refine r_zret rfl (.inr rfl) ?_
      exact L14 c14
    · have c15 : o = 7 := e_
      refine WR_pc (q := 77) (by rw [c15]; rfl) ?_
      refine r_iload rfl rfl ?_
      refine r_cs (y := 93) (ra := [.int a]) (rest := []) rfl ⟨⟨rfl, rfl⟩, by decide⟩ rfl rfl (Nat.le_of_ble_eq_true rfl) ?_
      refine in_93 (Nat.le_of_ble_eq_true rfl) ?_
      show WR _ cd_93 0 [some (.int a)] [] h _
      refine r_iload rfl rfl ?_
      refine r_if_lt (tg := 14) rfl rfl (fun c16 => ?_) (fun c16 => ?_)
      · refine r_ic (x := 0) rfl rfl ?_
        refine r_zret rfl (.inl rfl) ?_
        show WR _ cd_94 81 [some (.ref (ad 0)), some (.int o), some (.int a), some (.int b), some (.int c)] [.int 0] h _
        refine r_zret rfl (.inl rfl) ?_
        exact L15 c15 c16
      · refine r_iload rfl rfl ?_
        refine r_ic (x := 10) rfl rfl ?_
        refine r_icmp_ge (tg := 14) rfl rfl (fun c17 => ?_) (fun c17 => ?_)
        · refine r_ic (x := 0) rfl rfl ?_
          refine r_zret rfl (.inl rfl) ?_
          show WR _ cd_94 81 [some (.ref (ad 0)), some (.int o), some (.int a), some (.int b), some (.int c)] [.int 0] h _
          refine r_zret rfl (.inl rfl) ?_
          exact L16 c15 c16 c17
        · refine r_ic (x := 1) rfl rfl ?_
          refine r_goto (tg := 15) rfl rfl ?_
          refine r_zret rfl (.inr rfl) ?_
          show WR _ cd_94 81 [some (.ref (ad 0)), some (.int o), some (.int a), some (.int b), some (.int c)] [.int 1] h _
          refine r_zret rfl (.inr rfl) ?_
          exact L17 c15 c16 c17
    · have c18 : o = 8 := e_
      refine WR_pc (q := 82) (by rw [c18]; rfl) ?_
      refine r_iload rfl rfl ?_
      refine r_cs (y := 93) (ra := [.int a]) (rest := []) rfl ⟨⟨rfl, rfl⟩, by decide⟩ rfl rfl (Nat.le_of_ble_eq_true rfl) ?_
      refine in_93 (Nat.le_of_ble_eq_true rfl) ?_
      show WR _ cd_93 0 [some (.int a)] [] h _
      refine r_iload rfl rfl ?_
      refine r_if_lt (tg := 14) rfl rfl (fun c19 => ?_) (fun c19 => ?_)
      · refine r_ic (x := 0) rfl rfl ?_
        refine r_zret rfl (.inl rfl) ?_
        show WR _ cd_94 86 [some (.ref (ad 0)), some (.int o), some (.int a), some (.int b), some (.int c)] [.int 0] h _
        refine r_if_eq (tg := 101) rfl rfl (fun _ => ?_) (fun q => absurd q (by decide))
        refine r_ic (x := 0) rfl rfl ?_
        refine r_zret rfl (.inl rfl) ?_
        exact L18 c18 c19
      · refine r_iload rfl rfl ?_
        refine r_ic (x := 10) rfl rfl ?_
        refine r_icmp_ge (tg := 14) rfl rfl (fun c20 => ?_) (fun c20 => ?_)
        · refine r_ic (x := 0) rfl rfl ?_
          refine r_zret rfl (.inl rfl) ?_
          show WR _ cd_94 86 [some (.ref (ad 0)), some (.int o), some (.int a), some (.int b), some (.int c)] [.int 0] h _
          refine r_if_eq (tg := 101) rfl rfl (fun _ => ?_) (fun q => absurd q (by decide))
          refine r_ic (x := 0) rfl rfl ?_
          refine r_zret rfl (.inl rfl) ?_
          exact L19 c18 c19 c20
        · refine r_ic (x := 1) rfl rfl ?_
          refine r_goto (tg := 15) rfl rfl ?_
          refine r_zret rfl (.inr rfl) ?_
          show WR _ cd_94 86 [some (.ref (ad 0)), some (.int o), some (.int a), some (.int b), some (.int c)] [.int 1] h _
          refine r_if_eq (tg := 101) rfl rfl (fun q => absurd q (by decide)) (fun _ => ?_)
          refine r_iload rfl rfl ?_
          refine r_cs (y := 93) (ra := [.int c]) (rest := []) rfl ⟨⟨rfl, rfl⟩, by decide⟩ rfl rfl (Nat.le_of_ble_eq_true rfl) ?_
          refine in_93 (Nat.le_of_ble_eq_true rfl) ?_
          show WR _ cd_93 0 [some (.int c)] [] h _
          refine r_iload rfl rfl ?_
          refine r_if_lt (tg := 14) rfl rfl (fun c21 => ?_) (fun c21 => ?_)
          · refine r_ic (x := 0) rfl rfl ?_
            refine r_zret rfl (.inl rfl) ?_
            show WR _ cd_94 94 [some (.ref (ad 0)), some (.int o), some (.int a), some (.int b), some (.int c)] [.int 0] h _
            refine r_if_eq (tg := 101) rfl rfl (fun _ => ?_) (fun q => absurd q (by decide))
            refine r_ic (x := 0) rfl rfl ?_
            refine r_zret rfl (.inl rfl) ?_
            exact L20 c18 c19 c20 c21
          · refine r_iload rfl rfl ?_
            refine r_ic (x := 10) rfl rfl ?_
            refine r_icmp_ge (tg := 14) rfl rfl (fun c22 => ?_) (fun c22 => ?_)
            · refine r_ic (x := 0) rfl rfl ?_
              refine r_zret rfl (.inl rfl) ?_
              show WR _ cd_94 94 [some (.ref (ad 0)), some (.int o), some (.int a), some (.int b), some (.int c)] [.int 0] h _
              refine r_if_eq (tg := 101) rfl rfl (fun _ => ?_) (fun q => absurd q (by decide))
              refine r_ic (x := 0) rfl rfl ?_
              refine r_zret rfl (.inl rfl) ?_
              exact L21 c18 c19 c20 c21 c22
            · refine r_ic (x := 1) rfl rfl ?_
              refine r_goto (tg := 15) rfl rfl ?_
              refine r_zret rfl (.inr rfl) ?_
              show WR _ cd_94 94 [some (.ref (ad 0)), some (.int o), some (.int a), some (.int b), some (.int c)] [.int 1] h _
              refine r_if_eq (tg := 101) rfl rfl (fun q => absurd q (by decide)) (fun _ => ?_)
              refine r_ic (x := 1) rfl rfl ?_
              refine r_goto (tg := 102) rfl rfl ?_
              refine r_zret rfl (.inr rfl) ?_
              exact L22 c18 c19 c20 c21 c22
    · have c23 : o = 9 := e_
      refine WR_pc (q := 103) (by rw [c23]; rfl) ?_
      refine r_iload rfl rfl ?_
      refine r_cs (y := 93) (ra := [.int a]) (rest := []) rfl ⟨⟨rfl, rfl⟩, by decide⟩ rfl rfl (Nat.le_of_ble_eq_true rfl) ?_
      refine in_93 (Nat.le_of_ble_eq_true rfl) ?_
      show WR _ cd_93 0 [some (.int a)] [] h _
      refine r_iload rfl rfl ?_
      refine r_if_lt (tg := 14) rfl rfl (fun c24 => ?_) (fun c24 => ?_)
      · refine r_ic (x := 0) rfl rfl ?_
        refine r_zret rfl (.inl rfl) ?_
        show WR _ cd_94 107 [some (.ref (ad 0)), some (.int o), some (.int a), some (.int b), some (.int c)] [.int 0] h _
        refine r_if_eq (tg := 121) rfl rfl (fun _ => ?_) (fun q => absurd q (by decide))
        refine r_ic (x := 0) rfl rfl ?_
        refine r_zret rfl (.inl rfl) ?_
        exact L23 c23 c24
      · refine r_iload rfl rfl ?_
        refine r_ic (x := 10) rfl rfl ?_
        refine r_icmp_ge (tg := 14) rfl rfl (fun c25 => ?_) (fun c25 => ?_)
        · refine r_ic (x := 0) rfl rfl ?_
          refine r_zret rfl (.inl rfl) ?_
          show WR _ cd_94 107 [some (.ref (ad 0)), some (.int o), some (.int a), some (.int b), some (.int c)] [.int 0] h _
          refine r_if_eq (tg := 121) rfl rfl (fun _ => ?_) (fun q => absurd q (by decide))
          refine r_ic (x := 0) rfl rfl ?_
          refine r_zret rfl (.inl rfl) ?_
          exact L24 c23 c24 c25
        · refine r_ic (x := 1) rfl rfl ?_
          refine r_goto (tg := 15) rfl rfl ?_
          refine r_zret rfl (.inr rfl) ?_
          show WR _ cd_94 107 [some (.ref (ad 0)), some (.int o), some (.int a), some (.int b), some (.int c)] [.int 1] h _
          refine r_if_eq (tg := 121) rfl rfl (fun q => absurd q (by decide)) (fun _ => ?_)
          refine r_iload rfl rfl ?_
          refine r_cs (y := 93) (ra := [.int b]) (rest := []) rfl ⟨⟨rfl, rfl⟩, by decide⟩ rfl rfl (Nat.le_of_ble_eq_true rfl) ?_
          refine in_93 (Nat.le_of_ble_eq_true rfl) ?_
          show WR _ cd_93 0 [some (.int b)] [] h _
          refine r_iload rfl rfl ?_
          refine r_if_lt (tg := 14) rfl rfl (fun c26 => ?_) (fun c26 => ?_)
          · refine r_ic (x := 0) rfl rfl ?_
            refine r_zret rfl (.inl rfl) ?_
            show WR _ cd_94 114 [some (.ref (ad 0)), some (.int o), some (.int a), some (.int b), some (.int c)] [.int 0] h _
            refine r_if_eq (tg := 121) rfl rfl (fun _ => ?_) (fun q => absurd q (by decide))
            refine r_ic (x := 0) rfl rfl ?_
            refine r_zret rfl (.inl rfl) ?_
            exact L25 c23 c24 c25 c26
          · refine r_iload rfl rfl ?_
            refine r_ic (x := 10) rfl rfl ?_
            refine r_icmp_ge (tg := 14) rfl rfl (fun c27 => ?_) (fun c27 => ?_)
            · refine r_ic (x := 0) rfl rfl ?_
              refine r_zret rfl (.inl rfl) ?_
              show WR _ cd_94 114 [some (.ref (ad 0)), some (.int o), some (.int a), some (.int b), some (.int c)] [.int 0] h _
              refine r_if_eq (tg := 121) rfl rfl (fun _ => ?_) (fun q => absurd q (by decide))
              refine r_ic (x := 0) rfl rfl ?_
              refine r_zret rfl (.inl rfl) ?_
              exact L26 c23 c24 c25 c26 c27
            · refine r_ic (x := 1) rfl rfl ?_
              refine r_goto (tg := 15) rfl rfl ?_
              refine r_zret rfl (.inr rfl) ?_
              show WR _ cd_94 114 [some (.ref (ad 0)), some (.int o), some (.int a), some (.int b), some (.int c)] [.int 1] h _
              refine r_if_eq (tg := 121) rfl rfl (fun q => absurd q (by decide)) (fun _ => ?_)
              refine r_ic (x := 1) rfl rfl ?_
              refine r_goto (tg := 122) rfl rfl ?_
              refine r_zret rfl (.inr rfl) ?_
              exact L27 c23 c24 c25 c26 c27
    · have c28 : o = 10 := e_
      refine WR_pc (q := 123) (by rw [c28]; rfl) ?_
      refine r_aload rfl rfl ?_
      refine r_iload rfl rfl ?_
      refine r_cv (y := 95) (ra := [.int a]) (rest := []) rfl ⟨⟨rfl, rfl⟩, rfl, by decide⟩ (fx_t0 fx) rfl rfl (Nat.le_of_ble_eq_true rfl) ?_
      refine in_95 (Nat.le_of_ble_eq_true rfl) ?_
      show WR _ cd_95 0 [some (.ref (ad 0)), some (.int a)] [] h _
      refine r_iload rfl rfl ?_
      refine r_if_lt (tg := 20) rfl rfl (fun c29 => ?_) (fun c29 => ?_)
      · refine r_ic (x := 0) rfl rfl ?_
        refine r_zret rfl (.inl rfl) ?_
        show WR _ cd_94 128 [some (.ref (ad 0)), some (.int o), some (.int a), some (.int b), some (.int c)] [.int 0] h _
        refine r_if_eq (tg := 142) rfl rfl (fun _ => ?_) (fun q => absurd q (by decide))
        refine r_ic (x := 0) rfl rfl ?_
        refine r_zret rfl (.inl rfl) ?_
        exact L28 c28 c29
      · refine r_iload rfl rfl ?_
        refine r_aload rfl rfl ?_
        refine r_getA (b := ad 4) rfl ⟨rfl, rfl, rfl⟩ (fx_t0 fx) (fx_r0_2 fx) ?_
        refine r_getA (b := ad 7) rfl ⟨rfl, rfl, rfl⟩ (fx_t4 fx) (fx_r4_0 fx) ?_
        refine r_alen rfl (isA_of (fx_t7 fx) (by decide)) ?_
        refine WR_st (st2 := [.int (nI n), .int a]) (by rw [(fx_n7 fx)]) ?_
        refine r_icmp_ge (tg := 20) rfl rfl (fun c30 => ?_) (fun c30 => ?_)
        · refine r_ic (x := 0) rfl rfl ?_
          refine r_zret rfl (.inl rfl) ?_
          show WR _ cd_94 128 [some (.ref (ad 0)), some (.int o), some (.int a), some (.int b), some (.int c)] [.int 0] h _
          refine r_if_eq (tg := 142) rfl rfl (fun _ => ?_) (fun q => absurd q (by decide))
          refine r_ic (x := 0) rfl rfl ?_
          refine r_zret rfl (.inl rfl) ?_
          exact L29 c28 c29 c30
        · refine r_ic (x := 1) rfl rfl ?_
          refine r_goto (tg := 21) rfl rfl ?_
          refine r_zret rfl (.inr rfl) ?_
          show WR _ cd_94 128 [some (.ref (ad 0)), some (.int o), some (.int a), some (.int b), some (.int c)] [.int 1] h _
          refine r_if_eq (tg := 142) rfl rfl (fun q => absurd q (by decide)) (fun _ => ?_)
          refine r_iload rfl rfl ?_
          refine r_cs (y := 93) (ra := [.int b]) (rest := []) rfl ⟨⟨rfl, rfl⟩, by decide⟩ rfl rfl (Nat.le_of_ble_eq_true rfl) ?_
          refine in_93 (Nat.le_of_ble_eq_true rfl) ?_
          show WR _ cd_93 0 [some (.int b)] [] h _
          refine r_iload rfl rfl ?_
          refine r_if_lt (tg := 14) rfl rfl (fun c31 => ?_) (fun c31 => ?_)
          · refine r_ic (x := 0) rfl rfl ?_
            refine r_zret rfl (.inl rfl) ?_
            show WR _ cd_94 135 [some (.ref (ad 0)), some (.int o), some (.int a), some (.int b), some (.int c)] [.int 0] h _
            refine r_if_eq (tg := 142) rfl rfl (fun _ => ?_) (fun q => absurd q (by decide))
            refine r_ic (x := 0) rfl rfl ?_
            refine r_zret rfl (.inl rfl) ?_
            exact L30 c28 c29 c30 c31
          · refine r_iload rfl rfl ?_
            refine r_ic (x := 10) rfl rfl ?_
            refine r_icmp_ge (tg := 14) rfl rfl (fun c32 => ?_) (fun c32 => ?_)
            · refine r_ic (x := 0) rfl rfl ?_
              refine r_zret rfl (.inl rfl) ?_
              show WR _ cd_94 135 [some (.ref (ad 0)), some (.int o), some (.int a), some (.int b), some (.int c)] [.int 0] h _
              refine r_if_eq (tg := 142) rfl rfl (fun _ => ?_) (fun q => absurd q (by decide))
              refine r_ic (x := 0) rfl rfl ?_
              refine r_zret rfl (.inl rfl) ?_
              exact L31 c28 c29 c30 c31 c32
            · refine r_ic (x := 1) rfl rfl ?_
              refine r_goto (tg := 15) rfl rfl ?_
              refine r_zret rfl (.inr rfl) ?_
              show WR _ cd_94 135 [some (.ref (ad 0)), some (.int o), some (.int a), some (.int b), some (.int c)] [.int 1] h _
              refine r_if_eq (tg := 142) rfl rfl (fun q => absurd q (by decide)) (fun _ => ?_)
              refine r_ic (x := 1) rfl rfl ?_
              refine r_goto (tg := 143) rfl rfl ?_
              refine r_zret rfl (.inr rfl) ?_
              exact L32 c28 c29 c30 c31 c32
    · have c33 : o = 11 := e_
      refine WR_pc (q := 144) (by rw [c33]; rfl) ?_
      refine r_aload rfl rfl ?_
      refine r_iload rfl rfl ?_
      refine r_cv (y := 95) (ra := [.int a]) (rest := []) rfl ⟨⟨rfl, rfl⟩, rfl, by decide⟩ (fx_t0 fx) rfl rfl (Nat.le_of_ble_eq_true rfl) ?_
      refine in_95 (Nat.le_of_ble_eq_true rfl) ?_
      show WR _ cd_95 0 [some (.ref (ad 0)), some (.int a)] [] h _
      refine r_iload rfl rfl ?_
      refine r_if_lt (tg := 20) rfl rfl (fun c34 => ?_) (fun c34 => ?_)
      · refine r_ic (x := 0) rfl rfl ?_
        refine r_zret rfl (.inl rfl) ?_
        show WR _ cd_94 149 [some (.ref (ad 0)), some (.int o), some (.int a), some (.int b), some (.int c)] [.int 0] h _
        refine r_zret rfl (.inl rfl) ?_
        exact L33 c33 c34
      · refine r_iload rfl rfl ?_
        refine r_aload rfl rfl ?_
        refine r_getA (b := ad 4) rfl ⟨rfl, rfl, rfl⟩ (fx_t0 fx) (fx_r0_2 fx) ?_
        refine r_getA (b := ad 7) rfl ⟨rfl, rfl, rfl⟩ (fx_t4 fx) (fx_r4_0 fx) ?_
        refine r_alen rfl (isA_of (fx_t7 fx) (by decide)) ?_
        refine WR_st (st2 := [.int (nI n), .int a]) (by rw [(fx_n7 fx)]) ?_
        refine r_icmp_ge (tg := 20) rfl rfl (fun c35 => ?_) (fun c35 => ?_)
        · refine r_ic (x := 0) rfl rfl ?_
          refine r_zret rfl (.inl rfl) ?_
          show WR _ cd_94 149 [some (.ref (ad 0)), some (.int o), some (.int a), some (.int b), some (.int c)] [.int 0] h _
          refine r_zret rfl (.inl rfl) ?_
          exact L34 c33 c34 c35
        · refine r_ic (x := 1) rfl rfl ?_
          refine r_goto (tg := 21) rfl rfl ?_
          refine r_zret rfl (.inr rfl) ?_
          show WR _ cd_94 149 [some (.ref (ad 0)), some (.int o), some (.int a), some (.int b), some (.int c)] [.int 1] h _
          refine r_zret rfl (.inr rfl) ?_
          exact L35 c33 c34 c35
    · have c36 : o = 12 := e_
      refine WR_pc (q := 150) (by rw [c36]; rfl) ?_
      refine r_aload rfl rfl ?_
      refine r_iload rfl rfl ?_
      refine r_cv (y := 95) (ra := [.int a]) (rest := []) rfl ⟨⟨rfl, rfl⟩, rfl, by decide⟩ (fx_t0 fx) rfl rfl (Nat.le_of_ble_eq_true rfl) ?_
      refine in_95 (Nat.le_of_ble_eq_true rfl) ?_
      show WR _ cd_95 0 [some (.ref (ad 0)), some (.int a)] [] h _
      refine r_iload rfl rfl ?_
      refine r_if_lt (tg := 20) rfl rfl (fun c37 => ?_) (fun c37 => ?_)
      · refine r_ic (x := 0) rfl rfl ?_
        refine r_zret rfl (.inl rfl) ?_
        show WR _ cd_94 155 [some (.ref (ad 0)), some (.int o), some (.int a), some (.int b), some (.int c)] [.int 0] h _
        refine r_if_eq (tg := 171) rfl rfl (fun _ => ?_) (fun q => absurd q (by decide))
        refine r_ic (x := 0) rfl rfl ?_
        refine r_zret rfl (.inl rfl) ?_
        exact L36 c36 c37
      · refine r_iload rfl rfl ?_
        refine r_aload rfl rfl ?_
        refine r_getA (b := ad 4) rfl ⟨rfl, rfl, rfl⟩ (fx_t0 fx) (fx_r0_2 fx) ?_
        refine r_getA (b := ad 7) rfl ⟨rfl, rfl, rfl⟩ (fx_t4 fx) (fx_r4_0 fx) ?_
        refine r_alen rfl (isA_of (fx_t7 fx) (by decide)) ?_
        refine WR_st (st2 := [.int (nI n), .int a]) (by rw [(fx_n7 fx)]) ?_
        refine r_icmp_ge (tg := 20) rfl rfl (fun c38 => ?_) (fun c38 => ?_)
        · refine r_ic (x := 0) rfl rfl ?_
          refine r_zret rfl (.inl rfl) ?_
          show WR _ cd_94 155 [some (.ref (ad 0)), some (.int o), some (.int a), some (.int b), some (.int c)] [.int 0] h _
          refine r_if_eq (tg := 171) rfl rfl (fun _ => ?_) (fun q => absurd q (by decide))
          refine r_ic (x := 0) rfl rfl ?_
          refine r_zret rfl (.inl rfl) ?_
          exact L37 c36 c37 c38
        · refine r_ic (x := 1) rfl rfl ?_
          refine r_goto (tg := 21) rfl rfl ?_
          refine r_zret rfl (.inr rfl) ?_
          show WR _ cd_94 155 [some (.ref (ad 0)), some (.int o), some (.int a), some (.int b), some (.int c)] [.int 1] h _
          refine r_if_eq (tg := 171) rfl rfl (fun q => absurd q (by decide)) (fun _ => ?_)
          refine r_iload rfl rfl ?_
          refine r_if_lt (tg := 171) rfl rfl (fun c39 => ?_) (fun c39 => ?_)
          · refine r_ic (x := 0) rfl rfl ?_
            refine r_zret rfl (.inl rfl) ?_
            exact L38 c36 c37 c38 c39
          · refine r_iload rfl rfl ?_
            refine r_ic (x := 5) rfl rfl ?_
            refine r_icmp_ge (tg := 171) rfl rfl (fun c40 => ?_) (fun c40 => ?_)
            · refine r_ic (x := 0) rfl rfl ?_
              refine r_zret rfl (.inl rfl) ?_
              exact L39 c36 c37 c38 c39 c40
            · refine r_ic (x := 1) rfl rfl ?_
              refine r_goto (tg := 172) rfl rfl ?_
              refine r_zret rfl (.inr rfl) ?_
              exact L40 c36 c37 c38 c39 c40
    · have c41 : o = 13 := e_
      refine WR_pc (q := 150) (by rw [c41]; rfl) ?_
      refine r_aload rfl rfl ?_
      refine r_iload rfl rfl ?_
      refine r_cv (y := 95) (ra := [.int a]) (rest := []) rfl ⟨⟨rfl, rfl⟩, rfl, by decide⟩ (fx_t0 fx) rfl rfl (Nat.le_of_ble_eq_true rfl) ?_
      refine in_95 (Nat.le_of_ble_eq_true rfl) ?_
      show WR _ cd_95 0 [some (.ref (ad 0)), some (.int a)] [] h _
      refine r_iload rfl rfl ?_
      refine r_if_lt (tg := 20) rfl rfl (fun c42 => ?_) (fun c42 => ?_)
      · refine r_ic (x := 0) rfl rfl ?_
        refine r_zret rfl (.inl rfl) ?_
        show WR _ cd_94 155 [some (.ref (ad 0)), some (.int o), some (.int a), some (.int b), some (.int c)] [.int 0] h _
        refine r_if_eq (tg := 171) rfl rfl (fun _ => ?_) (fun q => absurd q (by decide))
        refine r_ic (x := 0) rfl rfl ?_
        refine r_zret rfl (.inl rfl) ?_
        exact L41 c41 c42
      · refine r_iload rfl rfl ?_
        refine r_aload rfl rfl ?_
        refine r_getA (b := ad 4) rfl ⟨rfl, rfl, rfl⟩ (fx_t0 fx) (fx_r0_2 fx) ?_
        refine r_getA (b := ad 7) rfl ⟨rfl, rfl, rfl⟩ (fx_t4 fx) (fx_r4_0 fx) ?_
        refine r_alen rfl (isA_of (fx_t7 fx) (by decide)) ?_
        refine WR_st (st2 := [.int (nI n), .int a]) (by rw [(fx_n7 fx)]) ?_
        refine r_icmp_ge (tg := 20) rfl rfl (fun c43 => ?_) (fun c43 => ?_)
        · refine r_ic (x := 0) rfl rfl ?_
          refine r_zret rfl (.inl rfl) ?_
          show WR _ cd_94 155 [some (.ref (ad 0)), some (.int o), some (.int a), some (.int b), some (.int c)] [.int 0] h _
          refine r_if_eq (tg := 171) rfl rfl (fun _ => ?_) (fun q => absurd q (by decide))
          refine r_ic (x := 0) rfl rfl ?_
          refine r_zret rfl (.inl rfl) ?_
          exact L42 c41 c42 c43
        · refine r_ic (x := 1) rfl rfl ?_
          refine r_goto (tg := 21) rfl rfl ?_
          refine r_zret rfl (.inr rfl) ?_
          show WR _ cd_94 155 [some (.ref (ad 0)), some (.int o), some (.int a), some (.int b), some (.int c)] [.int 1] h _
          refine r_if_eq (tg := 171) rfl rfl (fun q => absurd q (by decide)) (fun _ => ?_)
          refine r_iload rfl rfl ?_
          refine r_if_lt (tg := 171) rfl rfl (fun c44 => ?_) (fun c44 => ?_)
          · refine r_ic (x := 0) rfl rfl ?_
            refine r_zret rfl (.inl rfl) ?_
            exact L43 c41 c42 c43 c44
          · refine r_iload rfl rfl ?_
            refine r_ic (x := 5) rfl rfl ?_
            refine r_icmp_ge (tg := 171) rfl rfl (fun c45 => ?_) (fun c45 => ?_)
            · refine r_ic (x := 0) rfl rfl ?_
              refine r_zret rfl (.inl rfl) ?_
              exact L44 c41 c42 c43 c44 c45
            · refine r_ic (x := 1) rfl rfl ?_
              refine r_goto (tg := 172) rfl rfl ?_
              refine r_zret rfl (.inr rfl) ?_
              exact L45 c41 c42 c43 c44 c45

theorem c_known {d : Nat} {Q : mQ} {n : Nat} {ad sa : Nat → Nat} {z0 : Nat} {h : mH} (fx : FX n ad sa z0 h) {o a b c : Int32} (ho : 0 ≤ o.toInt ∧ o.toInt ≤ 13) (k1 : knS n o a b c → Q (some (.int 1)) h) (k0 : ¬ knS n o a b c → Q (some (.int 0)) h) : EV (d + 2) 94 [.ref (ad 0), .int o, .int a, .int b, .int c] h Q := by
  refine x_known fx o a b c ?_ ?_ ?_ ?_ ?_ ?_ ?_ ?_ ?_ ?_ ?_ ?_ ?_ ?_ ?_ ?_ ?_ ?_ ?_ ?_ ?_ ?_ ?_ ?_ ?_ ?_ ?_ ?_ ?_ ?_ ?_ ?_ ?_ ?_ ?_ ?_ ?_ ?_ ?_ ?_ ?_ ?_ ?_ ?_ ?_
  · intro c0; omega
  · intro c0 c1; subst c0; exact k0 (fun z => (z.1 (by decide)).1 c1)
  · intro c0 c1 c2; subst c0; exact k0 (fun z => (z.1 (by decide)).2 c2)
  · intro c0 c1 c2; subst c0; exact k1 ⟨fun _ => ⟨c1, c2⟩, fun e => absurd e (by decide), fun e => absurd e (by decide), fun e => absurd e (by decide), fun e => absurd e (by decide), fun e => absurd e (by decide), fun e => absurd e (by decide)⟩
  · intro c0 c1; subst c0; exact k0 (fun z => (z.1 (by decide)).1 c1)
  · intro c0 c1 c2; subst c0; exact k0 (fun z => (z.1 (by decide)).2 c2)
  · intro c0 c1 c2; subst c0; exact k1 ⟨fun _ => ⟨c1, c2⟩, fun e => absurd e (by decide), fun e => absurd e (by decide), fun e => absurd e (by decide), fun e => absurd e (by decide), fun e => absurd e (by decide), fun e => absurd e (by decide)⟩
  · intro c0 c1; subst c0; exact k0 (fun z => (z.1 (by decide)).1 c1)
  · intro c0 c1 c2; subst c0; exact k0 (fun z => (z.1 (by decide)).2 c2)
  · intro c0 c1 c2; subst c0; exact k1 ⟨fun _ => ⟨c1, c2⟩, fun e => absurd e (by decide), fun e => absurd e (by decide), fun e => absurd e (by decide), fun e => absurd e (by decide), fun e => absurd e (by decide), fun e => absurd e (by decide)⟩
  · intro c0; subst c0; exact k1 ⟨fun e => absurd e (by decide), fun e => absurd e (by decide), fun e => absurd e (by decide), fun e => absurd e (by decide), fun e => absurd e (by decide), fun e => absurd e (by decide), fun e => absurd e (by decide)⟩
  · intro c0; subst c0; exact k1 ⟨fun e => absurd e (by decide), fun e => absurd e (by decide), fun e => absurd e (by decide), fun e => absurd e (by decide), fun e => absurd e (by decide), fun e => absurd e (by decide), fun e => absurd e (by decide)⟩
  · intro c0; subst c0; exact k1 ⟨fun e => absurd e (by decide), fun e => absurd e (by decide), fun e => absurd e (by decide), fun e => absurd e (by decide), fun e => absurd e (by decide), fun e => absurd e (by decide), fun e => absurd e (by decide)⟩
  · intro c0; subst c0; exact k1 ⟨fun e => absurd e (by decide), fun e => absurd e (by decide), fun e => absurd e (by decide), fun e => absurd e (by decide), fun e => absurd e (by decide), fun e => absurd e (by decide), fun e => absurd e (by decide)⟩
  · intro c0 c1; subst c0; exact k0 (fun z => (z.2.1 (by decide)).1 c1)
  · intro c0 c1 c2; subst c0; exact k0 (fun z => (z.2.1 (by decide)).2 c2)
  · intro c0 c1 c2; subst c0; exact k1 ⟨fun e => absurd e (by decide), fun _ => ⟨c1, c2⟩, fun e => absurd e (by decide), fun e => absurd e (by decide), fun e => absurd e (by decide), fun e => absurd e (by decide), fun e => absurd e (by decide)⟩
  · intro c0 c1; subst c0; exact k0 (fun z => (z.2.2.1 (by decide)).1.1 c1)
  · intro c0 c1 c2; subst c0; exact k0 (fun z => (z.2.2.1 (by decide)).1.2 c2)
  · intro c0 c1 c2 c3; subst c0; exact k0 (fun z => (z.2.2.1 (by decide)).2.1 c3)
  · intro c0 c1 c2 c3 c4; subst c0; exact k0 (fun z => (z.2.2.1 (by decide)).2.2 c4)
  · intro c0 c1 c2 c3 c4; subst c0; exact k1 ⟨fun e => absurd e (by decide), fun e => absurd e (by decide), fun _ => ⟨⟨c1, c2⟩, ⟨c3, c4⟩⟩, fun e => absurd e (by decide), fun e => absurd e (by decide), fun e => absurd e (by decide), fun e => absurd e (by decide)⟩
  · intro c0 c1; subst c0; exact k0 (fun z => (z.2.2.2.1 (by decide)).1.1 c1)
  · intro c0 c1 c2; subst c0; exact k0 (fun z => (z.2.2.2.1 (by decide)).1.2 c2)
  · intro c0 c1 c2 c3; subst c0; exact k0 (fun z => (z.2.2.2.1 (by decide)).2.1 c3)
  · intro c0 c1 c2 c3 c4; subst c0; exact k0 (fun z => (z.2.2.2.1 (by decide)).2.2 c4)
  · intro c0 c1 c2 c3 c4; subst c0; exact k1 ⟨fun e => absurd e (by decide), fun e => absurd e (by decide), fun e => absurd e (by decide), fun _ => ⟨⟨c1, c2⟩, ⟨c3, c4⟩⟩, fun e => absurd e (by decide), fun e => absurd e (by decide), fun e => absurd e (by decide)⟩
  · intro c0 c1; subst c0; exact k0 (fun z => (z.2.2.2.2.1 (by decide)).1.1 c1)
  · intro c0 c1 c2; subst c0; exact k0 (fun z => (z.2.2.2.2.1 (by decide)).1.2 c2)
  · intro c0 c1 c2 c3; subst c0; exact k0 (fun z => (z.2.2.2.2.1 (by decide)).2.1 c3)
  · intro c0 c1 c2 c3 c4; subst c0; exact k0 (fun z => (z.2.2.2.2.1 (by decide)).2.2 c4)
  · intro c0 c1 c2 c3 c4; subst c0; exact k1 ⟨fun e => absurd e (by decide), fun e => absurd e (by decide), fun e => absurd e (by decide), fun e => absurd e (by decide), fun _ => ⟨⟨c1, c2⟩, ⟨c3, c4⟩⟩, fun e => absurd e (by decide), fun e => absurd e (by decide)⟩
  · intro c0 c1; subst c0; exact k0 (fun z => (z.2.2.2.2.2.1 (by decide)).1 c1)
  · intro c0 c1 c2; subst c0; exact k0 (fun z => (z.2.2.2.2.2.1 (by decide)).2 c2)
  · intro c0 c1 c2; subst c0; exact k1 ⟨fun e => absurd e (by decide), fun e => absurd e (by decide), fun e => absurd e (by decide), fun e => absurd e (by decide), fun e => absurd e (by decide), fun _ => ⟨c1, c2⟩, fun e => absurd e (by decide)⟩
  · intro c0 c1; subst c0; exact k0 (fun z => (z.2.2.2.2.2.2 (by decide)).1.1 c1)
  · intro c0 c1 c2; subst c0; exact k0 (fun z => (z.2.2.2.2.2.2 (by decide)).1.2 c2)
  · intro c0 c1 c2 c3; subst c0; exact k0 (fun z => (z.2.2.2.2.2.2 (by decide)).2.1 c3)
  · intro c0 c1 c2 c3 c4; subst c0; exact k0 (fun z => (z.2.2.2.2.2.2 (by decide)).2.2 c4)
  · intro c0 c1 c2 c3 c4; subst c0; exact k1 ⟨fun e => absurd e (by decide), fun e => absurd e (by decide), fun e => absurd e (by decide), fun e => absurd e (by decide), fun e => absurd e (by decide), fun e => absurd e (by decide), fun _ => ⟨⟨c1, c2⟩, ⟨c3, c4⟩⟩⟩
  · intro c0 c1; subst c0; exact k0 (fun z => (z.2.2.2.2.2.2 (by decide)).1.1 c1)
  · intro c0 c1 c2; subst c0; exact k0 (fun z => (z.2.2.2.2.2.2 (by decide)).1.2 c2)
  · intro c0 c1 c2 c3; subst c0; exact k0 (fun z => (z.2.2.2.2.2.2 (by decide)).2.1 c3)
  · intro c0 c1 c2 c3 c4; subst c0; exact k0 (fun z => (z.2.2.2.2.2.2 (by decide)).2.2 c4)
  · intro c0 c1 c2 c3 c4; subst c0; exact k1 ⟨fun e => absurd e (by decide), fun e => absurd e (by decide), fun e => absurd e (by decide), fun e => absurd e (by decide), fun e => absurd e (by decide), fun e => absurd e (by decide), fun _ => ⟨⟨c1, c2⟩, ⟨c3, c4⟩⟩⟩

set_option maxHeartbeats 1000000 in
theorem m_known {d : Nat} {Q : mQ} {n : Nat} {ad sa : Nat → Nat} {z0 : Nat} {h : mH} (fx : FX n ad sa z0 h) (o a b c : Int32) 
    
    (L1 : (o.toInt < 0 ∨ 13 < o.toInt) → Q (some (.int 1)) h) (L2 : o = 0 → a < 0 → Q (some (.int 0)) h) (L3 : o = 0 → ¬ a < 0 → 24 ≤ a → Q (some (.int 0)) h) (L4 : o = 0 → ¬ a < 0 → ¬ 24 ≤ a → Q (some (.int 1)) h) (L5 : o = 1 → a < 0 → Q (some (.int 0)) h) (L6 : o = 1 → ¬ a < 0 → 24 ≤ a → Q (some (.int 0)) h) (L7 : o = 1 → ¬ a < 0 → ¬ 24 ≤ a → Q (some (.int 1)) h) (L8 : o = 2 → a < 0 → Q (some (.int 0)) h) (L9 : o = 2 → ¬ a < 0 → 24 ≤ a → Q (some (.int 0)) h) (L10 : o = 2 → ¬ a < 0 → ¬ 24 ≤ a → Q (some (.int 1)) h) (L11 : o = 3 → Q (some (.int 1)) h) (L12 : o = 4 → Q (some (.int 1)) h) (L13 : o = 5 → Q (some (.int 1)) h) (L14 : o = 6 → Q (some (.int 1)) h) (L15 : o = 7 → a < 0 → Q (some (.int 0)) h) (L16 : o = 7 → ¬ a < 0 → 10 ≤ a → Q (some (.int 0)) h) (L17 : o = 7 → ¬ a < 0 → ¬ 10 ≤ a → Q (some (.int 1)) h) (L18 : o = 8 → a < 0 → Q (some (.int 0)) h) (L19 : o = 8 → ¬ a < 0 → 10 ≤ a → Q (some (.int 0)) h) (L20 : o = 8 → ¬ a < 0 → ¬ 10 ≤ a → c < 0 → Q (some (.int 0)) h) (L21 : o = 8 → ¬ a < 0 → ¬ 10 ≤ a → ¬ c < 0 → 10 ≤ c → Q (some (.int 0)) h) (L22 : o = 8 → ¬ a < 0 → ¬ 10 ≤ a → ¬ c < 0 → ¬ 10 ≤ c → Q (some (.int 1)) h) (L23 : o = 9 → a < 0 → Q (some (.int 0)) h) (L24 : o = 9 → ¬ a < 0 → 10 ≤ a → Q (some (.int 0)) h) (L25 : o = 9 → ¬ a < 0 → ¬ 10 ≤ a → b < 0 → Q (some (.int 0)) h) (L26 : o = 9 → ¬ a < 0 → ¬ 10 ≤ a → ¬ b < 0 → 10 ≤ b → Q (some (.int 0)) h) (L27 : o = 9 → ¬ a < 0 → ¬ 10 ≤ a → ¬ b < 0 → ¬ 10 ≤ b → Q (some (.int 1)) h) (L28 : o = 10 → a < 0 → Q (some (.int 0)) h) (L29 : o = 10 → ¬ a < 0 → (hI h (ad 30) 12) ≤ a → Q (some (.int 0)) h) (L30 : o = 10 → ¬ a < 0 → ¬ (hI h (ad 30) 12) ≤ a → b < 0 → Q (some (.int 0)) h) (L31 : o = 10 → ¬ a < 0 → ¬ (hI h (ad 30) 12) ≤ a → ¬ b < 0 → 10 ≤ b → Q (some (.int 0)) h) (L32 : o = 10 → ¬ a < 0 → ¬ (hI h (ad 30) 12) ≤ a → ¬ b < 0 → ¬ 10 ≤ b → Q (some (.int 1)) h) (L33 : o = 11 → a < 0 → Q (some (.int 0)) h) (L34 : o = 11 → ¬ a < 0 → (hI h (ad 30) 12) ≤ a → Q (some (.int 0)) h) (L35 : o = 11 → ¬ a < 0 → ¬ (hI h (ad 30) 12) ≤ a → Q (some (.int 1)) h) (L36 : o = 12 → a < 0 → Q (some (.int 0)) h) (L37 : o = 12 → ¬ a < 0 → (hI h (ad 30) 12) ≤ a → Q (some (.int 0)) h) (L38 : o = 12 → ¬ a < 0 → ¬ (hI h (ad 30) 12) ≤ a → b < 0 → Q (some (.int 0)) h) (L39 : o = 12 → ¬ a < 0 → ¬ (hI h (ad 30) 12) ≤ a → ¬ b < 0 → 5 ≤ b → Q (some (.int 0)) h) (L40 : o = 12 → ¬ a < 0 → ¬ (hI h (ad 30) 12) ≤ a → ¬ b < 0 → ¬ 5 ≤ b → Q (some (.int 1)) h) (L41 : o = 13 → a < 0 → Q (some (.int 0)) h) (L42 : o = 13 → ¬ a < 0 → (hI h (ad 30) 12) ≤ a → Q (some (.int 0)) h) (L43 : o = 13 → ¬ a < 0 → ¬ (hI h (ad 30) 12) ≤ a → b < 0 → Q (some (.int 0)) h) (L44 : o = 13 → ¬ a < 0 → ¬ (hI h (ad 30) 12) ≤ a → ¬ b < 0 → 5 ≤ b → Q (some (.int 0)) h) (L45 : o = 13 → ¬ a < 0 → ¬ (hI h (ad 30) 12) ≤ a → ¬ b < 0 → ¬ 5 ≤ b → Q (some (.int 1)) h) : EV (d + 2) 205 [.ref (ad 30), .int o, .int a, .int b, .int c] h Q := by
  refine in_205 (Nat.le_of_ble_eq_true rfl) ?_
  show WR _ cd_205 0 [some (.ref (ad 30)), some (.int o), some (.int a), some (.int b), some (.int c)] [] h _
  refine r_iload rfl rfl ?_
  refine r_tsw (tg := 171) rfl rfl (fun c1 => ?_) (fun c1 => ?_)
  · refine r_ic (x := 1) rfl rfl ?_
    refine r_zret rfl (.inr rfl) ?_
    exact L1 c1
  · rcases tsw_0_13 c1 with e_ | e_ | e_ | e_ | e_ | e_ | e_ | e_ | e_ | e_ | e_ | e_ | e_ | e_
    · have c2 : o = 0 := e_
      refine WR_pc (q := 72) (by rw [c2]; rfl) ?_
      refine r_iload rfl rfl ?_
      refine r_cs (y := 153) (ra := [.int a]) (rest := []) rfl ⟨⟨rfl, rfl⟩, by decide⟩ rfl rfl (Nat.le_of_ble_eq_true rfl) ?_
      refine in_153 (Nat.le_of_ble_eq_true rfl) ?_
      show WR _ cd_153 0 [some (.int a)] [] h _
      refine r_iload rfl rfl ?_
      refine r_if_lt (tg := 14) rfl rfl (fun c3 => ?_) (fun c3 => ?_)
      · refine r_ic (x := 0) rfl rfl ?_
        refine r_zret rfl (.inl rfl) ?_
        show WR _ cd_205 76 [some (.ref (ad 30)), some (.int o), some (.int a), some (.int b), some (.int c)] [.int 0] h _
        refine r_zret rfl (.inl rfl) ?_
        exact L2 c2 c3
      · refine r_iload rfl rfl ?_
        refine r_ic (x := 24) rfl rfl ?_
        refine r_icmp_ge (tg := 14) rfl rfl (fun c4 => ?_) (fun c4 => ?_)
        · refine r_ic (x := 0) rfl rfl ?_
          refine r_zret rfl (.inl rfl) ?_
          show WR _ cd_205 76 [some (.ref (ad 30)), some (.int o), some (.int a), some (.int b), some (.int c)] [.int 0] h _
          refine r_zret rfl (.inl rfl) ?_
          exact L3 c2 c3 c4
        · refine r_ic (x := 1) rfl rfl ?_
          refine r_goto (tg := 15) rfl rfl ?_
          refine r_zret rfl (.inr rfl) ?_
          show WR _ cd_205 76 [some (.ref (ad 30)), some (.int o), some (.int a), some (.int b), some (.int c)] [.int 1] h _
          refine r_zret rfl (.inr rfl) ?_
          exact L4 c2 c3 c4
    · have c5 : o = 1 := e_
      refine WR_pc (q := 72) (by rw [c5]; rfl) ?_
      refine r_iload rfl rfl ?_
      refine r_cs (y := 153) (ra := [.int a]) (rest := []) rfl ⟨⟨rfl, rfl⟩, by decide⟩ rfl rfl (Nat.le_of_ble_eq_true rfl) ?_
      refine in_153 (Nat.le_of_ble_eq_true rfl) ?_
      show WR _ cd_153 0 [some (.int a)] [] h _
      refine r_iload rfl rfl ?_
      refine r_if_lt (tg := 14) rfl rfl (fun c6 => ?_) (fun c6 => ?_)
      · refine r_ic (x := 0) rfl rfl ?_
        refine r_zret rfl (.inl rfl) ?_
        show WR _ cd_205 76 [some (.ref (ad 30)), some (.int o), some (.int a), some (.int b), some (.int c)] [.int 0] h _
        refine r_zret rfl (.inl rfl) ?_
        exact L5 c5 c6
      · refine r_iload rfl rfl ?_
        refine r_ic (x := 24) rfl rfl ?_
        refine r_icmp_ge (tg := 14) rfl rfl (fun c7 => ?_) (fun c7 => ?_)
        · refine r_ic (x := 0) rfl rfl ?_
          refine r_zret rfl (.inl rfl) ?_
          show WR _ cd_205 76 [some (.ref (ad 30)), some (.int o), some (.int a), some (.int b), some (.int c)] [.int 0] h _
          refine r_zret rfl (.inl rfl) ?_
          exact L6 c5 c6 c7
        · refine r_ic (x := 1) rfl rfl ?_
          refine r_goto (tg := 15) rfl rfl ?_
          refine r_zret rfl (.inr rfl) ?_
          show WR _ cd_205 76 [some (.ref (ad 30)), some (.int o), some (.int a), some (.int b), some (.int c)] [.int 1] h _
          refine r_zret rfl (.inr rfl) ?_
          exact L7 c5 c6 c7
    · have c8 : o = 2 := e_
      refine WR_pc (q := 72) (by rw [c8]; rfl) ?_
      refine r_iload rfl rfl ?_
      refine r_cs (y := 153) (ra := [.int a]) (rest := []) rfl ⟨⟨rfl, rfl⟩, by decide⟩ rfl rfl (Nat.le_of_ble_eq_true rfl) ?_
      refine in_153 (Nat.le_of_ble_eq_true rfl) ?_
      show WR _ cd_153 0 [some (.int a)] [] h _
      refine r_iload rfl rfl ?_
      refine r_if_lt (tg := 14) rfl rfl (fun c9 => ?_) (fun c9 => ?_)
      · refine r_ic (x := 0) rfl rfl ?_
        refine r_zret rfl (.inl rfl) ?_
        show WR _ cd_205 76 [some (.ref (ad 30)), some (.int o), some (.int a), some (.int b), some (.int c)] [.int 0] h _
        refine r_zret rfl (.inl rfl) ?_
        exact L8 c8 c9
      · refine r_iload rfl rfl ?_
        refine r_ic (x := 24) rfl rfl ?_
        refine r_icmp_ge (tg := 14) rfl rfl (fun c10 => ?_) (fun c10 => ?_)
        · refine r_ic (x := 0) rfl rfl ?_
          refine r_zret rfl (.inl rfl) ?_
          show WR _ cd_205 76 [some (.ref (ad 30)), some (.int o), some (.int a), some (.int b), some (.int c)] [.int 0] h _
          refine r_zret rfl (.inl rfl) ?_
          exact L9 c8 c9 c10
        · refine r_ic (x := 1) rfl rfl ?_
          refine r_goto (tg := 15) rfl rfl ?_
          refine r_zret rfl (.inr rfl) ?_
          show WR _ cd_205 76 [some (.ref (ad 30)), some (.int o), some (.int a), some (.int b), some (.int c)] [.int 1] h _
          refine r_zret rfl (.inr rfl) ?_
          exact L10 c8 c9 c10
    · have c11 : o = 3 := e_
      refine WR_pc (q := 171) (by rw [c11]; rfl) ?_
      refine r_ic (x := 1) rfl rfl ?_
      refine r_zret rfl (.inr rfl) ?_
      exact L11 c11
    · have c12 : o = 4 := e_
      refine WR_pc (q := 171) (by rw [c12]; rfl) ?_
      refine r_ic (x := 1) rfl rfl ?_
      refine r_zret rfl (.inr rfl) ?_
      exact L12 c12
    · have c13 : o = 5 := e_
      refine WR_pc (q := 171) (by rw [c13]; rfl) ?_
      refine r_ic (x := 1) rfl rfl ?_
      refine r_zret rfl (.inr rfl) ?_
      exact L13 c13
    · have c14 : o = 6 := e_
      refine WR_pc (q := 171) (by rw [c14]; rfl) ?_
      refine r_ic (x := 1) rfl rfl ?_
      refine r_zret rfl (.inr rfl) ?_
      exact L14 c14
    · have c15 : o = 7 := e_
      refine WR_pc (q := 77) (by rw [c15]; rfl) ?_
      refine r_iload rfl rfl ?_
      refine r_cs (y := 204) (ra := [.int a]) (rest := []) rfl ⟨⟨rfl, rfl⟩, by decide⟩ rfl rfl (Nat.le_of_ble_eq_true rfl) ?_
      refine in_204 (Nat.le_of_ble_eq_true rfl) ?_
      show WR _ cd_204 0 [some (.int a)] [] h _
      refine r_iload rfl rfl ?_
      refine r_if_lt (tg := 14) rfl rfl (fun c16 => ?_) (fun c16 => ?_)
      · refine r_ic (x := 0) rfl rfl ?_
        refine r_zret rfl (.inl rfl) ?_
        show WR _ cd_205 81 [some (.ref (ad 30)), some (.int o), some (.int a), some (.int b), some (.int c)] [.int 0] h _
        refine r_zret rfl (.inl rfl) ?_
        exact L15 c15 c16
      · refine r_iload rfl rfl ?_
        refine r_ic (x := 10) rfl rfl ?_
        refine r_icmp_ge (tg := 14) rfl rfl (fun c17 => ?_) (fun c17 => ?_)
        · refine r_ic (x := 0) rfl rfl ?_
          refine r_zret rfl (.inl rfl) ?_
          show WR _ cd_205 81 [some (.ref (ad 30)), some (.int o), some (.int a), some (.int b), some (.int c)] [.int 0] h _
          refine r_zret rfl (.inl rfl) ?_
          exact L16 c15 c16 c17
        · refine r_ic (x := 1) rfl rfl ?_
          refine r_goto (tg := 15) rfl rfl ?_
          refine r_zret rfl (.inr rfl) ?_
          show WR _ cd_205 81 [some (.ref (ad 30)), some (.int o), some (.int a), some (.int b), some (.int c)] [.int 1] h _
          refine r_zret rfl (.inr rfl) ?_
          exact L17 c15 c16 c17
    · have c18 : o = 8 := e_
      refine WR_pc (q := 82) (by rw [c18]; rfl) ?_
      refine r_iload rfl rfl ?_
      refine r_cs (y := 204) (ra := [.int a]) (rest := []) rfl ⟨⟨rfl, rfl⟩, by decide⟩ rfl rfl (Nat.le_of_ble_eq_true rfl) ?_
      refine in_204 (Nat.le_of_ble_eq_true rfl) ?_
      show WR _ cd_204 0 [some (.int a)] [] h _
      refine r_iload rfl rfl ?_
      refine r_if_lt (tg := 14) rfl rfl (fun c19 => ?_) (fun c19 => ?_)
      · refine r_ic (x := 0) rfl rfl ?_
        refine r_zret rfl (.inl rfl) ?_
        show WR _ cd_205 86 [some (.ref (ad 30)), some (.int o), some (.int a), some (.int b), some (.int c)] [.int 0] h _
        refine r_if_eq (tg := 101) rfl rfl (fun _ => ?_) (fun q => absurd q (by decide))
        refine r_ic (x := 0) rfl rfl ?_
        refine r_zret rfl (.inl rfl) ?_
        exact L18 c18 c19
      · refine r_iload rfl rfl ?_
        refine r_ic (x := 10) rfl rfl ?_
        refine r_icmp_ge (tg := 14) rfl rfl (fun c20 => ?_) (fun c20 => ?_)
        · refine r_ic (x := 0) rfl rfl ?_
          refine r_zret rfl (.inl rfl) ?_
          show WR _ cd_205 86 [some (.ref (ad 30)), some (.int o), some (.int a), some (.int b), some (.int c)] [.int 0] h _
          refine r_if_eq (tg := 101) rfl rfl (fun _ => ?_) (fun q => absurd q (by decide))
          refine r_ic (x := 0) rfl rfl ?_
          refine r_zret rfl (.inl rfl) ?_
          exact L19 c18 c19 c20
        · refine r_ic (x := 1) rfl rfl ?_
          refine r_goto (tg := 15) rfl rfl ?_
          refine r_zret rfl (.inr rfl) ?_
          show WR _ cd_205 86 [some (.ref (ad 30)), some (.int o), some (.int a), some (.int b), some (.int c)] [.int 1] h _
          refine r_if_eq (tg := 101) rfl rfl (fun q => absurd q (by decide)) (fun _ => ?_)
          refine r_iload rfl rfl ?_
          refine r_cs (y := 204) (ra := [.int c]) (rest := []) rfl ⟨⟨rfl, rfl⟩, by decide⟩ rfl rfl (Nat.le_of_ble_eq_true rfl) ?_
          refine in_204 (Nat.le_of_ble_eq_true rfl) ?_
          show WR _ cd_204 0 [some (.int c)] [] h _
          refine r_iload rfl rfl ?_
          refine r_if_lt (tg := 14) rfl rfl (fun c21 => ?_) (fun c21 => ?_)
          · refine r_ic (x := 0) rfl rfl ?_
            refine r_zret rfl (.inl rfl) ?_
            show WR _ cd_205 94 [some (.ref (ad 30)), some (.int o), some (.int a), some (.int b), some (.int c)] [.int 0] h _
            refine r_if_eq (tg := 101) rfl rfl (fun _ => ?_) (fun q => absurd q (by decide))
            refine r_ic (x := 0) rfl rfl ?_
            refine r_zret rfl (.inl rfl) ?_
            exact L20 c18 c19 c20 c21
          · refine r_iload rfl rfl ?_
            refine r_ic (x := 10) rfl rfl ?_
            refine r_icmp_ge (tg := 14) rfl rfl (fun c22 => ?_) (fun c22 => ?_)
            · refine r_ic (x := 0) rfl rfl ?_
              refine r_zret rfl (.inl rfl) ?_
              show WR _ cd_205 94 [some (.ref (ad 30)), some (.int o), some (.int a), some (.int b), some (.int c)] [.int 0] h _
              refine r_if_eq (tg := 101) rfl rfl (fun _ => ?_) (fun q => absurd q (by decide))
              refine r_ic (x := 0) rfl rfl ?_
              refine r_zret rfl (.inl rfl) ?_
              exact L21 c18 c19 c20 c21 c22
            · refine r_ic (x := 1) rfl rfl ?_
              refine r_goto (tg := 15) rfl rfl ?_
              refine r_zret rfl (.inr rfl) ?_
              show WR _ cd_205 94 [some (.ref (ad 30)), some (.int o), some (.int a), some (.int b), some (.int c)] [.int 1] h _
              refine r_if_eq (tg := 101) rfl rfl (fun q => absurd q (by decide)) (fun _ => ?_)
              refine r_ic (x := 1) rfl rfl ?_
              refine r_goto (tg := 102) rfl rfl ?_
              refine r_zret rfl (.inr rfl) ?_
              exact L22 c18 c19 c20 c21 c22
    · have c23 : o = 9 := e_
      refine WR_pc (q := 103) (by rw [c23]; rfl) ?_
      refine r_iload rfl rfl ?_
      refine r_cs (y := 204) (ra := [.int a]) (rest := []) rfl ⟨⟨rfl, rfl⟩, by decide⟩ rfl rfl (Nat.le_of_ble_eq_true rfl) ?_
      refine in_204 (Nat.le_of_ble_eq_true rfl) ?_
      show WR _ cd_204 0 [some (.int a)] [] h _
      refine r_iload rfl rfl ?_
      refine r_if_lt (tg := 14) rfl rfl (fun c24 => ?_) (fun c24 => ?_)
      · refine r_ic (x := 0) rfl rfl ?_
        refine r_zret rfl (.inl rfl) ?_
        show WR _ cd_205 107 [some (.ref (ad 30)), some (.int o), some (.int a), some (.int b), some (.int c)] [.int 0] h _
        refine r_if_eq (tg := 121) rfl rfl (fun _ => ?_) (fun q => absurd q (by decide))
        refine r_ic (x := 0) rfl rfl ?_
        refine r_zret rfl (.inl rfl) ?_
        exact L23 c23 c24
      · refine r_iload rfl rfl ?_
        refine r_ic (x := 10) rfl rfl ?_
        refine r_icmp_ge (tg := 14) rfl rfl (fun c25 => ?_) (fun c25 => ?_)
        · refine r_ic (x := 0) rfl rfl ?_
          refine r_zret rfl (.inl rfl) ?_
          show WR _ cd_205 107 [some (.ref (ad 30)), some (.int o), some (.int a), some (.int b), some (.int c)] [.int 0] h _
          refine r_if_eq (tg := 121) rfl rfl (fun _ => ?_) (fun q => absurd q (by decide))
          refine r_ic (x := 0) rfl rfl ?_
          refine r_zret rfl (.inl rfl) ?_
          exact L24 c23 c24 c25
        · refine r_ic (x := 1) rfl rfl ?_
          refine r_goto (tg := 15) rfl rfl ?_
          refine r_zret rfl (.inr rfl) ?_
          show WR _ cd_205 107 [some (.ref (ad 30)), some (.int o), some (.int a), some (.int b), some (.int c)] [.int 1] h _
          refine r_if_eq (tg := 121) rfl rfl (fun q => absurd q (by decide)) (fun _ => ?_)
          refine r_iload rfl rfl ?_
          refine r_cs (y := 204) (ra := [.int b]) (rest := []) rfl ⟨⟨rfl, rfl⟩, by decide⟩ rfl rfl (Nat.le_of_ble_eq_true rfl) ?_
          refine in_204 (Nat.le_of_ble_eq_true rfl) ?_
          show WR _ cd_204 0 [some (.int b)] [] h _
          refine r_iload rfl rfl ?_
          refine r_if_lt (tg := 14) rfl rfl (fun c26 => ?_) (fun c26 => ?_)
          · refine r_ic (x := 0) rfl rfl ?_
            refine r_zret rfl (.inl rfl) ?_
            show WR _ cd_205 114 [some (.ref (ad 30)), some (.int o), some (.int a), some (.int b), some (.int c)] [.int 0] h _
            refine r_if_eq (tg := 121) rfl rfl (fun _ => ?_) (fun q => absurd q (by decide))
            refine r_ic (x := 0) rfl rfl ?_
            refine r_zret rfl (.inl rfl) ?_
            exact L25 c23 c24 c25 c26
          · refine r_iload rfl rfl ?_
            refine r_ic (x := 10) rfl rfl ?_
            refine r_icmp_ge (tg := 14) rfl rfl (fun c27 => ?_) (fun c27 => ?_)
            · refine r_ic (x := 0) rfl rfl ?_
              refine r_zret rfl (.inl rfl) ?_
              show WR _ cd_205 114 [some (.ref (ad 30)), some (.int o), some (.int a), some (.int b), some (.int c)] [.int 0] h _
              refine r_if_eq (tg := 121) rfl rfl (fun _ => ?_) (fun q => absurd q (by decide))
              refine r_ic (x := 0) rfl rfl ?_
              refine r_zret rfl (.inl rfl) ?_
              exact L26 c23 c24 c25 c26 c27
            · refine r_ic (x := 1) rfl rfl ?_
              refine r_goto (tg := 15) rfl rfl ?_
              refine r_zret rfl (.inr rfl) ?_
              show WR _ cd_205 114 [some (.ref (ad 30)), some (.int o), some (.int a), some (.int b), some (.int c)] [.int 1] h _
              refine r_if_eq (tg := 121) rfl rfl (fun q => absurd q (by decide)) (fun _ => ?_)
              refine r_ic (x := 1) rfl rfl ?_
              refine r_goto (tg := 122) rfl rfl ?_
              refine r_zret rfl (.inr rfl) ?_
              exact L27 c23 c24 c25 c26 c27
    · have c28 : o = 10 := e_
      refine WR_pc (q := 123) (by rw [c28]; rfl) ?_
      refine r_aload rfl rfl ?_
      refine r_iload rfl rfl ?_
      refine r_cv (y := 206) (ra := [.int a]) (rest := []) rfl ⟨⟨rfl, rfl⟩, rfl, by decide⟩ (fx_t30 fx) rfl rfl (Nat.le_of_ble_eq_true rfl) ?_
      refine in_206 (Nat.le_of_ble_eq_true rfl) ?_
      show WR _ cd_206 0 [some (.ref (ad 30)), some (.int a)] [] h _
      refine r_iload rfl rfl ?_
      refine r_if_lt (tg := 16) rfl rfl (fun c29 => ?_) (fun c29 => ?_)
      · refine r_ic (x := 0) rfl rfl ?_
        refine r_zret rfl (.inl rfl) ?_
        show WR _ cd_205 128 [some (.ref (ad 30)), some (.int o), some (.int a), some (.int b), some (.int c)] [.int 0] h _
        refine r_if_eq (tg := 142) rfl rfl (fun _ => ?_) (fun q => absurd q (by decide))
        refine r_ic (x := 0) rfl rfl ?_
        refine r_zret rfl (.inl rfl) ?_
        exact L28 c28 c29
      · refine r_iload rfl rfl ?_
        refine r_aload rfl rfl ?_
        refine r_getI rfl ⟨rfl, rfl, rfl⟩ (fx_t30 fx) ?_
        refine r_icmp_ge (tg := 16) rfl rfl (fun c30 => ?_) (fun c30 => ?_)
        · refine r_ic (x := 0) rfl rfl ?_
          refine r_zret rfl (.inl rfl) ?_
          show WR _ cd_205 128 [some (.ref (ad 30)), some (.int o), some (.int a), some (.int b), some (.int c)] [.int 0] h _
          refine r_if_eq (tg := 142) rfl rfl (fun _ => ?_) (fun q => absurd q (by decide))
          refine r_ic (x := 0) rfl rfl ?_
          refine r_zret rfl (.inl rfl) ?_
          exact L29 c28 c29 c30
        · refine r_ic (x := 1) rfl rfl ?_
          refine r_goto (tg := 17) rfl rfl ?_
          refine r_zret rfl (.inr rfl) ?_
          show WR _ cd_205 128 [some (.ref (ad 30)), some (.int o), some (.int a), some (.int b), some (.int c)] [.int 1] h _
          refine r_if_eq (tg := 142) rfl rfl (fun q => absurd q (by decide)) (fun _ => ?_)
          refine r_iload rfl rfl ?_
          refine r_cs (y := 204) (ra := [.int b]) (rest := []) rfl ⟨⟨rfl, rfl⟩, by decide⟩ rfl rfl (Nat.le_of_ble_eq_true rfl) ?_
          refine in_204 (Nat.le_of_ble_eq_true rfl) ?_
          show WR _ cd_204 0 [some (.int b)] [] h _
          refine r_iload rfl rfl ?_
          refine r_if_lt (tg := 14) rfl rfl (fun c31 => ?_) (fun c31 => ?_)
          · refine r_ic (x := 0) rfl rfl ?_
            refine r_zret rfl (.inl rfl) ?_
            show WR _ cd_205 135 [some (.ref (ad 30)), some (.int o), some (.int a), some (.int b), some (.int c)] [.int 0] h _
            refine r_if_eq (tg := 142) rfl rfl (fun _ => ?_) (fun q => absurd q (by decide))
            refine r_ic (x := 0) rfl rfl ?_
            refine r_zret rfl (.inl rfl) ?_
            exact L30 c28 c29 c30 c31
          · refine r_iload rfl rfl ?_
            refine r_ic (x := 10) rfl rfl ?_
            refine r_icmp_ge (tg := 14) rfl rfl (fun c32 => ?_) (fun c32 => ?_)
            · refine r_ic (x := 0) rfl rfl ?_
              refine r_zret rfl (.inl rfl) ?_
              show WR _ cd_205 135 [some (.ref (ad 30)), some (.int o), some (.int a), some (.int b), some (.int c)] [.int 0] h _
              refine r_if_eq (tg := 142) rfl rfl (fun _ => ?_) (fun q => absurd q (by decide))
              refine r_ic (x := 0) rfl rfl ?_
              refine r_zret rfl (.inl rfl) ?_
              exact L31 c28 c29 c30 c31 c32
            · refine r_ic (x := 1) rfl rfl ?_
              refine r_goto (tg := 15) rfl rfl ?_
              refine r_zret rfl (.inr rfl) ?_
              show WR _ cd_205 135 [some (.ref (ad 30)), some (.int o), some (.int a), some (.int b), some (.int c)] [.int 1] h _
              refine r_if_eq (tg := 142) rfl rfl (fun q => absurd q (by decide)) (fun _ => ?_)
              refine r_ic (x := 1) rfl rfl ?_
              refine r_goto (tg := 143) rfl rfl ?_
              refine r_zret rfl (.inr rfl) ?_
              exact L32 c28 c29 c30 c31 c32
    · have c33 : o = 11 := e_
      refine WR_pc (q := 144) (by rw [c33]; rfl) ?_
      refine r_aload rfl rfl ?_
      refine r_iload rfl rfl ?_
      refine r_cv (y := 206) (ra := [.int a]) (rest := []) rfl ⟨⟨rfl, rfl⟩, rfl, by decide⟩ (fx_t30 fx) rfl rfl (Nat.le_of_ble_eq_true rfl) ?_
      refine in_206 (Nat.le_of_ble_eq_true rfl) ?_
      show WR _ cd_206 0 [some (.ref (ad 30)), some (.int a)] [] h _
      refine r_iload rfl rfl ?_
      refine r_if_lt (tg := 16) rfl rfl (fun c34 => ?_) (fun c34 => ?_)
      · refine r_ic (x := 0) rfl rfl ?_
        refine r_zret rfl (.inl rfl) ?_
        show WR _ cd_205 149 [some (.ref (ad 30)), some (.int o), some (.int a), some (.int b), some (.int c)] [.int 0] h _
        refine r_zret rfl (.inl rfl) ?_
        exact L33 c33 c34
      · refine r_iload rfl rfl ?_
        refine r_aload rfl rfl ?_
        refine r_getI rfl ⟨rfl, rfl, rfl⟩ (fx_t30 fx) ?_
        refine r_icmp_ge (tg := 16) rfl rfl (fun c35 => ?_) (fun c35 => ?_)
        · refine r_ic (x := 0) rfl rfl ?_
          refine r_zret rfl (.inl rfl) ?_
          show WR _ cd_205 149 [some (.ref (ad 30)), some (.int o), some (.int a), some (.int b), some (.int c)] [.int 0] h _
          refine r_zret rfl (.inl rfl) ?_
          exact L34 c33 c34 c35
        · refine r_ic (x := 1) rfl rfl ?_
          refine r_goto (tg := 17) rfl rfl ?_
          refine r_zret rfl (.inr rfl) ?_
          show WR _ cd_205 149 [some (.ref (ad 30)), some (.int o), some (.int a), some (.int b), some (.int c)] [.int 1] h _
          refine r_zret rfl (.inr rfl) ?_
          exact L35 c33 c34 c35
    · have c36 : o = 12 := e_
      refine WR_pc (q := 150) (by rw [c36]; rfl) ?_
      refine r_aload rfl rfl ?_
      refine r_iload rfl rfl ?_
      refine r_cv (y := 206) (ra := [.int a]) (rest := []) rfl ⟨⟨rfl, rfl⟩, rfl, by decide⟩ (fx_t30 fx) rfl rfl (Nat.le_of_ble_eq_true rfl) ?_
      refine in_206 (Nat.le_of_ble_eq_true rfl) ?_
      show WR _ cd_206 0 [some (.ref (ad 30)), some (.int a)] [] h _
      refine r_iload rfl rfl ?_
      refine r_if_lt (tg := 16) rfl rfl (fun c37 => ?_) (fun c37 => ?_)
      · refine r_ic (x := 0) rfl rfl ?_
        refine r_zret rfl (.inl rfl) ?_
        show WR _ cd_205 155 [some (.ref (ad 30)), some (.int o), some (.int a), some (.int b), some (.int c)] [.int 0] h _
        refine r_if_eq (tg := 169) rfl rfl (fun _ => ?_) (fun q => absurd q (by decide))
        refine r_ic (x := 0) rfl rfl ?_
        refine r_zret rfl (.inl rfl) ?_
        exact L36 c36 c37
      · refine r_iload rfl rfl ?_
        refine r_aload rfl rfl ?_
        refine r_getI rfl ⟨rfl, rfl, rfl⟩ (fx_t30 fx) ?_
        refine r_icmp_ge (tg := 16) rfl rfl (fun c38 => ?_) (fun c38 => ?_)
        · refine r_ic (x := 0) rfl rfl ?_
          refine r_zret rfl (.inl rfl) ?_
          show WR _ cd_205 155 [some (.ref (ad 30)), some (.int o), some (.int a), some (.int b), some (.int c)] [.int 0] h _
          refine r_if_eq (tg := 169) rfl rfl (fun _ => ?_) (fun q => absurd q (by decide))
          refine r_ic (x := 0) rfl rfl ?_
          refine r_zret rfl (.inl rfl) ?_
          exact L37 c36 c37 c38
        · refine r_ic (x := 1) rfl rfl ?_
          refine r_goto (tg := 17) rfl rfl ?_
          refine r_zret rfl (.inr rfl) ?_
          show WR _ cd_205 155 [some (.ref (ad 30)), some (.int o), some (.int a), some (.int b), some (.int c)] [.int 1] h _
          refine r_if_eq (tg := 169) rfl rfl (fun q => absurd q (by decide)) (fun _ => ?_)
          refine r_iload rfl rfl ?_
          refine r_cs (y := 207) (ra := [.int b]) (rest := []) rfl ⟨⟨rfl, rfl⟩, by decide⟩ rfl rfl (Nat.le_of_ble_eq_true rfl) ?_
          refine in_207 (Nat.le_of_ble_eq_true rfl) ?_
          show WR _ cd_207 0 [some (.int b)] [] h _
          refine r_iload rfl rfl ?_
          refine r_if_lt (tg := 13) rfl rfl (fun c39 => ?_) (fun c39 => ?_)
          · refine r_ic (x := 0) rfl rfl ?_
            refine r_zret rfl (.inl rfl) ?_
            show WR _ cd_205 162 [some (.ref (ad 30)), some (.int o), some (.int a), some (.int b), some (.int c)] [.int 0] h _
            refine r_if_eq (tg := 169) rfl rfl (fun _ => ?_) (fun q => absurd q (by decide))
            refine r_ic (x := 0) rfl rfl ?_
            refine r_zret rfl (.inl rfl) ?_
            exact L38 c36 c37 c38 c39
          · refine r_iload rfl rfl ?_
            refine r_ic (x := 5) rfl rfl ?_
            refine r_icmp_ge (tg := 13) rfl rfl (fun c40 => ?_) (fun c40 => ?_)
            · refine r_ic (x := 0) rfl rfl ?_
              refine r_zret rfl (.inl rfl) ?_
              show WR _ cd_205 162 [some (.ref (ad 30)), some (.int o), some (.int a), some (.int b), some (.int c)] [.int 0] h _
              refine r_if_eq (tg := 169) rfl rfl (fun _ => ?_) (fun q => absurd q (by decide))
              refine r_ic (x := 0) rfl rfl ?_
              refine r_zret rfl (.inl rfl) ?_
              exact L39 c36 c37 c38 c39 c40
            · refine r_ic (x := 1) rfl rfl ?_
              refine r_goto (tg := 14) rfl rfl ?_
              refine r_zret rfl (.inr rfl) ?_
              show WR _ cd_205 162 [some (.ref (ad 30)), some (.int o), some (.int a), some (.int b), some (.int c)] [.int 1] h _
              refine r_if_eq (tg := 169) rfl rfl (fun q => absurd q (by decide)) (fun _ => ?_)
              refine r_ic (x := 1) rfl rfl ?_
              refine r_goto (tg := 170) rfl rfl ?_
              refine r_zret rfl (.inr rfl) ?_
              exact L40 c36 c37 c38 c39 c40
    · have c41 : o = 13 := e_
      refine WR_pc (q := 150) (by rw [c41]; rfl) ?_
      refine r_aload rfl rfl ?_
      refine r_iload rfl rfl ?_
      refine r_cv (y := 206) (ra := [.int a]) (rest := []) rfl ⟨⟨rfl, rfl⟩, rfl, by decide⟩ (fx_t30 fx) rfl rfl (Nat.le_of_ble_eq_true rfl) ?_
      refine in_206 (Nat.le_of_ble_eq_true rfl) ?_
      show WR _ cd_206 0 [some (.ref (ad 30)), some (.int a)] [] h _
      refine r_iload rfl rfl ?_
      refine r_if_lt (tg := 16) rfl rfl (fun c42 => ?_) (fun c42 => ?_)
      · refine r_ic (x := 0) rfl rfl ?_
        refine r_zret rfl (.inl rfl) ?_
        show WR _ cd_205 155 [some (.ref (ad 30)), some (.int o), some (.int a), some (.int b), some (.int c)] [.int 0] h _
        refine r_if_eq (tg := 169) rfl rfl (fun _ => ?_) (fun q => absurd q (by decide))
        refine r_ic (x := 0) rfl rfl ?_
        refine r_zret rfl (.inl rfl) ?_
        exact L41 c41 c42
      · refine r_iload rfl rfl ?_
        refine r_aload rfl rfl ?_
        refine r_getI rfl ⟨rfl, rfl, rfl⟩ (fx_t30 fx) ?_
        refine r_icmp_ge (tg := 16) rfl rfl (fun c43 => ?_) (fun c43 => ?_)
        · refine r_ic (x := 0) rfl rfl ?_
          refine r_zret rfl (.inl rfl) ?_
          show WR _ cd_205 155 [some (.ref (ad 30)), some (.int o), some (.int a), some (.int b), some (.int c)] [.int 0] h _
          refine r_if_eq (tg := 169) rfl rfl (fun _ => ?_) (fun q => absurd q (by decide))
          refine r_ic (x := 0) rfl rfl ?_
          refine r_zret rfl (.inl rfl) ?_
          exact L42 c41 c42 c43
        · refine r_ic (x := 1) rfl rfl ?_
          refine r_goto (tg := 17) rfl rfl ?_
          refine r_zret rfl (.inr rfl) ?_
          show WR _ cd_205 155 [some (.ref (ad 30)), some (.int o), some (.int a), some (.int b), some (.int c)] [.int 1] h _
          refine r_if_eq (tg := 169) rfl rfl (fun q => absurd q (by decide)) (fun _ => ?_)
          refine r_iload rfl rfl ?_
          refine r_cs (y := 207) (ra := [.int b]) (rest := []) rfl ⟨⟨rfl, rfl⟩, by decide⟩ rfl rfl (Nat.le_of_ble_eq_true rfl) ?_
          refine in_207 (Nat.le_of_ble_eq_true rfl) ?_
          show WR _ cd_207 0 [some (.int b)] [] h _
          refine r_iload rfl rfl ?_
          refine r_if_lt (tg := 13) rfl rfl (fun c44 => ?_) (fun c44 => ?_)
          · refine r_ic (x := 0) rfl rfl ?_
            refine r_zret rfl (.inl rfl) ?_
            show WR _ cd_205 162 [some (.ref (ad 30)), some (.int o), some (.int a), some (.int b), some (.int c)] [.int 0] h _
            refine r_if_eq (tg := 169) rfl rfl (fun _ => ?_) (fun q => absurd q (by decide))
            refine r_ic (x := 0) rfl rfl ?_
            refine r_zret rfl (.inl rfl) ?_
            exact L43 c41 c42 c43 c44
          · refine r_iload rfl rfl ?_
            refine r_ic (x := 5) rfl rfl ?_
            refine r_icmp_ge (tg := 13) rfl rfl (fun c45 => ?_) (fun c45 => ?_)
            · refine r_ic (x := 0) rfl rfl ?_
              refine r_zret rfl (.inl rfl) ?_
              show WR _ cd_205 162 [some (.ref (ad 30)), some (.int o), some (.int a), some (.int b), some (.int c)] [.int 0] h _
              refine r_if_eq (tg := 169) rfl rfl (fun _ => ?_) (fun q => absurd q (by decide))
              refine r_ic (x := 0) rfl rfl ?_
              refine r_zret rfl (.inl rfl) ?_
              exact L44 c41 c42 c43 c44 c45
            · refine r_ic (x := 1) rfl rfl ?_
              refine r_goto (tg := 14) rfl rfl ?_
              refine r_zret rfl (.inr rfl) ?_
              show WR _ cd_205 162 [some (.ref (ad 30)), some (.int o), some (.int a), some (.int b), some (.int c)] [.int 1] h _
              refine r_if_eq (tg := 169) rfl rfl (fun q => absurd q (by decide)) (fun _ => ?_)
              refine r_ic (x := 1) rfl rfl ?_
              refine r_goto (tg := 170) rfl rfl ?_
              refine r_zret rfl (.inr rfl) ?_
              exact L45 c41 c42 c43 c44 c45

theorem c_mknown {d : Nat} {Q : mQ} {n : Nat} {ad sa : Nat → Nat} {z0 : Nat} {h : mH} (fx : FX n ad sa z0 h) (e12 : hI h (ad 30) 12 = nI n) {o a b c : Int32} (ho : 0 ≤ o.toInt ∧ o.toInt ≤ 13) (k1 : knS n o a b c → Q (some (.int 1)) h) (k0 : ¬ knS n o a b c → Q (some (.int 0)) h) : EV (d + 2) 205 [.ref (ad 30), .int o, .int a, .int b, .int c] h Q := by
  refine m_known fx o a b c ?_ ?_ ?_ ?_ ?_ ?_ ?_ ?_ ?_ ?_ ?_ ?_ ?_ ?_ ?_ ?_ ?_ ?_ ?_ ?_ ?_ ?_ ?_ ?_ ?_ ?_ ?_ ?_ ?_ ?_ ?_ ?_ ?_ ?_ ?_ ?_ ?_ ?_ ?_ ?_ ?_ ?_ ?_ ?_ ?_
  · intro c0; omega
  · intro c0 c1; subst c0; exact k0 (fun z => (z.1 (by decide)).1 c1)
  · intro c0 c1 c2; subst c0; exact k0 (fun z => (z.1 (by decide)).2 c2)
  · intro c0 c1 c2; subst c0; exact k1 ⟨fun _ => ⟨c1, c2⟩, fun e => absurd e (by decide), fun e => absurd e (by decide), fun e => absurd e (by decide), fun e => absurd e (by decide), fun e => absurd e (by decide), fun e => absurd e (by decide)⟩
  · intro c0 c1; subst c0; exact k0 (fun z => (z.1 (by decide)).1 c1)
  · intro c0 c1 c2; subst c0; exact k0 (fun z => (z.1 (by decide)).2 c2)
  · intro c0 c1 c2; subst c0; exact k1 ⟨fun _ => ⟨c1, c2⟩, fun e => absurd e (by decide), fun e => absurd e (by decide), fun e => absurd e (by decide), fun e => absurd e (by decide), fun e => absurd e (by decide), fun e => absurd e (by decide)⟩
  · intro c0 c1; subst c0; exact k0 (fun z => (z.1 (by decide)).1 c1)
  · intro c0 c1 c2; subst c0; exact k0 (fun z => (z.1 (by decide)).2 c2)
  · intro c0 c1 c2; subst c0; exact k1 ⟨fun _ => ⟨c1, c2⟩, fun e => absurd e (by decide), fun e => absurd e (by decide), fun e => absurd e (by decide), fun e => absurd e (by decide), fun e => absurd e (by decide), fun e => absurd e (by decide)⟩
  · intro c0; subst c0; exact k1 ⟨fun e => absurd e (by decide), fun e => absurd e (by decide), fun e => absurd e (by decide), fun e => absurd e (by decide), fun e => absurd e (by decide), fun e => absurd e (by decide), fun e => absurd e (by decide)⟩
  · intro c0; subst c0; exact k1 ⟨fun e => absurd e (by decide), fun e => absurd e (by decide), fun e => absurd e (by decide), fun e => absurd e (by decide), fun e => absurd e (by decide), fun e => absurd e (by decide), fun e => absurd e (by decide)⟩
  · intro c0; subst c0; exact k1 ⟨fun e => absurd e (by decide), fun e => absurd e (by decide), fun e => absurd e (by decide), fun e => absurd e (by decide), fun e => absurd e (by decide), fun e => absurd e (by decide), fun e => absurd e (by decide)⟩
  · intro c0; subst c0; exact k1 ⟨fun e => absurd e (by decide), fun e => absurd e (by decide), fun e => absurd e (by decide), fun e => absurd e (by decide), fun e => absurd e (by decide), fun e => absurd e (by decide), fun e => absurd e (by decide)⟩
  · intro c0 c1; subst c0; exact k0 (fun z => (z.2.1 (by decide)).1 c1)
  · intro c0 c1 c2; subst c0; exact k0 (fun z => (z.2.1 (by decide)).2 c2)
  · intro c0 c1 c2; subst c0; exact k1 ⟨fun e => absurd e (by decide), fun _ => ⟨c1, c2⟩, fun e => absurd e (by decide), fun e => absurd e (by decide), fun e => absurd e (by decide), fun e => absurd e (by decide), fun e => absurd e (by decide)⟩
  · intro c0 c1; subst c0; exact k0 (fun z => (z.2.2.1 (by decide)).1.1 c1)
  · intro c0 c1 c2; subst c0; exact k0 (fun z => (z.2.2.1 (by decide)).1.2 c2)
  · intro c0 c1 c2 c3; subst c0; exact k0 (fun z => (z.2.2.1 (by decide)).2.1 c3)
  · intro c0 c1 c2 c3 c4; subst c0; exact k0 (fun z => (z.2.2.1 (by decide)).2.2 c4)
  · intro c0 c1 c2 c3 c4; subst c0; exact k1 ⟨fun e => absurd e (by decide), fun e => absurd e (by decide), fun _ => ⟨⟨c1, c2⟩, ⟨c3, c4⟩⟩, fun e => absurd e (by decide), fun e => absurd e (by decide), fun e => absurd e (by decide), fun e => absurd e (by decide)⟩
  · intro c0 c1; subst c0; exact k0 (fun z => (z.2.2.2.1 (by decide)).1.1 c1)
  · intro c0 c1 c2; subst c0; exact k0 (fun z => (z.2.2.2.1 (by decide)).1.2 c2)
  · intro c0 c1 c2 c3; subst c0; exact k0 (fun z => (z.2.2.2.1 (by decide)).2.1 c3)
  · intro c0 c1 c2 c3 c4; subst c0; exact k0 (fun z => (z.2.2.2.1 (by decide)).2.2 c4)
  · intro c0 c1 c2 c3 c4; subst c0; exact k1 ⟨fun e => absurd e (by decide), fun e => absurd e (by decide), fun e => absurd e (by decide), fun _ => ⟨⟨c1, c2⟩, ⟨c3, c4⟩⟩, fun e => absurd e (by decide), fun e => absurd e (by decide), fun e => absurd e (by decide)⟩
  · intro c0 c1; subst c0; exact k0 (fun z => (z.2.2.2.2.1 (by decide)).1.1 c1)
  · intro c0 c1 c2; subst c0; rw [e12] at c2; exact k0 (fun z => (z.2.2.2.2.1 (by decide)).1.2 c2)
  · intro c0 c1 c2 c3; subst c0; rw [e12] at c2; exact k0 (fun z => (z.2.2.2.2.1 (by decide)).2.1 c3)
  · intro c0 c1 c2 c3 c4; subst c0; rw [e12] at c2; exact k0 (fun z => (z.2.2.2.2.1 (by decide)).2.2 c4)
  · intro c0 c1 c2 c3 c4; subst c0; rw [e12] at c2; exact k1 ⟨fun e => absurd e (by decide), fun e => absurd e (by decide), fun e => absurd e (by decide), fun e => absurd e (by decide), fun _ => ⟨⟨c1, c2⟩, ⟨c3, c4⟩⟩, fun e => absurd e (by decide), fun e => absurd e (by decide)⟩
  · intro c0 c1; subst c0; exact k0 (fun z => (z.2.2.2.2.2.1 (by decide)).1 c1)
  · intro c0 c1 c2; subst c0; rw [e12] at c2; exact k0 (fun z => (z.2.2.2.2.2.1 (by decide)).2 c2)
  · intro c0 c1 c2; subst c0; rw [e12] at c2; exact k1 ⟨fun e => absurd e (by decide), fun e => absurd e (by decide), fun e => absurd e (by decide), fun e => absurd e (by decide), fun e => absurd e (by decide), fun _ => ⟨c1, c2⟩, fun e => absurd e (by decide)⟩
  · intro c0 c1; subst c0; exact k0 (fun z => (z.2.2.2.2.2.2 (by decide)).1.1 c1)
  · intro c0 c1 c2; subst c0; rw [e12] at c2; exact k0 (fun z => (z.2.2.2.2.2.2 (by decide)).1.2 c2)
  · intro c0 c1 c2 c3; subst c0; rw [e12] at c2; exact k0 (fun z => (z.2.2.2.2.2.2 (by decide)).2.1 c3)
  · intro c0 c1 c2 c3 c4; subst c0; rw [e12] at c2; exact k0 (fun z => (z.2.2.2.2.2.2 (by decide)).2.2 c4)
  · intro c0 c1 c2 c3 c4; subst c0; rw [e12] at c2; exact k1 ⟨fun e => absurd e (by decide), fun e => absurd e (by decide), fun e => absurd e (by decide), fun e => absurd e (by decide), fun e => absurd e (by decide), fun e => absurd e (by decide), fun _ => ⟨⟨c1, c2⟩, ⟨c3, c4⟩⟩⟩
  · intro c0 c1; subst c0; exact k0 (fun z => (z.2.2.2.2.2.2 (by decide)).1.1 c1)
  · intro c0 c1 c2; subst c0; rw [e12] at c2; exact k0 (fun z => (z.2.2.2.2.2.2 (by decide)).1.2 c2)
  · intro c0 c1 c2 c3; subst c0; rw [e12] at c2; exact k0 (fun z => (z.2.2.2.2.2.2 (by decide)).2.1 c3)
  · intro c0 c1 c2 c3 c4; subst c0; rw [e12] at c2; exact k0 (fun z => (z.2.2.2.2.2.2 (by decide)).2.2 c4)
  · intro c0 c1 c2 c3 c4; subst c0; rw [e12] at c2; exact k1 ⟨fun e => absurd e (by decide), fun e => absurd e (by decide), fun e => absurd e (by decide), fun e => absurd e (by decide), fun e => absurd e (by decide), fun e => absurd e (by decide), fun _ => ⟨⟨c1, c2⟩, ⟨c3, c4⟩⟩⟩

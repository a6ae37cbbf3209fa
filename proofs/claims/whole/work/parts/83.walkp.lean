/-! ===== walks of passes, orderOf, widened, real; printed ===== -/
def oO (b : Int64) : Int64 := if 0 ≤ b then b else b ^^^ 9223372036854775807
theorem c_ord {d : Nat} {Q : mQ} {h : mH} {b : Int64} (hQ : Q (some (.long (oO b))) h) : EV (d + 1) 82 [.long b] h Q := by
  unfold oO at hQ
  refine in_82 (Nat.le_of_ble_eq_true rfl) ?_
  show WR _ cd_82 0 [some (.long b), none] [] h _
  refine r_lload rfl rfl ?_
  refine r_lc (x := 0) rfl rfl ?_
  refine r_lif_lt (tg := 10) rfl rfl rfl (fun c => ?_) (fun c => ?_)
  · refine r_lload rfl rfl ?_
    refine r_ldc (x := .long 9223372036854775807) rfl rfl ?_
    refine r_lxor rfl ?_
    refine r_lret rfl ?_
    rw [if_neg (by rw [Int64.not_le]; exact c)] at hQ; exact hQ
  · refine r_lload rfl rfl ?_
    refine r_goto (tg := 15) rfl rfl ?_
    refine r_lret rfl ?_
    rw [if_pos (by rw [← Int64.not_lt]; exact c)] at hQ; exact hQ
set_option maxHeartbeats 2000000 in
theorem w_ps64 {d : Nat} {Q : mQ} {n : Nat} {ad sa : Nat → Nat} {z0 : Nat} {h : mH} (fx : FX n ad sa z0 h) (a b f g : Int64) (t : Int32) 
    (L1 : (t.toInt < 0 ∨ 4 < t.toInt) → f = g → Q (some (.int 0)) h)
    (L2 : (t.toInt < 0 ∨ 4 < t.toInt) → ¬ f = g → Q (some (.int 1)) h)
    (L3 : t = 0 → g ≤ f → Q (some (.int 0)) h)
    (L4 : t = 0 → ¬ g ≤ f → Q (some (.int 1)) h)
    (L5 : t = 1 → g < f → Q (some (.int 0)) h)
    (L6 : t = 1 → ¬ g < f → Q (some (.int 1)) h)
    (L7 : t = 2 → f ≤ g → Q (some (.int 0)) h)
    (L8 : t = 2 → ¬ f ≤ g → Q (some (.int 1)) h)
    (L9 : t = 3 → f < g → Q (some (.int 0)) h)
    (L10 : t = 3 → ¬ f < g → Q (some (.int 1)) h)
    (L11 : t = 4 → ¬ f = g → Q (some (.int 0)) h)
    (L12 : t = 4 → f = g → Q (some (.int 1)) h) : WR (d) cd_91 64 [some (.long a), none, some (.long b), none, some (.int t), some (.long f), none, some (.long g), none] [] h Q := by
  have fx0 := fx
  refine r_iload rfl rfl ?_
  refine r_tsw (tg := 170) rfl rfl (fun c1 => ?_) (fun c1 => ?_)
  · refine r_lload rfl rfl ?_
    refine r_lload rfl rfl ?_
    refine r_lif_eq (tg := 182) rfl rfl rfl (fun c2 => ?_) (fun c2 => ?_)
    · refine r_ic (x := 0) rfl rfl ?_
      refine r_zret rfl (.inl rfl) ?_
      exact (L1 c1 c2)
    · refine r_ic (x := 1) rfl rfl ?_
      refine r_goto (tg := 183) rfl rfl ?_
      refine r_zret rfl (.inr rfl) ?_
      exact (L2 c1 c2)
  · rcases tsw_0_4 c1 with e_ | e_ | e_ | e_ | e_
    · have c3 : t = 0 := e_
      refine WR_pc (q := 100) (by rw [c3]; rfl) ?_
      refine r_lload rfl rfl ?_
      refine r_lload rfl rfl ?_
      refine r_lif_ge (tg := 112) rfl rfl rfl (fun c4 => ?_) (fun c4 => ?_)
      · refine r_ic (x := 0) rfl rfl ?_
        refine r_zret rfl (.inl rfl) ?_
        exact (L3 c3 c4)
      · refine r_ic (x := 1) rfl rfl ?_
        refine r_goto (tg := 113) rfl rfl ?_
        refine r_zret rfl (.inr rfl) ?_
        exact (L4 c3 c4)
    · have c5 : t = 1 := e_
      refine WR_pc (q := 114) (by rw [c5]; rfl) ?_
      refine r_lload rfl rfl ?_
      refine r_lload rfl rfl ?_
      refine r_lif_gt (tg := 126) rfl rfl rfl (fun c6 => ?_) (fun c6 => ?_)
      · refine r_ic (x := 0) rfl rfl ?_
        refine r_zret rfl (.inl rfl) ?_
        exact (L5 c5 c6)
      · refine r_ic (x := 1) rfl rfl ?_
        refine r_goto (tg := 127) rfl rfl ?_
        refine r_zret rfl (.inr rfl) ?_
        exact (L6 c5 c6)
    · have c7 : t = 2 := e_
      refine WR_pc (q := 128) (by rw [c7]; rfl) ?_
      refine r_lload rfl rfl ?_
      refine r_lload rfl rfl ?_
      refine r_lif_le (tg := 140) rfl rfl rfl (fun c8 => ?_) (fun c8 => ?_)
      · refine r_ic (x := 0) rfl rfl ?_
        refine r_zret rfl (.inl rfl) ?_
        exact (L7 c7 c8)
      · refine r_ic (x := 1) rfl rfl ?_
        refine r_goto (tg := 141) rfl rfl ?_
        refine r_zret rfl (.inr rfl) ?_
        exact (L8 c7 c8)
    · have c9 : t = 3 := e_
      refine WR_pc (q := 142) (by rw [c9]; rfl) ?_
      refine r_lload rfl rfl ?_
      refine r_lload rfl rfl ?_
      refine r_lif_lt (tg := 154) rfl rfl rfl (fun c10 => ?_) (fun c10 => ?_)
      · refine r_ic (x := 0) rfl rfl ?_
        refine r_zret rfl (.inl rfl) ?_
        exact (L9 c9 c10)
      · refine r_ic (x := 1) rfl rfl ?_
        refine r_goto (tg := 155) rfl rfl ?_
        refine r_zret rfl (.inr rfl) ?_
        exact (L10 c9 c10)
    · have c11 : t = 4 := e_
      refine WR_pc (q := 156) (by rw [c11]; rfl) ?_
      refine r_lload rfl rfl ?_
      refine r_lload rfl rfl ?_
      refine r_lif_ne (tg := 168) rfl rfl rfl (fun c12 => ?_) (fun c12 => ?_)
      · refine r_ic (x := 0) rfl rfl ?_
        refine r_zret rfl (.inl rfl) ?_
        exact (L11 c11 c12)
      · refine r_ic (x := 1) rfl rfl ?_
        refine r_goto (tg := 169) rfl rfl ?_
        refine r_zret rfl (.inr rfl) ?_
        exact (L12 c11 c12)

set_option maxHeartbeats 2000000 in
theorem w_ps0 {d : Nat} {Q : mQ} {n : Nat} {ad sa : Nat → Nat} {z0 : Nat} {h : mH} (fx : FX n ad sa z0 h) (a b : Int64) (t : Int32) 
    (L1 : 9218868437227405312 < (a &&& 9223372036854775807) → ¬ t = 5 → Q (some (.int 0)) h)
    (L2 : 9218868437227405312 < (a &&& 9223372036854775807) → t = 5 → Q (some (.int 1)) h)
    (L3 : ¬ 9218868437227405312 < (a &&& 9223372036854775807) → 9218868437227405312 < (b &&& 9223372036854775807) → ¬ t = 5 → Q (some (.int 0)) h)
    (L4 : ¬ 9218868437227405312 < (a &&& 9223372036854775807) → 9218868437227405312 < (b &&& 9223372036854775807) → t = 5 → Q (some (.int 1)) h)
    (K1 : ¬ 9218868437227405312 < (a &&& 9223372036854775807) → ¬ 9218868437227405312 < (b &&& 9223372036854775807) → ¬ (a &&& 9223372036854775807) = 0 → ¬ (b &&& 9223372036854775807) = 0 → WR (d + 2) cd_91 64 [some (.long a), none, some (.long b), none, some (.int t), some (.long (oO a)), none, some (.long (oO b)), none] [] h Q)
    (K2 : ¬ 9218868437227405312 < (a &&& 9223372036854775807) → ¬ 9218868437227405312 < (b &&& 9223372036854775807) → ¬ (a &&& 9223372036854775807) = 0 → (b &&& 9223372036854775807) = 0 → WR (d + 2) cd_91 64 [some (.long a), none, some (.long b), none, some (.int t), some (.long (oO a)), none, some (.long 0), none] [] h Q)
    (K3 : ¬ 9218868437227405312 < (a &&& 9223372036854775807) → ¬ 9218868437227405312 < (b &&& 9223372036854775807) → (a &&& 9223372036854775807) = 0 → ¬ (b &&& 9223372036854775807) = 0 → WR (d + 2) cd_91 64 [some (.long a), none, some (.long b), none, some (.int t), some (.long 0), none, some (.long (oO b)), none] [] h Q)
    (K4 : ¬ 9218868437227405312 < (a &&& 9223372036854775807) → ¬ 9218868437227405312 < (b &&& 9223372036854775807) → (a &&& 9223372036854775807) = 0 → (b &&& 9223372036854775807) = 0 → WR (d + 2) cd_91 64 [some (.long a), none, some (.long b), none, some (.int t), some (.long 0), none, some (.long 0), none] [] h Q) : EV (d + 3) 91 [.long a, .long b, .int t] h Q := by
  have fx0 := fx
  refine in_91 (Nat.le_of_ble_eq_true rfl) ?_
  show WR _ cd_91 0 [some (.long a), none, some (.long b), none, some (.int t), none, none, none, none] [] h _
  refine r_lload rfl rfl ?_
  refine r_cs (y := 38) (ra := [.long a]) (rest := []) rfl ⟨⟨rfl, rfl⟩, by decide⟩ rfl rfl (Nat.le_of_ble_eq_true rfl) ?_
  refine in_38 (Nat.le_of_ble_eq_true rfl) ?_
  show WR _ cd_38 0 [some (.long a), none] [] h _
  refine r_lload rfl rfl ?_
  refine r_cs (y := 39) (ra := [.long a]) (rest := []) rfl ⟨⟨rfl, rfl⟩, by decide⟩ rfl rfl (Nat.le_of_ble_eq_true rfl) ?_
  refine in_39 (Nat.le_of_ble_eq_true rfl) ?_
  show WR _ cd_39 0 [some (.long a), none] [] h _
  refine r_lload rfl rfl ?_
  refine r_ldc (x := .long 9223372036854775807) rfl rfl ?_
  refine r_land rfl ?_
  refine r_lret rfl ?_
  show WR _ cd_38 4 [some (.long a), none] [.long (a &&& 9223372036854775807)] h _
  refine r_ldc (x := .long 9218868437227405312) rfl rfl ?_
  refine r_lif_gt (tg := 15) rfl rfl rfl (fun c1 => ?_) (fun c1 => ?_)
  · refine r_ic (x := 0) rfl rfl ?_
    refine r_zret rfl (.inl rfl) ?_
    show WR _ cd_91 4 [some (.long a), none, some (.long b), none, some (.int t), none, none, none, none] [.int 0] h _
    refine r_if_eq (tg := 14) rfl rfl (fun _ => ?_) (fun q => absurd q (by decide))
    refine r_iload rfl rfl ?_
    refine r_ic (x := 5) rfl rfl ?_
    refine r_icmp_ne (tg := 24) rfl rfl (fun c2 => ?_) (fun c2 => ?_)
    · refine r_ic (x := 0) rfl rfl ?_
      refine r_zret rfl (.inl rfl) ?_
      exact (L1 c1 c2)
    · refine r_ic (x := 1) rfl rfl ?_
      refine r_goto (tg := 25) rfl rfl ?_
      refine r_zret rfl (.inr rfl) ?_
      exact (L2 c1 c2)
  · refine r_ic (x := 1) rfl rfl ?_
    refine r_goto (tg := 16) rfl rfl ?_
    refine r_zret rfl (.inr rfl) ?_
    show WR _ cd_91 4 [some (.long a), none, some (.long b), none, some (.int t), none, none, none, none] [.int 1] h _
    refine r_if_eq (tg := 14) rfl rfl (fun q => absurd q (by decide)) (fun _ => ?_)
    refine r_lload rfl rfl ?_
    refine r_cs (y := 38) (ra := [.long b]) (rest := []) rfl ⟨⟨rfl, rfl⟩, by decide⟩ rfl rfl (Nat.le_of_ble_eq_true rfl) ?_
    refine in_38 (Nat.le_of_ble_eq_true rfl) ?_
    show WR _ cd_38 0 [some (.long b), none] [] h _
    refine r_lload rfl rfl ?_
    refine r_cs (y := 39) (ra := [.long b]) (rest := []) rfl ⟨⟨rfl, rfl⟩, by decide⟩ rfl rfl (Nat.le_of_ble_eq_true rfl) ?_
    refine in_39 (Nat.le_of_ble_eq_true rfl) ?_
    show WR _ cd_39 0 [some (.long b), none] [] h _
    refine r_lload rfl rfl ?_
    refine r_ldc (x := .long 9223372036854775807) rfl rfl ?_
    refine r_land rfl ?_
    refine r_lret rfl ?_
    show WR _ cd_38 4 [some (.long b), none] [.long (b &&& 9223372036854775807)] h _
    refine r_ldc (x := .long 9218868437227405312) rfl rfl ?_
    refine r_lif_gt (tg := 15) rfl rfl rfl (fun c3 => ?_) (fun c3 => ?_)
    · refine r_ic (x := 0) rfl rfl ?_
      refine r_zret rfl (.inl rfl) ?_
      show WR _ cd_91 11 [some (.long a), none, some (.long b), none, some (.int t), none, none, none, none] [.int 0] h _
      refine r_if_ne (tg := 26) rfl rfl (fun q => absurd q (by decide)) (fun _ => ?_)
      refine r_iload rfl rfl ?_
      refine r_ic (x := 5) rfl rfl ?_
      refine r_icmp_ne (tg := 24) rfl rfl (fun c4 => ?_) (fun c4 => ?_)
      · refine r_ic (x := 0) rfl rfl ?_
        refine r_zret rfl (.inl rfl) ?_
        exact (L3 c1 c3 c4)
      · refine r_ic (x := 1) rfl rfl ?_
        refine r_goto (tg := 25) rfl rfl ?_
        refine r_zret rfl (.inr rfl) ?_
        exact (L4 c1 c3 c4)
    · refine r_ic (x := 1) rfl rfl ?_
      refine r_goto (tg := 16) rfl rfl ?_
      refine r_zret rfl (.inr rfl) ?_
      show WR _ cd_91 11 [some (.long a), none, some (.long b), none, some (.int t), none, none, none, none] [.int 1] h _
      refine r_if_ne (tg := 26) rfl rfl (fun _ => ?_) (fun q => absurd q (by decide))
      refine r_lload rfl rfl ?_
      refine r_cs (y := 39) (ra := [.long a]) (rest := []) rfl ⟨⟨rfl, rfl⟩, by decide⟩ rfl rfl (Nat.le_of_ble_eq_true rfl) ?_
      refine in_39 (Nat.le_of_ble_eq_true rfl) ?_
      show WR _ cd_39 0 [some (.long a), none] [] h _
      refine r_lload rfl rfl ?_
      refine r_ldc (x := .long 9223372036854775807) rfl rfl ?_
      refine r_land rfl ?_
      refine r_lret rfl ?_
      show WR _ cd_91 30 [some (.long a), none, some (.long b), none, some (.int t), none, none, none, none] [.long (a &&& 9223372036854775807)] h _
      refine r_lc (x := 0) rfl rfl ?_
      refine r_lif_ne (tg := 39) rfl rfl rfl (fun c5 => ?_) (fun c5 => ?_)
      · refine r_lload rfl rfl ?_
        refine r_cs (y := 82) (ra := [.long a]) (rest := []) rfl ⟨⟨rfl, rfl⟩, by decide⟩ rfl rfl (Nat.le_of_ble_eq_true rfl) ?_
        refine c_ord ?_
        show WR _ cd_91 43 [some (.long a), none, some (.long b), none, some (.int t), none, none, none, none] [.long (oO a)] h _
        refine r_lstore (lv' := [some (.long a), none, some (.long b), none, some (.int t), some (.long (oO a)), none, none, none]) rfl (Nat.le_of_ble_eq_true rfl) rfl ?_
        refine r_lload rfl rfl ?_
        refine r_cs (y := 39) (ra := [.long b]) (rest := []) rfl ⟨⟨rfl, rfl⟩, by decide⟩ rfl rfl (Nat.le_of_ble_eq_true rfl) ?_
        refine in_39 (Nat.le_of_ble_eq_true rfl) ?_
        show WR _ cd_39 0 [some (.long b), none] [] h _
        refine r_lload rfl rfl ?_
        refine r_ldc (x := .long 9223372036854775807) rfl rfl ?_
        refine r_land rfl ?_
        refine r_lret rfl ?_
        show WR _ cd_91 49 [some (.long a), none, some (.long b), none, some (.int t), some (.long (oO a)), none, none, none] [.long (b &&& 9223372036854775807)] h _
        refine r_lc (x := 0) rfl rfl ?_
        refine r_lif_ne (tg := 58) rfl rfl rfl (fun c6 => ?_) (fun c6 => ?_)
        · refine r_lload rfl rfl ?_
          refine r_cs (y := 82) (ra := [.long b]) (rest := []) rfl ⟨⟨rfl, rfl⟩, by decide⟩ rfl rfl (Nat.le_of_ble_eq_true rfl) ?_
          refine c_ord ?_
          show WR _ cd_91 62 [some (.long a), none, some (.long b), none, some (.int t), some (.long (oO a)), none, none, none] [.long (oO b)] h _
          refine r_lstore (lv' := [some (.long a), none, some (.long b), none, some (.int t), some (.long (oO a)), none, some (.long (oO b)), none]) rfl (Nat.le_of_ble_eq_true rfl) rfl ?_
          exact (K1 c1 c3 c5 c6)
        · refine r_lc (x := 0) rfl rfl ?_
          refine r_goto (tg := 62) rfl rfl ?_
          refine r_lstore (lv' := [some (.long a), none, some (.long b), none, some (.int t), some (.long (oO a)), none, some (.long 0), none]) rfl (Nat.le_of_ble_eq_true rfl) rfl ?_
          exact (K2 c1 c3 c5 c6)
      · refine r_lc (x := 0) rfl rfl ?_
        refine r_goto (tg := 43) rfl rfl ?_
        refine r_lstore (lv' := [some (.long a), none, some (.long b), none, some (.int t), some (.long 0), none, none, none]) rfl (Nat.le_of_ble_eq_true rfl) rfl ?_
        refine r_lload rfl rfl ?_
        refine r_cs (y := 39) (ra := [.long b]) (rest := []) rfl ⟨⟨rfl, rfl⟩, by decide⟩ rfl rfl (Nat.le_of_ble_eq_true rfl) ?_
        refine in_39 (Nat.le_of_ble_eq_true rfl) ?_
        show WR _ cd_39 0 [some (.long b), none] [] h _
        refine r_lload rfl rfl ?_
        refine r_ldc (x := .long 9223372036854775807) rfl rfl ?_
        refine r_land rfl ?_
        refine r_lret rfl ?_
        show WR _ cd_91 49 [some (.long a), none, some (.long b), none, some (.int t), some (.long 0), none, none, none] [.long (b &&& 9223372036854775807)] h _
        refine r_lc (x := 0) rfl rfl ?_
        refine r_lif_ne (tg := 58) rfl rfl rfl (fun c7 => ?_) (fun c7 => ?_)
        · refine r_lload rfl rfl ?_
          refine r_cs (y := 82) (ra := [.long b]) (rest := []) rfl ⟨⟨rfl, rfl⟩, by decide⟩ rfl rfl (Nat.le_of_ble_eq_true rfl) ?_
          refine c_ord ?_
          show WR _ cd_91 62 [some (.long a), none, some (.long b), none, some (.int t), some (.long 0), none, none, none] [.long (oO b)] h _
          refine r_lstore (lv' := [some (.long a), none, some (.long b), none, some (.int t), some (.long 0), none, some (.long (oO b)), none]) rfl (Nat.le_of_ble_eq_true rfl) rfl ?_
          exact (K3 c1 c3 c5 c7)
        · refine r_lc (x := 0) rfl rfl ?_
          refine r_goto (tg := 62) rfl rfl ?_
          refine r_lstore (lv' := [some (.long a), none, some (.long b), none, some (.int t), some (.long 0), none, some (.long 0), none]) rfl (Nat.le_of_ble_eq_true rfl) rfl ?_
          exact (K4 c1 c3 c5 c7)

set_option maxHeartbeats 2000000 in
theorem w_mps {d : Nat} {Q : mQ} {n : Nat} {ad sa : Nat → Nat} {z0 : Nat} {h : mH} (fx : FX n ad sa z0 h) (x y : UInt64) (t : Int32) 
    (L1 : (t.toInt < 0 ∨ 4 < t.toInt) → deq x y → Q (some (.int 0)) h)
    (L2 : (t.toInt < 0 ∨ 4 < t.toInt) → ¬ deq x y → Q (some (.int 1)) h)
    (L3 : t = 0 → ¬ dlt x y → Q (some (.int 0)) h)
    (L4 : t = 0 → dlt x y → Q (some (.int 1)) h)
    (L5 : t = 1 → ¬ dle x y → Q (some (.int 0)) h)
    (L6 : t = 1 → dle x y → Q (some (.int 1)) h)
    (L7 : t = 2 → ¬ dgt x y → Q (some (.int 0)) h)
    (L8 : t = 2 → dgt x y → Q (some (.int 1)) h)
    (L9 : t = 3 → ¬ dge x y → Q (some (.int 0)) h)
    (L10 : t = 3 → dge x y → Q (some (.int 1)) h)
    (L11 : t = 4 → ¬ deq x y → Q (some (.int 0)) h)
    (L12 : t = 4 → deq x y → Q (some (.int 1)) h) : EV (d + 1) 202 [.int t, .double x, .double y] h Q := by
  have fx0 := fx
  refine in_202 (Nat.le_of_ble_eq_true rfl) ?_
  show WR _ cd_202 0 [some (.int t), some (.double x), none, some (.double y), none] [] h _
  refine r_iload rfl rfl ?_
  refine r_tsw (tg := 96) rfl rfl (fun c1 => ?_) (fun c1 => ?_)
  · refine r_dload rfl rfl ?_
    refine r_dload rfl rfl ?_
    refine r_dlif_eq (tg := 106) rfl rfl rfl (fun c2 => ?_) (fun c2 => ?_)
    · refine r_ic (x := 0) rfl rfl ?_
      refine r_zret rfl (.inl rfl) ?_
      exact (L1 c1 c2)
    · refine r_ic (x := 1) rfl rfl ?_
      refine r_goto (tg := 107) rfl rfl ?_
      refine r_zret rfl (.inr rfl) ?_
      exact (L2 c1 c2)
  · rcases tsw_0_4 c1 with e_ | e_ | e_ | e_ | e_
    · have c3 : t = 0 := e_
      refine WR_pc (q := 36) (by rw [c3]; rfl) ?_
      refine r_dload rfl rfl ?_
      refine r_dload rfl rfl ?_
      refine r_dgif_ge (tg := 46) rfl rfl rfl (fun c4 => ?_) (fun c4 => ?_)
      · refine r_ic (x := 0) rfl rfl ?_
        refine r_zret rfl (.inl rfl) ?_
        exact (L3 c3 c4)
      · refine r_ic (x := 1) rfl rfl ?_
        refine r_goto (tg := 47) rfl rfl ?_
        refine r_zret rfl (.inr rfl) ?_
        exact (L4 c3 c4)
    · have c5 : t = 1 := e_
      refine WR_pc (q := 48) (by rw [c5]; rfl) ?_
      refine r_dload rfl rfl ?_
      refine r_dload rfl rfl ?_
      refine r_dgif_gt (tg := 58) rfl rfl rfl (fun c6 => ?_) (fun c6 => ?_)
      · refine r_ic (x := 0) rfl rfl ?_
        refine r_zret rfl (.inl rfl) ?_
        exact (L5 c5 c6)
      · refine r_ic (x := 1) rfl rfl ?_
        refine r_goto (tg := 59) rfl rfl ?_
        refine r_zret rfl (.inr rfl) ?_
        exact (L6 c5 c6)
    · have c7 : t = 2 := e_
      refine WR_pc (q := 60) (by rw [c7]; rfl) ?_
      refine r_dload rfl rfl ?_
      refine r_dload rfl rfl ?_
      refine r_dlif_le (tg := 70) rfl rfl rfl (fun c8 => ?_) (fun c8 => ?_)
      · refine r_ic (x := 0) rfl rfl ?_
        refine r_zret rfl (.inl rfl) ?_
        exact (L7 c7 c8)
      · refine r_ic (x := 1) rfl rfl ?_
        refine r_goto (tg := 71) rfl rfl ?_
        refine r_zret rfl (.inr rfl) ?_
        exact (L8 c7 c8)
    · have c9 : t = 3 := e_
      refine WR_pc (q := 72) (by rw [c9]; rfl) ?_
      refine r_dload rfl rfl ?_
      refine r_dload rfl rfl ?_
      refine r_dlif_lt (tg := 82) rfl rfl rfl (fun c10 => ?_) (fun c10 => ?_)
      · refine r_ic (x := 0) rfl rfl ?_
        refine r_zret rfl (.inl rfl) ?_
        exact (L9 c9 c10)
      · refine r_ic (x := 1) rfl rfl ?_
        refine r_goto (tg := 83) rfl rfl ?_
        refine r_zret rfl (.inr rfl) ?_
        exact (L10 c9 c10)
    · have c11 : t = 4 := e_
      refine WR_pc (q := 84) (by rw [c11]; rfl) ?_
      refine r_dload rfl rfl ?_
      refine r_dload rfl rfl ?_
      refine r_dlif_ne (tg := 94) rfl rfl rfl (fun c12 => ?_) (fun c12 => ?_)
      · refine r_ic (x := 0) rfl rfl ?_
        refine r_zret rfl (.inl rfl) ?_
        exact (L11 c11 c12)
      · refine r_ic (x := 1) rfl rfl ?_
        refine r_goto (tg := 95) rfl rfl ?_
        refine r_zret rfl (.inr rfl) ?_
        exact (L12 c11 c12)

set_option maxHeartbeats 2000000 in
theorem w_re {d : Nat} {Q : mQ} {n : Nat} {ad sa : Nat → Nat} {z0 : Nat} {h : mH} (fx : FX n ad sa z0 h) (l : Int32) (v : Int64) 
    (B1 : ¬ l = 5 → ¬ v = 9221120237041090560 → vn_snl2d v = false)
    (L1 : ¬ l = 5 → ¬ v = 9221120237041090560 → Q (some (.double v.toUInt64)) h)
    (L2 : ¬ l = 5 → v = 9221120237041090560 → Q (some (.double 9221120237041090560)) h)
    (B2 : l = 5 → ¬ v = 2143289344 → vn_sni2f v.toInt32 = false)
    (B3 : l = 5 → ¬ v = 2143289344 → vf_n64 (FP.f2d v.toInt32.toUInt32))
    (L3 : l = 5 → ¬ v = 2143289344 → Q (some (.double (FP.f2d v.toInt32.toUInt32))) h)
    (L4 : l = 5 → v = 2143289344 → Q (some (.double 9221120237041090560)) h) : EV (d + 1) 195 [.int l, .long v] h Q := by
  have fx0 := fx
  refine in_195 (Nat.le_of_ble_eq_true rfl) ?_
  show WR _ cd_195 0 [some (.int l), some (.long v), none] [] h _
  refine r_lload rfl rfl ?_
  refine r_iload rfl rfl ?_
  refine r_ic (x := 5) rfl rfl ?_
  refine r_icmp_ne (tg := 12) rfl rfl (fun c1 => ?_) (fun c1 => ?_)
  · refine r_ldc (x := .long 9221120237041090560) rfl rfl ?_
    refine r_lif_ne (tg := 23) rfl rfl rfl (fun c2 => ?_) (fun c2 => ?_)
    · refine r_iload rfl rfl ?_
      refine r_ic (x := 5) rfl rfl ?_
      refine r_icmp_ne (tg := 37) rfl rfl (fun _ => ?_) (fun q => absurd q c1)
      refine r_lload rfl rfl ?_
      refine r_l2dn rfl (B1 c1 c2) (Nat.le_of_ble_eq_true rfl) ?_
      refine r_dret rfl ?_
      exact (L1 c1 c2)
    · refine r_ldc (x := .double 9221120237041090560) rfl rfl ?_
      refine r_dret rfl ?_
      exact (L2 c1 c2)
  · refine r_ldc (x := .long 2143289344) rfl rfl ?_
    refine r_goto (tg := 15) rfl rfl ?_
    refine r_lif_ne (tg := 23) rfl rfl rfl (fun c3 => ?_) (fun c3 => ?_)
    · refine r_iload rfl rfl ?_
      refine r_ic (x := 5) rfl rfl ?_
      refine r_icmp_ne (tg := 37) rfl rfl (fun q => absurd c1 q) (fun _ => ?_)
      refine r_lload rfl rfl ?_
      refine r_l2i rfl ?_
      refine r_i2fn rfl (B2 c1 c3) (Nat.le_of_ble_eq_true rfl) ?_
      refine r_f2d rfl (B3 c1 c3) ?_
      refine r_goto (tg := 41) rfl rfl ?_
      refine r_dret rfl ?_
      exact (L3 c1 c3)
    · refine r_ldc (x := .double 9221120237041090560) rfl rfl ?_
      refine r_dret rfl ?_
      exact (L4 c1 c3)

set_option maxHeartbeats 2000000 in
theorem w_wd0 {d : Nat} {Q : mQ} {n : Nat} {ad sa : Nat → Nat} {z0 : Nat} {h : mH} (fx : FX n ad sa z0 h) (b : Int32) 
    (K1 : 0 ≤ b → ¬ ((b >>> (23 &&& 31)) &&& 255) = 255 → ¬ ((b >>> (23 &&& 31)) &&& 255) = 0 → WR (d) cd_79 111 [some (.int b), some (.long 0), none, some (.int ((b >>> (23 &&& 31)) &&& 255)), some (.long ((b &&& 8388607).toInt64)), none, none] [] h Q)
    (K2 : 0 ≤ b → ¬ ((b >>> (23 &&& 31)) &&& 255) = 255 → ((b >>> (23 &&& 31)) &&& 255) = 0 → ¬ ((b &&& 8388607).toInt64) = 0 → WR (d) cd_79 72 [some (.int b), some (.long 0), none, some (.int 1), some (.long ((b &&& 8388607).toInt64)), none, some (.int 0)] [] h Q)
    (L1 : 0 ≤ b → ¬ ((b >>> (23 &&& 31)) &&& 255) = 255 → ((b >>> (23 &&& 31)) &&& 255) = 0 → ((b &&& 8388607).toInt64) = 0 → Q (some (.long 0)) h)
    (L2 : 0 ≤ b → ((b >>> (23 &&& 31)) &&& 255) = 255 → ¬ ((b &&& 8388607).toInt64) = 0 → Q (some (.long 9221120237041090560)) h)
    (L3 : 0 ≤ b → ((b >>> (23 &&& 31)) &&& 255) = 255 → ((b &&& 8388607).toInt64) = 0 → Q (some (.long (0 ||| 9218868437227405312))) h)
    (K3 : ¬ 0 ≤ b → ¬ ((b >>> (23 &&& 31)) &&& 255) = 255 → ¬ ((b >>> (23 &&& 31)) &&& 255) = 0 → WR (d) cd_79 111 [some (.int b), some (.long (-9223372036854775808)), none, some (.int ((b >>> (23 &&& 31)) &&& 255)), some (.long ((b &&& 8388607).toInt64)), none, none] [] h Q)
    (K4 : ¬ 0 ≤ b → ¬ ((b >>> (23 &&& 31)) &&& 255) = 255 → ((b >>> (23 &&& 31)) &&& 255) = 0 → ¬ ((b &&& 8388607).toInt64) = 0 → WR (d) cd_79 72 [some (.int b), some (.long (-9223372036854775808)), none, some (.int 1), some (.long ((b &&& 8388607).toInt64)), none, some (.int 0)] [] h Q)
    (L4 : ¬ 0 ≤ b → ¬ ((b >>> (23 &&& 31)) &&& 255) = 255 → ((b >>> (23 &&& 31)) &&& 255) = 0 → ((b &&& 8388607).toInt64) = 0 → Q (some (.long (-9223372036854775808))) h)
    (L5 : ¬ 0 ≤ b → ((b >>> (23 &&& 31)) &&& 255) = 255 → ¬ ((b &&& 8388607).toInt64) = 0 → Q (some (.long 9221120237041090560)) h)
    (L6 : ¬ 0 ≤ b → ((b >>> (23 &&& 31)) &&& 255) = 255 → ((b &&& 8388607).toInt64) = 0 → Q (some (.long ((-9223372036854775808) ||| 9218868437227405312))) h) : EV (d + 1) 79 [.int b] h Q := by
  have fx0 := fx
  refine in_79 (Nat.le_of_ble_eq_true rfl) ?_
  show WR _ cd_79 0 [some (.int b), none, none, none, none, none, none] [] h _
  refine r_iload rfl rfl ?_
  refine r_if_ge (tg := 10) rfl rfl (fun c1 => ?_) (fun c1 => ?_)
  · refine r_lc (x := 0) rfl rfl ?_
    refine r_lstore (lv' := [some (.int b), some (.long 0), none, none, none, none, none]) rfl (Nat.le_of_ble_eq_true rfl) rfl ?_
    refine r_iload rfl rfl ?_
    refine r_ic (x := 23) rfl rfl ?_
    refine r_ishr rfl ?_
    refine r_ic (x := 255) rfl rfl ?_
    refine r_iand rfl ?_
    refine r_istore (lv' := [some (.int b), some (.long 0), none, some (.int ((b >>> (23 &&& 31)) &&& 255)), none, none, none]) rfl (Nat.le_of_ble_eq_true rfl) rfl ?_
    refine r_iload rfl rfl ?_
    refine r_ic (x := 8388607) rfl rfl ?_
    refine r_iand rfl ?_
    refine r_i2l rfl ?_
    refine r_lstore (lv' := [some (.int b), some (.long 0), none, some (.int ((b >>> (23 &&& 31)) &&& 255)), some (.long ((b &&& 8388607).toInt64)), none, none]) rfl (Nat.le_of_ble_eq_true rfl) rfl ?_
    refine r_iload rfl rfl ?_
    refine r_ic (x := 255) rfl rfl ?_
    refine r_icmp_ne (tg := 54) rfl rfl (fun c2 => ?_) (fun c2 => ?_)
    · refine r_iload rfl rfl ?_
      refine r_if_ne (tg := 111) rfl rfl (fun c3 => ?_) (fun c3 => ?_)
      · exact (K1 c1 c2 c3)
      · refine r_lload rfl rfl ?_
        refine r_lc (x := 0) rfl rfl ?_
        refine r_lif_ne (tg := 67) rfl rfl rfl (fun c4 => ?_) (fun c4 => ?_)
        · refine r_ic (x := 1) rfl rfl ?_
          refine r_istore (lv' := [some (.int b), some (.long 0), none, some (.int 1), some (.long ((b &&& 8388607).toInt64)), none, none]) rfl (Nat.le_of_ble_eq_true rfl) rfl ?_
          refine r_ic (x := 0) rfl rfl ?_
          refine r_istore (lv' := [some (.int b), some (.long 0), none, some (.int 1), some (.long ((b &&& 8388607).toInt64)), none, some (.int 0)]) rfl (Nat.le_of_ble_eq_true rfl) rfl ?_
          exact (K2 c1 c2 c3 c4)
        · refine r_lload rfl rfl ?_
          refine r_lret rfl ?_
          exact (L1 c1 c2 c3 c4)
    · refine r_lload rfl rfl ?_
      refine r_lc (x := 0) rfl rfl ?_
      refine r_lif_ne (tg := 50) rfl rfl rfl (fun c5 => ?_) (fun c5 => ?_)
      · refine r_ldc (x := .long 9221120237041090560) rfl rfl ?_
        refine r_lret rfl ?_
        exact (L2 c1 c2 c5)
      · refine r_lload rfl rfl ?_
        refine r_ldc (x := .long 9218868437227405312) rfl rfl ?_
        refine r_lor rfl ?_
        refine r_goto (tg := 53) rfl rfl ?_
        refine r_lret rfl ?_
        exact (L3 c1 c2 c5)
  · refine r_ldc (x := .long (-9223372036854775808)) rfl rfl ?_
    refine r_goto (tg := 11) rfl rfl ?_
    refine r_lstore (lv' := [some (.int b), some (.long (-9223372036854775808)), none, none, none, none, none]) rfl (Nat.le_of_ble_eq_true rfl) rfl ?_
    refine r_iload rfl rfl ?_
    refine r_ic (x := 23) rfl rfl ?_
    refine r_ishr rfl ?_
    refine r_ic (x := 255) rfl rfl ?_
    refine r_iand rfl ?_
    refine r_istore (lv' := [some (.int b), some (.long (-9223372036854775808)), none, some (.int ((b >>> (23 &&& 31)) &&& 255)), none, none, none]) rfl (Nat.le_of_ble_eq_true rfl) rfl ?_
    refine r_iload rfl rfl ?_
    refine r_ic (x := 8388607) rfl rfl ?_
    refine r_iand rfl ?_
    refine r_i2l rfl ?_
    refine r_lstore (lv' := [some (.int b), some (.long (-9223372036854775808)), none, some (.int ((b >>> (23 &&& 31)) &&& 255)), some (.long ((b &&& 8388607).toInt64)), none, none]) rfl (Nat.le_of_ble_eq_true rfl) rfl ?_
    refine r_iload rfl rfl ?_
    refine r_ic (x := 255) rfl rfl ?_
    refine r_icmp_ne (tg := 54) rfl rfl (fun c6 => ?_) (fun c6 => ?_)
    · refine r_iload rfl rfl ?_
      refine r_if_ne (tg := 111) rfl rfl (fun c7 => ?_) (fun c7 => ?_)
      · exact (K3 c1 c6 c7)
      · refine r_lload rfl rfl ?_
        refine r_lc (x := 0) rfl rfl ?_
        refine r_lif_ne (tg := 67) rfl rfl rfl (fun c8 => ?_) (fun c8 => ?_)
        · refine r_ic (x := 1) rfl rfl ?_
          refine r_istore (lv' := [some (.int b), some (.long (-9223372036854775808)), none, some (.int 1), some (.long ((b &&& 8388607).toInt64)), none, none]) rfl (Nat.le_of_ble_eq_true rfl) rfl ?_
          refine r_ic (x := 0) rfl rfl ?_
          refine r_istore (lv' := [some (.int b), some (.long (-9223372036854775808)), none, some (.int 1), some (.long ((b &&& 8388607).toInt64)), none, some (.int 0)]) rfl (Nat.le_of_ble_eq_true rfl) rfl ?_
          exact (K4 c1 c6 c7 c8)
        · refine r_lload rfl rfl ?_
          refine r_lret rfl ?_
          exact (L4 c1 c6 c7 c8)
    · refine r_lload rfl rfl ?_
      refine r_lc (x := 0) rfl rfl ?_
      refine r_lif_ne (tg := 50) rfl rfl rfl (fun c9 => ?_) (fun c9 => ?_)
      · refine r_ldc (x := .long 9221120237041090560) rfl rfl ?_
        refine r_lret rfl ?_
        exact (L5 c1 c6 c9)
      · refine r_lload rfl rfl ?_
        refine r_ldc (x := .long 9218868437227405312) rfl rfl ?_
        refine r_lor rfl ?_
        refine r_goto (tg := 53) rfl rfl ?_
        refine r_lret rfl ?_
        exact (L6 c1 c6 c9)

set_option maxHeartbeats 2000000 in
theorem w_wd72 {d : Nat} {Q : mQ} {n : Nat} {ad sa : Nat → Nat} {z0 : Nat} {h : mH} (fx : FX n ad sa z0 h) (b e k : Int32) (s g : Int64) 
    (K1 : 23 ≤ k → WR (d) cd_79 103 [some (.int b), some (.long s), none, some (.int e), some (.long g), none, some (.int k)] [] h Q)
    (K2 : ¬ 23 ≤ k → 8388608 ≤ g → WR (d) cd_79 103 [some (.int b), some (.long s), none, some (.int e), some (.long g), none, some (.int k)] [] h Q)
    (K3 : ¬ 23 ≤ k → ¬ 8388608 ≤ g → WR (d) cd_79 72 [some (.int b), some (.long s), none, some (.int (e + (-1))), some (.long (g <<< ((1 : Int32).toInt64 &&& 63))), none, some (.int (k + 1))] [] h Q) : WR (d) cd_79 72 [some (.int b), some (.long s), none, some (.int e), some (.long g), none, some (.int k)] [] h Q := by
  have fx0 := fx
  refine r_iload rfl rfl ?_
  refine r_ic (x := 23) rfl rfl ?_
  refine r_icmp_ge (tg := 103) rfl rfl (fun c1 => ?_) (fun c1 => ?_)
  · exact (K1 c1)
  · refine r_lload rfl rfl ?_
    refine r_ldc (x := .long 8388608) rfl rfl ?_
    refine r_lif_ge (tg := 103) rfl rfl rfl (fun c2 => ?_) (fun c2 => ?_)
    · exact (K2 c1 c2)
    · refine r_lload rfl rfl ?_
      refine r_ic (x := 1) rfl rfl ?_
      refine r_lshl rfl ?_
      refine r_lstore (lv' := [some (.int b), some (.long s), none, some (.int e), some (.long (g <<< ((1 : Int32).toInt64 &&& 63))), none, some (.int k)]) rfl (Nat.le_of_ble_eq_true rfl) rfl ?_
      refine r_iinc (y := e + (-1)) (lv' := [some (.int b), some (.long s), none, some (.int (e + (-1))), some (.long (g <<< ((1 : Int32).toInt64 &&& 63))), none, some (.int k)]) rfl rfl rfl rfl ?_
      refine r_iinc (y := k + 1) (lv' := [some (.int b), some (.long s), none, some (.int (e + (-1))), some (.long (g <<< ((1 : Int32).toInt64 &&& 63))), none, some (.int (k + 1))]) rfl rfl rfl rfl ?_
      refine r_goto (tg := 72) rfl rfl ?_
      exact (K3 c1 c2)

set_option maxHeartbeats 2000000 in
theorem w_wd103 {d : Nat} {Q : mQ} {n : Nat} {ad sa : Nat → Nat} {z0 : Nat} {h : mH} (fx : FX n ad sa z0 h) (b e k : Int32) (s g : Int64) 
    (L1 : Q (some (.long ((s ||| (((e + 896).toInt64) <<< ((52 : Int32).toInt64 &&& 63))) ||| ((g &&& 8388607) <<< ((29 : Int32).toInt64 &&& 63))))) h) : WR (d) cd_79 103 [some (.int b), some (.long s), none, some (.int e), some (.long g), none, some (.int k)] [] h Q := by
  have fx0 := fx
  refine r_lload rfl rfl ?_
  refine r_ldc (x := .long 8388607) rfl rfl ?_
  refine r_land rfl ?_
  refine r_lstore (lv' := [some (.int b), some (.long s), none, some (.int e), some (.long (g &&& 8388607)), none, some (.int k)]) rfl (Nat.le_of_ble_eq_true rfl) rfl ?_
  refine r_lload rfl rfl ?_
  refine r_iload rfl rfl ?_
  refine r_ic (x := 896) rfl rfl ?_
  refine r_iadd rfl ?_
  refine r_i2l rfl ?_
  refine r_ic (x := 52) rfl rfl ?_
  refine r_lshl rfl ?_
  refine r_lor rfl ?_
  refine r_lload rfl rfl ?_
  refine r_ic (x := 29) rfl rfl ?_
  refine r_lshl rfl ?_
  refine r_lor rfl ?_
  refine r_lret rfl ?_
  exact (L1)

set_option maxHeartbeats 2000000 in
theorem w_wd111 {d : Nat} {Q : mQ} {n : Nat} {ad sa : Nat → Nat} {z0 : Nat} {h : mH} (fx : FX n ad sa z0 h) (b e : Int32) (s g : Int64) (o6 : Option Value) 
    (L1 : Q (some (.long ((s ||| (((e + 896).toInt64) <<< ((52 : Int32).toInt64 &&& 63))) ||| (g <<< ((29 : Int32).toInt64 &&& 63))))) h) : WR (d) cd_79 111 [some (.int b), some (.long s), none, some (.int e), some (.long g), none, o6] [] h Q := by
  have fx0 := fx
  refine r_lload rfl rfl ?_
  refine r_iload rfl rfl ?_
  refine r_ic (x := 896) rfl rfl ?_
  refine r_iadd rfl ?_
  refine r_i2l rfl ?_
  refine r_ic (x := 52) rfl rfl ?_
  refine r_lshl rfl ?_
  refine r_lor rfl ?_
  refine r_lload rfl rfl ?_
  refine r_ic (x := 29) rfl rfl ?_
  refine r_lshl rfl ?_
  refine r_lor rfl ?_
  refine r_lret rfl ?_
  exact (L1)

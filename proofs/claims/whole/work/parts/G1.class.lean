/-! ===== the start: the class's constructors ===== -/
section CLS
variable {h0 h : mH} {z i d n t : Nat} {G : qG} {Q : mQ}
theorem gHa_c : qc (gHa G i) = qc G + 2 := by unfold gHa; rw [gAr_c, gAr_c]
theorem gHa_T {i' : Nat} (hi : i' < qc G) : qT (gHa G i) i' = qT G i' := by
  unfold gHa
  rw [gAr_T (by rw [gAr_c]; omega), gAr_T hi]
theorem gUn_c : qc (gUn G i) = qc G + 5 := by unfold gUn; rw [gAr_c, gAr_c, gAr_c, gAr_c, gAr_c]
theorem gUn_T {i' : Nat} (hi : i' < qc G) : qT (gUn G i) i' = qT G i' := by
  unfold gUn
  rw [gAr_T (by rw [gAr_c, gAr_c, gAr_c, gAr_c]; omega), gAr_T (by rw [gAr_c, gAr_c, gAr_c]; omega), gAr_T (by rw [gAr_c, gAr_c]; omega), gAr_T (by rw [gAr_c]; omega), gAr_T hi]
def gA1 (G : qG) (i : Nat) : qG := gAr (gAr (gAr G i 0 20 640) i 1 20 10) i 2 20 60
def gA2 (G : qG) (i : Nat) : qG := qr (gHa (qn (gA1 G i) 3 3 3) (qc (gA1 G i))) i 3 (qc (gA1 G i))
def gAc (G : qG) (i : Nat) : qG := qr (gUn (qn (gA2 G i) 9 6 6) (qc (gA2 G i))) i 4 (qc (gA2 G i))
theorem c_iAc (x : CE h0 h z G) (hi : i < qc G) (ht : (qT G i).1 = 1) (hQ : ∀ h', CE h0 h' z (gAc G i) → Q none h') : EV (d + 2) 8 [.ref (z + i)] h Q := by
  refine in_8 (Nat.le_of_ble_eq_true rfl) ?_
  show WR _ cd_8 0 [some (.ref (z + i))] [] h _
  refine r_aload rfl rfl (r_obj rfl (Nat.le_of_ble_eq_true rfl) ?_)
  refine b_arr (f := 0) (tg := 20) (tt := 1) (N := 640) x hi ht rfl rfl (fun st k => r_ic rfl rfl k) rfl ⟨rfl, by decide⟩ (by decide) rfl ⟨rfl, rfl, rfl⟩ (fun h1 x1 i1 t1 => ?_)
  refine b_arr (f := 1) (tg := 20) (tt := 1) (N := 10) x1 i1 t1 rfl rfl (fun st k => r_ic rfl rfl k) rfl ⟨rfl, by decide⟩ (by decide) rfl ⟨rfl, rfl, rfl⟩ (fun h2 x2 i2 t2 => ?_)
  refine b_arr (f := 2) (tg := 20) (tt := 1) (N := 60) x2 i2 t2 rfl rfl (fun st k => r_ic rfl rfl k) rfl ⟨rfl, by decide⟩ (by decide) rfl ⟨rfl, rfl, rfl⟩ (fun h3 x3 i3 t3 => ?_)
  have x3 : CE h0 h3 z (gA1 G i) := x3
  have i3 : i < qc (gA1 G i) := i3
  have t3 : (qT (gA1 G i) i).1 = 1 := t3
  have e2 : gA2 G i = qr (gHa (qn (gA1 G i) 3 3 3) (qc (gA1 G i))) i 3 (qc (gA1 G i)) := rfl
  have e3 : gAc G i = qr (gUn (qn (gA2 G i) 9 6 6) (qc (gA2 G i))) i 4 (qc (gA2 G i)) := rfl
  generalize gA1 G i = G1 at *
  refine b_obj (t := 3) (m := 3) x3 rfl rfl rfl rfl rfl (fun h4 x4 => ?_)
  refine r_ic (x := nI 100) rfl rfl ?_
  refine r_cp (y := 9) (a := z + qc G1) (ra := [.int (nI 100)]) (rest := [.ref (z + qc G1), .ref (z + i)]) rfl ⟨⟨rfl, rfl⟩, by decide⟩ rfl rfl (Nat.le_of_ble_eq_true rfl) ?_
  refine c_iHa (d := d) x4 (by rw [qn_c]; omega) (by rw [qT_s]) (fun h5 x5 => ?_)
  refine b_put (f := 3) (tt := 1) x5 (by rw [gHa_c, qn_c]; omega) (by rw [gHa_T (by rw [qn_c]; omega), qT_n i3]; exact t3) rfl ⟨rfl, rfl, rfl⟩ (fun h6 x6 => ?_)
  rw [← e2] at x6
  have i6 : i < qc (gA2 G i) := by rw [e2, qr_c, gHa_c, qn_c]; omega
  have t6 : (qT (gA2 G i) i).1 = 1 := by rw [e2, qr_T, gHa_T (by rw [qn_c]; omega), qT_n i3]; exact t3
  generalize gA2 G i = G2 at *
  refine b_obj (t := 9) (m := 6) x6 rfl rfl rfl rfl rfl (fun h7 x7 => ?_)
  refine r_ic (x := nI 100) rfl rfl ?_
  refine r_cp (y := 10) (a := z + qc G2) (ra := [.int (nI 100)]) (rest := [.ref (z + qc G2), .ref (z + i)]) rfl ⟨⟨rfl, rfl⟩, by decide⟩ rfl rfl (Nat.le_of_ble_eq_true rfl) ?_
  refine c_iUn (d := d) x7 (by rw [qn_c]; omega) (by rw [qT_s]) (fun h8 x8 => ?_)
  refine b_put (f := 4) (tt := 1) x8 (by rw [gUn_c, qn_c]; omega) (by rw [gUn_T (by rw [qn_c]; omega), qT_n i6]; exact t6) rfl ⟨rfl, rfl, rfl⟩ (fun h9 x9 => ?_)
  rw [← e3] at x9
  exact r_vret rfl (hQ _ x9)
/-! a turbine -/
def nNn : Int64 := 9221120237041090560
def gRd (G : qG) (i : Nat) : qG := qr (ql (ql (ql (qn G 21 3 3) (qc G) 0 nNn) (qc G) 1 nNn) (qc G) 2 nNn) i 6 (qc G)
def gTu (G : qG) (i t : Nat) : qG := qi (qd (qd (gAr (gAr (gRd (gAr G i 5 26 5) i) i 7 21 3) i 8 21 3) i 13 4636033603912859648) i 17 4652007308841189376) i 0 (nI t)
theorem gRd_c : qc (gRd G i) = qc G + 1 := by unfold gRd; rw [qr_c, ql_c, ql_c, ql_c, qn_c]
theorem gRd_T {i' : Nat} (hi : i' < qc G) : qT (gRd G i) i' = qT G i' := by unfold gRd; rw [qr_T, ql_T, ql_T, ql_T, qT_n hi]
theorem gTu_c : qc (gTu G i t) = qc G + 4 := by unfold gTu; rw [qi_c, qd_c, qd_c, gAr_c, gAr_c, gRd_c, gAr_c]
theorem gTu_T {i' : Nat} (hi : i' < qc G) : qT (gTu G i t) i' = qT G i' := by
  unfold gTu
  rw [qi_T, qd_T, qd_T, gAr_T (by rw [gAr_c, gRd_c, gAr_c]; omega), gAr_T (by rw [gRd_c, gAr_c]; omega), gRd_T (by rw [gAr_c]; omega), gAr_T hi]
theorem gAr_R {f tg N i' : Nat} (hi : i' ≠ i) : qR (gAr G i f tg N) i' = qR G i' := by unfold gAr; rw [qr_R hi, qn_R]
theorem gTu_R {i' : Nat} (hi : i' ≠ i) : qR (gTu G i t) i' = qR G i' := by
  unfold gTu gRd
  rw [qi_R, qd_R, qd_R, gAr_R hi, gAr_R hi, qr_R hi, ql_R, ql_R, ql_R, qn_R, gAr_R hi]
theorem c_iTu (x : CE h0 h z G) (hi : i < qc G) (ht : (qT G i).1 = 8) (hQ : ∀ h', CE h0 h' z (gTu G i t) → Q none h') : EV (d + 1) 7 [.ref (z + i), .int (nI t)] h Q := by
  refine in_7 (Nat.le_of_ble_eq_true rfl) ?_
  show WR _ cd_7 0 [some (.ref (z + i)), some (.int (nI t))] [] h _
  refine r_aload rfl rfl (r_obj rfl (Nat.le_of_ble_eq_true rfl) ?_)
  refine b_aar (f := 5) (tg := 26) (tt := 8) (N := 5) x hi ht rfl rfl (fun st k => r_ic rfl rfl k) rfl (by decide) rfl ⟨rfl, rfl, rfl⟩ (fun h1 x1 i1 t1 => ?_)
  have eT : gTu G i t = qi (qd (qd (gAr (gAr (gRd (gAr G i 5 26 5) i) i 7 21 3) i 8 21 3) i 13 4636033603912859648) i 17 4652007308841189376) i 0 (nI t) := rfl
  generalize gAr G i 5 26 5 = G1 at *
  -- the readings
  refine r_aload rfl rfl (r_ic (x := nI 3) rfl rfl (r_newarray rfl ⟨by decide, by decide, by decide⟩ ?_))
  have cl : (nI 3).toNatClampNeg = 3 := nI_clamp (by decide)
  rw [cl, x1.1.1]
  have y0 : CE h0 (nw h1 (atag .long) 3 3) z (qn G1 21 3 3) := x1.new
  generalize nw h1 (atag .long) 3 3 = k0 at *
  have ic : qc G1 < qc (qn G1 21 3 3) := by rw [qn_c]; omega
  have ln : ∀ (k : mH) (G2 : qG), CE h0 k z G2 → qc G1 < qc G2 → qT G2 = qT (qn G1 21 3 3) → hT k (z + qc G1) = 21 ∧ hN k (z + qc G1) = 3 := fun k G2 y q e => by
    obtain ⟨⟨a, b⟩, -⟩ := y.2.1 _ q
    rw [a, b, e, qT_s]; exact ⟨rfl, rfl⟩
  have st : ∀ j : Nat, j < 3 → vp_in (nI j) 3 := fun j hj => vp_in_nI hj (by omega)
  refine r_dup rfl rfl (r_ic (x := nI 0) rfl rfl (r_ldc (x := .long nNn) rfl rfl ?_))
  refine r_lastore rfl (ln _ _ y0 ic rfl).1 (by rw [(ln _ _ y0 ic rfl).2]; exact st 0 (by decide)) ?_
  rw [nI_clamp (show (0 : Nat) < 2 ^ 31 by decide)]
  have y1 := y0.sl (i := qc G1) (j := 0) (v := nNn) ic
  generalize sL k0 (z + qc G1) 0 nNn = k1 at *
  have ic1 : qc G1 < qc (ql (qn G1 21 3 3) (qc G1) 0 nNn) := by rw [ql_c]; exact ic
  refine r_dup rfl rfl (r_ic (x := nI 1) rfl rfl (r_ldc (x := .long nNn) rfl rfl ?_))
  refine r_lastore rfl (ln _ _ y1 ic1 ql_T).1 (by rw [(ln _ _ y1 ic1 ql_T).2]; exact st 1 (by decide)) ?_
  rw [nI_clamp (show (1 : Nat) < 2 ^ 31 by decide)]
  have y2 := y1.sl (i := qc G1) (j := 1) (v := nNn) ic1
  generalize sL k1 (z + qc G1) 1 nNn = k2 at *
  have ic2 : qc G1 < qc (ql (ql (qn G1 21 3 3) (qc G1) 0 nNn) (qc G1) 1 nNn) := by rw [ql_c, ql_c]; exact ic
  refine r_dup rfl rfl (r_ic (x := nI 2) rfl rfl (r_ldc (x := .long nNn) rfl rfl ?_))
  refine r_lastore rfl (ln _ _ y2 ic2 (ql_T.trans ql_T)).1 (by rw [(ln _ _ y2 ic2 (ql_T.trans ql_T)).2]; exact st 2 (by decide)) ?_
  rw [nI_clamp (show (2 : Nat) < 2 ^ 31 by decide)]
  have y3 := y2.sl (i := qc G1) (j := 2) (v := nNn) ic2
  generalize sL k2 (z + qc G1) 2 nNn = k3 at *
  have i2 : i < qc (gRd G1 i) := by rw [gRd_c]; omega
  have t2 : (qT (gRd G1 i) i).1 = 8 := by rw [gRd_T i1]; exact t1
  refine b_put (f := 6) (tt := 8) y3 (by rw [ql_c, ql_c, ql_c, qn_c]; omega) (by rw [ql_T, ql_T, ql_T, qT_n i1]; exact t1) rfl ⟨rfl, rfl, rfl⟩ (fun h2 x2 => ?_)
  have x2 : CE h0 h2 z (gRd G1 i) := x2
  generalize gRd G1 i = G2 at *
  refine b_arr (f := 7) (tg := 21) (tt := 8) (N := 3) x2 i2 t2 rfl rfl (fun st k => r_ic rfl rfl k) rfl ⟨rfl, by decide⟩ (by decide) rfl ⟨rfl, rfl, rfl⟩ (fun h3 x3 i3 t3 => ?_)
  refine b_arr (f := 8) (tg := 21) (tt := 8) (N := 3) x3 i3 t3 rfl rfl (fun st k => r_ic rfl rfl k) rfl ⟨rfl, by decide⟩ (by decide) rfl ⟨rfl, rfl, rfl⟩ (fun h4 x4 i4 t4 => ?_)
  generalize gAr (gAr G2 i 7 21 3) i 8 21 3 = G4 at *
  refine r_aload rfl rfl (r_ldc (x := .double 4636033603912859648) rfl rfl (r_putD rfl ⟨rfl, rfl, rfl⟩ (x4.tag i4 t4) ?_))
  have x5 := x4.sd (j := 13) (v := 4636033603912859648) i4
  have i5 : i < qc (qd G4 i 13 4636033603912859648) := by rw [qd_c]; exact i4
  have t5 : (qT (qd G4 i 13 4636033603912859648) i).1 = 8 := by rw [qd_T]; exact t4
  generalize sD h4 (z + i) 13 4636033603912859648 = h5 at *
  refine r_aload rfl rfl (r_ldc (x := .double 4652007308841189376) rfl rfl (r_putD rfl ⟨rfl, rfl, rfl⟩ (x5.tag i5 t5) ?_))
  have x6 := x5.sd (i := i) (j := 17) (v := 4652007308841189376) i5
  have i6 : i < qc (qd (qd G4 i 13 4636033603912859648) i 17 4652007308841189376) := by rw [qd_c]; exact i5
  have t6 : (qT (qd (qd G4 i 13 4636033603912859648) i 17 4652007308841189376) i).1 = 8 := by rw [qd_T]; exact t5
  generalize sD h5 (z + i) 17 4652007308841189376 = h6 at *
  refine r_aload rfl rfl (r_iload rfl rfl (r_putI rfl ⟨rfl, rfl, rfl⟩ (x6.tag i6 t6) ?_))
  have x7 := x6.si (i := i) (j := 0) (v := nI t) i6
  rw [← eT] at x7
  exact r_vret rfl (hQ _ x7)
/-! the farm -/
def gF0 (G : qG) (i n : Nat) : qG := gAr (gAr (gAr (gAr G i 1 20 160) i 7 21 3) i 0 25 n) i 6 25 n
def gFL (a : Nat) (G : qG) : Nat → qG
  | 0 => G
  | t + 1 => qr (gTu (qn (gFL a G t) 8 18 18) (qc (gFL a G t)) t) a t (qc (gFL a G t))
def gFa (G : qG) (i n : Nat) : qG := gFL (qc G + 2) (gF0 G i n) n
theorem gFL_s {a : Nat} : gFL a G (t + 1) = qr (gTu (qn (gFL a G t) 8 18 18) (qc (gFL a G t)) t) a t (qc (gFL a G t)) := rfl
theorem gFL_k {a : Nat} : ∀ t, qc (gFL a G t) = qc G + 5 * t ∧ (∀ i', i' < qc G → qT (gFL a G t) i' = qT G i') ∧ ∀ i', i' < qc G → i' ≠ a → qR (gFL a G t) i' = qR G i' := by
  intro t
  induction t with
  | zero => exact ⟨rfl, fun _ _ => rfl, fun _ _ _ => rfl⟩
  | succ t ih =>
    obtain ⟨a1, a2, a3⟩ := ih
    rw [gFL_s]
    generalize gFL a G t = F at *
    refine ⟨?_, fun i' hi => ?_, fun i' hi h2 => ?_⟩
    · rw [qr_c, gTu_c, qn_c]; omega
    · rw [qr_T, gTu_T (by rw [qn_c]; omega), qT_n (by omega)]; exact a2 i' hi
    · rw [qr_R h2, gTu_R (by omega)]
      show qR F i' = _
      exact a3 i' hi h2
theorem c_iFa (x : CE h0 h z G) (hi : i < qc G) (ht : (qT G i).1 = 2) (hn : n ≤ 6) (hQ : ∀ h', CE h0 h' z (gFa G i n) → Q none h') : EV (d + 2) 6 [.ref (z + i), .int (nI n)] h Q := by
  refine in_6 (Nat.le_of_ble_eq_true rfl) ?_
  show WR _ cd_6 0 [some (.ref (z + i)), some (.int (nI n)), none] [] h _
  refine r_aload rfl rfl (r_obj rfl (Nat.le_of_ble_eq_true rfl) ?_)
  refine b_arr (f := 1) (tg := 20) (tt := 2) (N := 160) x hi ht rfl rfl (fun st k => r_ic rfl rfl k) rfl ⟨rfl, by decide⟩ (by decide) rfl ⟨rfl, rfl, rfl⟩ (fun h1 x1 i1 t1 => ?_)
  refine b_arr (f := 7) (tg := 21) (tt := 2) (N := 3) x1 i1 t1 rfl rfl (fun st k => r_ic rfl rfl k) rfl ⟨rfl, by decide⟩ (by decide) rfl ⟨rfl, rfl, rfl⟩ (fun h2 x2 i2 t2 => ?_)
  refine b_aar (f := 0) (tg := 25) (tt := 2) (N := n) x2 i2 t2 rfl rfl (fun st k => r_iload rfl rfl k) rfl (by omega) rfl ⟨rfl, rfl, rfl⟩ (fun h3 x3 i3 t3 => ?_)
  refine b_aar (f := 6) (tg := 25) (tt := 2) (N := n) x3 i3 t3 rfl rfl (fun st k => r_iload rfl rfl k) rfl (by omega) rfl ⟨rfl, rfl, rfl⟩ (fun h4 x4 i4 t4 => ?_)
  have x4 : CE h0 h4 z (gF0 G i n) := x4
  have i4 : i < qc (gF0 G i n) := i4
  have t4 : (qT (gF0 G i n) i).1 = 2 := t4
  have cc : qc (gF0 G i n) = qc G + 4 := by unfold gF0; rw [gAr_c, gAr_c, gAr_c, gAr_c]
  have rr : qR (gF0 G i n) i 0 = some (qc G + 2) := by
    unfold gF0
    have ck : qc (gAr (gAr G i 1 20 160) i 7 21 3) = qc G + 2 := by rw [gAr_c, gAr_c]
    generalize gAr (gAr G i 1 20 160) i 7 21 3 = K at *
    unfold gAr
    rw [qr_Rs, if_neg (by decide), qn_R, qr_Rs, if_pos rfl, ck]
  have ta : qT (gF0 G i n) (qc G + 2) = (25, n) := by
    unfold gF0
    have ck : qc (gAr (gAr G i 1 20 160) i 7 21 3) = qc G + 2 := by rw [gAr_c, gAr_c]
    generalize gAr (gAr G i 1 20 160) i 7 21 3 = K at *
    rw [gAr_T (by rw [gAr_c]; omega), ← ck]
    unfold gAr
    rw [qr_T, qT_s]
  have eF : gFa G i n = gFL (qc G + 2) (gF0 G i n) n := rfl
  generalize gF0 G i n = F at *
  have lp : ∀ r t h, t + r = n → CE h0 h z (gFL (qc G + 2) F t) → WR (d + 1) cd_6 38 [some (.ref (z + i)), some (.int (nI n)), some (.int (nI t))] [] h Q := by
    intro r
    induction r with
    | zero =>
      intro t h e y
      obtain rfl : t = n := by omega
      refine r_iload rfl rfl (r_iload rfl rfl (r_icmp_ge (tg := 63) rfl rfl (fun _ => r_vret rfl (hQ _ (by rw [eF]; exact y))) (fun q => absurd (Int32.le_refl _) q)))
    | succ r ih =>
      intro t h e y
      obtain ⟨g1, g2, g3⟩ := gFL_k (G := F) (a := qc G + 2) t
      have gs : gFL (qc G + 2) F (t + 1) = _ := gFL_s
      have nx := ih (t + 1)
      rw [gs] at nx
      generalize gFL (qc G + 2) F t = W at *
      have iW : i < qc W := by omega
      have tW : (qT W i).1 = 2 := by rw [g2 i i4]; exact t4
      have rW : qR W i 0 = some (qc G + 2) := by rw [g3 i i4 (by omega)]; exact rr
      have taW : qT W (qc G + 2) = (25, n) := by rw [g2 _ (by omega)]; exact ta
      have ln : ¬ nI n ≤ nI t := fun q => by
        have := Int32.le_iff_toInt_le.mp q
        rw [nI_toInt (by omega), nI_toInt (by omega)] at this; omega
      refine r_iload rfl rfl (r_iload rfl rfl (r_icmp_ge (tg := 63) rfl rfl (fun q => absurd q ln) (fun _ => ?_)))
      have hr : hR h (z + i) 0 = some (z + (qc G + 2)) := by rw [(y.2.1 i iW).2.2.2.2 0, rW]; rfl
      refine r_aload rfl rfl (r_getA (b := z + (qc G + 2)) (f := 0) (t := 2) rfl ⟨rfl, rfl, rfl⟩ (y.tag iW tW) hr (r_iload rfl rfl (r_new (t := 8) (m := 18) rfl rfl ?_)))
      rw [y.1.1]
      have yn : CE h0 (nw h 8 18 18) z (qn W 8 18 18) := y.new
      refine r_dup rfl rfl (r_iload rfl rfl ?_)
      refine r_cp (y := 7) (a := z + qc W) (ra := [.int (nI t)]) (rest := [.ref (z + qc W), .int (nI t), .ref (z + (qc G + 2))]) rfl ⟨⟨rfl, rfl⟩, by decide⟩ rfl rfl (Nat.le_of_ble_eq_true rfl) ?_
      refine c_iTu (d := d) (t := t) yn (by rw [qn_c]; omega) (by rw [qT_s]) (fun h5 y5 => ?_)
      have c5 : qc (gTu (qn W 8 18 18) (qc W) t) = qc W + 5 := by rw [gTu_c, qn_c]
      have T5 : qT (gTu (qn W 8 18 18) (qc W) t) (qc G + 2) = (25, n) := by rw [gTu_T (by rw [qn_c]; omega), qT_n (by omega)]; exact taW
      have O5 : qT (gTu (qn W 8 18 18) (qc W) t) (qc W) = (8, 18) := by rw [gTu_T (by rw [qn_c]; omega), qT_s]
      obtain ⟨⟨u1', u2'⟩, -⟩ := y5.2.1 (qc G + 2) (by omega)
      obtain ⟨⟨v1', -⟩, -⟩ := y5.2.1 (qc W) (by omega)
      rw [T5] at u1' u2'
      rw [O5] at v1'
      have cl : (nI t).toNatClampNeg = t := nI_clamp (by omega)
      refine r_aastoreA rfl (by rw [u1']; exact ⟨(by decide : 24 ≤ 25), (by decide : 25 ≤ 27)⟩) (by rw [u2']; exact vp_in_nI (by omega) (by omega)) (fun a ea => ?_) ?_
      · cases ea
        rw [u1', v1']; rfl
      · rw [cl]
        have y6 := y5.sr (i := qc G + 2) (j := t) (k := qc W) (by omega)
        exact r_iinc (y := nI (t + 1)) (lv' := [some (.ref (z + i)), some (.int (nI n)), some (.int (nI (t + 1)))]) rfl rfl (nI_1 _) rfl (r_goto (tg := 38) rfl rfl (nx _ (by omega) y6))
  refine r_ic (x := nI 0) rfl rfl (r_istore (lv' := [some (.ref (z + i)), some (.int (nI n)), some (.int (nI 0))]) rfl (Nat.le_of_ble_eq_true rfl) rfl ?_)
  exact lp n 0 h4 (by omega) x4
end CLS

/-! ===== grid: the class's cells ===== -/
section GR
variable {d : Nat} {Q : mQ} {n : Nat} {ad sa : Nat → Nat} {z0 : Nat} {h H C : mH} {T1 T2 m : Nat} {x : Int32}
def N2 (H : mH) (T1 T2 : Nat) (x : Int32) (m : Nat) : mH := sR (nw (sI (nw H T1 2 2) (hZ H) 0 x) T2 m m) (hZ H) 1 (some (hZ H + 1))
theorem N2_Z : hZ (N2 H T1 T2 x m) = hZ H + 2 := rfl
theorem N2_U : hU (N2 H T1 T2 x m) = hU H + 2 + m := rfl
theorem N2_o {a : Nat} (ha : a < hZ H) : hT (N2 H T1 T2 x m) a = hT H a ∧ hN (N2 H T1 T2 x m) a = hN H a ∧ (∀ j, hL (N2 H T1 T2 x m) a j = hL H a j) ∧ (∀ j, hD (N2 H T1 T2 x m) a j = hD H a j) ∧ (∀ j, hI (N2 H T1 T2 x m) a j = hI H a j) ∧ (∀ j, hR (N2 H T1 T2 x m) a j = hR H a j) := by
  have z1 : hZ (sI (nw H T1 2 2) (hZ H) 0 x) = hZ H + 1 := rfl
  unfold N2
  refine ⟨?_, ?_, fun j => ?_, fun j => ?_, fun j => ?_, fun j => ?_⟩
  · rw [hT_sR, nw_T (by omega), hT_sI, nw_T (by omega)]
  · rw [hN_sR, nw_N (by omega), hN_sI, nw_N (by omega)]
  · rw [L_oR, nw_L (by omega), L_oI, nw_L (by omega)]
  · rw [D_oR, nw_D (by omega), D_oI, nw_D (by omega)]
  · rw [I_oR, nw_I (by omega), I_ne (by omega), nw_I (by omega)]
  · rw [R_ne (by omega), nw_R (by omega), R_oI, nw_R (by omega)]
theorem N2_n : (hT (N2 H T1 T2 x m) (hZ H) = T1 ∧ hI (N2 H T1 T2 x m) (hZ H) 0 = x ∧ hR (N2 H T1 T2 x m) (hZ H) 1 = some (hZ H + 1)) ∧ hT (N2 H T1 T2 x m) (hZ H + 1) = T2 ∧ hN (N2 H T1 T2 x m) (hZ H + 1) = m ∧ (∀ i, hL (N2 H T1 T2 x m) (hZ H + 1) i = 0) ∧ (∀ i, hR (N2 H T1 T2 x m) (hZ H + 1) i = none) := by
  have z1 : hZ (sI (nw H T1 2 2) (hZ H) 0 x) = hZ H + 1 := rfl
  unfold N2
  refine ⟨⟨?_, ?_, ?_⟩, ?_, ?_, fun i => ?_, fun i => ?_⟩
  · rw [hT_sR, nw_T (by omega), hT_sI, nw_T0]
  · rw [I_oR, nw_I (by omega), I_eq]
  · rw [R_eq]
  · rw [hT_sR]; exact nw_T0 (h := sI (nw H T1 2 2) (hZ H) 0 x)
  · rw [hN_sR]; exact nw_N0 (h := sI (nw H T1 2 2) (hZ H) 0 x)
  · rw [L_oR]; exact nw_L0 (h := sI (nw H T1 2 2) (hZ H) 0 x)
  · rw [R_ne (by omega)]; exact nw_R0 (h := sI (nw H T1 2 2) (hZ H) 0 x)
theorem N2_z (z : hzO H) : hzO (N2 H T1 T2 x m) := hzO.sR (hzO.nw (hzO.sI (hzO.nw z)))
theorem N2_fx (fx : FX n ad sa z0 H) (z : hzO H) : FX n ad sa z0 (N2 H T1 T2 x m) := FX.dyR (FX.nw (FX.sI (FX.nw fx z)) (hzO.sI (hzO.nw z))) (fx_z fx)
theorem c_rini (hm : m ≤ 30) (hQ : Q none (N2 H 5 21 x m)) : EV (d + 2) 15 [.ref (hZ H), .int x, .int (nI m)] (nw H 5 2 2) Q := by
  refine in_15 (Nat.le_of_ble_eq_true rfl) ?_
  show WR _ cd_15 0 [some (.ref (hZ H)), some (.int x), some (.int (nI m))] [] (nw H 5 2 2) _
  refine r_aload rfl rfl ?_
  refine r_cp (y := 16) (ra := []) (rest := []) rfl ⟨⟨rfl, rfl⟩, by decide⟩ rfl rfl (Nat.le_of_ble_eq_true rfl) ?_
  refine in_16 (Nat.le_of_ble_eq_true rfl) ?_
  show WR _ cd_16 0 [some (.ref (hZ H))] [] (nw H 5 2 2) _
  refine r_aload rfl rfl ?_
  refine r_obj rfl (Nat.le_of_ble_eq_true rfl) ?_
  refine r_vret rfl ?_
  show WR _ cd_15 4 [some (.ref (hZ H)), some (.int x), some (.int (nI m))] [] (nw H 5 2 2) _
  refine r_aload rfl rfl ?_
  refine r_iload rfl rfl ?_
  refine r_putI rfl ⟨rfl, rfl, rfl⟩ nw_T0 ?_
  refine r_aload rfl rfl ?_
  refine r_iload rfl rfl ?_
  refine r_newarray rfl ⟨by decide, nI_pos (by omega), by rw [nI_clamp (by omega)]; omega⟩ ?_
  refine WR_h (h2 := nw (sI (nw H 5 2 2) (hZ H) 0 x) 21 m m) (by rw [nI_clamp (by omega)] <;> rfl) ?_
  show WR _ cd_15 13 [some (.ref (hZ H)), some (.int x), some (.int (nI m))] [.ref (hZ H + 1), .ref (hZ H)] (nw (sI (nw H 5 2 2) (hZ H) 0 x) 21 m m) _
  refine r_putA rfl ⟨rfl, rfl, rfl⟩ (Eq.trans (nw_T (Nat.ne_of_lt (Nat.lt_succ_self _))) (Eq.trans (congrFun hT_sI _) nw_T0)) ?_
  refine r_vret rfl ?_
  exact hQ
theorem c_sini (hm : m ≤ 30) (hQ : Q none (N2 H 6 24 x m)) : EV (d + 2) 18 [.ref (hZ H), .int x, .int (nI m)] (nw H 6 2 2) Q := by
  refine in_18 (Nat.le_of_ble_eq_true rfl) ?_
  show WR _ cd_18 0 [some (.ref (hZ H)), some (.int x), some (.int (nI m))] [] (nw H 6 2 2) _
  refine r_aload rfl rfl ?_
  refine r_cp (y := 16) (ra := []) (rest := []) rfl ⟨⟨rfl, rfl⟩, by decide⟩ rfl rfl (Nat.le_of_ble_eq_true rfl) ?_
  refine in_16 (Nat.le_of_ble_eq_true rfl) ?_
  show WR _ cd_16 0 [some (.ref (hZ H))] [] (nw H 6 2 2) _
  refine r_aload rfl rfl ?_
  refine r_obj rfl (Nat.le_of_ble_eq_true rfl) ?_
  refine r_vret rfl ?_
  show WR _ cd_18 4 [some (.ref (hZ H)), some (.int x), some (.int (nI m))] [] (nw H 6 2 2) _
  refine r_aload rfl rfl ?_
  refine r_iload rfl rfl ?_
  refine r_putI rfl ⟨rfl, rfl, rfl⟩ nw_T0 ?_
  refine r_aload rfl rfl ?_
  refine r_iload rfl rfl ?_
  refine r_anewarray rfl ⟨nI_pos (by omega), by rw [nI_clamp (by omega)]; omega⟩ ?_
  refine WR_h (h2 := nw (sI (nw H 6 2 2) (hZ H) 0 x) 24 m m) (by rw [nI_clamp (by omega)] <;> rfl) ?_
  show WR _ cd_18 14 [some (.ref (hZ H)), some (.int x), some (.int (nI m))] [.ref (hZ H + 1), .ref (hZ H)] (nw (sI (nw H 6 2 2) (hZ H) 0 x) 24 m m) _
  refine r_putA rfl ⟨rfl, rfl, rfl⟩ (Eq.trans (nw_T (Nat.ne_of_lt (Nat.lt_succ_self _))) (Eq.trans (congrFun hT_sI _) nw_T0)) ?_
  refine r_vret rfl ?_
  exact hQ
/-- the class's heap behind j rows of a new grid -/
def GC (n : Nat) (ad sa : Nat → Nat) (z0 : Nat) (h C : mH) (sz ln j : Nat) : Prop :=
  (∀ a, a < hZ h → hT C a = hT h a ∧ hN C a = hN h a ∧ (∀ j, hL C a j = hL h a j) ∧ (∀ j, hD C a j = hD h a j) ∧ (∀ j, ¬ (a = ad 0 ∧ j = 6) → hI C a j = hI h a j) ∧ (∀ j, hR C a j = hR h a j)) ∧ hI C (ad 0) 6 = 0 ∧
  (hT C (hZ h) = 6 ∧ hI C (hZ h) 0 = -1 ∧ hR C (hZ h) 1 = some (hZ h + 1)) ∧ (hT C (hZ h + 1) = 24 ∧ hN C (hZ h + 1) = sz ∧ ∀ i, j ≤ i → hR C (hZ h + 1) i = none) ∧
  (∀ i, i < j → hR C (hZ h + 1) i = some (hZ h + 2 + 2 * i) ∧ hT C (hZ h + 2 + 2 * i) = 5 ∧ hI C (hZ h + 2 + 2 * i) 0 = 3 ∧ hR C (hZ h + 2 + 2 * i) 1 = some (hZ h + 2 + 2 * i + 1) ∧ hT C (hZ h + 2 + 2 * i + 1) = 21 ∧ hN C (hZ h + 2 + 2 * i + 1) = ln ∧ ∀ x, hL C (hZ h + 2 + 2 * i + 1) x = 0) ∧
  hZ C = hZ h + 2 + 2 * j ∧ hU C = hU h + 2 + sz + j * (2 + ln) ∧ hzO C ∧ FX n ad sa z0 C
theorem GC.in0 (fx : FX n ad sa z0 h) (z : hzO h) {sz ln : Nat} : GC n ad sa z0 h (N2 (sI h (ad 0) 6 0) 6 24 (-1) sz) sz ln 0 := by
  have l0 : ad 0 < hZ (sI h (ad 0) 6 0) := ad_lt fx (.inl (by decide))
  obtain ⟨⟨a1, a2, a3⟩, a4, a5, a6, a7⟩ := N2_n (H := sI h (ad 0) 6 0) (T1 := 6) (T2 := 24) (x := -1) (m := sz)
  refine ⟨fun a ha => ?_, ?_, ⟨a1, a2, a3⟩, ⟨a4, a5, fun i _ => a7 i⟩, fun i hi => absurd hi (Nat.not_lt_zero _), rfl, ?_, N2_z (hzO.sI z), N2_fx (FX.sI fx) (hzO.sI z)⟩
  · obtain ⟨g1, g2, g3, g4, g5, g6⟩ := N2_o (H := sI h (ad 0) 6 0) (T1 := 6) (T2 := 24) (x := -1) (m := sz) (a := a) ha
    exact ⟨g1, g2, g3, g4, fun j q => (g5 j).trans (by rw [hI_sI, if_neg q]), g6⟩
  · rw [(N2_o (H := sI h (ad 0) 6 0) l0).2.2.2.2.1, I_eq]
  · rw [N2_U, hU_sI]; omega
theorem GC.st {sz ln j : Nat} (fx0 : FX n ad sa z0 h) (g : GC n ad sa z0 h C sz ln j) : GC n ad sa z0 h (sR (N2 C 5 21 3 ln) (hZ h + 1) j (some (hZ C))) sz ln (j + 1) := by
  obtain ⟨g1, g2, ⟨g3, g4, g5⟩, ⟨g6, g7, g8⟩, g9, gZ, gU, gz, gx⟩ := g
  obtain ⟨⟨a1, a2, a3⟩, a4, a5, a6, a7⟩ := N2_n (H := C) (T1 := 5) (T2 := 21) (x := 3) (m := ln)
  have old : ∀ a, a < hZ C → _ := fun a ha => N2_o (H := C) (T1 := 5) (T2 := 21) (x := 3) (m := ln) (a := a) ha
  have l0 : ad 0 < hZ h := ad_lt fx0 (.inl (by decide))
  refine ⟨fun a ha => ?_, ?_, ⟨?_, ?_, ?_⟩, ⟨?_, ?_, fun i hi => ?_⟩, fun i hi => ?_, ?_, ?_, hzO.sR (N2_z gz), FX.dyR (N2_fx gx gz) (Nat.le_trans (fx_z fx0) (Nat.le_succ _))⟩
  · obtain ⟨o1, o2, o3, o4, o5, o6⟩ := old a (by omega)
    obtain ⟨q1, q2, q3, q4, q5, q6⟩ := g1 a ha
    exact ⟨(congrFun hT_sR _).trans (o1.trans q1), (congrFun hN_sR _).trans (o2.trans q2), fun j => L_oR.trans ((o3 j).trans (q3 j)), fun j => D_oR.trans ((o4 j).trans (q4 j)), fun j w => I_oR.trans ((o5 j).trans (q5 j w)), fun j => (R_ne (by omega)).trans ((o6 j).trans (q6 j))⟩
  · rw [I_oR, (old _ (by omega)).2.2.2.2.1]; exact g2
  · rw [hT_sR, (old _ (by omega)).1]; exact g3
  · rw [I_oR, (old _ (by omega)).2.2.2.2.1]; exact g4
  · rw [R_ne (by omega), (old _ (by omega)).2.2.2.2.2]; exact g5
  · rw [hT_sR, (old _ (by omega)).1]; exact g6
  · rw [hN_sR, (old _ (by omega)).2.1]; exact g7
  · rw [R_nk (by omega), (old _ (by omega)).2.2.2.2.2]; exact g8 i (by omega)
  · by_cases e : i = j
    · have eZ : hZ h + 2 + 2 * i = hZ C := by omega
      rw [eZ, e, R_eq, hT_sR, hN_sR, I_oR, R_ne (by omega)]
      exact ⟨rfl, a1, a2, a3, a4, a5, fun x => L_oR.trans (a6 x)⟩
    · obtain ⟨q1, q2, q3, q4, q5, q6, q7⟩ := g9 i (by omega)
      have A := old (hZ h + 2 + 2 * i) (by omega)
      have B := old (hZ h + 2 + 2 * i + 1) (by omega)
      refine ⟨?_, (congrFun hT_sR _).trans (A.1.trans q2), I_oR.trans ((A.2.2.2.2.1 0).trans q3), ?_, (congrFun hT_sR _).trans (B.1.trans q5), (congrFun hN_sR _).trans (B.2.1.trans q6), fun x => L_oR.trans ((B.2.2.1 x).trans (q7 x))⟩
      · rw [R_nk e, (old _ (by omega)).2.2.2.2.2]; exact q1
      · rw [R_ne (by omega), A.2.2.2.2.2]; exact q4
  · rw [hZ_sR, N2_Z]; omega
  · rw [hU_sR, N2_U, gU, Nat.succ_mul]; omega
theorem gc_72 (fx0 : FX n ad sa z0 h) {c : Int32} {sz ln : Nat} (hs : sz ≤ 8) (hl : ln ≤ 12) (hQ : ∀ C, GC n ad sa z0 h C sz ln sz → WR (d + 2) cd_17 101 [some (.ref (ad 0)), some (.int c), some (.int (nI sz)), some (.int (nI ln)), some (.ref (hZ h)), some (.int (nI sz))] [] C Q) :
    ∀ m j C, j + m = sz → GC n ad sa z0 h C sz ln j → WR (d + 2) cd_17 72 [some (.ref (ad 0)), some (.int c), some (.int (nI sz)), some (.int (nI ln)), some (.ref (hZ h)), some (.int (nI j))] [] C Q := by
  intro m
  induction m with
  | zero =>
    intro j C hj g
    obtain rfl : j = sz := by omega
    refine r_iload rfl rfl ?_
    refine r_iload rfl rfl ?_
    exact r_icmp_ge (tg := 101) rfl rfl (fun _ => hQ C g) (fun q => absurd (nI_le (Nat.le_refl _) (by omega)) q)
  | succ m ih =>
    intro j C hj g
    have gs := g.st fx0
    obtain ⟨g1, g2, ⟨g3, g4, g5⟩, ⟨g6, g7, g8⟩, g9, gZ, gU, gz, gx⟩ := g
    refine r_iload rfl rfl ?_
    refine r_iload rfl rfl ?_
    refine r_icmp_ge (tg := 101) rfl rfl (fun q => absurd q (nI_ge (by omega) (by omega))) (fun _ => ?_)
    refine r_aload rfl rfl ?_
    refine r_getA (b := hZ h + 1) rfl ⟨rfl, rfl, rfl⟩ g3 g5 ?_
    refine r_iload rfl rfl ?_
    refine r_new (m := 2) rfl rfl ?_
    refine r_dup rfl rfl ?_
    refine r_ic (x := 3) rfl rfl ?_
    refine r_iload rfl rfl ?_
    refine r_cp (y := 15) (ra := [.int (nI ln), .int 3]) (rest := [.ref (hZ C), .int (nI j), .ref (hZ h + 1)]) rfl ⟨⟨rfl, rfl⟩, by decide⟩ rfl rfl (Nat.le_of_ble_eq_true rfl) ?_
    refine c_rini (H := C) (by omega) ?_
    show WR _ cd_17 94 [some (.ref (ad 0)), some (.int c), some (.int (nI sz)), some (.int (nI ln)), some (.ref (hZ h)), some (.int (nI j))] [.ref (hZ C), .int (nI j), .ref (hZ h + 1)] (N2 C 5 21 3 ln) _
    have t1 : hT (N2 C 5 21 3 ln) (hZ h + 1) = 24 := ((N2_o (H := C) (by omega)).1).trans g6
    have l1 : hN (N2 C 5 21 3 ln) (hZ h + 1) = sz := ((N2_o (H := C) (by omega)).2.1).trans g7
    refine r_aastoreA rfl (isQ_of t1 (by decide)) (vp_ct l1 (vp_in_nI (by omega) (by omega))) (okR_of t1 N2_n.1.1 (by decide)) ?_
    refine WR_h (h2 := sR (N2 C 5 21 3 ln) (hZ h + 1) j (some (hZ C))) (congrArg (fun z => sR (N2 C 5 21 3 ln) (hZ h + 1) z (some (hZ C))) (nI_clamp (by omega))) ?_
    refine r_iinc (y := nI (j + 1)) (lv' := [some (.ref (ad 0)), some (.int c), some (.int (nI sz)), some (.int (nI ln)), some (.ref (hZ h)), some (.int (nI (j + 1)))]) rfl rfl (nI_1 _) rfl ?_
    refine r_goto (tg := 72) rfl rfl ?_
    exact ih (j + 1) _ (by omega) gs
end GR

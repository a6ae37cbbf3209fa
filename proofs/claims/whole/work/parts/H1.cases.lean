/-! ===== the law's cases; printed ===== -/
def SCR (b L : Nat) (xs : Nat → Int32) (h : mH) : Prop := (hT h b = 30 ∧ b < hZ h) ∧ hN h b = L ∧ ∀ j, j < L → hI h b j = xs j
/-- behind c calls -/
def LI (n : Nat) (ad sa : Nat → Nat) (z0 b L : Nat) (xs : Nat → Int32) (Z U c : Nat) (h : mH) : Prop := Rel n ad sa z0 h ∧ SCR b L xs h ∧ (∃ s, hI h (ad 30) 63 = nI s ∧ s ≤ 40 * c) ∧ hZ h ≤ Z + 20 * c ∧ hU h ≤ U + 150 * c
theorem lg_self {x : Int64} : lg_cmp x x = 0 := (lgc x x).1.mpr rfl
theorem b01 (x : Int32) : (if x = 0 then (0 : Int32) else 1) = 0 ∨ (if x = 0 then (0 : Int32) else 1) = 1 := by
  split
  · exact .inl rfl
  · exact .inr rfl
section LAW
variable {n : Nat} {ad sa : Nat → Nat} {z0 b L : Nat} {xs : Nat → Int32} {Z U c : Nat} {h : mH} {Q : mQ}
theorem SCR.kb {h' : mH} (s : SCR b L xs h) (q : KB b h h') : SCR b L xs h' := ⟨(q s.1).1, (q s.1).2.1.trans s.2.1, fun j hj => ((q s.1).2.2 j).trans (s.2.2 j hj)⟩
theorem LI.t0 (li : LI n ad sa z0 b L xs Z U c h) : hT h (ad 0) = 10 := by
  obtain ⟨_, _, _, fx, -⟩ := li.1
  exact fx_t0 fx
theorem LI.t30 (li : LI n ad sa z0 b L xs Z U c h) : hT h (ad 30) = 11 ∧ ad 30 < hZ h := by
  obtain ⟨_, _, _, fx, -⟩ := li.1
  exact ⟨fx_t30 fx, ad_lt fx (.inl (by decide))⟩
theorem ap_n {xi mi : Nat} {as : List Value} (ap : AP n ad sa z0 h xi mi as) (x0 : xi ≠ 230) (m0 : mi ≠ 230) (li : LI n ad sa z0 b L xs Z U c h) : EV 100 xi (.ref (ad 0) :: as) h (fun v h1 => (SCR b L xs h1 ∧ hT h1 (ad 30) = 11) ∧ EV 100 mi (.ref (ad 30) :: as) h1 (fun v2 h2 => v2 = v ∧ LI n ad sa z0 b L xs Z U (c + 1) h2)) := by
  unfold AP at ap
  have t30 := li.t30
  obtain ⟨-, scr, ⟨s, es, ls⟩, lz, lu⟩ := li
  refine EV_mono (EV_kb (cc := b) (EV_ks (cc := ad 30) x0 ap)) (fun v h1 q => ?_)
  obtain ⟨kb, ks, e⟩ := q
  refine ⟨⟨scr.kb kb, (ks t30).1.1⟩, ?_⟩
  refine EV_mono (EV_kb (cc := b) (EV_ks (cc := ad 30) m0 e)) (fun v2 h2 q => ?_)
  obtain ⟨kb2, ks2, e1, e2, e3, e4⟩ := q
  exact ⟨e1, e2, (scr.kb kb).kb kb2, ⟨s, ((ks2 (ks t30).1).2.trans (ks t30).2).trans es, by omega⟩, by omega, by omega⟩
theorem ap_I {xi mi : Nat} {as : List Value} (sh : ∀ pc, onlyI (cdT xi pc) = true) (ap : AP n ad sa z0 h xi mi as) (x0 : xi ≠ 230) (m0 : mi ≠ 230) (li : LI n ad sa z0 b L xs Z U c h) : EV 100 xi (.ref (ad 0) :: as) h (fun v h1 => ∃ x, v = some (.int x) ∧ (SCR b L xs h1 ∧ hT h1 (ad 30) = 11) ∧ EV 100 mi (.ref (ad 30) :: as) h1 (fun v2 h2 => v2 = some (.int x) ∧ LI n ad sa z0 b L xs Z U (c + 1) h2)) := by
  refine EV_mono (EV_shI (d := 99) sh (ap_n ap x0 m0 li)) (fun v h1 q => ?_)
  obtain ⟨⟨x, rfl⟩, q1, q2⟩ := q
  exact ⟨x, rfl, q1, q2⟩
theorem ap_L {xi mi : Nat} {as : List Value} (sh : ∀ pc, onlyL (cdT xi pc) = true) (ap : AP n ad sa z0 h xi mi as) (x0 : xi ≠ 230) (m0 : mi ≠ 230) (li : LI n ad sa z0 b L xs Z U c h) : EV 100 xi (.ref (ad 0) :: as) h (fun v h1 => ∃ x, v = some (.long x) ∧ (SCR b L xs h1 ∧ hT h1 (ad 30) = 11) ∧ EV 100 mi (.ref (ad 30) :: as) h1 (fun v2 h2 => v2 = some (.long x) ∧ LI n ad sa z0 b L xs Z U (c + 1) h2)) := by
  refine EV_mono (EV_shL (d := 99) sh (ap_n ap x0 m0 li)) (fun v h1 q => ?_)
  obtain ⟨⟨x, rfl⟩, q1, q2⟩ := q
  exact ⟨x, rfl, q1, q2⟩
theorem ap_run {v : Int32} (li : LI n ad sa z0 b L xs Z U c h) (hc : c ≤ 511) : EV 100 125 [.ref (ad 0), .int v] h (fun a h1 => ∃ x, a = some (.int x) ∧ (SCR b L xs h1 ∧ hT h1 (ad 30) = 11) ∧ EV 100 230 [.ref (ad 30), .int v] h1 (fun v2 h2 => v2 = some (.int x) ∧ LI n ad sa z0 b L xs Z U (c + 1) h2)) := by
  have t30 := li.t30
  obtain ⟨r, scr, ⟨s, es, ls⟩, lz, lu⟩ := li
  refine EV_mono (EV_shI (d := 99) sh_125 (EV_kb (cc := b) (EV_ks (cc := ad 30) (by decide) (k_run r v es (by omega))))) (fun a h1 q => ?_)
  obtain ⟨⟨x, rfl⟩, kb, ks, e⟩ := q
  refine ⟨x, rfl, ⟨scr.kb kb, (ks t30).1.1⟩, ?_⟩
  refine EV_mono (EV_kb (cc := b) e) (fun v2 h2 q => ?_)
  obtain ⟨kb2, ⟨e1, e2, e3, e4⟩, s', e5, e6⟩ := q
  exact ⟨e1, e2, (scr.kb kb).kb kb2, ⟨s', e5, by omega⟩, by omega, by omega⟩
/-- an int of the script -/
theorem b_rd {k pc p1 p2 p3 p4 p5 i d : Nat} {v : Int} {cd : mC} {lv : mL} {st : List Value} (s : SCR b L xs h) (L3 : L ≤ 3073) (hk : i + k < L) (hl0 : lv[0]? = some (some (.ref b))) (hl3 : lv[3]? = some (some (.int (nI i)))) (c1 : cd pc = some (.aload 0, p1)) (c2 : cd p1 = some (.iload 3, p2)) (c3 : cd p2 = some (.sipush v, p3) ∧ Int32.ofInt v = nI k) (c4 : cd p3 = some (.iadd, p4) ∧ cd p4 = some (.iaload, p5)) (w : WR d cd p5 lv (.int (xs (i + k)) :: st) h Q) : WR d cd pc lv st h Q := by
  refine r_aload c1 hl0 (r_iload c2 hl3 (r_ic c3.1 c3.2 (r_iadd c4.1 ?_)))
  have e : nI i + nI k = nI (i + k) := by
    refine i_inj ?_
    rw [Int32.toInt_add, nI_toInt (by omega), nI_toInt (by omega), nI_toInt (by omega), Int.bmod_eq_of_le (by omega) (by omega)]; omega
  rw [e]
  refine r_iaload c4.2 (.inr s.1.1) (by rw [s.2.1]; exact vp_in_nI hk (by omega)) ?_
  rw [nI_clamp (by omega), s.2.2 _ hk]
  exact w
theorem b_bl {pc p1 p2 p3 p4 p5 d : Nat} {t t2 : Int} {x : Int32} {cd : mC} {lv : mL} {st : List Value} (c1 : cd pc = some (.ifCond .eq t, p1)) (ht : t.toNat = p3) (c2 : cd p1 = some (.sipush 1, p2)) (c3 : cd p2 = some (.goto t2, p5)) (ht2 : t2.toNat = p4) (c4 : cd p3 = some (.sipush 0, p4)) (w : WR d cd p4 lv (.int (if x = 0 then 0 else 1) :: st) h Q) : WR d cd pc lv (.int x :: st) h Q := by
  refine r_if_eq c1 ht (fun q => ?_) (fun q => ?_)
  · rw [if_pos q] at w
    exact r_ic (x := 0) c4 rfl w
  · rw [if_neg q] at w
    exact r_ic (x := 1) c2 rfl (r_goto c3 ht2 w)
theorem lc_0 (li : LI n ad sa z0 b L xs Z U c h) (hi : 1 + 6 * c + 6 ≤ L) (L3 : L ≤ 3073) (nx : ∀ h', LI n ad sa z0 b L xs Z U (c + 1) h' → WR 100 cd_0 1693 [some (.ref b), some (.ref (ad 0)), some (.ref (ad 30)), some (.int (nI (1 + 6 * c)))] [] h' Q) : WR 100 cd_0 208 [some (.ref b), some (.ref (ad 0)), some (.ref (ad 30)), some (.int (nI (1 + 6 * c)))] [] h Q := by
  refine r_aload rfl rfl ?_
  refine b_rd (k := 1) li.2.1 L3 (by omega) rfl rfl rfl rfl ⟨rfl, rfl⟩ ⟨rfl, rfl⟩ ?_
  refine b_rd (k := 2) li.2.1 L3 (by omega) rfl rfl rfl rfl ⟨rfl, rfl⟩ ⟨rfl, rfl⟩ ?_
  refine b_rd (k := 3) li.2.1 L3 (by omega) rfl rfl rfl rfl ⟨rfl, rfl⟩ ⟨rfl, rfl⟩ ?_
  refine r_cv (y := 11) (t := 10) (a := ad 0) (ra := [.int (xs (1 + 6 * c + 3)), .int (xs (1 + 6 * c + 2)), .int (xs (1 + 6 * c + 1))]) (rest := []) rfl ⟨⟨rfl, rfl⟩, rfl, by decide⟩ li.t0 rfl rfl (Nat.le_of_ble_eq_true rfl) ?_
  refine EV_mono (ap_I sh_11 (k_row li.1 (xs (1 + 6 * c + 1)) (xs (1 + 6 * c + 2)) (xs (1 + 6 * c + 3))) (by decide) (by decide) li) (fun v h1 q => ?_)
  obtain ⟨x, rfl, ⟨s1, t1⟩, e⟩ := q
  show WR 100 cd_0 227 _ [.int x] h1 Q
  refine r_aload rfl rfl ?_
  refine b_rd (k := 1) s1 L3 (by omega) rfl rfl rfl rfl ⟨rfl, rfl⟩ ⟨rfl, rfl⟩ ?_
  refine b_rd (k := 2) s1 L3 (by omega) rfl rfl rfl rfl ⟨rfl, rfl⟩ ⟨rfl, rfl⟩ ?_
  refine b_rd (k := 3) s1 L3 (by omega) rfl rfl rfl rfl ⟨rfl, rfl⟩ ⟨rfl, rfl⟩ ?_
  refine r_cv (y := 152) (t := 11) (a := ad 30) (ra := [.int (xs (1 + 6 * c + 3)), .int (xs (1 + 6 * c + 2)), .int (xs (1 + 6 * c + 1))]) (rest := [.int x]) rfl ⟨⟨rfl, rfl⟩, rfl, by decide⟩ t1 rfl rfl (Nat.le_of_ble_eq_true rfl) ?_
  refine EV_mono e (fun v2 h2 q2 => ?_)
  obtain ⟨rfl, li2⟩ := q2
  show WR 100 cd_0 246 _ [.int x, .int x] h2 Q
  exact r_icmp_eq (tg := 1693) rfl rfl (fun _ => nx _ li2) (fun q => absurd rfl q)
theorem lc_1 (li : LI n ad sa z0 b L xs Z U c h) (hi : 1 + 6 * c + 6 ≤ L) (L3 : L ≤ 3073) (nx : ∀ h', LI n ad sa z0 b L xs Z U (c + 1) h' → WR 100 cd_0 1693 [some (.ref b), some (.ref (ad 0)), some (.ref (ad 30)), some (.int (nI (1 + 6 * c)))] [] h' Q) : WR 100 cd_0 251 [some (.ref b), some (.ref (ad 0)), some (.ref (ad 30)), some (.int (nI (1 + 6 * c)))] [] h Q := by
  refine r_aload rfl rfl ?_
  refine b_rd (k := 1) li.2.1 L3 (by omega) rfl rfl rfl rfl ⟨rfl, rfl⟩ ⟨rfl, rfl⟩ ?_
  refine b_rd (k := 2) li.2.1 L3 (by omega) rfl rfl rfl rfl ⟨rfl, rfl⟩ ⟨rfl, rfl⟩ ?_
  refine b_rd (k := 3) li.2.1 L3 (by omega) rfl rfl rfl rfl ⟨rfl, rfl⟩ ⟨rfl, rfl⟩ ?_
  refine r_cv (y := 17) (t := 10) (a := ad 0) (ra := [.int (xs (1 + 6 * c + 3)), .int (xs (1 + 6 * c + 2)), .int (xs (1 + 6 * c + 1))]) (rest := []) rfl ⟨⟨rfl, rfl⟩, rfl, by decide⟩ li.t0 rfl rfl (Nat.le_of_ble_eq_true rfl) ?_
  refine EV_mono (ap_I sh_17 (k_grid li.1 (xs (1 + 6 * c + 1)) (xs (1 + 6 * c + 2)) (xs (1 + 6 * c + 3))) (by decide) (by decide) li) (fun v h1 q => ?_)
  obtain ⟨x, rfl, ⟨s1, t1⟩, e⟩ := q
  show WR 100 cd_0 270 _ [.int x] h1 Q
  refine r_aload rfl rfl ?_
  refine b_rd (k := 1) s1 L3 (by omega) rfl rfl rfl rfl ⟨rfl, rfl⟩ ⟨rfl, rfl⟩ ?_
  refine b_rd (k := 2) s1 L3 (by omega) rfl rfl rfl rfl ⟨rfl, rfl⟩ ⟨rfl, rfl⟩ ?_
  refine b_rd (k := 3) s1 L3 (by omega) rfl rfl rfl rfl ⟨rfl, rfl⟩ ⟨rfl, rfl⟩ ?_
  refine r_cv (y := 160) (t := 11) (a := ad 30) (ra := [.int (xs (1 + 6 * c + 3)), .int (xs (1 + 6 * c + 2)), .int (xs (1 + 6 * c + 1))]) (rest := [.int x]) rfl ⟨⟨rfl, rfl⟩, rfl, by decide⟩ t1 rfl rfl (Nat.le_of_ble_eq_true rfl) ?_
  refine EV_mono e (fun v2 h2 q2 => ?_)
  obtain ⟨rfl, li2⟩ := q2
  show WR 100 cd_0 289 _ [.int x, .int x] h2 Q
  exact r_icmp_eq (tg := 1693) rfl rfl (fun _ => nx _ li2) (fun q => absurd rfl q)
theorem lc_2 (li : LI n ad sa z0 b L xs Z U c h) (hi : 1 + 6 * c + 6 ≤ L) (L3 : L ≤ 3073) (nx : ∀ h', LI n ad sa z0 b L xs Z U (c + 1) h' → WR 100 cd_0 1693 [some (.ref b), some (.ref (ad 0)), some (.ref (ad 30)), some (.int (nI (1 + 6 * c)))] [] h' Q) : WR 100 cd_0 294 [some (.ref b), some (.ref (ad 0)), some (.ref (ad 30)), some (.int (nI (1 + 6 * c)))] [] h Q := by
  refine r_aload rfl rfl ?_
  refine b_rd (k := 1) li.2.1 L3 (by omega) rfl rfl rfl rfl ⟨rfl, rfl⟩ ⟨rfl, rfl⟩ ?_
  refine b_rd (k := 2) li.2.1 L3 (by omega) rfl rfl rfl rfl ⟨rfl, rfl⟩ ⟨rfl, rfl⟩ ?_
  refine b_rd (k := 3) li.2.1 L3 (by omega) rfl rfl rfl rfl ⟨rfl, rfl⟩ ⟨rfl, rfl⟩ ?_
  refine r_cv (y := 19) (t := 10) (a := ad 0) (ra := [.int (xs (1 + 6 * c + 3)), .int (xs (1 + 6 * c + 2)), .int (xs (1 + 6 * c + 1))]) (rest := []) rfl ⟨⟨rfl, rfl⟩, rfl, by decide⟩ li.t0 rfl rfl (Nat.le_of_ble_eq_true rfl) ?_
  refine EV_mono (ap_I sh_19 (k_cradle li.1 (xs (1 + 6 * c + 1)) (xs (1 + 6 * c + 2)) (xs (1 + 6 * c + 3))) (by decide) (by decide) li) (fun v h1 q => ?_)
  obtain ⟨x, rfl, ⟨s1, t1⟩, e⟩ := q
  show WR 100 cd_0 313 _ [.int x] h1 Q
  refine r_aload rfl rfl ?_
  refine b_rd (k := 1) s1 L3 (by omega) rfl rfl rfl rfl ⟨rfl, rfl⟩ ⟨rfl, rfl⟩ ?_
  refine b_rd (k := 2) s1 L3 (by omega) rfl rfl rfl rfl ⟨rfl, rfl⟩ ⟨rfl, rfl⟩ ?_
  refine b_rd (k := 3) s1 L3 (by omega) rfl rfl rfl rfl ⟨rfl, rfl⟩ ⟨rfl, rfl⟩ ?_
  refine r_cv (y := 161) (t := 11) (a := ad 30) (ra := [.int (xs (1 + 6 * c + 3)), .int (xs (1 + 6 * c + 2)), .int (xs (1 + 6 * c + 1))]) (rest := [.int x]) rfl ⟨⟨rfl, rfl⟩, rfl, by decide⟩ t1 rfl rfl (Nat.le_of_ble_eq_true rfl) ?_
  refine EV_mono e (fun v2 h2 q2 => ?_)
  obtain ⟨rfl, li2⟩ := q2
  show WR 100 cd_0 332 _ [.int x, .int x] h2 Q
  exact r_icmp_eq (tg := 1693) rfl rfl (fun _ => nx _ li2) (fun q => absurd rfl q)
theorem lc_3 (li : LI n ad sa z0 b L xs Z U c h) (hi : 1 + 6 * c + 6 ≤ L) (L3 : L ≤ 3073) (nx : ∀ h', LI n ad sa z0 b L xs Z U (c + 1) h' → WR 100 cd_0 1693 [some (.ref b), some (.ref (ad 0)), some (.ref (ad 30)), some (.int (nI (1 + 6 * c)))] [] h' Q) : WR 100 cd_0 337 [some (.ref b), some (.ref (ad 0)), some (.ref (ad 30)), some (.int (nI (1 + 6 * c)))] [] h Q := by
  refine r_aload rfl rfl ?_
  refine b_rd (k := 1) li.2.1 L3 (by omega) rfl rfl rfl rfl ⟨rfl, rfl⟩ ⟨rfl, rfl⟩ ?_
  refine b_rd (k := 2) li.2.1 L3 (by omega) rfl rfl rfl rfl ⟨rfl, rfl⟩ ⟨rfl, rfl⟩ ?_
  refine r_cv (y := 21) (t := 10) (a := ad 0) (ra := [.int (xs (1 + 6 * c + 2)), .int (xs (1 + 6 * c + 1))]) (rest := []) rfl ⟨⟨rfl, rfl⟩, rfl, by decide⟩ li.t0 rfl rfl (Nat.le_of_ble_eq_true rfl) ?_
  refine EV_mono (ap_I sh_21 (k_part li.1 (xs (1 + 6 * c + 1)) (xs (1 + 6 * c + 2))) (by decide) (by decide) li) (fun v h1 q => ?_)
  obtain ⟨x, rfl, ⟨s1, t1⟩, e⟩ := q
  show WR 100 cd_0 351 _ [.int x] h1 Q
  refine r_aload rfl rfl ?_
  refine b_rd (k := 1) s1 L3 (by omega) rfl rfl rfl rfl ⟨rfl, rfl⟩ ⟨rfl, rfl⟩ ?_
  refine b_rd (k := 2) s1 L3 (by omega) rfl rfl rfl rfl ⟨rfl, rfl⟩ ⟨rfl, rfl⟩ ?_
  refine r_cv (y := 162) (t := 11) (a := ad 30) (ra := [.int (xs (1 + 6 * c + 2)), .int (xs (1 + 6 * c + 1))]) (rest := [.int x]) rfl ⟨⟨rfl, rfl⟩, rfl, by decide⟩ t1 rfl rfl (Nat.le_of_ble_eq_true rfl) ?_
  refine EV_mono e (fun v2 h2 q2 => ?_)
  obtain ⟨rfl, li2⟩ := q2
  show WR 100 cd_0 365 _ [.int x, .int x] h2 Q
  exact r_icmp_eq (tg := 1693) rfl rfl (fun _ => nx _ li2) (fun q => absurd rfl q)
theorem lc_4 (li : LI n ad sa z0 b L xs Z U c h) (hi : 1 + 6 * c + 6 ≤ L) (L3 : L ≤ 3073) (nx : ∀ h', LI n ad sa z0 b L xs Z U (c + 1) h' → WR 100 cd_0 1693 [some (.ref b), some (.ref (ad 0)), some (.ref (ad 30)), some (.int (nI (1 + 6 * c)))] [] h' Q) : WR 100 cd_0 370 [some (.ref b), some (.ref (ad 0)), some (.ref (ad 30)), some (.int (nI (1 + 6 * c)))] [] h Q := by
  refine r_aload rfl rfl ?_
  refine b_rd (k := 1) li.2.1 L3 (by omega) rfl rfl rfl rfl ⟨rfl, rfl⟩ ⟨rfl, rfl⟩ ?_
  refine b_rd (k := 2) li.2.1 L3 (by omega) rfl rfl rfl rfl ⟨rfl, rfl⟩ ⟨rfl, rfl⟩ ?_
  refine r_cv (y := 23) (t := 10) (a := ad 0) (ra := [.int (xs (1 + 6 * c + 2)), .int (xs (1 + 6 * c + 1))]) (rest := []) rfl ⟨⟨rfl, rfl⟩, rfl, by decide⟩ li.t0 rfl rfl (Nat.le_of_ble_eq_true rfl) ?_
  refine EV_mono (ap_I sh_23 (k_set li.1 (xs (1 + 6 * c + 1)) (xs (1 + 6 * c + 2))) (by decide) (by decide) li) (fun v h1 q => ?_)
  obtain ⟨x, rfl, ⟨s1, t1⟩, e⟩ := q
  show WR 100 cd_0 384 _ [.int x] h1 Q
  refine r_aload rfl rfl ?_
  refine b_rd (k := 1) s1 L3 (by omega) rfl rfl rfl rfl ⟨rfl, rfl⟩ ⟨rfl, rfl⟩ ?_
  refine b_rd (k := 2) s1 L3 (by omega) rfl rfl rfl rfl ⟨rfl, rfl⟩ ⟨rfl, rfl⟩ ?_
  refine r_cv (y := 163) (t := 11) (a := ad 30) (ra := [.int (xs (1 + 6 * c + 2)), .int (xs (1 + 6 * c + 1))]) (rest := [.int x]) rfl ⟨⟨rfl, rfl⟩, rfl, by decide⟩ t1 rfl rfl (Nat.le_of_ble_eq_true rfl) ?_
  refine EV_mono e (fun v2 h2 q2 => ?_)
  obtain ⟨rfl, li2⟩ := q2
  show WR 100 cd_0 398 _ [.int x, .int x] h2 Q
  exact r_icmp_eq (tg := 1693) rfl rfl (fun _ => nx _ li2) (fun q => absurd rfl q)
theorem lc_5 (li : LI n ad sa z0 b L xs Z U c h) (hi : 1 + 6 * c + 6 ≤ L) (L3 : L ≤ 3073) (nx : ∀ h', LI n ad sa z0 b L xs Z U (c + 1) h' → WR 100 cd_0 1693 [some (.ref b), some (.ref (ad 0)), some (.ref (ad 30)), some (.int (nI (1 + 6 * c)))] [] h' Q) : WR 100 cd_0 403 [some (.ref b), some (.ref (ad 0)), some (.ref (ad 30)), some (.int (nI (1 + 6 * c)))] [] h Q := by
  refine r_aload rfl rfl ?_
  refine b_rd (k := 1) li.2.1 L3 (by omega) rfl rfl rfl rfl ⟨rfl, rfl⟩ ⟨rfl, rfl⟩ ?_
  refine r_cv (y := 24) (t := 10) (a := ad 0) (ra := [.int (xs (1 + 6 * c + 1))]) (rest := []) rfl ⟨⟨rfl, rfl⟩, rfl, by decide⟩ li.t0 rfl rfl (Nat.le_of_ble_eq_true rfl) ?_
  refine EV_mono (ap_I sh_24 (k_clear li.1 (xs (1 + 6 * c + 1))) (by decide) (by decide) li) (fun v h1 q => ?_)
  obtain ⟨x, rfl, ⟨s1, t1⟩, e⟩ := q
  show WR 100 cd_0 412 _ [.int x] h1 Q
  refine r_aload rfl rfl ?_
  refine b_rd (k := 1) s1 L3 (by omega) rfl rfl rfl rfl ⟨rfl, rfl⟩ ⟨rfl, rfl⟩ ?_
  refine r_cv (y := 164) (t := 11) (a := ad 30) (ra := [.int (xs (1 + 6 * c + 1))]) (rest := [.int x]) rfl ⟨⟨rfl, rfl⟩, rfl, by decide⟩ t1 rfl rfl (Nat.le_of_ble_eq_true rfl) ?_
  refine EV_mono e (fun v2 h2 q2 => ?_)
  obtain ⟨rfl, li2⟩ := q2
  show WR 100 cd_0 421 _ [.int x, .int x] h2 Q
  exact r_icmp_eq (tg := 1693) rfl rfl (fun _ => nx _ li2) (fun q => absurd rfl q)
theorem lc_6 (li : LI n ad sa z0 b L xs Z U c h) (hi : 1 + 6 * c + 6 ≤ L) (L3 : L ≤ 3073) (nx : ∀ h', LI n ad sa z0 b L xs Z U (c + 1) h' → WR 100 cd_0 1693 [some (.ref b), some (.ref (ad 0)), some (.ref (ad 30)), some (.int (nI (1 + 6 * c)))] [] h' Q) : WR 100 cd_0 426 [some (.ref b), some (.ref (ad 0)), some (.ref (ad 30)), some (.int (nI (1 + 6 * c)))] [] h Q := by
  refine r_aload rfl rfl ?_
  refine b_rd (k := 1) li.2.1 L3 (by omega) rfl rfl rfl rfl ⟨rfl, rfl⟩ ⟨rfl, rfl⟩ ?_
  refine r_cv (y := 25) (t := 10) (a := ad 0) (ra := [.int (xs (1 + 6 * c + 1))]) (rest := []) rfl ⟨⟨rfl, rfl⟩, rfl, by decide⟩ li.t0 rfl rfl (Nat.le_of_ble_eq_true rfl) ?_
  refine EV_mono (ap_I sh_25 (k_holds li.1 (xs (1 + 6 * c + 1))) (by decide) (by decide) li) (fun v h1 q => ?_)
  obtain ⟨x, rfl, ⟨s1, t1⟩, e⟩ := q
  show WR 100 cd_0 435 _ [.int x] h1 Q
  refine r_aload rfl rfl ?_
  refine b_rd (k := 1) s1 L3 (by omega) rfl rfl rfl rfl ⟨rfl, rfl⟩ ⟨rfl, rfl⟩ ?_
  refine r_cv (y := 165) (t := 11) (a := ad 30) (ra := [.int (xs (1 + 6 * c + 1))]) (rest := [.int x]) rfl ⟨⟨rfl, rfl⟩, rfl, by decide⟩ t1 rfl rfl (Nat.le_of_ble_eq_true rfl) ?_
  refine EV_mono e (fun v2 h2 q2 => ?_)
  obtain ⟨rfl, li2⟩ := q2
  show WR 100 cd_0 444 _ [.int x, .int x] h2 Q
  exact r_icmp_eq (tg := 1693) rfl rfl (fun _ => nx _ li2) (fun q => absurd rfl q)
theorem lc_7 (li : LI n ad sa z0 b L xs Z U c h) (hi : 1 + 6 * c + 6 ≤ L) (L3 : L ≤ 3073) (nx : ∀ h', LI n ad sa z0 b L xs Z U (c + 1) h' → WR 100 cd_0 1693 [some (.ref b), some (.ref (ad 0)), some (.ref (ad 30)), some (.int (nI (1 + 6 * c)))] [] h' Q) : WR 100 cd_0 449 [some (.ref b), some (.ref (ad 0)), some (.ref (ad 30)), some (.int (nI (1 + 6 * c)))] [] h Q := by
  refine r_aload rfl rfl ?_
  refine b_rd (k := 1) li.2.1 L3 (by omega) rfl rfl rfl rfl ⟨rfl, rfl⟩ ⟨rfl, rfl⟩ ?_
  refine b_rd (k := 2) li.2.1 L3 (by omega) rfl rfl rfl rfl ⟨rfl, rfl⟩ ⟨rfl, rfl⟩ ?_
  refine b_rd (k := 3) li.2.1 L3 (by omega) rfl rfl rfl rfl ⟨rfl, rfl⟩ ⟨rfl, rfl⟩ ?_
  refine b_rd (k := 4) li.2.1 L3 (by omega) rfl rfl rfl rfl ⟨rfl, rfl⟩ ⟨rfl, rfl⟩ ?_
  refine r_i2l rfl ?_
  refine r_ic (x := 32) rfl rfl ?_
  refine r_lshl rfl ?_
  refine b_rd (k := 5) li.2.1 L3 (by omega) rfl rfl rfl rfl ⟨rfl, rfl⟩ ⟨rfl, rfl⟩ ?_
  refine r_i2l rfl ?_
  refine r_ldc (x := .long 4294967295) rfl rfl ?_
  refine r_land rfl ?_
  refine r_lor rfl ?_
  refine r_cv (y := 29) (t := 10) (a := ad 0) (ra := [.long ((xs (1 + 6 * c + 4)).toInt64 <<< ((32 : Int32).toInt64 &&& 63) ||| (xs (1 + 6 * c + 5)).toInt64 &&& 4294967295), .int (xs (1 + 6 * c + 3)), .int (xs (1 + 6 * c + 2)), .int (xs (1 + 6 * c + 1))]) (rest := []) rfl ⟨⟨rfl, rfl⟩, rfl, by decide⟩ li.t0 rfl rfl (Nat.le_of_ble_eq_true rfl) ?_
  refine EV_mono (ap_I sh_29 (k_put li.1 (xs (1 + 6 * c + 1)) (xs (1 + 6 * c + 2)) (xs (1 + 6 * c + 3)) ((xs (1 + 6 * c + 4)).toInt64 <<< ((32 : Int32).toInt64 &&& 63) ||| (xs (1 + 6 * c + 5)).toInt64 &&& 4294967295)) (by decide) (by decide) li) (fun v h1 q => ?_)
  obtain ⟨x, rfl, ⟨s1, t1⟩, e⟩ := q
  show WR 100 cd_0 488 _ [.int x] h1 Q
  refine r_aload rfl rfl ?_
  refine b_rd (k := 1) s1 L3 (by omega) rfl rfl rfl rfl ⟨rfl, rfl⟩ ⟨rfl, rfl⟩ ?_
  refine b_rd (k := 2) s1 L3 (by omega) rfl rfl rfl rfl ⟨rfl, rfl⟩ ⟨rfl, rfl⟩ ?_
  refine b_rd (k := 3) s1 L3 (by omega) rfl rfl rfl rfl ⟨rfl, rfl⟩ ⟨rfl, rfl⟩ ?_
  refine b_rd (k := 4) s1 L3 (by omega) rfl rfl rfl rfl ⟨rfl, rfl⟩ ⟨rfl, rfl⟩ ?_
  refine r_i2l rfl ?_
  refine r_ic (x := 32) rfl rfl ?_
  refine r_lshl rfl ?_
  refine b_rd (k := 5) s1 L3 (by omega) rfl rfl rfl rfl ⟨rfl, rfl⟩ ⟨rfl, rfl⟩ ?_
  refine r_i2l rfl ?_
  refine r_ldc (x := .long 4294967295) rfl rfl ?_
  refine r_land rfl ?_
  refine r_lor rfl ?_
  refine r_cv (y := 167) (t := 11) (a := ad 30) (ra := [.long ((xs (1 + 6 * c + 4)).toInt64 <<< ((32 : Int32).toInt64 &&& 63) ||| (xs (1 + 6 * c + 5)).toInt64 &&& 4294967295), .int (xs (1 + 6 * c + 3)), .int (xs (1 + 6 * c + 2)), .int (xs (1 + 6 * c + 1))]) (rest := [.int x]) rfl ⟨⟨rfl, rfl⟩, rfl, by decide⟩ t1 rfl rfl (Nat.le_of_ble_eq_true rfl) ?_
  refine EV_mono e (fun v2 h2 q2 => ?_)
  obtain ⟨rfl, li2⟩ := q2
  show WR 100 cd_0 527 _ [.int x, .int x] h2 Q
  exact r_icmp_eq (tg := 1693) rfl rfl (fun _ => nx _ li2) (fun q => absurd rfl q)
theorem lc_8 (li : LI n ad sa z0 b L xs Z U c h) (hi : 1 + 6 * c + 6 ≤ L) (L3 : L ≤ 3073) (nx : ∀ h', LI n ad sa z0 b L xs Z U (c + 1) h' → WR 100 cd_0 1693 [some (.ref b), some (.ref (ad 0)), some (.ref (ad 30)), some (.int (nI (1 + 6 * c)))] [] h' Q) : WR 100 cd_0 532 [some (.ref b), some (.ref (ad 0)), some (.ref (ad 30)), some (.int (nI (1 + 6 * c)))] [] h Q := by
  refine r_aload rfl rfl ?_
  refine b_rd (k := 1) li.2.1 L3 (by omega) rfl rfl rfl rfl ⟨rfl, rfl⟩ ⟨rfl, rfl⟩ ?_
  refine b_rd (k := 2) li.2.1 L3 (by omega) rfl rfl rfl rfl ⟨rfl, rfl⟩ ⟨rfl, rfl⟩ ?_
  refine b_rd (k := 3) li.2.1 L3 (by omega) rfl rfl rfl rfl ⟨rfl, rfl⟩ ⟨rfl, rfl⟩ ?_
  refine r_cv (y := 40) (t := 10) (a := ad 0) (ra := [.int (xs (1 + 6 * c + 3)), .int (xs (1 + 6 * c + 2)), .int (xs (1 + 6 * c + 1))]) (rest := []) rfl ⟨⟨rfl, rfl⟩, rfl, by decide⟩ li.t0 rfl rfl (Nat.le_of_ble_eq_true rfl) ?_
  refine EV_mono (ap_L sh_40 (k_get li.1 (xs (1 + 6 * c + 1)) (xs (1 + 6 * c + 2)) (xs (1 + 6 * c + 3))) (by decide) (by decide) li) (fun v h1 q => ?_)
  obtain ⟨x, rfl, ⟨s1, t1⟩, e⟩ := q
  show WR 100 cd_0 551 _ [.long x] h1 Q
  refine r_aload rfl rfl ?_
  refine b_rd (k := 1) s1 L3 (by omega) rfl rfl rfl rfl ⟨rfl, rfl⟩ ⟨rfl, rfl⟩ ?_
  refine b_rd (k := 2) s1 L3 (by omega) rfl rfl rfl rfl ⟨rfl, rfl⟩ ⟨rfl, rfl⟩ ?_
  refine b_rd (k := 3) s1 L3 (by omega) rfl rfl rfl rfl ⟨rfl, rfl⟩ ⟨rfl, rfl⟩ ?_
  refine r_cv (y := 170) (t := 11) (a := ad 30) (ra := [.int (xs (1 + 6 * c + 3)), .int (xs (1 + 6 * c + 2)), .int (xs (1 + 6 * c + 1))]) (rest := [.long x]) rfl ⟨⟨rfl, rfl⟩, rfl, by decide⟩ t1 rfl rfl (Nat.le_of_ble_eq_true rfl) ?_
  refine EV_mono e (fun v2 h2 q2 => ?_)
  obtain ⟨rfl, li2⟩ := q2
  show WR 100 cd_0 570 _ [.long x, .long x] h2 Q
  refine r_lcmp rfl ?_
  rw [lg_self]
  exact r_if_eq (tg := 1693) rfl rfl (fun _ => nx _ li2) (fun q => absurd rfl q)
theorem lc_9 (li : LI n ad sa z0 b L xs Z U c h) (hi : 1 + 6 * c + 6 ≤ L) (L3 : L ≤ 3073) (nx : ∀ h', LI n ad sa z0 b L xs Z U (c + 1) h' → WR 100 cd_0 1693 [some (.ref b), some (.ref (ad 0)), some (.ref (ad 30)), some (.int (nI (1 + 6 * c)))] [] h' Q) : WR 100 cd_0 576 [some (.ref b), some (.ref (ad 0)), some (.ref (ad 30)), some (.int (nI (1 + 6 * c)))] [] h Q := by
  refine r_aload rfl rfl ?_
  refine b_rd (k := 1) li.2.1 L3 (by omega) rfl rfl rfl rfl ⟨rfl, rfl⟩ ⟨rfl, rfl⟩ ?_
  refine b_rd (k := 2) li.2.1 L3 (by omega) rfl rfl rfl rfl ⟨rfl, rfl⟩ ⟨rfl, rfl⟩ ?_
  refine b_rd (k := 3) li.2.1 L3 (by omega) rfl rfl rfl rfl ⟨rfl, rfl⟩ ⟨rfl, rfl⟩ ?_
  refine b_rd (k := 4) li.2.1 L3 (by omega) rfl rfl rfl rfl ⟨rfl, rfl⟩ ⟨rfl, rfl⟩ ?_
  refine r_cv (y := 41) (t := 10) (a := ad 0) (ra := [.int (xs (1 + 6 * c + 4)), .int (xs (1 + 6 * c + 3)), .int (xs (1 + 6 * c + 2)), .int (xs (1 + 6 * c + 1))]) (rest := []) rfl ⟨⟨rfl, rfl⟩, rfl, by decide⟩ li.t0 rfl rfl (Nat.le_of_ble_eq_true rfl) ?_
  refine EV_mono (ap_I sh_41 (k_putAt li.1 (xs (1 + 6 * c + 1)) (xs (1 + 6 * c + 2)) (xs (1 + 6 * c + 3)) (xs (1 + 6 * c + 4))) (by decide) (by decide) li) (fun v h1 q => ?_)
  obtain ⟨x, rfl, ⟨s1, t1⟩, e⟩ := q
  show WR 100 cd_0 600 _ [.int x] h1 Q
  refine r_aload rfl rfl ?_
  refine b_rd (k := 1) s1 L3 (by omega) rfl rfl rfl rfl ⟨rfl, rfl⟩ ⟨rfl, rfl⟩ ?_
  refine b_rd (k := 2) s1 L3 (by omega) rfl rfl rfl rfl ⟨rfl, rfl⟩ ⟨rfl, rfl⟩ ?_
  refine b_rd (k := 3) s1 L3 (by omega) rfl rfl rfl rfl ⟨rfl, rfl⟩ ⟨rfl, rfl⟩ ?_
  refine b_rd (k := 4) s1 L3 (by omega) rfl rfl rfl rfl ⟨rfl, rfl⟩ ⟨rfl, rfl⟩ ?_
  refine r_cv (y := 172) (t := 11) (a := ad 30) (ra := [.int (xs (1 + 6 * c + 4)), .int (xs (1 + 6 * c + 3)), .int (xs (1 + 6 * c + 2)), .int (xs (1 + 6 * c + 1))]) (rest := [.int x]) rfl ⟨⟨rfl, rfl⟩, rfl, by decide⟩ t1 rfl rfl (Nat.le_of_ble_eq_true rfl) ?_
  refine EV_mono e (fun v2 h2 q2 => ?_)
  obtain ⟨rfl, li2⟩ := q2
  show WR 100 cd_0 624 _ [.int x, .int x] h2 Q
  exact r_icmp_eq (tg := 1693) rfl rfl (fun _ => nx _ li2) (fun q => absurd rfl q)
theorem lc_10 (li : LI n ad sa z0 b L xs Z U c h) (hi : 1 + 6 * c + 6 ≤ L) (L3 : L ≤ 3073) (nx : ∀ h', LI n ad sa z0 b L xs Z U (c + 1) h' → WR 100 cd_0 1693 [some (.ref b), some (.ref (ad 0)), some (.ref (ad 30)), some (.int (nI (1 + 6 * c)))] [] h' Q) : WR 100 cd_0 629 [some (.ref b), some (.ref (ad 0)), some (.ref (ad 30)), some (.int (nI (1 + 6 * c)))] [] h Q := by
  refine r_aload rfl rfl ?_
  refine b_rd (k := 1) li.2.1 L3 (by omega) rfl rfl rfl rfl ⟨rfl, rfl⟩ ⟨rfl, rfl⟩ ?_
  refine b_rd (k := 2) li.2.1 L3 (by omega) rfl rfl rfl rfl ⟨rfl, rfl⟩ ⟨rfl, rfl⟩ ?_
  refine b_rd (k := 3) li.2.1 L3 (by omega) rfl rfl rfl rfl ⟨rfl, rfl⟩ ⟨rfl, rfl⟩ ?_
  refine r_cv (y := 44) (t := 10) (a := ad 0) (ra := [.int (xs (1 + 6 * c + 3)), .int (xs (1 + 6 * c + 2)), .int (xs (1 + 6 * c + 1))]) (rest := []) rfl ⟨⟨rfl, rfl⟩, rfl, by decide⟩ li.t0 rfl rfl (Nat.le_of_ble_eq_true rfl) ?_
  refine EV_mono (ap_I sh_44 (k_getAt li.1 (xs (1 + 6 * c + 1)) (xs (1 + 6 * c + 2)) (xs (1 + 6 * c + 3))) (by decide) (by decide) li) (fun v h1 q => ?_)
  obtain ⟨x, rfl, ⟨s1, t1⟩, e⟩ := q
  show WR 100 cd_0 648 _ [.int x] h1 Q
  refine r_aload rfl rfl ?_
  refine b_rd (k := 1) s1 L3 (by omega) rfl rfl rfl rfl ⟨rfl, rfl⟩ ⟨rfl, rfl⟩ ?_
  refine b_rd (k := 2) s1 L3 (by omega) rfl rfl rfl rfl ⟨rfl, rfl⟩ ⟨rfl, rfl⟩ ?_
  refine b_rd (k := 3) s1 L3 (by omega) rfl rfl rfl rfl ⟨rfl, rfl⟩ ⟨rfl, rfl⟩ ?_
  refine r_cv (y := 174) (t := 11) (a := ad 30) (ra := [.int (xs (1 + 6 * c + 3)), .int (xs (1 + 6 * c + 2)), .int (xs (1 + 6 * c + 1))]) (rest := [.int x]) rfl ⟨⟨rfl, rfl⟩, rfl, by decide⟩ t1 rfl rfl (Nat.le_of_ble_eq_true rfl) ?_
  refine EV_mono e (fun v2 h2 q2 => ?_)
  obtain ⟨rfl, li2⟩ := q2
  show WR 100 cd_0 667 _ [.int x, .int x] h2 Q
  exact r_icmp_eq (tg := 1693) rfl rfl (fun _ => nx _ li2) (fun q => absurd rfl q)
theorem lc_11 (li : LI n ad sa z0 b L xs Z U c h) (hi : 1 + 6 * c + 6 ≤ L) (L3 : L ≤ 3073) (nx : ∀ h', LI n ad sa z0 b L xs Z U (c + 1) h' → WR 100 cd_0 1693 [some (.ref b), some (.ref (ad 0)), some (.ref (ad 30)), some (.int (nI (1 + 6 * c)))] [] h' Q) : WR 100 cd_0 672 [some (.ref b), some (.ref (ad 0)), some (.ref (ad 30)), some (.int (nI (1 + 6 * c)))] [] h Q := by
  refine r_aload rfl rfl ?_
  refine b_rd (k := 1) li.2.1 L3 (by omega) rfl rfl rfl rfl ⟨rfl, rfl⟩ ⟨rfl, rfl⟩ ?_
  refine b_rd (k := 2) li.2.1 L3 (by omega) rfl rfl rfl rfl ⟨rfl, rfl⟩ ⟨rfl, rfl⟩ ?_
  refine b_rd (k := 3) li.2.1 L3 (by omega) rfl rfl rfl rfl ⟨rfl, rfl⟩ ⟨rfl, rfl⟩ ?_
  refine r_cv (y := 45) (t := 10) (a := ad 0) (ra := [.int (xs (1 + 6 * c + 3)), .int (xs (1 + 6 * c + 2)), .int (xs (1 + 6 * c + 1))]) (rest := []) rfl ⟨⟨rfl, rfl⟩, rfl, by decide⟩ li.t0 rfl rfl (Nat.le_of_ble_eq_true rfl) ?_
  refine EV_mono (ap_I sh_45 (k_link li.1 (xs (1 + 6 * c + 1)) (xs (1 + 6 * c + 2)) (xs (1 + 6 * c + 3))) (by decide) (by decide) li) (fun v h1 q => ?_)
  obtain ⟨x, rfl, ⟨s1, t1⟩, e⟩ := q
  show WR 100 cd_0 691 _ [.int x] h1 Q
  refine r_aload rfl rfl ?_
  refine b_rd (k := 1) s1 L3 (by omega) rfl rfl rfl rfl ⟨rfl, rfl⟩ ⟨rfl, rfl⟩ ?_
  refine b_rd (k := 2) s1 L3 (by omega) rfl rfl rfl rfl ⟨rfl, rfl⟩ ⟨rfl, rfl⟩ ?_
  refine b_rd (k := 3) s1 L3 (by omega) rfl rfl rfl rfl ⟨rfl, rfl⟩ ⟨rfl, rfl⟩ ?_
  refine r_cv (y := 175) (t := 11) (a := ad 30) (ra := [.int (xs (1 + 6 * c + 3)), .int (xs (1 + 6 * c + 2)), .int (xs (1 + 6 * c + 1))]) (rest := [.int x]) rfl ⟨⟨rfl, rfl⟩, rfl, by decide⟩ t1 rfl rfl (Nat.le_of_ble_eq_true rfl) ?_
  refine EV_mono e (fun v2 h2 q2 => ?_)
  obtain ⟨rfl, li2⟩ := q2
  show WR 100 cd_0 710 _ [.int x, .int x] h2 Q
  exact r_icmp_eq (tg := 1693) rfl rfl (fun _ => nx _ li2) (fun q => absurd rfl q)
theorem lc_12 (li : LI n ad sa z0 b L xs Z U c h) (hi : 1 + 6 * c + 6 ≤ L) (L3 : L ≤ 3073) (nx : ∀ h', LI n ad sa z0 b L xs Z U (c + 1) h' → WR 100 cd_0 1693 [some (.ref b), some (.ref (ad 0)), some (.ref (ad 30)), some (.int (nI (1 + 6 * c)))] [] h' Q) : WR 100 cd_0 715 [some (.ref b), some (.ref (ad 0)), some (.ref (ad 30)), some (.int (nI (1 + 6 * c)))] [] h Q := by
  refine r_aload rfl rfl ?_
  refine b_rd (k := 1) li.2.1 L3 (by omega) rfl rfl rfl rfl ⟨rfl, rfl⟩ ⟨rfl, rfl⟩ ?_
  refine b_rd (k := 2) li.2.1 L3 (by omega) rfl rfl rfl rfl ⟨rfl, rfl⟩ ⟨rfl, rfl⟩ ?_
  refine b_rd (k := 3) li.2.1 L3 (by omega) rfl rfl rfl rfl ⟨rfl, rfl⟩ ⟨rfl, rfl⟩ ?_
  refine r_cv (y := 49) (t := 10) (a := ad 0) (ra := [.int (xs (1 + 6 * c + 3)), .int (xs (1 + 6 * c + 2)), .int (xs (1 + 6 * c + 1))]) (rest := []) rfl ⟨⟨rfl, rfl⟩, rfl, by decide⟩ li.t0 rfl rfl (Nat.le_of_ble_eq_true rfl) ?_
  refine EV_mono (ap_I sh_49 (k_lay li.1 (xs (1 + 6 * c + 1)) (xs (1 + 6 * c + 2)) (xs (1 + 6 * c + 3))) (by decide) (by decide) li) (fun v h1 q => ?_)
  obtain ⟨x, rfl, ⟨s1, t1⟩, e⟩ := q
  show WR 100 cd_0 734 _ [.int x] h1 Q
  refine r_aload rfl rfl ?_
  refine b_rd (k := 1) s1 L3 (by omega) rfl rfl rfl rfl ⟨rfl, rfl⟩ ⟨rfl, rfl⟩ ?_
  refine b_rd (k := 2) s1 L3 (by omega) rfl rfl rfl rfl ⟨rfl, rfl⟩ ⟨rfl, rfl⟩ ?_
  refine b_rd (k := 3) s1 L3 (by omega) rfl rfl rfl rfl ⟨rfl, rfl⟩ ⟨rfl, rfl⟩ ?_
  refine r_cv (y := 176) (t := 11) (a := ad 30) (ra := [.int (xs (1 + 6 * c + 3)), .int (xs (1 + 6 * c + 2)), .int (xs (1 + 6 * c + 1))]) (rest := [.int x]) rfl ⟨⟨rfl, rfl⟩, rfl, by decide⟩ t1 rfl rfl (Nat.le_of_ble_eq_true rfl) ?_
  refine EV_mono e (fun v2 h2 q2 => ?_)
  obtain ⟨rfl, li2⟩ := q2
  show WR 100 cd_0 753 _ [.int x, .int x] h2 Q
  exact r_icmp_eq (tg := 1693) rfl rfl (fun _ => nx _ li2) (fun q => absurd rfl q)
theorem lc_13 (li : LI n ad sa z0 b L xs Z U c h) (hi : 1 + 6 * c + 6 ≤ L) (L3 : L ≤ 3073) (nx : ∀ h', LI n ad sa z0 b L xs Z U (c + 1) h' → WR 100 cd_0 1693 [some (.ref b), some (.ref (ad 0)), some (.ref (ad 30)), some (.int (nI (1 + 6 * c)))] [] h' Q) : WR 100 cd_0 758 [some (.ref b), some (.ref (ad 0)), some (.ref (ad 30)), some (.int (nI (1 + 6 * c)))] [] h Q := by
  refine r_aload rfl rfl ?_
  refine b_rd (k := 1) li.2.1 L3 (by omega) rfl rfl rfl rfl ⟨rfl, rfl⟩ ⟨rfl, rfl⟩ ?_
  refine b_rd (k := 2) li.2.1 L3 (by omega) rfl rfl rfl rfl ⟨rfl, rfl⟩ ⟨rfl, rfl⟩ ?_
  refine b_rd (k := 3) li.2.1 L3 (by omega) rfl rfl rfl rfl ⟨rfl, rfl⟩ ⟨rfl, rfl⟩ ?_
  refine b_rd (k := 4) li.2.1 L3 (by omega) rfl rfl rfl rfl ⟨rfl, rfl⟩ ⟨rfl, rfl⟩ ?_
  refine r_cv (y := 50) (t := 10) (a := ad 0) (ra := [.int (xs (1 + 6 * c + 4)), .int (xs (1 + 6 * c + 3)), .int (xs (1 + 6 * c + 2)), .int (xs (1 + 6 * c + 1))]) (rest := []) rfl ⟨⟨rfl, rfl⟩, rfl, by decide⟩ li.t0 rfl rfl (Nat.le_of_ble_eq_true rfl) ?_
  refine EV_mono (ap_I sh_50 (k_lift li.1 (xs (1 + 6 * c + 1)) (xs (1 + 6 * c + 2)) (xs (1 + 6 * c + 3)) (xs (1 + 6 * c + 4))) (by decide) (by decide) li) (fun v h1 q => ?_)
  obtain ⟨x, rfl, ⟨s1, t1⟩, e⟩ := q
  show WR 100 cd_0 782 _ [.int x] h1 Q
  refine r_aload rfl rfl ?_
  refine b_rd (k := 1) s1 L3 (by omega) rfl rfl rfl rfl ⟨rfl, rfl⟩ ⟨rfl, rfl⟩ ?_
  refine b_rd (k := 2) s1 L3 (by omega) rfl rfl rfl rfl ⟨rfl, rfl⟩ ⟨rfl, rfl⟩ ?_
  refine b_rd (k := 3) s1 L3 (by omega) rfl rfl rfl rfl ⟨rfl, rfl⟩ ⟨rfl, rfl⟩ ?_
  refine b_rd (k := 4) s1 L3 (by omega) rfl rfl rfl rfl ⟨rfl, rfl⟩ ⟨rfl, rfl⟩ ?_
  refine r_cv (y := 178) (t := 11) (a := ad 30) (ra := [.int (xs (1 + 6 * c + 4)), .int (xs (1 + 6 * c + 3)), .int (xs (1 + 6 * c + 2)), .int (xs (1 + 6 * c + 1))]) (rest := [.int x]) rfl ⟨⟨rfl, rfl⟩, rfl, by decide⟩ t1 rfl rfl (Nat.le_of_ble_eq_true rfl) ?_
  refine EV_mono e (fun v2 h2 q2 => ?_)
  obtain ⟨rfl, li2⟩ := q2
  show WR 100 cd_0 806 _ [.int x, .int x] h2 Q
  exact r_icmp_eq (tg := 1693) rfl rfl (fun _ => nx _ li2) (fun q => absurd rfl q)
theorem lc_14 (li : LI n ad sa z0 b L xs Z U c h) (hi : 1 + 6 * c + 6 ≤ L) (L3 : L ≤ 3073) (nx : ∀ h', LI n ad sa z0 b L xs Z U (c + 1) h' → WR 100 cd_0 1693 [some (.ref b), some (.ref (ad 0)), some (.ref (ad 30)), some (.int (nI (1 + 6 * c)))] [] h' Q) : WR 100 cd_0 811 [some (.ref b), some (.ref (ad 0)), some (.ref (ad 30)), some (.int (nI (1 + 6 * c)))] [] h Q := by
  refine r_aload rfl rfl ?_
  refine b_rd (k := 1) li.2.1 L3 (by omega) rfl rfl rfl rfl ⟨rfl, rfl⟩ ⟨rfl, rfl⟩ ?_
  refine b_rd (k := 2) li.2.1 L3 (by omega) rfl rfl rfl rfl ⟨rfl, rfl⟩ ⟨rfl, rfl⟩ ?_
  refine b_rd (k := 3) li.2.1 L3 (by omega) rfl rfl rfl rfl ⟨rfl, rfl⟩ ⟨rfl, rfl⟩ ?_
  refine b_rd (k := 4) li.2.1 L3 (by omega) rfl rfl rfl rfl ⟨rfl, rfl⟩ ⟨rfl, rfl⟩ ?_
  refine b_rd (k := 5) li.2.1 L3 (by omega) rfl rfl rfl rfl ⟨rfl, rfl⟩ ⟨rfl, rfl⟩ ?_
  refine r_cv (y := 51) (t := 10) (a := ad 0) (ra := [.int (xs (1 + 6 * c + 5)), .int (xs (1 + 6 * c + 4)), .int (xs (1 + 6 * c + 3)), .int (xs (1 + 6 * c + 2)), .int (xs (1 + 6 * c + 1))]) (rest := []) rfl ⟨⟨rfl, rfl⟩, rfl, by decide⟩ li.t0 rfl rfl (Nat.le_of_ble_eq_true rfl) ?_
  refine EV_mono (ap_I sh_51 (k_copy li.1 (xs (1 + 6 * c + 1)) (xs (1 + 6 * c + 2)) (xs (1 + 6 * c + 3)) (xs (1 + 6 * c + 4)) (xs (1 + 6 * c + 5))) (by decide) (by decide) li) (fun v h1 q => ?_)
  obtain ⟨x, rfl, ⟨s1, t1⟩, e⟩ := q
  show WR 100 cd_0 840 _ [.int x] h1 Q
  refine r_aload rfl rfl ?_
  refine b_rd (k := 1) s1 L3 (by omega) rfl rfl rfl rfl ⟨rfl, rfl⟩ ⟨rfl, rfl⟩ ?_
  refine b_rd (k := 2) s1 L3 (by omega) rfl rfl rfl rfl ⟨rfl, rfl⟩ ⟨rfl, rfl⟩ ?_
  refine b_rd (k := 3) s1 L3 (by omega) rfl rfl rfl rfl ⟨rfl, rfl⟩ ⟨rfl, rfl⟩ ?_
  refine b_rd (k := 4) s1 L3 (by omega) rfl rfl rfl rfl ⟨rfl, rfl⟩ ⟨rfl, rfl⟩ ?_
  refine b_rd (k := 5) s1 L3 (by omega) rfl rfl rfl rfl ⟨rfl, rfl⟩ ⟨rfl, rfl⟩ ?_
  refine r_cv (y := 179) (t := 11) (a := ad 30) (ra := [.int (xs (1 + 6 * c + 5)), .int (xs (1 + 6 * c + 4)), .int (xs (1 + 6 * c + 3)), .int (xs (1 + 6 * c + 2)), .int (xs (1 + 6 * c + 1))]) (rest := [.int x]) rfl ⟨⟨rfl, rfl⟩, rfl, by decide⟩ t1 rfl rfl (Nat.le_of_ble_eq_true rfl) ?_
  refine EV_mono e (fun v2 h2 q2 => ?_)
  obtain ⟨rfl, li2⟩ := q2
  show WR 100 cd_0 869 _ [.int x, .int x] h2 Q
  exact r_icmp_eq (tg := 1693) rfl rfl (fun _ => nx _ li2) (fun q => absurd rfl q)
theorem lc_15 (li : LI n ad sa z0 b L xs Z U c h) (hi : 1 + 6 * c + 6 ≤ L) (L3 : L ≤ 3073) (nx : ∀ h', LI n ad sa z0 b L xs Z U (c + 1) h' → WR 100 cd_0 1693 [some (.ref b), some (.ref (ad 0)), some (.ref (ad 30)), some (.int (nI (1 + 6 * c)))] [] h' Q) : WR 100 cd_0 874 [some (.ref b), some (.ref (ad 0)), some (.ref (ad 30)), some (.int (nI (1 + 6 * c)))] [] h Q := by
  refine r_aload rfl rfl ?_
  refine b_rd (k := 1) li.2.1 L3 (by omega) rfl rfl rfl rfl ⟨rfl, rfl⟩ ⟨rfl, rfl⟩ ?_
  refine b_rd (k := 2) li.2.1 L3 (by omega) rfl rfl rfl rfl ⟨rfl, rfl⟩ ⟨rfl, rfl⟩ ?_
  refine r_cv (y := 58) (t := 10) (a := ad 0) (ra := [.int (xs (1 + 6 * c + 2)), .int (xs (1 + 6 * c + 1))]) (rest := []) rfl ⟨⟨rfl, rfl⟩, rfl, by decide⟩ li.t0 rfl rfl (Nat.le_of_ble_eq_true rfl) ?_
  refine EV_mono (ap_I sh_58 (k_length li.1 (xs (1 + 6 * c + 1)) (xs (1 + 6 * c + 2))) (by decide) (by decide) li) (fun v h1 q => ?_)
  obtain ⟨x, rfl, ⟨s1, t1⟩, e⟩ := q
  show WR 100 cd_0 888 _ [.int x] h1 Q
  refine r_aload rfl rfl ?_
  refine b_rd (k := 1) s1 L3 (by omega) rfl rfl rfl rfl ⟨rfl, rfl⟩ ⟨rfl, rfl⟩ ?_
  refine b_rd (k := 2) s1 L3 (by omega) rfl rfl rfl rfl ⟨rfl, rfl⟩ ⟨rfl, rfl⟩ ?_
  refine r_cv (y := 180) (t := 11) (a := ad 30) (ra := [.int (xs (1 + 6 * c + 2)), .int (xs (1 + 6 * c + 1))]) (rest := [.int x]) rfl ⟨⟨rfl, rfl⟩, rfl, by decide⟩ t1 rfl rfl (Nat.le_of_ble_eq_true rfl) ?_
  refine EV_mono e (fun v2 h2 q2 => ?_)
  obtain ⟨rfl, li2⟩ := q2
  show WR 100 cd_0 902 _ [.int x, .int x] h2 Q
  exact r_icmp_eq (tg := 1693) rfl rfl (fun _ => nx _ li2) (fun q => absurd rfl q)
theorem lc_16 (li : LI n ad sa z0 b L xs Z U c h) (hi : 1 + 6 * c + 6 ≤ L) (L3 : L ≤ 3073) (nx : ∀ h', LI n ad sa z0 b L xs Z U (c + 1) h' → WR 100 cd_0 1693 [some (.ref b), some (.ref (ad 0)), some (.ref (ad 30)), some (.int (nI (1 + 6 * c)))] [] h' Q) : WR 100 cd_0 907 [some (.ref b), some (.ref (ad 0)), some (.ref (ad 30)), some (.int (nI (1 + 6 * c)))] [] h Q := by
  refine r_aload rfl rfl ?_
  refine b_rd (k := 1) li.2.1 L3 (by omega) rfl rfl rfl rfl ⟨rfl, rfl⟩ ⟨rfl, rfl⟩ ?_
  refine b_rd (k := 2) li.2.1 L3 (by omega) rfl rfl rfl rfl ⟨rfl, rfl⟩ ⟨rfl, rfl⟩ ?_
  refine r_cv (y := 59) (t := 10) (a := ad 0) (ra := [.int (xs (1 + 6 * c + 2)), .int (xs (1 + 6 * c + 1))]) (rest := []) rfl ⟨⟨rfl, rfl⟩, rfl, by decide⟩ li.t0 rfl rfl (Nat.le_of_ble_eq_true rfl) ?_
  refine EV_mono (ap_I sh_59 (k_alike li.1 (xs (1 + 6 * c + 1)) (xs (1 + 6 * c + 2))) (by decide) (by decide) li) (fun v h1 q => ?_)
  obtain ⟨x, rfl, ⟨s1, t1⟩, e⟩ := q
  show WR 100 cd_0 921 _ [.int x] h1 Q
  refine r_aload rfl rfl ?_
  refine b_rd (k := 1) s1 L3 (by omega) rfl rfl rfl rfl ⟨rfl, rfl⟩ ⟨rfl, rfl⟩ ?_
  refine b_rd (k := 2) s1 L3 (by omega) rfl rfl rfl rfl ⟨rfl, rfl⟩ ⟨rfl, rfl⟩ ?_
  refine r_cv (y := 181) (t := 11) (a := ad 30) (ra := [.int (xs (1 + 6 * c + 2)), .int (xs (1 + 6 * c + 1))]) (rest := [.int x]) rfl ⟨⟨rfl, rfl⟩, rfl, by decide⟩ t1 rfl rfl (Nat.le_of_ble_eq_true rfl) ?_
  refine EV_mono e (fun v2 h2 q2 => ?_)
  obtain ⟨rfl, li2⟩ := q2
  show WR 100 cd_0 935 _ [.int x, .int x] h2 Q
  exact r_icmp_eq (tg := 1693) rfl rfl (fun _ => nx _ li2) (fun q => absurd rfl q)
theorem lc_17 (li : LI n ad sa z0 b L xs Z U c h) (hi : 1 + 6 * c + 6 ≤ L) (L3 : L ≤ 3073) (nx : ∀ h', LI n ad sa z0 b L xs Z U (c + 1) h' → WR 100 cd_0 1693 [some (.ref b), some (.ref (ad 0)), some (.ref (ad 30)), some (.int (nI (1 + 6 * c)))] [] h' Q) : WR 100 cd_0 940 [some (.ref b), some (.ref (ad 0)), some (.ref (ad 30)), some (.int (nI (1 + 6 * c)))] [] h Q := by
  refine r_aload rfl rfl ?_
  refine b_rd (k := 1) li.2.1 L3 (by omega) rfl rfl rfl rfl ⟨rfl, rfl⟩ ⟨rfl, rfl⟩ ?_
  refine b_rd (k := 2) li.2.1 L3 (by omega) rfl rfl rfl rfl ⟨rfl, rfl⟩ ⟨rfl, rfl⟩ ?_
  refine b_rd (k := 3) li.2.1 L3 (by omega) rfl rfl rfl rfl ⟨rfl, rfl⟩ ⟨rfl, rfl⟩ ?_
  refine r_cv (y := 64) (t := 10) (a := ad 0) (ra := [.int (xs (1 + 6 * c + 3)), .int (xs (1 + 6 * c + 2)), .int (xs (1 + 6 * c + 1))]) (rest := []) rfl ⟨⟨rfl, rfl⟩, rfl, by decide⟩ li.t0 rfl rfl (Nat.le_of_ble_eq_true rfl) ?_
  refine EV_mono (ap_L sh_64 (k_ask li.1 (xs (1 + 6 * c + 1)) (xs (1 + 6 * c + 2)) (xs (1 + 6 * c + 3))) (by decide) (by decide) li) (fun v h1 q => ?_)
  obtain ⟨x, rfl, ⟨s1, t1⟩, e⟩ := q
  show WR 100 cd_0 959 _ [.long x] h1 Q
  refine r_aload rfl rfl ?_
  refine b_rd (k := 1) s1 L3 (by omega) rfl rfl rfl rfl ⟨rfl, rfl⟩ ⟨rfl, rfl⟩ ?_
  refine b_rd (k := 2) s1 L3 (by omega) rfl rfl rfl rfl ⟨rfl, rfl⟩ ⟨rfl, rfl⟩ ?_
  refine b_rd (k := 3) s1 L3 (by omega) rfl rfl rfl rfl ⟨rfl, rfl⟩ ⟨rfl, rfl⟩ ?_
  refine r_cv (y := 184) (t := 11) (a := ad 30) (ra := [.int (xs (1 + 6 * c + 3)), .int (xs (1 + 6 * c + 2)), .int (xs (1 + 6 * c + 1))]) (rest := [.long x]) rfl ⟨⟨rfl, rfl⟩, rfl, by decide⟩ t1 rfl rfl (Nat.le_of_ble_eq_true rfl) ?_
  refine EV_mono e (fun v2 h2 q2 => ?_)
  obtain ⟨rfl, li2⟩ := q2
  show WR 100 cd_0 978 _ [.long x, .long x] h2 Q
  refine r_lcmp rfl ?_
  rw [lg_self]
  exact r_if_eq (tg := 1693) rfl rfl (fun _ => nx _ li2) (fun q => absurd rfl q)
theorem lc_18 (li : LI n ad sa z0 b L xs Z U c h) (hi : 1 + 6 * c + 6 ≤ L) (L3 : L ≤ 3073) (nx : ∀ h', LI n ad sa z0 b L xs Z U (c + 1) h' → WR 100 cd_0 1693 [some (.ref b), some (.ref (ad 0)), some (.ref (ad 30)), some (.int (nI (1 + 6 * c)))] [] h' Q) : WR 100 cd_0 984 [some (.ref b), some (.ref (ad 0)), some (.ref (ad 30)), some (.int (nI (1 + 6 * c)))] [] h Q := by
  refine r_aload rfl rfl ?_
  refine b_rd (k := 1) li.2.1 L3 (by omega) rfl rfl rfl rfl ⟨rfl, rfl⟩ ⟨rfl, rfl⟩ ?_
  refine b_rd (k := 2) li.2.1 L3 (by omega) rfl rfl rfl rfl ⟨rfl, rfl⟩ ⟨rfl, rfl⟩ ?_
  refine r_cv (y := 72) (t := 10) (a := ad 0) (ra := [.int (xs (1 + 6 * c + 2)), .int (xs (1 + 6 * c + 1))]) (rest := []) rfl ⟨⟨rfl, rfl⟩, rfl, by decide⟩ li.t0 rfl rfl (Nat.le_of_ble_eq_true rfl) ?_
  refine EV_mono (ap_L sh_72 (k_told li.1 (xs (1 + 6 * c + 1)) (xs (1 + 6 * c + 2))) (by decide) (by decide) li) (fun v h1 q => ?_)
  obtain ⟨x, rfl, ⟨s1, t1⟩, e⟩ := q
  show WR 100 cd_0 998 _ [.long x] h1 Q
  refine r_aload rfl rfl ?_
  refine b_rd (k := 1) s1 L3 (by omega) rfl rfl rfl rfl ⟨rfl, rfl⟩ ⟨rfl, rfl⟩ ?_
  refine b_rd (k := 2) s1 L3 (by omega) rfl rfl rfl rfl ⟨rfl, rfl⟩ ⟨rfl, rfl⟩ ?_
  refine r_cv (y := 190) (t := 11) (a := ad 30) (ra := [.int (xs (1 + 6 * c + 2)), .int (xs (1 + 6 * c + 1))]) (rest := [.long x]) rfl ⟨⟨rfl, rfl⟩, rfl, by decide⟩ t1 rfl rfl (Nat.le_of_ble_eq_true rfl) ?_
  refine EV_mono e (fun v2 h2 q2 => ?_)
  obtain ⟨rfl, li2⟩ := q2
  show WR 100 cd_0 1012 _ [.long x, .long x] h2 Q
  refine r_lcmp rfl ?_
  rw [lg_self]
  exact r_if_eq (tg := 1693) rfl rfl (fun _ => nx _ li2) (fun q => absurd rfl q)
theorem lc_19 (li : LI n ad sa z0 b L xs Z U c h) (hi : 1 + 6 * c + 6 ≤ L) (L3 : L ≤ 3073) (nx : ∀ h', LI n ad sa z0 b L xs Z U (c + 1) h' → WR 100 cd_0 1693 [some (.ref b), some (.ref (ad 0)), some (.ref (ad 30)), some (.int (nI (1 + 6 * c)))] [] h' Q) : WR 100 cd_0 1018 [some (.ref b), some (.ref (ad 0)), some (.ref (ad 30)), some (.int (nI (1 + 6 * c)))] [] h Q := by
  refine r_aload rfl rfl ?_
  refine b_rd (k := 1) li.2.1 L3 (by omega) rfl rfl rfl rfl ⟨rfl, rfl⟩ ⟨rfl, rfl⟩ ?_
  refine r_cv (y := 73) (t := 10) (a := ad 0) (ra := [.int (xs (1 + 6 * c + 1))]) (rest := []) rfl ⟨⟨rfl, rfl⟩, rfl, by decide⟩ li.t0 rfl rfl (Nat.le_of_ble_eq_true rfl) ?_
  refine EV_mono (ap_I sh_73 (k_traced li.1 (xs (1 + 6 * c + 1))) (by decide) (by decide) li) (fun v h1 q => ?_)
  obtain ⟨x, rfl, ⟨s1, t1⟩, e⟩ := q
  show WR 100 cd_0 1027 _ [.int x] h1 Q
  refine r_aload rfl rfl ?_
  refine b_rd (k := 1) s1 L3 (by omega) rfl rfl rfl rfl ⟨rfl, rfl⟩ ⟨rfl, rfl⟩ ?_
  refine r_cv (y := 191) (t := 11) (a := ad 30) (ra := [.int (xs (1 + 6 * c + 1))]) (rest := [.int x]) rfl ⟨⟨rfl, rfl⟩, rfl, by decide⟩ t1 rfl rfl (Nat.le_of_ble_eq_true rfl) ?_
  refine EV_mono e (fun v2 h2 q2 => ?_)
  obtain ⟨rfl, li2⟩ := q2
  show WR 100 cd_0 1036 _ [.int x, .int x] h2 Q
  exact r_icmp_eq (tg := 1693) rfl rfl (fun _ => nx _ li2) (fun q => absurd rfl q)
theorem lc_20 (li : LI n ad sa z0 b L xs Z U c h) (hi : 1 + 6 * c + 6 ≤ L) (L3 : L ≤ 3073) (nx : ∀ h', LI n ad sa z0 b L xs Z U (c + 1) h' → WR 100 cd_0 1693 [some (.ref b), some (.ref (ad 0)), some (.ref (ad 30)), some (.int (nI (1 + 6 * c)))] [] h' Q) : WR 100 cd_0 1041 [some (.ref b), some (.ref (ad 0)), some (.ref (ad 30)), some (.int (nI (1 + 6 * c)))] [] h Q := by
  refine r_aload rfl rfl ?_
  refine r_cv (y := 74) (t := 10) (a := ad 0) (ra := []) (rest := []) rfl ⟨⟨rfl, rfl⟩, rfl, by decide⟩ li.t0 rfl rfl (Nat.le_of_ble_eq_true rfl) ?_
  refine EV_mono (ap_I sh_74 (k_forget li.1 ) (by decide) (by decide) li) (fun v h1 q => ?_)
  obtain ⟨x, rfl, ⟨s1, t1⟩, e⟩ := q
  show WR 100 cd_0 1045 _ [.int x] h1 Q
  refine r_aload rfl rfl ?_
  refine r_cv (y := 192) (t := 11) (a := ad 30) (ra := []) (rest := [.int x]) rfl ⟨⟨rfl, rfl⟩, rfl, by decide⟩ t1 rfl rfl (Nat.le_of_ble_eq_true rfl) ?_
  refine EV_mono e (fun v2 h2 q2 => ?_)
  obtain ⟨rfl, li2⟩ := q2
  show WR 100 cd_0 1049 _ [.int x, .int x] h2 Q
  exact r_icmp_eq (tg := 1693) rfl rfl (fun _ => nx _ li2) (fun q => absurd rfl q)
theorem lc_21 (li : LI n ad sa z0 b L xs Z U c h) (hi : 1 + 6 * c + 6 ≤ L) (L3 : L ≤ 3073) (nx : ∀ h', LI n ad sa z0 b L xs Z U (c + 1) h' → WR 100 cd_0 1693 [some (.ref b), some (.ref (ad 0)), some (.ref (ad 30)), some (.int (nI (1 + 6 * c)))] [] h' Q) : WR 100 cd_0 1054 [some (.ref b), some (.ref (ad 0)), some (.ref (ad 30)), some (.int (nI (1 + 6 * c)))] [] h Q := by
  refine r_aload rfl rfl ?_
  refine b_rd (k := 1) li.2.1 L3 (by omega) rfl rfl rfl rfl ⟨rfl, rfl⟩ ⟨rfl, rfl⟩ ?_
  refine b_rd (k := 2) li.2.1 L3 (by omega) rfl rfl rfl rfl ⟨rfl, rfl⟩ ⟨rfl, rfl⟩ ?_
  refine b_rd (k := 3) li.2.1 L3 (by omega) rfl rfl rfl rfl ⟨rfl, rfl⟩ ⟨rfl, rfl⟩ ?_
  refine r_cv (y := 75) (t := 10) (a := ad 0) (ra := [.int (xs (1 + 6 * c + 3)), .int (xs (1 + 6 * c + 2)), .int (xs (1 + 6 * c + 1))]) (rest := []) rfl ⟨⟨rfl, rfl⟩, rfl, by decide⟩ li.t0 rfl rfl (Nat.le_of_ble_eq_true rfl) ?_
  refine EV_mono (ap_L sh_75 (k_seconds li.1 (xs (1 + 6 * c + 1)) (xs (1 + 6 * c + 2)) (xs (1 + 6 * c + 3))) (by decide) (by decide) li) (fun v h1 q => ?_)
  obtain ⟨x, rfl, ⟨s1, t1⟩, e⟩ := q
  show WR 100 cd_0 1073 _ [.long x] h1 Q
  refine r_aload rfl rfl ?_
  refine b_rd (k := 1) s1 L3 (by omega) rfl rfl rfl rfl ⟨rfl, rfl⟩ ⟨rfl, rfl⟩ ?_
  refine b_rd (k := 2) s1 L3 (by omega) rfl rfl rfl rfl ⟨rfl, rfl⟩ ⟨rfl, rfl⟩ ?_
  refine b_rd (k := 3) s1 L3 (by omega) rfl rfl rfl rfl ⟨rfl, rfl⟩ ⟨rfl, rfl⟩ ?_
  refine r_cv (y := 193) (t := 11) (a := ad 30) (ra := [.int (xs (1 + 6 * c + 3)), .int (xs (1 + 6 * c + 2)), .int (xs (1 + 6 * c + 1))]) (rest := [.long x]) rfl ⟨⟨rfl, rfl⟩, rfl, by decide⟩ t1 rfl rfl (Nat.le_of_ble_eq_true rfl) ?_
  refine EV_mono e (fun v2 h2 q2 => ?_)
  obtain ⟨rfl, li2⟩ := q2
  show WR 100 cd_0 1092 _ [.long x, .long x] h2 Q
  refine r_lcmp rfl ?_
  rw [lg_self]
  exact r_if_eq (tg := 1693) rfl rfl (fun _ => nx _ li2) (fun q => absurd rfl q)
theorem lc_22 (li : LI n ad sa z0 b L xs Z U c h) (hi : 1 + 6 * c + 6 ≤ L) (L3 : L ≤ 3073) (nx : ∀ h', LI n ad sa z0 b L xs Z U (c + 1) h' → WR 100 cd_0 1693 [some (.ref b), some (.ref (ad 0)), some (.ref (ad 30)), some (.int (nI (1 + 6 * c)))] [] h' Q) : WR 100 cd_0 1098 [some (.ref b), some (.ref (ad 0)), some (.ref (ad 30)), some (.int (nI (1 + 6 * c)))] [] h Q := by
  refine r_aload rfl rfl ?_
  refine b_rd (k := 1) li.2.1 L3 (by omega) rfl rfl rfl rfl ⟨rfl, rfl⟩ ⟨rfl, rfl⟩ ?_
  refine b_rd (k := 2) li.2.1 L3 (by omega) rfl rfl rfl rfl ⟨rfl, rfl⟩ ⟨rfl, rfl⟩ ?_
  refine b_rd (k := 3) li.2.1 L3 (by omega) rfl rfl rfl rfl ⟨rfl, rfl⟩ ⟨rfl, rfl⟩ ?_
  refine b_rd (k := 4) li.2.1 L3 (by omega) rfl rfl rfl rfl ⟨rfl, rfl⟩ ⟨rfl, rfl⟩ ?_
  refine b_rd (k := 5) li.2.1 L3 (by omega) rfl rfl rfl rfl ⟨rfl, rfl⟩ ⟨rfl, rfl⟩ ?_
  refine r_cv (y := 90) (t := 10) (a := ad 0) (ra := [.int (xs (1 + 6 * c + 5)), .int (xs (1 + 6 * c + 4)), .int (xs (1 + 6 * c + 3)), .int (xs (1 + 6 * c + 2)), .int (xs (1 + 6 * c + 1))]) (rest := []) rfl ⟨⟨rfl, rfl⟩, rfl, by decide⟩ li.t0 rfl rfl (Nat.le_of_ble_eq_true rfl) ?_
  refine EV_mono (ap_I sh_90 (k_test li.1 (xs (1 + 6 * c + 1)) (xs (1 + 6 * c + 2)) (xs (1 + 6 * c + 3)) (xs (1 + 6 * c + 4)) (xs (1 + 6 * c + 5))) (by decide) (by decide) li) (fun v h1 q => ?_)
  obtain ⟨x, rfl, ⟨s1, t1⟩, e⟩ := q
  show WR 100 cd_0 1127 _ [.int x] h1 Q
  refine r_aload rfl rfl ?_
  refine b_rd (k := 1) s1 L3 (by omega) rfl rfl rfl rfl ⟨rfl, rfl⟩ ⟨rfl, rfl⟩ ?_
  refine b_rd (k := 2) s1 L3 (by omega) rfl rfl rfl rfl ⟨rfl, rfl⟩ ⟨rfl, rfl⟩ ?_
  refine b_rd (k := 3) s1 L3 (by omega) rfl rfl rfl rfl ⟨rfl, rfl⟩ ⟨rfl, rfl⟩ ?_
  refine b_rd (k := 4) s1 L3 (by omega) rfl rfl rfl rfl ⟨rfl, rfl⟩ ⟨rfl, rfl⟩ ?_
  refine b_rd (k := 5) s1 L3 (by omega) rfl rfl rfl rfl ⟨rfl, rfl⟩ ⟨rfl, rfl⟩ ?_
  refine r_cv (y := 201) (t := 11) (a := ad 30) (ra := [.int (xs (1 + 6 * c + 5)), .int (xs (1 + 6 * c + 4)), .int (xs (1 + 6 * c + 3)), .int (xs (1 + 6 * c + 2)), .int (xs (1 + 6 * c + 1))]) (rest := [.int x]) rfl ⟨⟨rfl, rfl⟩, rfl, by decide⟩ t1 rfl rfl (Nat.le_of_ble_eq_true rfl) ?_
  refine EV_mono e (fun v2 h2 q2 => ?_)
  obtain ⟨rfl, li2⟩ := q2
  show WR 100 cd_0 1156 _ [.int x, .int x] h2 Q
  exact r_icmp_eq (tg := 1693) rfl rfl (fun _ => nx _ li2) (fun q => absurd rfl q)
theorem lc_23 (li : LI n ad sa z0 b L xs Z U c h) (hi : 1 + 6 * c + 6 ≤ L) (L3 : L ≤ 3073) (nx : ∀ h', LI n ad sa z0 b L xs Z U (c + 1) h' → WR 100 cd_0 1693 [some (.ref b), some (.ref (ad 0)), some (.ref (ad 30)), some (.int (nI (1 + 6 * c)))] [] h' Q) : WR 100 cd_0 1161 [some (.ref b), some (.ref (ad 0)), some (.ref (ad 30)), some (.int (nI (1 + 6 * c)))] [] h Q := by
  refine r_aload rfl rfl ?_
  refine b_rd (k := 1) li.2.1 L3 (by omega) rfl rfl rfl rfl ⟨rfl, rfl⟩ ⟨rfl, rfl⟩ ?_
  refine b_rd (k := 2) li.2.1 L3 (by omega) rfl rfl rfl rfl ⟨rfl, rfl⟩ ⟨rfl, rfl⟩ ?_
  refine b_rd (k := 3) li.2.1 L3 (by omega) rfl rfl rfl rfl ⟨rfl, rfl⟩ ⟨rfl, rfl⟩ ?_
  refine b_rd (k := 4) li.2.1 L3 (by omega) rfl rfl rfl rfl ⟨rfl, rfl⟩ ⟨rfl, rfl⟩ ?_
  refine b_rd (k := 5) li.2.1 L3 (by omega) rfl rfl rfl rfl ⟨rfl, rfl⟩ ⟨rfl, rfl⟩ ?_
  refine r_cv (y := 92) (t := 10) (a := ad 0) (ra := [.int (xs (1 + 6 * c + 5)), .int (xs (1 + 6 * c + 4)), .int (xs (1 + 6 * c + 3)), .int (xs (1 + 6 * c + 2)), .int (xs (1 + 6 * c + 1))]) (rest := []) rfl ⟨⟨rfl, rfl⟩, rfl, by decide⟩ li.t0 rfl rfl (Nat.le_of_ble_eq_true rfl) ?_
  refine EV_mono (ap_I sh_92 (k_step li.1 (xs (1 + 6 * c + 1)) (xs (1 + 6 * c + 2)) (xs (1 + 6 * c + 3)) (xs (1 + 6 * c + 4)) (xs (1 + 6 * c + 5))) (by decide) (by decide) li) (fun v h1 q => ?_)
  obtain ⟨x, rfl, ⟨s1, t1⟩, e⟩ := q
  show WR 100 cd_0 1190 _ [.int x] h1 Q
  refine r_aload rfl rfl ?_
  refine b_rd (k := 1) s1 L3 (by omega) rfl rfl rfl rfl ⟨rfl, rfl⟩ ⟨rfl, rfl⟩ ?_
  refine b_rd (k := 2) s1 L3 (by omega) rfl rfl rfl rfl ⟨rfl, rfl⟩ ⟨rfl, rfl⟩ ?_
  refine b_rd (k := 3) s1 L3 (by omega) rfl rfl rfl rfl ⟨rfl, rfl⟩ ⟨rfl, rfl⟩ ?_
  refine b_rd (k := 4) s1 L3 (by omega) rfl rfl rfl rfl ⟨rfl, rfl⟩ ⟨rfl, rfl⟩ ?_
  refine b_rd (k := 5) s1 L3 (by omega) rfl rfl rfl rfl ⟨rfl, rfl⟩ ⟨rfl, rfl⟩ ?_
  refine r_cv (y := 203) (t := 11) (a := ad 30) (ra := [.int (xs (1 + 6 * c + 5)), .int (xs (1 + 6 * c + 4)), .int (xs (1 + 6 * c + 3)), .int (xs (1 + 6 * c + 2)), .int (xs (1 + 6 * c + 1))]) (rest := [.int x]) rfl ⟨⟨rfl, rfl⟩, rfl, by decide⟩ t1 rfl rfl (Nat.le_of_ble_eq_true rfl) ?_
  refine EV_mono e (fun v2 h2 q2 => ?_)
  obtain ⟨rfl, li2⟩ := q2
  show WR 100 cd_0 1219 _ [.int x, .int x] h2 Q
  exact r_icmp_eq (tg := 1693) rfl rfl (fun _ => nx _ li2) (fun q => absurd rfl q)
theorem lc_24 (li : LI n ad sa z0 b L xs Z U c h) (hi : 1 + 6 * c + 6 ≤ L) (L3 : L ≤ 3073) (nx : ∀ h', LI n ad sa z0 b L xs Z U (c + 1) h' → WR 100 cd_0 1693 [some (.ref b), some (.ref (ad 0)), some (.ref (ad 30)), some (.int (nI (1 + 6 * c)))] [] h' Q) : WR 100 cd_0 1224 [some (.ref b), some (.ref (ad 0)), some (.ref (ad 30)), some (.int (nI (1 + 6 * c)))] [] h Q := by
  refine r_aload rfl rfl ?_
  refine b_rd (k := 1) li.2.1 L3 (by omega) rfl rfl rfl rfl ⟨rfl, rfl⟩ ⟨rfl, rfl⟩ ?_
  refine r_cv (y := 97) (t := 10) (a := ad 0) (ra := [.int (xs (1 + 6 * c + 1))]) (rest := []) rfl ⟨⟨rfl, rfl⟩, rfl, by decide⟩ li.t0 rfl rfl (Nat.le_of_ble_eq_true rfl) ?_
  refine EV_mono (ap_I sh_97 (k_drop li.1 (xs (1 + 6 * c + 1))) (by decide) (by decide) li) (fun v h1 q => ?_)
  obtain ⟨x, rfl, ⟨s1, t1⟩, e⟩ := q
  show WR 100 cd_0 1233 _ [.int x] h1 Q
  refine r_aload rfl rfl ?_
  refine b_rd (k := 1) s1 L3 (by omega) rfl rfl rfl rfl ⟨rfl, rfl⟩ ⟨rfl, rfl⟩ ?_
  refine r_cv (y := 208) (t := 11) (a := ad 30) (ra := [.int (xs (1 + 6 * c + 1))]) (rest := [.int x]) rfl ⟨⟨rfl, rfl⟩, rfl, by decide⟩ t1 rfl rfl (Nat.le_of_ble_eq_true rfl) ?_
  refine EV_mono e (fun v2 h2 q2 => ?_)
  obtain ⟨rfl, li2⟩ := q2
  show WR 100 cd_0 1242 _ [.int x, .int x] h2 Q
  exact r_icmp_eq (tg := 1693) rfl rfl (fun _ => nx _ li2) (fun q => absurd rfl q)
theorem lc_25 (li : LI n ad sa z0 b L xs Z U c h) (hi : 1 + 6 * c + 6 ≤ L) (L3 : L ≤ 3073) (nx : ∀ h', LI n ad sa z0 b L xs Z U (c + 1) h' → WR 100 cd_0 1693 [some (.ref b), some (.ref (ad 0)), some (.ref (ad 30)), some (.int (nI (1 + 6 * c)))] [] h' Q) : WR 100 cd_0 1247 [some (.ref b), some (.ref (ad 0)), some (.ref (ad 30)), some (.int (nI (1 + 6 * c)))] [] h Q := by
  refine r_aload rfl rfl ?_
  refine b_rd (k := 1) li.2.1 L3 (by omega) rfl rfl rfl rfl ⟨rfl, rfl⟩ ⟨rfl, rfl⟩ ?_
  refine r_cv (y := 98) (t := 10) (a := ad 0) (ra := [.int (xs (1 + 6 * c + 1))]) (rest := []) rfl ⟨⟨rfl, rfl⟩, rfl, by decide⟩ li.t0 rfl rfl (Nat.le_of_ble_eq_true rfl) ?_
  refine EV_mono (ap_I sh_98 (k_act li.1 (xs (1 + 6 * c + 1))) (by decide) (by decide) li) (fun v h1 q => ?_)
  obtain ⟨x, rfl, ⟨s1, t1⟩, e⟩ := q
  show WR 100 cd_0 1256 _ [.int x] h1 Q
  refine r_aload rfl rfl ?_
  refine b_rd (k := 1) s1 L3 (by omega) rfl rfl rfl rfl ⟨rfl, rfl⟩ ⟨rfl, rfl⟩ ?_
  refine r_cv (y := 209) (t := 11) (a := ad 30) (ra := [.int (xs (1 + 6 * c + 1))]) (rest := [.int x]) rfl ⟨⟨rfl, rfl⟩, rfl, by decide⟩ t1 rfl rfl (Nat.le_of_ble_eq_true rfl) ?_
  refine EV_mono e (fun v2 h2 q2 => ?_)
  obtain ⟨rfl, li2⟩ := q2
  show WR 100 cd_0 1265 _ [.int x, .int x] h2 Q
  exact r_icmp_eq (tg := 1693) rfl rfl (fun _ => nx _ li2) (fun q => absurd rfl q)
theorem lc_26 (li : LI n ad sa z0 b L xs Z U c h) (hi : 1 + 6 * c + 6 ≤ L) (L3 : L ≤ 3073) (nx : ∀ h', LI n ad sa z0 b L xs Z U (c + 1) h' → WR 100 cd_0 1693 [some (.ref b), some (.ref (ad 0)), some (.ref (ad 30)), some (.int (nI (1 + 6 * c)))] [] h' Q) : WR 100 cd_0 1270 [some (.ref b), some (.ref (ad 0)), some (.ref (ad 30)), some (.int (nI (1 + 6 * c)))] [] h Q := by
  refine r_aload rfl rfl ?_
  refine b_rd (k := 1) li.2.1 L3 (by omega) rfl rfl rfl rfl ⟨rfl, rfl⟩ ⟨rfl, rfl⟩ ?_
  refine r_cv (y := 119) (t := 10) (a := ad 0) (ra := [.int (xs (1 + 6 * c + 1))]) (rest := []) rfl ⟨⟨rfl, rfl⟩, rfl, by decide⟩ li.t0 rfl rfl (Nat.le_of_ble_eq_true rfl) ?_
  refine EV_mono (ap_I sh_119 (k_acted li.1 (xs (1 + 6 * c + 1))) (by decide) (by decide) li) (fun v h1 q => ?_)
  obtain ⟨x, rfl, ⟨s1, t1⟩, e⟩ := q
  show WR 100 cd_0 1279 _ [.int x] h1 Q
  refine r_aload rfl rfl ?_
  refine b_rd (k := 1) s1 L3 (by omega) rfl rfl rfl rfl ⟨rfl, rfl⟩ ⟨rfl, rfl⟩ ?_
  refine r_cv (y := 223) (t := 11) (a := ad 30) (ra := [.int (xs (1 + 6 * c + 1))]) (rest := [.int x]) rfl ⟨⟨rfl, rfl⟩, rfl, by decide⟩ t1 rfl rfl (Nat.le_of_ble_eq_true rfl) ?_
  refine EV_mono e (fun v2 h2 q2 => ?_)
  obtain ⟨rfl, li2⟩ := q2
  show WR 100 cd_0 1288 _ [.int x, .int x] h2 Q
  exact r_icmp_eq (tg := 1693) rfl rfl (fun _ => nx _ li2) (fun q => absurd rfl q)
theorem lc_27 (li : LI n ad sa z0 b L xs Z U c h) (hi : 1 + 6 * c + 6 ≤ L) (L3 : L ≤ 3073) (nx : ∀ h', LI n ad sa z0 b L xs Z U (c + 1) h' → WR 100 cd_0 1693 [some (.ref b), some (.ref (ad 0)), some (.ref (ad 30)), some (.int (nI (1 + 6 * c)))] [] h' Q) : WR 100 cd_0 1293 [some (.ref b), some (.ref (ad 0)), some (.ref (ad 30)), some (.int (nI (1 + 6 * c)))] [] h Q := by
  refine r_aload rfl rfl ?_
  refine b_rd (k := 1) li.2.1 L3 (by omega) rfl rfl rfl rfl ⟨rfl, rfl⟩ ⟨rfl, rfl⟩ ?_
  refine r_cv (y := 120) (t := 10) (a := ad 0) (ra := [.int (xs (1 + 6 * c + 1))]) (rest := []) rfl ⟨⟨rfl, rfl⟩, rfl, by decide⟩ li.t0 rfl rfl (Nat.le_of_ble_eq_true rfl) ?_
  refine EV_mono (ap_I sh_120 (k_said li.1 (xs (1 + 6 * c + 1))) (by decide) (by decide) li) (fun v h1 q => ?_)
  obtain ⟨x, rfl, ⟨s1, t1⟩, e⟩ := q
  show WR 100 cd_0 1302 _ [.int x] h1 Q
  refine r_aload rfl rfl ?_
  refine b_rd (k := 1) s1 L3 (by omega) rfl rfl rfl rfl ⟨rfl, rfl⟩ ⟨rfl, rfl⟩ ?_
  refine r_cv (y := 225) (t := 11) (a := ad 30) (ra := [.int (xs (1 + 6 * c + 1))]) (rest := [.int x]) rfl ⟨⟨rfl, rfl⟩, rfl, by decide⟩ t1 rfl rfl (Nat.le_of_ble_eq_true rfl) ?_
  refine EV_mono e (fun v2 h2 q2 => ?_)
  obtain ⟨rfl, li2⟩ := q2
  show WR 100 cd_0 1311 _ [.int x, .int x] h2 Q
  exact r_icmp_eq (tg := 1693) rfl rfl (fun _ => nx _ li2) (fun q => absurd rfl q)
theorem lc_28 (li : LI n ad sa z0 b L xs Z U c h) (hi : 1 + 6 * c + 6 ≤ L) (L3 : L ≤ 3073) (nx : ∀ h', LI n ad sa z0 b L xs Z U (c + 1) h' → WR 100 cd_0 1693 [some (.ref b), some (.ref (ad 0)), some (.ref (ad 30)), some (.int (nI (1 + 6 * c)))] [] h' Q) : WR 100 cd_0 1316 [some (.ref b), some (.ref (ad 0)), some (.ref (ad 30)), some (.int (nI (1 + 6 * c)))] [] h Q := by
  refine r_aload rfl rfl ?_
  refine b_rd (k := 1) li.2.1 L3 (by omega) rfl rfl rfl rfl ⟨rfl, rfl⟩ ⟨rfl, rfl⟩ ?_
  refine b_rd (k := 2) li.2.1 L3 (by omega) rfl rfl rfl rfl ⟨rfl, rfl⟩ ⟨rfl, rfl⟩ ?_
  refine b_rd (k := 3) li.2.1 L3 (by omega) rfl rfl rfl rfl ⟨rfl, rfl⟩ ⟨rfl, rfl⟩ ?_
  refine r_cv (y := 121) (t := 10) (a := ad 0) (ra := [.int (xs (1 + 6 * c + 3)), .int (xs (1 + 6 * c + 2)), .int (xs (1 + 6 * c + 1))]) (rest := []) rfl ⟨⟨rfl, rfl⟩, rfl, by decide⟩ li.t0 rfl rfl (Nat.le_of_ble_eq_true rfl) ?_
  refine EV_mono (ap_I sh_121 (k_place li.1 (xs (1 + 6 * c + 1)) (xs (1 + 6 * c + 2)) (xs (1 + 6 * c + 3))) (by decide) (by decide) li) (fun v h1 q => ?_)
  obtain ⟨x, rfl, ⟨s1, t1⟩, e⟩ := q
  show WR 100 cd_0 1335 _ [.int x] h1 Q
  refine r_aload rfl rfl ?_
  refine b_rd (k := 1) s1 L3 (by omega) rfl rfl rfl rfl ⟨rfl, rfl⟩ ⟨rfl, rfl⟩ ?_
  refine b_rd (k := 2) s1 L3 (by omega) rfl rfl rfl rfl ⟨rfl, rfl⟩ ⟨rfl, rfl⟩ ?_
  refine b_rd (k := 3) s1 L3 (by omega) rfl rfl rfl rfl ⟨rfl, rfl⟩ ⟨rfl, rfl⟩ ?_
  refine r_cv (y := 226) (t := 11) (a := ad 30) (ra := [.int (xs (1 + 6 * c + 3)), .int (xs (1 + 6 * c + 2)), .int (xs (1 + 6 * c + 1))]) (rest := [.int x]) rfl ⟨⟨rfl, rfl⟩, rfl, by decide⟩ t1 rfl rfl (Nat.le_of_ble_eq_true rfl) ?_
  refine EV_mono e (fun v2 h2 q2 => ?_)
  obtain ⟨rfl, li2⟩ := q2
  show WR 100 cd_0 1354 _ [.int x, .int x] h2 Q
  exact r_icmp_eq (tg := 1693) rfl rfl (fun _ => nx _ li2) (fun q => absurd rfl q)
theorem lc_29 (li : LI n ad sa z0 b L xs Z U c h) (hi : 1 + 6 * c + 6 ≤ L) (L3 : L ≤ 3073) (nx : ∀ h', LI n ad sa z0 b L xs Z U (c + 1) h' → WR 100 cd_0 1693 [some (.ref b), some (.ref (ad 0)), some (.ref (ad 30)), some (.int (nI (1 + 6 * c)))] [] h' Q) : WR 100 cd_0 1359 [some (.ref b), some (.ref (ad 0)), some (.ref (ad 30)), some (.int (nI (1 + 6 * c)))] [] h Q := by
  refine r_aload rfl rfl ?_
  refine b_rd (k := 1) li.2.1 L3 (by omega) rfl rfl rfl rfl ⟨rfl, rfl⟩ ⟨rfl, rfl⟩ ?_
  refine b_rd (k := 2) li.2.1 L3 (by omega) rfl rfl rfl rfl ⟨rfl, rfl⟩ ⟨rfl, rfl⟩ ?_
  refine b_rd (k := 3) li.2.1 L3 (by omega) rfl rfl rfl rfl ⟨rfl, rfl⟩ ⟨rfl, rfl⟩ ?_
  refine r_i2l rfl ?_
  refine r_ic (x := 32) rfl rfl ?_
  refine r_lshl rfl ?_
  refine b_rd (k := 4) li.2.1 L3 (by omega) rfl rfl rfl rfl ⟨rfl, rfl⟩ ⟨rfl, rfl⟩ ?_
  refine r_i2l rfl ?_
  refine r_ldc (x := .long 4294967295) rfl rfl ?_
  refine r_land rfl ?_
  refine r_lor rfl ?_
  refine r_cv (y := 122) (t := 10) (a := ad 0) (ra := [.long ((xs (1 + 6 * c + 3)).toInt64 <<< ((32 : Int32).toInt64 &&& 63) ||| (xs (1 + 6 * c + 4)).toInt64 &&& 4294967295), .int (xs (1 + 6 * c + 2)), .int (xs (1 + 6 * c + 1))]) (rest := []) rfl ⟨⟨rfl, rfl⟩, rfl, by decide⟩ li.t0 rfl rfl (Nat.le_of_ble_eq_true rfl) ?_
  refine EV_mono (ap_I sh_122 (k_read li.1 (xs (1 + 6 * c + 1)) (xs (1 + 6 * c + 2)) ((xs (1 + 6 * c + 3)).toInt64 <<< ((32 : Int32).toInt64 &&& 63) ||| (xs (1 + 6 * c + 4)).toInt64 &&& 4294967295)) (by decide) (by decide) li) (fun v h1 q => ?_)
  obtain ⟨x, rfl, ⟨s1, t1⟩, e⟩ := q
  show WR 100 cd_0 1393 _ [.int x] h1 Q
  refine r_aload rfl rfl ?_
  refine b_rd (k := 1) s1 L3 (by omega) rfl rfl rfl rfl ⟨rfl, rfl⟩ ⟨rfl, rfl⟩ ?_
  refine b_rd (k := 2) s1 L3 (by omega) rfl rfl rfl rfl ⟨rfl, rfl⟩ ⟨rfl, rfl⟩ ?_
  refine b_rd (k := 3) s1 L3 (by omega) rfl rfl rfl rfl ⟨rfl, rfl⟩ ⟨rfl, rfl⟩ ?_
  refine r_i2l rfl ?_
  refine r_ic (x := 32) rfl rfl ?_
  refine r_lshl rfl ?_
  refine b_rd (k := 4) s1 L3 (by omega) rfl rfl rfl rfl ⟨rfl, rfl⟩ ⟨rfl, rfl⟩ ?_
  refine r_i2l rfl ?_
  refine r_ldc (x := .long 4294967295) rfl rfl ?_
  refine r_land rfl ?_
  refine r_lor rfl ?_
  refine r_cv (y := 227) (t := 11) (a := ad 30) (ra := [.long ((xs (1 + 6 * c + 3)).toInt64 <<< ((32 : Int32).toInt64 &&& 63) ||| (xs (1 + 6 * c + 4)).toInt64 &&& 4294967295), .int (xs (1 + 6 * c + 2)), .int (xs (1 + 6 * c + 1))]) (rest := [.int x]) rfl ⟨⟨rfl, rfl⟩, rfl, by decide⟩ t1 rfl rfl (Nat.le_of_ble_eq_true rfl) ?_
  refine EV_mono e (fun v2 h2 q2 => ?_)
  obtain ⟨rfl, li2⟩ := q2
  show WR 100 cd_0 1427 _ [.int x, .int x] h2 Q
  exact r_icmp_eq (tg := 1693) rfl rfl (fun _ => nx _ li2) (fun q => absurd rfl q)
theorem lc_30 (li : LI n ad sa z0 b L xs Z U c h) (hi : 1 + 6 * c + 6 ≤ L) (L3 : L ≤ 3073) (nx : ∀ h', LI n ad sa z0 b L xs Z U (c + 1) h' → WR 100 cd_0 1693 [some (.ref b), some (.ref (ad 0)), some (.ref (ad 30)), some (.int (nI (1 + 6 * c)))] [] h' Q) : WR 100 cd_0 1432 [some (.ref b), some (.ref (ad 0)), some (.ref (ad 30)), some (.int (nI (1 + 6 * c)))] [] h Q := by
  refine r_aload rfl rfl ?_
  refine b_rd (k := 1) li.2.1 L3 (by omega) rfl rfl rfl rfl ⟨rfl, rfl⟩ ⟨rfl, rfl⟩ ?_
  refine b_rd (k := 2) li.2.1 L3 (by omega) rfl rfl rfl rfl ⟨rfl, rfl⟩ ⟨rfl, rfl⟩ ?_
  refine b_bl (p3 := 1450) (p4 := 1451) rfl rfl rfl rfl rfl rfl ?_
  refine r_cv (y := 123) (t := 10) (a := ad 0) (ra := [.int (if xs (1 + 6 * c + 2) = 0 then 0 else 1), .int (xs (1 + 6 * c + 1))]) (rest := []) rfl ⟨⟨rfl, rfl⟩, rfl, by decide⟩ li.t0 rfl rfl (Nat.le_of_ble_eq_true rfl) ?_
  refine EV_mono (ap_I sh_123 (k_wind li.1 (xs (1 + 6 * c + 1)) (if xs (1 + 6 * c + 2) = 0 then 0 else 1) (b01 _)) (by decide) (by decide) li) (fun v h1 q => ?_)
  obtain ⟨x, rfl, ⟨s1, t1⟩, e⟩ := q
  show WR 100 cd_0 1454 _ [.int x] h1 Q
  refine r_aload rfl rfl ?_
  refine b_rd (k := 1) s1 L3 (by omega) rfl rfl rfl rfl ⟨rfl, rfl⟩ ⟨rfl, rfl⟩ ?_
  refine b_rd (k := 2) s1 L3 (by omega) rfl rfl rfl rfl ⟨rfl, rfl⟩ ⟨rfl, rfl⟩ ?_
  refine b_bl (p3 := 1472) (p4 := 1473) rfl rfl rfl rfl rfl rfl ?_
  refine r_cv (y := 228) (t := 11) (a := ad 30) (ra := [.int (if xs (1 + 6 * c + 2) = 0 then 0 else 1), .int (xs (1 + 6 * c + 1))]) (rest := [.int x]) rfl ⟨⟨rfl, rfl⟩, rfl, by decide⟩ t1 rfl rfl (Nat.le_of_ble_eq_true rfl) ?_
  refine EV_mono e (fun v2 h2 q2 => ?_)
  obtain ⟨rfl, li2⟩ := q2
  show WR 100 cd_0 1476 _ [.int x, .int x] h2 Q
  exact r_icmp_eq (tg := 1693) rfl rfl (fun _ => nx _ li2) (fun q => absurd rfl q)
theorem lc_31 (li : LI n ad sa z0 b L xs Z U c h) (hi : 1 + 6 * c + 6 ≤ L) (L3 : L ≤ 3073) (nx : ∀ h', LI n ad sa z0 b L xs Z U (c + 1) h' → WR 100 cd_0 1693 [some (.ref b), some (.ref (ad 0)), some (.ref (ad 30)), some (.int (nI (1 + 6 * c)))] [] h' Q) : WR 100 cd_0 1481 [some (.ref b), some (.ref (ad 0)), some (.ref (ad 30)), some (.int (nI (1 + 6 * c)))] [] h Q := by
  refine r_aload rfl rfl ?_
  refine b_rd (k := 1) li.2.1 L3 (by omega) rfl rfl rfl rfl ⟨rfl, rfl⟩ ⟨rfl, rfl⟩ ?_
  refine b_rd (k := 2) li.2.1 L3 (by omega) rfl rfl rfl rfl ⟨rfl, rfl⟩ ⟨rfl, rfl⟩ ?_
  refine r_i2l rfl ?_
  refine r_ic (x := 32) rfl rfl ?_
  refine r_lshl rfl ?_
  refine b_rd (k := 3) li.2.1 L3 (by omega) rfl rfl rfl rfl ⟨rfl, rfl⟩ ⟨rfl, rfl⟩ ?_
  refine r_i2l rfl ?_
  refine r_ldc (x := .long 4294967295) rfl rfl ?_
  refine r_land rfl ?_
  refine r_lor rfl ?_
  refine r_cv (y := 124) (t := 10) (a := ad 0) (ra := [.long ((xs (1 + 6 * c + 2)).toInt64 <<< ((32 : Int32).toInt64 &&& 63) ||| (xs (1 + 6 * c + 3)).toInt64 &&& 4294967295), .int (xs (1 + 6 * c + 1))]) (rest := []) rfl ⟨⟨rfl, rfl⟩, rfl, by decide⟩ li.t0 rfl rfl (Nat.le_of_ble_eq_true rfl) ?_
  refine EV_mono (ap_I sh_124 (k_bound li.1 (xs (1 + 6 * c + 1)) ((xs (1 + 6 * c + 2)).toInt64 <<< ((32 : Int32).toInt64 &&& 63) ||| (xs (1 + 6 * c + 3)).toInt64 &&& 4294967295)) (by decide) (by decide) li) (fun v h1 q => ?_)
  obtain ⟨x, rfl, ⟨s1, t1⟩, e⟩ := q
  show WR 100 cd_0 1510 _ [.int x] h1 Q
  refine r_aload rfl rfl ?_
  refine b_rd (k := 1) s1 L3 (by omega) rfl rfl rfl rfl ⟨rfl, rfl⟩ ⟨rfl, rfl⟩ ?_
  refine b_rd (k := 2) s1 L3 (by omega) rfl rfl rfl rfl ⟨rfl, rfl⟩ ⟨rfl, rfl⟩ ?_
  refine r_i2l rfl ?_
  refine r_ic (x := 32) rfl rfl ?_
  refine r_lshl rfl ?_
  refine b_rd (k := 3) s1 L3 (by omega) rfl rfl rfl rfl ⟨rfl, rfl⟩ ⟨rfl, rfl⟩ ?_
  refine r_i2l rfl ?_
  refine r_ldc (x := .long 4294967295) rfl rfl ?_
  refine r_land rfl ?_
  refine r_lor rfl ?_
  refine r_cv (y := 229) (t := 11) (a := ad 30) (ra := [.long ((xs (1 + 6 * c + 2)).toInt64 <<< ((32 : Int32).toInt64 &&& 63) ||| (xs (1 + 6 * c + 3)).toInt64 &&& 4294967295), .int (xs (1 + 6 * c + 1))]) (rest := [.int x]) rfl ⟨⟨rfl, rfl⟩, rfl, by decide⟩ t1 rfl rfl (Nat.le_of_ble_eq_true rfl) ?_
  refine EV_mono e (fun v2 h2 q2 => ?_)
  obtain ⟨rfl, li2⟩ := q2
  show WR 100 cd_0 1539 _ [.int x, .int x] h2 Q
  exact r_icmp_eq (tg := 1693) rfl rfl (fun _ => nx _ li2) (fun q => absurd rfl q)
theorem lc_32 (li : LI n ad sa z0 b L xs Z U c h) (hi : 1 + 6 * c + 6 ≤ L) (L3 : L ≤ 3073) (nx : ∀ h', LI n ad sa z0 b L xs Z U (c + 1) h' → WR 100 cd_0 1693 [some (.ref b), some (.ref (ad 0)), some (.ref (ad 30)), some (.int (nI (1 + 6 * c)))] [] h' Q) : WR 100 cd_0 1544 [some (.ref b), some (.ref (ad 0)), some (.ref (ad 30)), some (.int (nI (1 + 6 * c)))] [] h Q := by
  refine r_aload rfl rfl ?_
  refine b_rd (k := 1) li.2.1 L3 (by omega) rfl rfl rfl rfl ⟨rfl, rfl⟩ ⟨rfl, rfl⟩ ?_
  refine r_cv (y := 125) (t := 10) (a := ad 0) (ra := [.int (xs (1 + 6 * c + 1))]) (rest := []) rfl ⟨⟨rfl, rfl⟩, rfl, by decide⟩ li.t0 rfl rfl (Nat.le_of_ble_eq_true rfl) ?_
  refine EV_mono (ap_run li (by omega)) (fun v h1 q => ?_)
  obtain ⟨x, rfl, ⟨s1, t1⟩, e⟩ := q
  show WR 100 cd_0 1553 _ [.int x] h1 Q
  refine r_aload rfl rfl ?_
  refine b_rd (k := 1) s1 L3 (by omega) rfl rfl rfl rfl ⟨rfl, rfl⟩ ⟨rfl, rfl⟩ ?_
  refine r_cv (y := 230) (t := 11) (a := ad 30) (ra := [.int (xs (1 + 6 * c + 1))]) (rest := [.int x]) rfl ⟨⟨rfl, rfl⟩, rfl, by decide⟩ t1 rfl rfl (Nat.le_of_ble_eq_true rfl) ?_
  refine EV_mono e (fun v2 h2 q2 => ?_)
  obtain ⟨rfl, li2⟩ := q2
  show WR 100 cd_0 1562 _ [.int x, .int x] h2 Q
  exact r_icmp_eq (tg := 1693) rfl rfl (fun _ => nx _ li2) (fun q => absurd rfl q)
theorem lc_33 (li : LI n ad sa z0 b L xs Z U c h) (hi : 1 + 6 * c + 6 ≤ L) (L3 : L ≤ 3073) (nx : ∀ h', LI n ad sa z0 b L xs Z U (c + 1) h' → WR 100 cd_0 1693 [some (.ref b), some (.ref (ad 0)), some (.ref (ad 30)), some (.int (nI (1 + 6 * c)))] [] h' Q) : WR 100 cd_0 1567 [some (.ref b), some (.ref (ad 0)), some (.ref (ad 30)), some (.int (nI (1 + 6 * c)))] [] h Q := by
  refine r_aload rfl rfl ?_
  refine b_rd (k := 1) li.2.1 L3 (by omega) rfl rfl rfl rfl ⟨rfl, rfl⟩ ⟨rfl, rfl⟩ ?_
  refine r_cv (y := 142) (t := 10) (a := ad 0) (ra := [.int (xs (1 + 6 * c + 1))]) (rest := []) rfl ⟨⟨rfl, rfl⟩, rfl, by decide⟩ li.t0 rfl rfl (Nat.le_of_ble_eq_true rfl) ?_
  refine EV_mono (ap_I sh_142 (k_reset li.1 (xs (1 + 6 * c + 1))) (by decide) (by decide) li) (fun v h1 q => ?_)
  obtain ⟨x, rfl, ⟨s1, t1⟩, e⟩ := q
  show WR 100 cd_0 1576 _ [.int x] h1 Q
  refine r_aload rfl rfl ?_
  refine b_rd (k := 1) s1 L3 (by omega) rfl rfl rfl rfl ⟨rfl, rfl⟩ ⟨rfl, rfl⟩ ?_
  refine r_cv (y := 245) (t := 11) (a := ad 30) (ra := [.int (xs (1 + 6 * c + 1))]) (rest := [.int x]) rfl ⟨⟨rfl, rfl⟩, rfl, by decide⟩ t1 rfl rfl (Nat.le_of_ble_eq_true rfl) ?_
  refine EV_mono e (fun v2 h2 q2 => ?_)
  obtain ⟨rfl, li2⟩ := q2
  show WR 100 cd_0 1585 _ [.int x, .int x] h2 Q
  exact r_icmp_eq (tg := 1693) rfl rfl (fun _ => nx _ li2) (fun q => absurd rfl q)
theorem lc_34 (li : LI n ad sa z0 b L xs Z U c h) (hi : 1 + 6 * c + 6 ≤ L) (L3 : L ≤ 3073) (nx : ∀ h', LI n ad sa z0 b L xs Z U (c + 1) h' → WR 100 cd_0 1693 [some (.ref b), some (.ref (ad 0)), some (.ref (ad 30)), some (.int (nI (1 + 6 * c)))] [] h' Q) : WR 100 cd_0 1590 [some (.ref b), some (.ref (ad 0)), some (.ref (ad 30)), some (.int (nI (1 + 6 * c)))] [] h Q := by
  refine r_aload rfl rfl ?_
  refine b_rd (k := 1) li.2.1 L3 (by omega) rfl rfl rfl rfl ⟨rfl, rfl⟩ ⟨rfl, rfl⟩ ?_
  refine b_rd (k := 2) li.2.1 L3 (by omega) rfl rfl rfl rfl ⟨rfl, rfl⟩ ⟨rfl, rfl⟩ ?_
  refine r_cv (y := 143) (t := 10) (a := ad 0) (ra := [.int (xs (1 + 6 * c + 2)), .int (xs (1 + 6 * c + 1))]) (rest := []) rfl ⟨⟨rfl, rfl⟩, rfl, by decide⟩ li.t0 rfl rfl (Nat.le_of_ble_eq_true rfl) ?_
  refine EV_mono (ap_L sh_143 (k_of li.1 (xs (1 + 6 * c + 1)) (xs (1 + 6 * c + 2))) (by decide) (by decide) li) (fun v h1 q => ?_)
  obtain ⟨x, rfl, ⟨s1, t1⟩, e⟩ := q
  show WR 100 cd_0 1604 _ [.long x] h1 Q
  refine r_aload rfl rfl ?_
  refine b_rd (k := 1) s1 L3 (by omega) rfl rfl rfl rfl ⟨rfl, rfl⟩ ⟨rfl, rfl⟩ ?_
  refine b_rd (k := 2) s1 L3 (by omega) rfl rfl rfl rfl ⟨rfl, rfl⟩ ⟨rfl, rfl⟩ ?_
  refine r_cv (y := 246) (t := 11) (a := ad 30) (ra := [.int (xs (1 + 6 * c + 2)), .int (xs (1 + 6 * c + 1))]) (rest := [.long x]) rfl ⟨⟨rfl, rfl⟩, rfl, by decide⟩ t1 rfl rfl (Nat.le_of_ble_eq_true rfl) ?_
  refine EV_mono e (fun v2 h2 q2 => ?_)
  obtain ⟨rfl, li2⟩ := q2
  show WR 100 cd_0 1618 _ [.long x, .long x] h2 Q
  refine r_lcmp rfl ?_
  rw [lg_self]
  exact r_if_eq (tg := 1693) rfl rfl (fun _ => nx _ li2) (fun q => absurd rfl q)
theorem lc_35 (li : LI n ad sa z0 b L xs Z U c h) (hi : 1 + 6 * c + 6 ≤ L) (L3 : L ≤ 3073) (nx : ∀ h', LI n ad sa z0 b L xs Z U (c + 1) h' → WR 100 cd_0 1693 [some (.ref b), some (.ref (ad 0)), some (.ref (ad 30)), some (.int (nI (1 + 6 * c)))] [] h' Q) : WR 100 cd_0 1624 [some (.ref b), some (.ref (ad 0)), some (.ref (ad 30)), some (.int (nI (1 + 6 * c)))] [] h Q := by
  refine r_aload rfl rfl ?_
  refine b_rd (k := 1) li.2.1 L3 (by omega) rfl rfl rfl rfl ⟨rfl, rfl⟩ ⟨rfl, rfl⟩ ?_
  refine b_rd (k := 2) li.2.1 L3 (by omega) rfl rfl rfl rfl ⟨rfl, rfl⟩ ⟨rfl, rfl⟩ ?_
  refine r_cv (y := 145) (t := 10) (a := ad 0) (ra := [.int (xs (1 + 6 * c + 2)), .int (xs (1 + 6 * c + 1))]) (rest := []) rfl ⟨⟨rfl, rfl⟩, rfl, by decide⟩ li.t0 rfl rfl (Nat.le_of_ble_eq_true rfl) ?_
  refine EV_mono (ap_I sh_145 (k_finding li.1 (xs (1 + 6 * c + 1)) (xs (1 + 6 * c + 2))) (by decide) (by decide) li) (fun v h1 q => ?_)
  obtain ⟨x, rfl, ⟨s1, t1⟩, e⟩ := q
  show WR 100 cd_0 1638 _ [.int x] h1 Q
  refine r_aload rfl rfl ?_
  refine b_rd (k := 1) s1 L3 (by omega) rfl rfl rfl rfl ⟨rfl, rfl⟩ ⟨rfl, rfl⟩ ?_
  refine b_rd (k := 2) s1 L3 (by omega) rfl rfl rfl rfl ⟨rfl, rfl⟩ ⟨rfl, rfl⟩ ?_
  refine r_cv (y := 247) (t := 11) (a := ad 30) (ra := [.int (xs (1 + 6 * c + 2)), .int (xs (1 + 6 * c + 1))]) (rest := [.int x]) rfl ⟨⟨rfl, rfl⟩, rfl, by decide⟩ t1 rfl rfl (Nat.le_of_ble_eq_true rfl) ?_
  refine EV_mono e (fun v2 h2 q2 => ?_)
  obtain ⟨rfl, li2⟩ := q2
  show WR 100 cd_0 1652 _ [.int x, .int x] h2 Q
  exact r_icmp_eq (tg := 1693) rfl rfl (fun _ => nx _ li2) (fun q => absurd rfl q)
theorem lc_36 (li : LI n ad sa z0 b L xs Z U c h) (hi : 1 + 6 * c + 6 ≤ L) (L3 : L ≤ 3073) (nx : ∀ h', LI n ad sa z0 b L xs Z U (c + 1) h' → WR 100 cd_0 1693 [some (.ref b), some (.ref (ad 0)), some (.ref (ad 30)), some (.int (nI (1 + 6 * c)))] [] h' Q) : WR 100 cd_0 1657 [some (.ref b), some (.ref (ad 0)), some (.ref (ad 30)), some (.int (nI (1 + 6 * c)))] [] h Q := by
  refine r_aload rfl rfl ?_
  refine r_cv (y := 146) (t := 10) (a := ad 0) (ra := []) (rest := []) rfl ⟨⟨rfl, rfl⟩, rfl, by decide⟩ li.t0 rfl rfl (Nat.le_of_ble_eq_true rfl) ?_
  refine EV_mono (ap_I sh_146 (k_why li.1 ) (by decide) (by decide) li) (fun v h1 q => ?_)
  obtain ⟨x, rfl, ⟨s1, t1⟩, e⟩ := q
  show WR 100 cd_0 1661 _ [.int x] h1 Q
  refine r_aload rfl rfl ?_
  refine r_cv (y := 248) (t := 11) (a := ad 30) (ra := []) (rest := [.int x]) rfl ⟨⟨rfl, rfl⟩, rfl, by decide⟩ t1 rfl rfl (Nat.le_of_ble_eq_true rfl) ?_
  refine EV_mono e (fun v2 h2 q2 => ?_)
  obtain ⟨rfl, li2⟩ := q2
  show WR 100 cd_0 1665 _ [.int x, .int x] h2 Q
  exact r_icmp_eq (tg := 1693) rfl rfl (fun _ => nx _ li2) (fun q => absurd rfl q)
theorem lc_37 (li : LI n ad sa z0 b L xs Z U c h) (hi : 1 + 6 * c + 6 ≤ L) (L3 : L ≤ 3073) (nx : ∀ h', LI n ad sa z0 b L xs Z U (c + 1) h' → WR 100 cd_0 1693 [some (.ref b), some (.ref (ad 0)), some (.ref (ad 30)), some (.int (nI (1 + 6 * c)))] [] h' Q) : WR 100 cd_0 1670 [some (.ref b), some (.ref (ad 0)), some (.ref (ad 30)), some (.int (nI (1 + 6 * c)))] [] h Q := by
  refine r_aload rfl rfl ?_
  refine b_rd (k := 1) li.2.1 L3 (by omega) rfl rfl rfl rfl ⟨rfl, rfl⟩ ⟨rfl, rfl⟩ ?_
  refine r_cv (y := 147) (t := 10) (a := ad 0) (ra := [.int (xs (1 + 6 * c + 1))]) (rest := []) rfl ⟨⟨rfl, rfl⟩, rfl, by decide⟩ li.t0 rfl rfl (Nat.le_of_ble_eq_true rfl) ?_
  refine EV_mono (ap_I sh_147 (k_count li.1 (xs (1 + 6 * c + 1))) (by decide) (by decide) li) (fun v h1 q => ?_)
  obtain ⟨x, rfl, ⟨s1, t1⟩, e⟩ := q
  show WR 100 cd_0 1679 _ [.int x] h1 Q
  refine r_aload rfl rfl ?_
  refine b_rd (k := 1) s1 L3 (by omega) rfl rfl rfl rfl ⟨rfl, rfl⟩ ⟨rfl, rfl⟩ ?_
  refine r_cv (y := 249) (t := 11) (a := ad 30) (ra := [.int (xs (1 + 6 * c + 1))]) (rest := [.int x]) rfl ⟨⟨rfl, rfl⟩, rfl, by decide⟩ t1 rfl rfl (Nat.le_of_ble_eq_true rfl) ?_
  refine EV_mono e (fun v2 h2 q2 => ?_)
  obtain ⟨rfl, li2⟩ := q2
  show WR 100 cd_0 1688 _ [.int x, .int x] h2 Q
  exact r_icmp_eq (tg := 1693) rfl rfl (fun _ => nx _ li2) (fun q => absurd rfl q)
end LAW

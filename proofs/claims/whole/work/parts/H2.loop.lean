/-! ===== the law's loop; the whole ===== -/
section LOOP
variable {n : Nat} {ad sa : Nat → Nat} {z0 b L : Nat} {xs : Nat → Int32} {Z U : Nat}
theorem LI.up {c : Nat} {h : mH} (li : LI n ad sa z0 b L xs Z U c h) : LI n ad sa z0 b L xs Z U (c + 1) h := by
  obtain ⟨r, scr, ⟨s, es, ls⟩, lz, lu⟩ := li
  exact ⟨r, scr, ⟨s, es, by omega⟩, by omega, by omega⟩
theorem lw_case {c : Nat} {h : mH} {Q : mQ} {x : Int32} (li : LI n ad sa z0 b L xs Z U c h) (hi : 1 + 6 * c + 6 ≤ L) (L3 : L ≤ 3073) (nx : ∀ h', LI n ad sa z0 b L xs Z U (c + 1) h' → WR 100 cd_0 1693 [some (.ref b), some (.ref (ad 0)), some (.ref (ad 30)), some (.int (nI (1 + 6 * c)))] [] h' Q) : WR 100 cd_0 43 [some (.ref b), some (.ref (ad 0)), some (.ref (ad 30)), some (.int (nI (1 + 6 * c)))] [.int x] h Q := by
  refine r_tsw (tg := 1693) rfl rfl (fun _ => nx h li.up) (fun q => ?_)
  rcases tsw_0_37 q with rfl | rfl | rfl | rfl | rfl | rfl | rfl | rfl | rfl | rfl | rfl | rfl | rfl | rfl | rfl | rfl | rfl | rfl | rfl | rfl | rfl | rfl | rfl | rfl | rfl | rfl | rfl | rfl | rfl | rfl | rfl | rfl | rfl | rfl | rfl | rfl | rfl | rfl
  · exact WR_pc (q := 208) rfl (lc_0 li hi L3 nx)
  · exact WR_pc (q := 251) rfl (lc_1 li hi L3 nx)
  · exact WR_pc (q := 294) rfl (lc_2 li hi L3 nx)
  · exact WR_pc (q := 337) rfl (lc_3 li hi L3 nx)
  · exact WR_pc (q := 370) rfl (lc_4 li hi L3 nx)
  · exact WR_pc (q := 403) rfl (lc_5 li hi L3 nx)
  · exact WR_pc (q := 426) rfl (lc_6 li hi L3 nx)
  · exact WR_pc (q := 449) rfl (lc_7 li hi L3 nx)
  · exact WR_pc (q := 532) rfl (lc_8 li hi L3 nx)
  · exact WR_pc (q := 576) rfl (lc_9 li hi L3 nx)
  · exact WR_pc (q := 629) rfl (lc_10 li hi L3 nx)
  · exact WR_pc (q := 672) rfl (lc_11 li hi L3 nx)
  · exact WR_pc (q := 715) rfl (lc_12 li hi L3 nx)
  · exact WR_pc (q := 758) rfl (lc_13 li hi L3 nx)
  · exact WR_pc (q := 811) rfl (lc_14 li hi L3 nx)
  · exact WR_pc (q := 874) rfl (lc_15 li hi L3 nx)
  · exact WR_pc (q := 907) rfl (lc_16 li hi L3 nx)
  · exact WR_pc (q := 940) rfl (lc_17 li hi L3 nx)
  · exact WR_pc (q := 984) rfl (lc_18 li hi L3 nx)
  · exact WR_pc (q := 1018) rfl (lc_19 li hi L3 nx)
  · exact WR_pc (q := 1041) rfl (lc_20 li hi L3 nx)
  · exact WR_pc (q := 1054) rfl (lc_21 li hi L3 nx)
  · exact WR_pc (q := 1098) rfl (lc_22 li hi L3 nx)
  · exact WR_pc (q := 1161) rfl (lc_23 li hi L3 nx)
  · exact WR_pc (q := 1224) rfl (lc_24 li hi L3 nx)
  · exact WR_pc (q := 1247) rfl (lc_25 li hi L3 nx)
  · exact WR_pc (q := 1270) rfl (lc_26 li hi L3 nx)
  · exact WR_pc (q := 1293) rfl (lc_27 li hi L3 nx)
  · exact WR_pc (q := 1316) rfl (lc_28 li hi L3 nx)
  · exact WR_pc (q := 1359) rfl (lc_29 li hi L3 nx)
  · exact WR_pc (q := 1432) rfl (lc_30 li hi L3 nx)
  · exact WR_pc (q := 1481) rfl (lc_31 li hi L3 nx)
  · exact WR_pc (q := 1544) rfl (lc_32 li hi L3 nx)
  · exact WR_pc (q := 1567) rfl (lc_33 li hi L3 nx)
  · exact WR_pc (q := 1590) rfl (lc_34 li hi L3 nx)
  · exact WR_pc (q := 1624) rfl (lc_35 li hi L3 nx)
  · exact WR_pc (q := 1657) rfl (lc_36 li hi L3 nx)
  · exact WR_pc (q := 1670) rfl (lc_37 li hi L3 nx)
theorem law_loop (L3 : L ≤ 3073) : ∀ r c h, c + r = 600 → LI n ad sa z0 b L xs Z U c h → WR 100 cd_0 28 [some (.ref b), some (.ref (ad 0)), some (.ref (ad 30)), some (.int (nI (1 + 6 * c)))] [] h (fun v h' => v = some (.int 1) ∧ hZ h' ≤ Z + 12000 ∧ hU h' ≤ U + 90000) := by
  intro r
  have six : (6 : Int32).toInt = 6 := rfl
  have fin : ∀ c h, c ≤ 600 → ¬ 1 + 6 * c + 6 ≤ L → LI n ad sa z0 b L xs Z U c h → WR 100 cd_0 28 [some (.ref b), some (.ref (ad 0)), some (.ref (ad 30)), some (.int (nI (1 + 6 * c)))] [] h (fun v h' => v = some (.int 1) ∧ hZ h' ≤ Z + 12000 ∧ hU h' ≤ U + 90000) := by
    intro c h hc hi li
    obtain ⟨-, scr, -, lz, lu⟩ := id li
    refine r_iload rfl rfl (r_aload rfl rfl (r_alen rfl (.inr scr.1.1) (r_ic (x := 6) rfl rfl (r_isub rfl ?_))))
    rw [scr.2.1]
    have e : (nI L - 6).toInt = (L : Int) - 6 := by rw [Int32.toInt_sub, nI_toInt (by omega), six, Int.bmod_eq_of_le (by omega) (by omega)]
    have e2 : (nI (1 + 6 * c)).toInt = ((1 + 6 * c : Nat) : Int) := nI_toInt (by omega)
    refine r_icmp_gt (tg := 1699) rfl rfl (fun _ => ?_) (fun q => absurd (Int32.lt_iff_toInt_lt.mpr (by rw [e, e2]; omega)) q)
    exact r_ic (x := 1) rfl rfl (r_zret rfl (.inr rfl) ⟨rfl, by omega, by omega⟩)
  induction r with
  | zero =>
    intro c h e li
    exact fin c h (by omega) (by omega) li
  | succ r ih =>
    intro c h e li
    by_cases hi : 1 + 6 * c + 6 ≤ L
    · obtain ⟨-, scr, -, lz, lu⟩ := id li
      refine r_iload rfl rfl (r_aload rfl rfl (r_alen rfl (.inr scr.1.1) (r_ic (x := 6) rfl rfl (r_isub rfl ?_))))
      rw [scr.2.1]
      have e1 : (nI L - 6).toInt = (L : Int) - 6 := by rw [Int32.toInt_sub, nI_toInt (by omega), six, Int.bmod_eq_of_le (by omega) (by omega)]
      have e2 : (nI (1 + 6 * c)).toInt = ((1 + 6 * c : Nat) : Int) := nI_toInt (by omega)
      refine r_icmp_gt (tg := 1699) rfl rfl (fun q => absurd (Int32.lt_iff_toInt_lt.mp q) (by rw [e1, e2]; omega)) (fun _ => ?_)
      refine r_aload rfl rfl (r_iload rfl rfl (r_iaload rfl (.inr scr.1.1) (by rw [scr.2.1]; exact vp_in_nI (by omega) (by omega)) (r_ic (x := 63) rfl rfl (r_iand rfl ?_))))
      refine lw_case li hi L3 (fun h' li' => ?_)
      refine r_iinc (y := nI (1 + 6 * (c + 1))) (lv' := [some (.ref b), some (.ref (ad 0)), some (.ref (ad 30)), some (.int (nI (1 + 6 * (c + 1))))]) rfl rfl ?_ rfl (r_goto (tg := 28) rfl rfl (ih (c + 1) h' (by omega) li'))
      have s6 : (Int32.ofInt 6).toInt = 6 := rfl
      refine i_inj ?_
      rw [Int32.toInt_add, nI_toInt (by omega), nI_toInt (by omega), s6, Int.bmod_eq_of_le (by omega) (by omega)]
      omega
    · exact fin c h (by omega) hi li
end LOOP
theorem whole_hyp (h : mH) (b L : Nat) (xs : Nat → Int32) (sa : Nat → Nat) (L3 : L ≤ 3073) (ok : h0ok h b L xs sa) : ∃ n h', wr (EVg cdT mxT 100) cd_0 n 0 (en [.ref b] 4) [] h (qEq (some (.int 1)) h') ∧ hZ h' ≤ hZ h + 600000 ∧ hU h' ≤ hU h + 7000000 := by
  have W : WR 100 cd_0 0 [some (.ref b), none, none, none] [] h (fun v h' => v = some (.int 1) ∧ hZ h' ≤ hZ h + 100 + 12000 ∧ hU h' ≤ hU h + 40000 + 90000) := by
    refine c_law0 (d := 96) L3 ok (fun h1 x1 => ?_)
    have nb := nOf_b (v := if L = 0 then 0 else xs 0)
    generalize nOf (if L = 0 then 0 else xs 0) = n at *
    have ck := ck_n nb.1 nb.2
    obtain ⟨rel, e63⟩ := rel0 nb.1 nb.2 ok x1 ck
    obtain ⟨⟨b1, b2, b3⟩, bz, -⟩ := ok
    obtain ⟨y1, y2, y3, -⟩ := x1.2.2.2.1 b bz
    have z1 := x1.1.1
    have u1 := x1.1.2
    have kc := ck.1.1
    have ku := ck.1.2
    have li : LI n (adz n (hZ h)) sa (hZ h + (69 + 5 * n)) b L xs (hZ h + 100) (hU h + 40000) 0 h1 := ⟨rel, ⟨⟨y1.trans b1, by omega⟩, y2.trans b2, fun j hj => by rw [y3]; exact b3 j hj⟩, ⟨0, e63, by omega⟩, by omega, by omega⟩
    have lp := law_loop L3 600 0 h1 (by omega) li
    have a0 : adz n (hZ h) 0 = hZ h := (adz_d (n := n) (z := hZ h) (.inl (by decide))).1
    have a30 : adz n (hZ h) 30 = hZ h + qc (gWP (qn q0 10 7 7) 0 n) := by rw [wp_n nb.1 nb.2]; exact (adz_d (n := n) (z := hZ h) (.inl (by decide))).1
    rw [a0, a30] at lp
    exact lp
  obtain ⟨k, q⟩ := W
  obtain ⟨v, h', -, ⟨e1, e2, e3⟩, f⟩ := wr_lin (EVg_lin cdT mxT 100) k _ _ _ _ _ q
  exact ⟨k, h', f _ ⟨e1, rfl⟩, by omega, by omega⟩

/-! ===== run, the reference's side: one turbine ===== -/
section MT
variable {n np : Nat} {ad sa : Nat → Nat} {z0 : Nat} {h X M : mH} {B E : Nat → Int64} {S : yS} {s0 w i kk d : Nat} {Q : mQ}
theorem m_tur (k : MW n ad sa z0 h X) (ok : eOK n np ad h s0 w) (hs : s0 + i ≤ 20480) (hk : kk < n) (hi : i ≤ 40) (vi : VI n ad h s0 w i kk S) (r : RX n np ad X (eOr n ad h w) n (s0 + i) (eB ad h i) (eE ad h i) S M) (hQ : ∀ M', RX n np ad X (eOr n ad h w) n (s0 + i) (eB ad h i) (eE ad h i) (yTur n ad h s0 w i kk S) M' → Q none M') : EV (d + 5) 235 [.ref (ad 30), .int (nI kk)] M Q := by
  have n6 := ok.1.1
  have fxM := r.1.fx k.1
  have ht : eOr n ad h w kk < n := eOr_lt hk
  have vt := vi.2.1 kk (Nat.le_refl kk) hk
  have ek : hI M (ad 75) kk = nI (eOr n ad h w kk) := r.2.2.2.2.2.1 kk hk
  have eT : yTur n ad h s0 w i kk S = (if yA S (eOr n ad h w kk) = 4 then yuD S 69 (eOr n ad h w kk) (FP.dmul (yD S 69 (eOr n ad h w kk)) 4602678819172646912)
    else y0 ad h (s0 + i) (eOr n ad h w kk) (eVo ad h s0 i (eOr n ad h w kk)) (eWi n ad h w (eVo ad h s0 i (eOr n ad h w kk)) kk (eOr n ad h w kk) S) S) := rfl
  generalize yTur n ad h s0 w i kk S = Y at *
  have hor : ∀ j, j < n → eOr n ad h w j < n := fun j hj => eOr_lt hj
  generalize eo : eOr n ad h w kk = t at *
  have t6 : t < 6 := by omega
  have k6 : kk < 6 := by omega
  have e66 := r.2.1.1 t ht
  by_cases c4 : yA S t = 4
  · rw [if_pos c4] at eT
    rw [c4] at e66
    refine w_rt4 (d := d + 4) fxM t6 k6 ek e66 (r.nu ht).2.2.2.1 (nn_vf (isF_nn (nb_slow hs vt.2.2).1)) (hQ _ ?_)
    rw [eT]
    exact r.d k (r0 := 69) (.inl (by decide))
  · rw [if_neg c4] at eT
    have hv := eVo_ok (i := i) ok ht
    have s3 : yA S t ≤ 3 := by have := vt.1; omega
    refine w_rq0 (d := d + 4) (s := yA S t) fxM t6 k6 ek (by omega) e66 ?_
    refine m_vt (d := d) k ok hs ht r (fun _ _ => ⟨rfl, rfl⟩) (fun M1 r1 => ?_)
    have fx1 := r1.1.fx k.1
    refine w_rt44 (d := d + 4) fx1 t6 ?_
    have r2 : RX n np ad X (eOr n ad h w) n (s0 + i) (eB ad h i) (eE ad h i) (yuD S 72 t (eVo ad h s0 i t)) (sD M1 (ad 72) t (eVo ad h s0 i t)) := r1.d k (r0 := 72) (.inr (.inl rfl))
    have fx2 := r2.1.fx k.1
    have ebm := eBl_m hv
    -- behind the wind
    have wnd : ∀ o3 o4 o5 o6 o7 o8 o9 o10 o11, WR (d + 4) cd_235 56 [some (.ref (ad 30)), some (.int (nI kk)), some (.int (nI t)), o3, o4, o5, o6, o7, o8, o9, o10, o11] [.double (eWi n ad h w (eVo ad h s0 i t) kk t S), .int (nI t), .ref (ad 73)] (sD M1 (ad 72) t (eVo ad h s0 i t)) Q := by
      intro o3 o4 o5 o6 o7 o8 o9 o10 o11
      have wi : bd (eWi n ad h w (eVo ad h s0 i t) kk t S) 1000 := eWi_ok hv
      have va := v0_ok (a := gSt (yA S t) (eBl (eVo ad h s0 i t)) (eWi n ad h w (eVo ad h s0 i t) kk t S) (yD S 69 t) (hD h (ad 71) t)) vt hv wi gSt_le
      unfold y0 at eT
      generalize eVo ad h s0 i t = v at *
      generalize eWi n ad h w v kk t S = x at *
      generalize sD M1 (ad 72) t v = M2 at *
      refine w_rt56 (d := d + 4) fx2 t6 ?_
      have r3 : RX n np ad X (eOr n ad h w) n (s0 + i) (eB ad h i) (eE ad h i) (yuD (yuD S 72 t v) 73 t x) (sD M2 (ad 73) t x) := r2.d k (r0 := 73) (.inr (.inr rfl))
      generalize sD M2 (ad 73) t x = M3 at *
      have fx3 := r3.1.fx k.1
      have x72 : hD M3 (ad 72) t = v := by
        have q := r3.2.1.2 72 (.inr (.inl rfl)) t ht
        rw [yD_r (by decide), yD_D] at q; exact q
      obtain ⟨x73, -, -, x69, -⟩ := r3.nu ht
      rw [yD_D] at x73
      rw [yD_r (by decide), yD_r (by decide)] at x69
      have x71 := r3.bd k t
      have x66 : hI M3 (ad 66) t = nI (yA S t) := r3.2.1.1 t ht
      -- behind the change of state
      have chg : ∀ M4, RX n np ad X (eOr n ad h w) n (s0 + i) (eB ad h i) (eE ad h i) (yuA (yuD (yuD S 72 t v) 73 t x) t (gSt (yA S t) (eBl v) x (yD S 69 t) (hD h (ad 71) t))) M4 → WR (d + 4) cd_235 62 [some (.ref (ad 30)), some (.int (nI kk)), some (.int (nI t)), o3, o4, o5, o6, o7, o8, o9, o10, o11] [] M4 Q := by
        intro M4 r4
        have g3 : gSt (yA S t) (eBl v) x (yD S 69 t) (hD h (ad 71) t) ≤ 3 := gSt_le
        have es : yA (yuA (yuD (yuD S 72 t v) 73 t x) t (gSt (yA S t) (eBl v) x (yD S 69 t) (hD h (ad 71) t))) t = gSt (yA S t) (eBl v) x (yD S 69 t) (hD h (ad 71) t) := yA_A
        have eO : yO (yuA (yuD (yuD S 72 t v) 73 t x) t (gSt (yA S t) (eBl v) x (yD S 69 t) (hD h (ad 71) t))) = yO S := rfl
        have eK : yK (yuA (yuD (yuD S 72 t v) 73 t x) t (gSt (yA S t) (eBl v) x (yD S 69 t) (hD h (ad 71) t))) = yK S := rfl
        generalize gSt (yA S t) (eBl v) x (yD S 69 t) (hD h (ad 71) t) = s at *
        generalize yuA (yuD (yuD S 72 t v) 73 t x) t s = S3 at *
        have fx4 := r4.1.fx k.1
        have k40 : yK S3 ≤ 40 := by rw [eK]; exact vi.2.2.1
        have f30 : yO S3 ≤ 30000 := by rw [eO]; have := vi.2.2.2; omega
        have s2 : s0 + i ≤ 30000 := by omega
        obtain ⟨h1, h2, h3, ⟨h4, h5⟩, h6, h7⟩ := NB_bd.mp va.2.2
        obtain ⟨y1', y2'⟩ := by_ok (r := s) hs h4 h2
        obtain ⟨go1, go2, -⟩ := goal_ok (r := s) hs h4
        -- behind the pitch
        have good : ∀ S4 M5 y4 y6 y o10 o11, RX n np ad X (eOr n ad h w) n (s0 + i) (eB ad h i) (eE ad h i) S4 M5 → yA S4 t = s → vP ad h (s0 + i) S4 t → Y = y3 ad h (s0 + i) s t (y2 ad h s t S4) → yK S4 ≤ 40 → yO S4 ≤ 30000 → WR (d + 4) cd_235 232 [some (.ref (ad 30)), some (.int (nI kk)), some (.int (nI t)), some (.int (nI s)), some (.double y4), none, some (.double y6), none, some (.double y), none, o10, o11] [] M5 Q := by
          intro S4 M5 y4 y6 y o10 o11 r5 a5 p5 eY k5 f5
          have fx5 := r5.1.fx k.1
          obtain ⟨-, -, e68, e69, -⟩ := r5.nu ht
          obtain ⟨q1, q2, q3, ⟨q4, q5⟩, q6, q7⟩ := p5
          obtain ⟨k1, k2, k3, k4, k5'⟩ := g1_ok (r := s) hs q4 q3
          have u1 := u_ok hs q1 q2 k5' q4 q5
          obtain ⟨x1, x2, x3, x4, x5, x6, x7, x8, -⟩ := x_ok hs q1 q2 k5' q4 q5
          have g2 := g2_ok hs k5' u1.1 u1.2 q7 q6
          have eU : gU (yD S4 73 t) (yD S4 67 t) (gG1 s (yD S4 68 t) (yD S4 69 t)) (yD S4 69 t) = grD 0 (gX (yD S4 73 t) (yD S4 67 t) (gG1 s (yD S4 68 t) (yD S4 69 t)) (yD S4 69 t)) := by
            rw [gr_z (isF_nn x8)]
            unfold gU
            by_cases c : FP.dcmp (gX (yD S4 73 t) (yD S4 67 t) (gG1 s (yD S4 68 t) (yD S4 69 t)) (yD S4 69 t)) 0 = some .gt
            · rw [if_pos (dgt_B.mp c), if_pos c]
            · rw [if_neg (fun z => c (dgt_B.mpr z)), if_neg c]
          have e2 := y2_e (ad := ad) (h := h) (s := s) (t := t) (S := S4) rfl rfl
          -- behind the energy
          have fin : ∀ M6 o10 o11, RX n np ad X (eOr n ad h w) n (s0 + i) (eB ad h i) (eE ad h i) (y2 ad h s t S4) M6 → WR (d + 4) cd_235 439 [some (.ref (ad 30)), some (.int (nI kk)), some (.int (nI t)), some (.int (nI s)), some (.double y4), none, some (.double y6), none, some (.double y), none, o10, o11] [] M6 Q := by
            intro M6 o10 o11 r6
            have fx6 := r6.1.fx k.1
            obtain ⟨-, -, -, d4, d5⟩ := y2_D (ad := ad) (h := h) (s := s) (t := t) (S := S4)
            have k6' : yK (y2 ad h s t S4) ≤ 40 := y2_on.2 k5
            have o6' : yO (y2 ad h s t S4) ≤ 30000 := by rw [y2_O]; exact f5
            have a6 : yA (y2 ad h s t S4) t = s := by rw [d5]; exact a5
            have w6 : bd (yD (y2 ad h s t S4) 73 t) 1000 := by rw [d4 73 (by decide) (by decide) (by decide)]; exact q1
            generalize y2 ad h s t S4 = S5 at *
            have e73 := (r6.nu ht).1
            have n2 : s ≠ 2 → Q none M6 := fun c2 => by
              unfold y3 at eY
              rw [if_neg c2] at eY
              exact hQ M6 (by rw [eY]; exact r6)
            have c : s = 0 ∨ s = 1 ∨ s = 2 ∨ s = 3 := by omega
            rcases c with rfl | rfl | rfl | rfl
            · exact w_rt439_0 (d := d + 4) fx6 t6 (n2 (by decide))
            · exact w_rt439_1 (d := d + 4) fx6 t6 (n2 (by decide))
            · have ld := ld_ok w6
              refine w_rt439_2 (d := d + 4) fx6 t6 e73 (fun _ => ?_) (fun c => absurd ld.2 c)
              unfold y3 yEnd at eY
              rw [if_pos rfl] at eY
              refine m_wa (sl := 4) (d := d) k ok r6 ht (by decide) k6' o6' s2 (d2i_bd w6 (by decide)) (fun R eR z M7 r7 => ?_) (fun R eR z M7 r7 => ?_)
              · rw [eR, if_pos z] at eY
                have w2 := yWe_2 (ad := ad) (h := h) (t := t) (sl := 4) (l := FP.d2i (yD S5 73 t)) (S := S5)
                rw [eR] at w2
                refine w_rt475_1 (d := d + 4) (r7.1.fx k.1) t6 (hQ _ ?_)
                have r8 : RX n np ad X (eOr n ad h w) n (s0 + i) (eB ad h i) (eE ad h i) (yuA R.2 t 2) (sI M7 (ad 66) t 2) := r7.sta k SI1.st
                have eA : yA R.2 t = 2 := by rw [w2.1]; exact a6
                have e9 : yuA R.2 t 2 = R.2 := by
                  have q := yA_self (S := R.2) (t := t)
                  rw [eA] at q; exact q
                rw [e9] at r8
                rw [eY]; exact r8
              · rw [eR, if_neg z] at eY
                refine w_rt475_0 (d := d + 4) (r7.1.fx k.1) t6 (hQ _ ?_)
                have r8 : RX n np ad X (eOr n ad h w) n (s0 + i) (eB ad h i) (eE ad h i) (yuA (yFal R.2 t 4 R.1 (s0 + i)) t 4) (sI M7 (ad 66) t 4) := r7.sta k SI1.st
                have eA : yA (yFal R.2 t 4 R.1 (s0 + i)) t = 4 := yA_A (S := R.2)
                have e9 : yuA (yFal R.2 t 4 R.1 (s0 + i)) t 4 = yFal R.2 t 4 R.1 (s0 + i) := by
                  have q := yA_self (S := yFal R.2 t 4 R.1 (s0 + i)) (t := t)
                  rw [eA] at q; exact q
                rw [e9] at r8
                rw [eY]; exact r8
            · exact w_rt439_3 (d := d + 4) fx6 t6 (n2 (by decide))
          -- behind the torque
          have tail : ∀ M6 o10 o11, RX n np ad X (eOr n ad h w) n (s0 + i) (eB ad h i) (eE ad h i) (yuD S4 68 t (gG1 s (yD S4 68 t) (yD S4 69 t))) M6 → WR (d + 4) cd_235 313 [some (.ref (ad 30)), some (.int (nI kk)), some (.int (nI t)), some (.int (nI s)), some (.double y4), none, some (.double y6), none, some (.double y), none, o10, o11] [] M6 Q := by
            intro M6 o10 o11 r6
            have fx6 := r6.1.fx k.1
            obtain ⟨f73, f67, f68, f69, f70⟩ := r6.nu ht
            rw [yD_r (by decide)] at f73 f67 f69 f70
            rw [yD_D] at f68
            refine w_rt313 (d := d + 4) fx6 t6 f73 f67 f68 f69 (nn_vf (isF_nn x1)) (nn_vf (isF_nn x2)) (nn_vf (isF_nn x3)) (nn_vf (isF_nn x4)) (nn_vf (isF_nn x5)) (nn_vf (isF_nn x6)) (nn_vf (isF_nn x7)) (nn_vf (isF_nn x8)) ?_
            refine c_greater (d := d + 2) fx6 z_nn ?_
            show WR (d + 4) cd_235 370 _ [.double (grD 0 (gX (yD S4 73 t) (yD S4 67 t) (gG1 s (yD S4 68 t) (yD S4 69 t)) (yD S4 69 t))), .int (nI t), .ref (ad 69)] M6 Q
            rw [← eU]
            refine w_rt370 (d := d + 4) fx6 t6 ?_
            have r7 : RX n np ad X (eOr n ad h w) n (s0 + i) (eB ad h i) (eE ad h i) (yuD (yuD S4 68 t (gG1 s (yD S4 68 t) (yD S4 69 t))) 69 t (gU (yD S4 73 t) (yD S4 67 t) (gG1 s (yD S4 68 t) (yD S4 69 t)) (yD S4 69 t))) (sD M6 (ad 69) t (gU (yD S4 73 t) (yD S4 67 t) (gG1 s (yD S4 68 t) (yD S4 69 t)) (yD S4 69 t))) := r6.d k (r0 := 69) (.inl (by decide))
            clear eU x1 x2 x3 x4 x5 x6 x7 x8
            generalize gG1 s (yD S4 68 t) (yD S4 69 t) = G1 at *
            generalize gU (yD S4 73 t) (yD S4 67 t) G1 (yD S4 69 t) = U1 at *
            generalize sD M6 (ad 69) t U1 = M7 at *
            have fx7 := r7.1.fx k.1
            obtain ⟨-, -, g68, g69, g70⟩ := r7.nu ht
            rw [yD_r (by decide), yD_D] at g68
            rw [yD_D] at g69
            rw [yD_r (by decide), yD_r (by decide)] at g70
            refine w_rt371 (d := d + 4) fx7 t6 g68 g69 (r7.bd k t) g70 (nn_vf (isF_nn g2.1)) (fun _ => nn_vf (isF_nn g2.1)) (fun c => ?_) (fun c => ?_) (fun c => ?_) (fun c => ?_) (fun c => ?_) (fun c => ?_)
            · have q := g2.2.2.2.2.1
              unfold gEn gG2 at q
              rw [if_neg (fun z => c (dgt_B.mpr z))] at q
              exact nn_vf (isF_nn q)
            · rw [if_neg (fun z => c (dgt_B.mpr z))] at e2
              refine fin _ _ _ ?_
              rw [e2]
              exact r7.d k (r0 := 70) (.inl (by decide))
            · exact nn_vf (isF_nn (g2.2.1 (dgt_B.mp c)))
            · have q := g2.2.2.2.1
              unfold gG2 at q
              rw [if_pos (dgt_B.mp c)] at q
              exact nn_vf (isF_nn q)
            · have q := g2.2.2.2.2.1
              unfold gEn gG2 at q
              rw [if_pos (dgt_B.mp c)] at q
              exact nn_vf (isF_nn q)
            · rw [if_pos (dgt_B.mp c)] at e2
              refine fin _ _ _ ?_
              rw [e2]
              exact (r7.d k (r0 := 68) (.inl (by decide))).d k (r0 := 70) (.inl (by decide))
          have c : s = 0 ∨ s = 1 ∨ s = 2 ∨ s = 3 := by omega
          rcases c with rfl | rfl | rfl | rfl
          · exact w_rt232_0 (d := d + 4) fx5 t6 e68 e69 (nn_vf (isF_nn k4)) (tail _ _ _ (r5.d k (r0 := 68) (.inl (by decide))))
          · exact w_rt232_1 (d := d + 4) fx5 t6 e68 e69 (nn_vf (isF_nn k4)) (tail _ _ _ (r5.d k (r0 := 68) (.inl (by decide))))
          · refine w_rt232_2 (d := d + 4) fx5 t6 e68 e69 (nn_vf (isF_nn k1)) (nn_vf (isF_nn k2)) (c_lesser (d := d + 2) fx5 (isF_nn kn_h.1) ?_)
            have em : (13826050856027422720 : UInt64) = FP.dneg 4602678819172646912 := by decide +kernel
            refine w_rt269 (d := d + 4) fx5 t6 (c_greater (d := d + 2) fx5 (by rw [em]; exact isF_nn kn_hm.1.1) ?_)
            rw [em, lim_h (isF_nn k2)]
            have eg : gG1 2 (yD S4 68 t) (yD S4 69 t) = if dltB (gQ (yD S4 68 t) (yD S4 69 t)) 0 = true then 0 else gQ (yD S4 68 t) (yD S4 69 t) := rfl
            refine w_rt272 (d := d + 4) fx5 t6 (nn_vf (isF_nn k3)) (fun c => ?_) (fun c => ?_)
            · refine tail _ _ _ ?_
              have c : ¬ dlt (gQ (yD S4 68 t) (yD S4 69 t)) 0 := c
              rw [eg, if_neg (fun z => c (dlt_B.mpr z))]
              exact r5.d k (r0 := 68) (.inl (by decide))
            · refine tail _ _ _ ?_
              have c : dlt (gQ (yD S4 68 t) (yD S4 69 t)) 0 := c
              rw [eg, if_pos (dlt_B.mp c)]
              exact r5.d k (r0 := 68) (.inl (by decide))
          · exact w_rt232_3 (d := d + 4) fx5 t6 e68 e69 (nn_vf (isF_nn k4)) (tail _ _ _ (r5.d k (r0 := 68) (.inl (by decide))))
        -- behind the rate
        have blades : ∀ y4 y6 o8 o9 o10 o11, WR (d + 4) cd_235 166 [some (.ref (ad 30)), some (.int (nI kk)), some (.int (nI t)), some (.int (nI s)), some (.double y4), none, some (.double y6), none, o8, o9, o10, o11] [.double (gBy s (yD S3 67 t) (yD S3 69 t))] M4 Q := by
          intro y4 y6 o8 o9 o10 o11
          have e67 := (r4.nu ht).2.1
          unfold y1 at eT
          have pk := p_ok hs h2 y2'
          generalize gBy s (yD S3 67 t) (yD S3 69 t) = y at *
          have wear : ¬ FP.dcmp y 0 = some .eq → ∀ o10 o11, EV (d + 4) 243 [.ref (ad 30), .int (nI t), .int 3, .int (FP.d2i (gAb y))] M4 (fun v_ h_ => WR (d + 4) cd_235 197 [some (.ref (ad 30)), some (.int (nI kk)), some (.int (nI t)), some (.int (nI s)), some (.double y4), none, some (.double y6), none, some (.double y), none, o10, o11] (v_.toList ++ []) h_ Q) := by
            intro c o10 o11
            rw [if_neg c] at eT
            unfold yEnd at eT
            refine m_wa (sl := 3) (d := d) k ok r4 ht (by decide) k40 f30 s2 (d2i_bd (ab_bd y2') (by decide)) (fun R eR z M5 r5 => ?_) (fun R eR z M5 r5 => ?_)
            · rw [eR, if_pos z] at eT
              obtain ⟨w1, w2, w3, w4⟩ := yWe_2 (ad := ad) (h := h) (t := t) (sl := 3) (l := FP.d2i (gAb y)) (S := S3)
              rw [eR] at w1 w2 w3 w4
              have fx5 := r5.1.fx k.1
              have e5 : hD M5 (ad 67) t = yD S3 67 t := by rw [(r5.nu ht).2.1, w2]
              refine w_rt197_1 (d := d + 4) fx5 t6 (w_rt201 (d := d + 4) fx5 t6 e5 (fun q => absurd q c) (fun _ => nn_vf (isF_nn pk.1)) (fun _ => ?_))
              refine good _ _ _ _ _ _ _ (r5.d k (r0 := 67) (.inl (by decide))) ?_ ?_ eT ?_ ?_
              · show yA R.2 t = s
                rw [w1]; exact es
              · unfold vP
                rw [yD_D, yD_r (by decide), yD_r (by decide), yD_r (by decide), yD_r (by decide), w2]
                exact ⟨h1, pk, h3, ⟨h4, h5⟩, h6, h7⟩
              · show yK R.2 ≤ 40
                rw [w3]; exact k40
              · show yO R.2 ≤ 30000
                rw [w4]; exact f30
            · rw [eR, if_neg z] at eT
              exact w_rt197_0 (d := d + 4) (r5.1.fx k.1) t6 (hQ M5 (by rw [eT]; exact r5))
          refine w_rt166 (d := d + 4) fx4 t6 (fun c => ?_) (fun c c2 => ?_) (fun c c2 => ?_)
          · have c' : FP.dcmp y 0 = some .eq := c
            rw [if_pos c'] at eT
            refine w_rt201 (d := d + 4) fx4 t6 e67 (fun _ => ?_) (fun q => absurd c q) (fun q => absurd c q)
            have r5 : RX n np ad X (eOr n ad h w) n (s0 + i) (eB ad h i) (eE ad h i) (yuD S3 67 t (yD S3 67 t)) (sD M4 (ad 67) t (yD S3 67 t)) := r4.d k (r0 := 67) (.inl (by decide))
            rw [yD_self] at r5
            exact good S3 _ _ _ _ _ _ r5 es va.p eT k40 f30
          · have e : gAb y = y := if_neg (fun z => c2 (dlt_B.mpr z))
            have q := wear c o10 o11
            rw [e] at q; exact q
          · have e : gAb y = FP.dneg y := if_pos (dlt_B.mp c2)
            have q := wear c o10 o11
            rw [e] at q; exact q
        -- behind the goal
        have e67 := (r4.nu ht).2.1
        have e69 := (r4.nu ht).2.2.2.1
        have e66 := r4.2.1.1 t ht
        rw [es] at e66
        have rate : ∀ o4 o5 o6 o7 o8 o9 o10 o11, WR (d + 4) cd_235 128 [some (.ref (ad 30)), some (.int (nI kk)), some (.int (nI t)), some (.int (nI s)), o4, o5, o6, o7, o8, o9, o10, o11] [.double (gGoal s (yD S3 69 t))] M4 Q := by
          intro o4 o5 o6 o7 o8 o9 o10 o11
          have nn := isF_nn y1'
          have c : s = 0 ∨ s = 1 ∨ s = 2 ∨ s = 3 := by omega
          rcases c with rfl | rfl | rfl | rfl
          · refine w_rt128_0 (d := d + 4) fx4 t6 e67 (nn_vf nn) (c_lesser (d := d + 2) fx4 (isF_nn kn_6.1.1) (w_rt163 (d := d + 4) (s := 0) fx4 t6 (c_greater (d := d + 2) fx4 (isF_nn kn_6.2.1.1) ?_)))
            rw [lim_6 nn]; exact blades _ _ _ _ _ _
          · refine w_rt128_1 (d := d + 4) fx4 t6 e67 (nn_vf nn) (c_lesser (d := d + 2) fx4 (isF_nn kn_6.1.1) (w_rt163 (d := d + 4) (s := 1) fx4 t6 (c_greater (d := d + 2) fx4 (isF_nn kn_6.2.1.1) ?_)))
            rw [lim_6 nn]; exact blades _ _ _ _ _ _
          · refine w_rt128_2 (d := d + 4) fx4 t6 e67 (nn_vf nn) (c_lesser (d := d + 2) fx4 (isF_nn kn_6.1.1) (w_rt163 (d := d + 4) (s := 2) fx4 t6 (c_greater (d := d + 2) fx4 (isF_nn kn_6.2.1.1) ?_)))
            rw [lim_6 nn]; exact blades _ _ _ _ _ _
          · refine w_rt128_3 (d := d + 4) fx4 t6 e67 (nn_vf nn) (c_lesser (d := d + 2) fx4 (isF_nn kn_12.1.1) (w_rt163 (d := d + 4) (s := 3) fx4 t6 (c_greater (d := d + 2) fx4 (isF_nn kn_12.2.1.1) ?_)))
            rw [lim_12 nn]; exact blades _ _ _ _ _ _
        have c : s = 0 ∨ s = 1 ∨ s = 2 ∨ s = 3 := by omega
        rcases c with rfl | rfl | rfl | rfl
        · exact w_rt62_0 (d := d + 4) fx4 t6 e66 e69 (rate _ _ _ _ _ _ _ _)
        · exact w_rt62_1 (d := d + 4) fx4 t6 e66 e69 (rate _ _ _ _ _ _ _ _)
        · have eg : gGoal 2 (yD S3 69 t) = (if dleB (yD S3 69 t) 4621819117588971520 = true then 0 else if dgtB (FP.dmul (FP.dsub (yD S3 69 t) 4621819117588971520) 4620693217682128896) 4636033603912859648 = true then 4636033603912859648 else FP.dmul (FP.dsub (yD S3 69 t) 4621819117588971520) 4620693217682128896) := rfl
          refine w_rt62_2 (d := d + 4) fx4 t6 e66 e69 (fun _ => nn_vf (isF_nn go1)) (fun _ => nn_vf (isF_nn go2)) (fun c => c_lesser (d := d + 2) fx4 (isF_nn kn_90.1.1) ?_) (fun c => ?_)
          · rw [ls_90 (isF_nn go2)]
            have q := rate o4 o5 o6 o7 o8 o9 o10 o11
            rw [eg, if_neg (fun z => c (dle_B.mpr z))] at q
            by_cases c2 : FP.dcmp (FP.dmul (FP.dsub (yD S3 69 t) 4621819117588971520) 4620693217682128896) 4636033603912859648 = some .gt
            · rw [if_pos (dgt_B.mp c2)] at q
              rw [if_pos c2]; exact q
            · rw [if_neg (fun z => c2 (dgt_B.mpr z))] at q
              rw [if_neg c2]; exact q
          · have q := rate o4 o5 o6 o7 o8 o9 o10 o11
            rw [eg, if_pos (dle_B.mp c)] at q
            exact q
        · exact w_rt62_3 (d := d + 4) fx4 t6 e66 e69 (rate _ _ _ _ _ _ _ _)
      have c : yA S t = 0 ∨ yA S t = 1 ∨ yA S t = 2 ∨ yA S t = 3 := by omega
      rcases c with q | q | q | q
      · rw [q] at chg x66
        exact m_st0 (d := d + 3) fx3 t6 ebm x66 x72 x73 x69 x71 (fun M4 y => chg M4 (r3.sta k y))
      · rw [q] at chg x66
        exact m_st1 (d := d + 3) fx3 t6 ebm x66 x72 x73 x69 x71 (fun M4 y => chg M4 (r3.sta k y))
      · rw [q] at chg x66
        exact m_st2 (d := d + 3) fx3 t6 ebm x66 x72 x73 x69 x71 (fun M4 y => chg M4 (r3.sta k y))
      · rw [q] at chg x66
        exact m_st3 (d := d + 3) fx3 t6 ebm x66 x72 x73 x69 x71 (fun M4 y => chg M4 (r3.sta k y))
    have v72 : hD (sD M1 (ad 72) t (eVo ad h s0 i t)) (ad 72) t = eVo ad h s0 i t := D_eq
    have fI' : ∀ i' j, ¬ (i' = 30 ∧ (j = 9 ∨ j = 11 ∨ j = 17 ∨ j = 63 ∨ j = 64 ∨ j = 65)) ∧ i' ≠ 39 ∧ i' ≠ 66 ∧ i' ≠ 74 ∧ i' ≠ 75 → 30 ≤ i' → i' < 76 → hI (sD M1 (ad 72) t (eVo ad h s0 i t)) (ad i') j = hI h (ad i') j := fun i' j hh h3 h7 => by
      rw [r2.1.2.2.1 _ _ (fmI_ad k.1 hh)]; exact k.2.2.1 i' j h3 h7 (by omega)
    refine m_windo (d := d) (o := eOr n ad h w) (L := eLn n ad h w) (C := eCr ad h w) (st := fun u => nI (yA S u)) (w := w) fx2 ok.1.2.2.1 (by rw [fI' 30 61 (by omega) (by decide) (by decide)]; exact ok.1.2.2.2.1) hk ht hor (fun j hj => r2.2.2.2.2.2.1 j hj) (fun u hu => ?_) (fun u hu => ?_) (fun u hu => r2.2.1.1 u hu) (eHp ok t) v72 (fun q => ?_) (fun q => ?_) (fun q => ?_)
    · unfold eLn
      rw [if_pos hu, fI' 61 u (by omega) (by decide) (by decide), fI' 62 u (by omega) (by decide) (by decide)]
    · unfold eCr
      rw [fI' 61 u (by omega) (by decide) (by decide), fI' 62 u (by omega) (by decide) (by decide)]
    · rcases hv with z | z
      · rw [z] at q; exact absurd q nanc_n
      · exact z.1
    · have ew : eWi n ad h w (eVo ad h s0 i t) kk t S = 0 := if_pos (ebm.mpr q)
      have q2 := wnd none none none none none none none none none
      rw [ew] at q2
      exact q2
    · have ew : eWi n ad h w (eVo ad h s0 i t) kk t S = FP.dmul (eVo ad h s0 i t) (FP.dsub 4607182418800017408 (wkV (wkS (eLn n ad h w) (eCr ad h w) (fun u => nI (yA S u)) (eOr n ad h w) t kk))) := if_neg (fun z => ebm.mp z q)
      have q2 := wnd none none none none none none none none none
      rw [ew] at q2
      exact q2
end MT

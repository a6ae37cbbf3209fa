/-! ===== the start: the reference's constructor, the law's first lines ===== -/
section MDS
variable {h0 h : mH} {z i d n b L : Nat} {G : qG} {Q : mQ} {v : Int32}
/-- how many turbines -/
def nOf (v : Int32) : Nat := if v.toInt < 1 then 1 else if 6 < v.toInt then 6 else v.toInt.toNat
theorem nOf_b : 1 ≤ nOf v ∧ nOf v ≤ 6 := by
  unfold nOf
  split
  · omega
  · split <;> omega
theorem nOf_c : (¬ 1 ≤ v → nI (nOf v) = 1) ∧ (1 ≤ v → v ≤ 6 → nI (nOf v) = v) ∧ (1 ≤ v → ¬ v ≤ 6 → nI (nOf v) = 6) ∧ (if (1 : Int32) < (if v < 6 then v else 6) then (if v < 6 then v else 6) else 1) = nI (nOf v) := by
  have o : (1 : Int32).toInt = 1 := rfl
  have s : (6 : Int32).toInt = 6 := rfl
  have nn : ∀ k : Nat, k < 2 ^ 31 → (nI k).toInt = k := fun k hk => nI_toInt hk
  have c1 : ¬ 1 ≤ v → nI (nOf v) = 1 := fun c => by
    rw [Int32.le_iff_toInt_le, o] at c
    unfold nOf
    rw [if_pos (by omega)]; rfl
  have c2 : 1 ≤ v → v ≤ 6 → nI (nOf v) = v := fun a b => by
    rw [Int32.le_iff_toInt_le, o] at a
    rw [Int32.le_iff_toInt_le, s] at b
    unfold nOf
    rw [if_neg (by omega), if_neg (by omega)]
    exact i_inj (by rw [nn _ (by omega)]; omega)
  have c3 : 1 ≤ v → ¬ v ≤ 6 → nI (nOf v) = 6 := fun a b => by
    rw [Int32.le_iff_toInt_le, o] at a
    rw [Int32.le_iff_toInt_le, s] at b
    unfold nOf
    rw [if_neg (by omega), if_pos (by omega)]; rfl
  refine ⟨c1, c2, c3, ?_⟩
  by_cases a : 1 ≤ v
  · by_cases b : v ≤ 6
    · rw [c2 a b]
      rw [Int32.le_iff_toInt_le, o] at a
      rw [Int32.le_iff_toInt_le, s] at b
      have e : (if v < 6 then v else 6) = v := by
        split
        · rfl
        · rename_i c
          rw [Int32.lt_iff_toInt_lt, s] at c
          exact i_inj (by rw [s]; omega)
      rw [e]
      split
      · rfl
      · rename_i c
        rw [Int32.lt_iff_toInt_lt, o] at c
        exact i_inj (by rw [o]; omega)
    · rw [c3 a b]
      rw [Int32.le_iff_toInt_le, s] at b
      have e : (if v < 6 then v else 6) = 6 := if_neg (fun c => by rw [Int32.lt_iff_toInt_lt, s] at c; omega)
      rw [e, if_pos (by decide)]
  · rw [c1 a]
    rw [Int32.le_iff_toInt_le, o] at a
    have e : (if v < 6 then v else 6) = v := if_pos (by rw [Int32.lt_iff_toInt_lt, s]; omega)
    rw [e, if_neg (fun c => by rw [Int32.lt_iff_toInt_lt, o] at c; omega)]
def gMd (G : qG) (i n : Nat) : qG := gBe (qfI (qi (gMo G i mdl) i 12 (nI n)) (qc G) (-1) 24) (qc G + 36) (qc G + 40) (qc G + 26) (qc G + 32)
set_option maxHeartbeats 4000000 in
theorem c_iM1 (x0 : CE h0 h z G) (i0 : i < qc G) (t0 : (qT G i).1 = 11) (k : ∀ h', CE h0 h' z (gMo G i mdl) → WR d cd_150 378 [some (.ref (z + i)), some (.int v), none] [] h' Q) : EV (d + 1) 150 [.ref (z + i), .int v] h Q := by
  refine in_150 (Nat.le_of_ble_eq_true rfl) ?_
  show WR _ cd_150 0 [some (.ref (z + i)), some (.int v), none] [] h _
  refine r_aload rfl rfl (r_obj rfl (Nat.le_of_ble_eq_true rfl) ?_)
  refine b_arr (f := 0) (tg := 20) (tt := 11) (N := 24) x0 i0 t0 rfl rfl (fun st k => r_ic rfl rfl k) rfl ⟨rfl, by decide⟩ (by decide) rfl ⟨rfl, rfl, rfl⟩ (fun h1 x1 i1 t1 => ?_)
  refine b_arr (f := 1) (tg := 23) (tt := 11) (N := 250) x1 i1 t1 rfl rfl (fun st k => r_ic rfl rfl k) rfl ⟨rfl, by decide⟩ (by decide) rfl ⟨rfl, rfl, rfl⟩ (fun h2 x2 i2 t2 => ?_)
  refine b_arr (f := 2) (tg := 20) (tt := 11) (N := 250) x2 i2 t2 rfl rfl (fun st k => r_ic rfl rfl k) rfl ⟨rfl, by decide⟩ (by decide) rfl ⟨rfl, rfl, rfl⟩ (fun h3 x3 i3 t3 => ?_)
  refine b_arr (f := 3) (tg := 20) (tt := 11) (N := 250) x3 i3 t3 rfl rfl (fun st k => r_ic rfl rfl k) rfl ⟨rfl, by decide⟩ (by decide) rfl ⟨rfl, rfl, rfl⟩ (fun h4 x4 i4 t4 => ?_)
  refine b_arr (f := 4) (tg := 20) (tt := 11) (N := 250) x4 i4 t4 rfl rfl (fun st k => r_ic rfl rfl k) rfl ⟨rfl, by decide⟩ (by decide) rfl ⟨rfl, rfl, rfl⟩ (fun h5 x5 i5 t5 => ?_)
  refine b_arr (f := 5) (tg := 21) (tt := 11) (N := 7500) x5 i5 t5 rfl rfl (fun st k => r_ic rfl rfl k) rfl ⟨rfl, by decide⟩ (by decide) rfl ⟨rfl, rfl, rfl⟩ (fun h6 x6 i6 t6 => ?_)
  refine b_arr (f := 7) (tg := 20) (tt := 11) (N := 60) x6 i6 t6 rfl rfl (fun st k => r_ic rfl rfl k) rfl ⟨rfl, by decide⟩ (by decide) rfl ⟨rfl, rfl, rfl⟩ (fun h7 x7 i7 t7 => ?_)
  refine b_arr (f := 8) (tg := 21) (tt := 11) (N := 60) x7 i7 t7 rfl rfl (fun st k => r_ic rfl rfl k) rfl ⟨rfl, by decide⟩ (by decide) rfl ⟨rfl, rfl, rfl⟩ (fun h8 x8 i8 t8 => ?_)
  refine b_arr (f := 10) (tg := 20) (tt := 11) (N := 60) x8 i8 t8 rfl rfl (fun st k => r_ic rfl rfl k) rfl ⟨rfl, by decide⟩ (by decide) rfl ⟨rfl, rfl, rfl⟩ (fun h9 x9 i9 t9 => ?_)
  refine b_arr (f := 13) (tg := 23) (tt := 11) (N := 250) x9 i9 t9 rfl rfl (fun st k => r_ic rfl rfl k) rfl ⟨rfl, by decide⟩ (by decide) rfl ⟨rfl, rfl, rfl⟩ (fun h10 x10 i10 t10 => ?_)
  refine b_arr (f := 14) (tg := 21) (tt := 11) (N := 30) x10 i10 t10 rfl rfl (fun st k => r_ic rfl rfl k) rfl ⟨rfl, by decide⟩ (by decide) rfl ⟨rfl, rfl, rfl⟩ (fun h11 x11 i11 t11 => ?_)
  refine b_arr (f := 16) (tg := 22) (tt := 11) (N := 30) x11 i11 t11 rfl rfl (fun st k => r_ic rfl rfl k) rfl ⟨rfl, by decide⟩ (by decide) rfl ⟨rfl, rfl, rfl⟩ (fun h12 x12 i12 t12 => ?_)
  refine b_arr (f := 18) (tg := 20) (tt := 11) (N := 10) x12 i12 t12 rfl rfl (fun st k => r_ic rfl rfl k) rfl ⟨rfl, by decide⟩ (by decide) rfl ⟨rfl, rfl, rfl⟩ (fun h13 x13 i13 t13 => ?_)
  refine b_arr (f := 19) (tg := 20) (tt := 11) (N := 160) x13 i13 t13 rfl rfl (fun st k => r_ic rfl rfl k) rfl ⟨rfl, by decide⟩ (by decide) rfl ⟨rfl, rfl, rfl⟩ (fun h14 x14 i14 t14 => ?_)
  refine b_arr (f := 20) (tg := 20) (tt := 11) (N := 160) x14 i14 t14 rfl rfl (fun st k => r_ic rfl rfl k) rfl ⟨rfl, by decide⟩ (by decide) rfl ⟨rfl, rfl, rfl⟩ (fun h15 x15 i15 t15 => ?_)
  refine b_arr (f := 21) (tg := 20) (tt := 11) (N := 160) x15 i15 t15 rfl rfl (fun st k => r_ic rfl rfl k) rfl ⟨rfl, by decide⟩ (by decide) rfl ⟨rfl, rfl, rfl⟩ (fun h16 x16 i16 t16 => ?_)
  refine b_arr (f := 22) (tg := 20) (tt := 11) (N := 160) x16 i16 t16 rfl rfl (fun st k => r_ic rfl rfl k) rfl ⟨rfl, by decide⟩ (by decide) rfl ⟨rfl, rfl, rfl⟩ (fun h17 x17 i17 t17 => ?_)
  refine b_arr (f := 24) (tg := 20) (tt := 11) (N := 8) x17 i17 t17 rfl rfl (fun st k => r_ic rfl rfl k) rfl ⟨rfl, by decide⟩ (by decide) rfl ⟨rfl, rfl, rfl⟩ (fun h18 x18 i18 t18 => ?_)
  refine b_arr (f := 25) (tg := 20) (tt := 11) (N := 8) x18 i18 t18 rfl rfl (fun st k => r_ic rfl rfl k) rfl ⟨rfl, by decide⟩ (by decide) rfl ⟨rfl, rfl, rfl⟩ (fun h19 x19 i19 t19 => ?_)
  refine b_arr (f := 26) (tg := 20) (tt := 11) (N := 9) x19 i19 t19 rfl rfl (fun st k => r_ic rfl rfl k) rfl ⟨rfl, by decide⟩ (by decide) rfl ⟨rfl, rfl, rfl⟩ (fun h20 x20 i20 t20 => ?_)
  refine b_arr (f := 27) (tg := 20) (tt := 11) (N := 9) x20 i20 t20 rfl rfl (fun st k => r_ic rfl rfl k) rfl ⟨rfl, by decide⟩ (by decide) rfl ⟨rfl, rfl, rfl⟩ (fun h21 x21 i21 t21 => ?_)
  refine b_arr (f := 28) (tg := 20) (tt := 11) (N := 9) x21 i21 t21 rfl rfl (fun st k => r_ic rfl rfl k) rfl ⟨rfl, by decide⟩ (by decide) rfl ⟨rfl, rfl, rfl⟩ (fun h22 x22 i22 t22 => ?_)
  refine b_arr (f := 36) (tg := 20) (tt := 11) (N := 60) x22 i22 t22 rfl rfl (fun st k => r_ic rfl rfl k) rfl ⟨rfl, by decide⟩ (by decide) rfl ⟨rfl, rfl, rfl⟩ (fun h23 x23 i23 t23 => ?_)
  refine b_arr (f := 38) (tg := 20) (tt := 11) (N := 200) x23 i23 t23 rfl rfl (fun st k => r_ic rfl rfl k) rfl ⟨rfl, by decide⟩ (by decide) rfl ⟨rfl, rfl, rfl⟩ (fun h24 x24 i24 t24 => ?_)
  refine b_arr (f := 39) (tg := 20) (tt := 11) (N := 200) x24 i24 t24 rfl rfl (fun st k => r_ic rfl rfl k) rfl ⟨rfl, by decide⟩ (by decide) rfl ⟨rfl, rfl, rfl⟩ (fun h25 x25 i25 t25 => ?_)
  refine b_arr (f := 40) (tg := 20) (tt := 11) (N := 6) x25 i25 t25 rfl rfl (fun st k => r_ic rfl rfl k) rfl ⟨rfl, by decide⟩ (by decide) rfl ⟨rfl, rfl, rfl⟩ (fun h26 x26 i26 t26 => ?_)
  refine b_arr (f := 41) (tg := 20) (tt := 11) (N := 30) x26 i26 t26 rfl rfl (fun st k => r_ic rfl rfl k) rfl ⟨rfl, by decide⟩ (by decide) rfl ⟨rfl, rfl, rfl⟩ (fun h27 x27 i27 t27 => ?_)
  refine b_arr (f := 44) (tg := 20) (tt := 11) (N := 24) x27 i27 t27 rfl rfl (fun st k => r_ic rfl rfl k) rfl ⟨rfl, by decide⟩ (by decide) rfl ⟨rfl, rfl, rfl⟩ (fun h28 x28 i28 t28 => ?_)
  refine b_arr (f := 45) (tg := 20) (tt := 11) (N := 30) x28 i28 t28 rfl rfl (fun st k => r_ic rfl rfl k) rfl ⟨rfl, by decide⟩ (by decide) rfl ⟨rfl, rfl, rfl⟩ (fun h29 x29 i29 t29 => ?_)
  refine b_arr (f := 46) (tg := 21) (tt := 11) (N := 7500) x29 i29 t29 rfl rfl (fun st k => r_ic rfl rfl k) rfl ⟨rfl, by decide⟩ (by decide) rfl ⟨rfl, rfl, rfl⟩ (fun h30 x30 i30 t30 => ?_)
  refine b_arr (f := 48) (tg := 20) (tt := 11) (N := 6) x30 i30 t30 rfl rfl (fun st k => r_ic rfl rfl k) rfl ⟨rfl, by decide⟩ (by decide) rfl ⟨rfl, rfl, rfl⟩ (fun h31 x31 i31 t31 => ?_)
  refine b_arr (f := 49) (tg := 20) (tt := 11) (N := 6) x31 i31 t31 rfl rfl (fun st k => r_ic rfl rfl k) rfl ⟨rfl, by decide⟩ (by decide) rfl ⟨rfl, rfl, rfl⟩ (fun h32 x32 i32 t32 => ?_)
  refine b_arr (f := 50) (tg := 22) (tt := 11) (N := 18) x32 i32 t32 rfl rfl (fun st k => r_ic rfl rfl k) rfl ⟨rfl, by decide⟩ (by decide) rfl ⟨rfl, rfl, rfl⟩ (fun h33 x33 i33 t33 => ?_)
  refine b_arr (f := 51) (tg := 21) (tt := 11) (N := 18) x33 i33 t33 rfl rfl (fun st k => r_ic rfl rfl k) rfl ⟨rfl, by decide⟩ (by decide) rfl ⟨rfl, rfl, rfl⟩ (fun h34 x34 i34 t34 => ?_)
  refine b_arr (f := 52) (tg := 21) (tt := 11) (N := 18) x34 i34 t34 rfl rfl (fun st k => r_ic rfl rfl k) rfl ⟨rfl, by decide⟩ (by decide) rfl ⟨rfl, rfl, rfl⟩ (fun h35 x35 i35 t35 => ?_)
  refine b_arr (f := 53) (tg := 20) (tt := 11) (N := 6) x35 i35 t35 rfl rfl (fun st k => r_ic rfl rfl k) rfl ⟨rfl, by decide⟩ (by decide) rfl ⟨rfl, rfl, rfl⟩ (fun h36 x36 i36 t36 => ?_)
  refine b_arr (f := 54) (tg := 22) (tt := 11) (N := 6) x36 i36 t36 rfl rfl (fun st k => r_ic rfl rfl k) rfl ⟨rfl, by decide⟩ (by decide) rfl ⟨rfl, rfl, rfl⟩ (fun h37 x37 i37 t37 => ?_)
  refine b_arr (f := 55) (tg := 22) (tt := 11) (N := 6) x37 i37 t37 rfl rfl (fun st k => r_ic rfl rfl k) rfl ⟨rfl, by decide⟩ (by decide) rfl ⟨rfl, rfl, rfl⟩ (fun h38 x38 i38 t38 => ?_)
  refine b_arr (f := 56) (tg := 22) (tt := 11) (N := 6) x38 i38 t38 rfl rfl (fun st k => r_ic rfl rfl k) rfl ⟨rfl, by decide⟩ (by decide) rfl ⟨rfl, rfl, rfl⟩ (fun h39 x39 i39 t39 => ?_)
  refine b_arr (f := 57) (tg := 22) (tt := 11) (N := 6) x39 i39 t39 rfl rfl (fun st k => r_ic rfl rfl k) rfl ⟨rfl, by decide⟩ (by decide) rfl ⟨rfl, rfl, rfl⟩ (fun h40 x40 i40 t40 => ?_)
  refine b_arr (f := 58) (tg := 22) (tt := 11) (N := 6) x40 i40 t40 rfl rfl (fun st k => r_ic rfl rfl k) rfl ⟨rfl, by decide⟩ (by decide) rfl ⟨rfl, rfl, rfl⟩ (fun h41 x41 i41 t41 => ?_)
  refine b_arr (f := 59) (tg := 22) (tt := 11) (N := 6) x41 i41 t41 rfl rfl (fun st k => r_ic rfl rfl k) rfl ⟨rfl, by decide⟩ (by decide) rfl ⟨rfl, rfl, rfl⟩ (fun h42 x42 i42 t42 => ?_)
  refine b_arr (f := 60) (tg := 22) (tt := 11) (N := 6) x42 i42 t42 rfl rfl (fun st k => r_ic rfl rfl k) rfl ⟨rfl, by decide⟩ (by decide) rfl ⟨rfl, rfl, rfl⟩ (fun h43 x43 i43 t43 => ?_)
  refine b_arr (f := 66) (tg := 20) (tt := 11) (N := 160) x43 i43 t43 rfl rfl (fun st k => r_ic rfl rfl k) rfl ⟨rfl, by decide⟩ (by decide) rfl ⟨rfl, rfl, rfl⟩ (fun h44 x44 i44 t44 => ?_)
  refine b_arr (f := 67) (tg := 20) (tt := 11) (N := 6) x44 i44 t44 rfl rfl (fun st k => r_ic rfl rfl k) rfl ⟨rfl, by decide⟩ (by decide) rfl ⟨rfl, rfl, rfl⟩ (fun h45 x45 i45 t45 => ?_)
  exact k _ x45
theorem c_iMo (x : CE h0 h z G) (hi : i < qc G) (ht : (qT G i).1 = 11) (hQ : ∀ h', CE h0 h' z (gMd G i (nOf v)) → Q none h') : EV (d + 2) 150 [.ref (z + i), .int v] h Q := by
  refine c_iM1 (d := d + 1) x hi ht (fun h1 x1 => ?_)
  obtain ⟨a1, a2, a3, a4⟩ := gMo_k (i := i) mdl G hi
  have R : ∀ (k : Nat) (r : Nat × Nat × Nat), mdl[k]? = some r → (∀ s ∈ mdl.drop (k + 1), s.1 ≠ r.1) → qR (gMo G i mdl) i r.1 = some (qc G + k) := fun k r e nd => gMo_R mdl G k r hi e nd
  have r0 : qR (gMo G i mdl) i 0 = some (qc G) := R 0 (0, 20, 24) (by decide) (by decide)
  have r54 : qR (gMo G i mdl) i 54 = some (qc G + 36) := R 36 (54, 22, 6) (by decide) (by decide)
  have r58 : qR (gMo G i mdl) i 58 = some (qc G + 40) := R 40 (58, 22, 6) (by decide) (by decide)
  have r41 : qR (gMo G i mdl) i 41 = some (qc G + 26) := R 26 (41, 20, 30) (by decide) (by decide)
  have r50 : qR (gMo G i mdl) i 50 = some (qc G + 32) := R 32 (50, 22, 18) (by decide) (by decide)
  have T0 : qT (gMo G i mdl) (qc G) = (20, 24) := a3 0 (0, 20, 24) (by decide)
  have T36 : qT (gMo G i mdl) (qc G + 36) = (22, 6) := a3 36 (54, 22, 6) (by decide)
  have T40 : qT (gMo G i mdl) (qc G + 40) = (22, 6) := a3 40 (58, 22, 6) (by decide)
  have T26 : qT (gMo G i mdl) (qc G + 26) = (20, 30) := a3 26 (41, 20, 30) (by decide)
  have T32 : qT (gMo G i mdl) (qc G + 32) = (22, 18) := a3 32 (50, 22, 18) (by decide)
  have len : qc (gMo G i mdl) = qc G + 45 := a1
  have tM : (qT (gMo G i mdl) i).1 = 11 := by rw [a2 i hi]; exact ht
  have eM : gMd G i (nOf v) = gBe (qfI (qi (gMo G i mdl) i 12 (nI (nOf v))) (qc G) (-1) 24) (qc G + 36) (qc G + 40) (qc G + 26) (qc G + 32) := rfl
  generalize gMo G i mdl = M at *
  obtain ⟨n1, n2, n3, -⟩ := nOf_c (v := v)
  generalize nOf v = m at *
  have iM : i < qc M := by omega
  have fld : ∀ h', CE h0 h' z (qi M i 12 (nI m)) → WR (d + 1) cd_150 403 [some (.ref (z + i)), some (.int v), none] [] h' Q := by
    intro h2 x2
    have c2 : qc (qi M i 12 (nI m)) = qc M := qi_c
    have T2 : qT (qi M i 12 (nI m)) = qT M := qi_T
    have R2 : qR (qi M i 12 (nI m)) = qR M := qi_R
    generalize qi M i 12 (nI m) = W at *
    have lp : ∀ q k K, k + q = 24 → CE h0 K z (qfI W (qc G) (-1) k) → WR (d + 1) cd_150 405 [some (.ref (z + i)), some (.int v), some (.int (nI k))] [] K Q := by
      intro q
      induction q with
      | zero =>
        intro k K e1 y
        obtain rfl : k = 24 := by omega
        obtain ⟨d1, d2, d3⟩ := qfI_k (G := W) (a := qc G) (v := -1) 24
        generalize qfI W (qc G) (-1) 24 = V at *
        refine r_iload rfl rfl (r_ic (x := nI 24) rfl rfl (r_icmp_ge (tg := 424) rfl rfl (fun _ => ?_) (fun q => absurd (Int32.le_refl _) q)))
        have iV : i < qc V := by omega
        have tV : (qT V i).1 = 11 := by rw [d2, T2]; exact tM
        refine r_aload rfl rfl (r_cv (y := 151) (t := 11) (a := z + i) (ra := []) (rest := []) rfl ⟨⟨rfl, rfl⟩, rfl, by decide⟩ (y.tag iV tV) rfl rfl (Nat.le_of_ble_eq_true rfl) ?_)
        refine c_iBe (d := d) y iV tV (by rw [d3, R2]; exact r54) (by rw [d3, R2]; exact r58) (by rw [d3, R2]; exact r41) (by rw [d3, R2]; exact r50) ⟨by omega, by omega, by omega, by omega⟩ (by rw [d2, T2]; exact T36) (by rw [d2, T2]; exact T40) (by rw [d2, T2]; exact T26) (by rw [d2, T2]; exact T32) (fun h3 x3 => ?_)
        exact r_vret rfl (hQ _ (by rw [eM]; exact x3))
      | succ q ih =>
        intro k K e1 y
        obtain ⟨d1, d2, d3⟩ := qfI_k (G := W) (a := qc G) (v := -1) k
        have iV : i < qc (qfI W (qc G) (-1) k) := by omega
        obtain ⟨⟨u1, u2⟩, -⟩ := y.2.1 (qc G) (by omega)
        rw [d2, T2, T0] at u1 u2
        have hr : hR K (z + i) 0 = some (z + qc G) := by rw [(y.2.1 i iV).2.2.2.2 0, d3, R2, r0]; rfl
        have cl : (nI k).toNatClampNeg = k := nI_clamp (by omega)
        refine r_iload rfl rfl (r_ic (x := nI 24) rfl rfl (r_icmp_ge (tg := 424) rfl rfl (fun q => absurd q (lt_nI (by omega) (by decide))) (fun _ => ?_)))
        refine r_aload rfl rfl (r_getA (b := z + qc G) (f := 0) (t := 11) rfl ⟨rfl, rfl, rfl⟩ (y.tag iV (by rw [d2, T2]; exact tM)) hr (r_iload rfl rfl (r_ic (x := -1) rfl rfl ?_)))
        refine r_iastore rfl u1 (by rw [u2]; exact vp_in_nI (by omega) (by omega)) ?_
        rw [cl]
        have y2 := y.si (i := qc G) (j := k) (v := -1) (by omega)
        exact r_iinc (y := nI (k + 1)) (lv' := [some (.ref (z + i)), some (.int v), some (.int (nI (k + 1)))]) rfl rfl (nI_1 _) rfl (r_goto (tg := 405) rfl rfl (ih (k + 1) _ (by omega) y2))
    exact r_ic (x := nI 0) rfl rfl (r_istore (lv' := [some (.ref (z + i)), some (.int v), some (.int (nI 0))]) rfl (Nat.le_of_ble_eq_true rfl) rfl (lp 24 0 h2 (by omega) x2))
  have put : ∀ w, w = nI m → WR (d + 1) cd_150 400 [some (.ref (z + i)), some (.int v), none] [.int w, .ref (z + i)] h1 Q := fun w e => by
    rw [e]
    exact r_putI (t := 11) (f := 12) rfl ⟨rfl, rfl, rfl⟩ (x1.tag iM tM) (fld _ (x1.si iM))
  refine r_aload rfl rfl (r_iload rfl rfl (r_ic (x := 1) rfl rfl (r_icmp_ge (tg := 388) rfl rfl (fun c => ?_) (fun c => ?_))))
  · refine r_iload rfl rfl (r_ic (x := 6) rfl rfl (r_icmp_le (tg := 399) rfl rfl (fun c' => ?_) (fun c' => ?_)))
    · exact r_iload rfl rfl (put _ (n2 c c').symm)
    · exact r_ic (x := 6) rfl rfl (r_goto (tg := 400) rfl rfl (put _ (n3 c c').symm))
  · exact r_ic (x := 1) rfl rfl (r_goto (tg := 400) rfl rfl (put _ (n1 c).symm))
/-- the script's first int -/
theorem c_cell {xs : Nat → Int32} (hb : hT h b = 30) (hl : hN h b = L) (hx : ∀ j, j < L → hI h b j = xs j) (L3 : L ≤ 3073) (hQ : Q (some (.int (if L = 0 then 0 else xs 0))) h) : EV (d + 1) 149 [.ref b, .int 0] h Q := by
  refine in_149 (Nat.le_of_ble_eq_true rfl) ?_
  show WR _ cd_149 0 [some (.ref b), some (.int 0)] [] h _
  refine r_iload rfl rfl (r_aload rfl rfl (r_alen rfl (.inr hb) ?_))
  rw [hl]
  refine r_icmp_ge (tg := 12) rfl rfl (fun c => ?_) (fun c => ?_)
  · have e : L = 0 := by
      have q := Int32.le_iff_toInt_le.mp c
      rw [nI_toInt (by omega)] at q
      have : (0 : Int32).toInt = 0 := rfl
      omega
    rw [if_pos e] at hQ
    exact r_ic (x := 0) rfl rfl (r_iret rfl hQ)
  · have e : L ≠ 0 := fun e => c (by rw [e]; decide)
    rw [if_neg e] at hQ
    refine r_aload rfl rfl (r_iload rfl rfl (r_iaload rfl (.inr hb) (by rw [hl]; exact vp_in_nI (n := 0) (by omega) (by omega)) ?_))
    have ez : hI h b (0 : Int32).toNatClampNeg = xs 0 := hx 0 (by omega)
    rw [ez]
    exact r_goto (tg := 13) rfl rfl (r_iret rfl hQ)
/-- all that the constructors make -/
def gAll (n : Nat) : qG := gMd (qn (gWP (qn q0 10 7 7) 0 n) 11 68 68) (qc (gWP (qn q0 10 7 7) 0 n)) n
theorem c_law0 {xs : Nat → Int32} {sa : Nat → Nat} (L3 : L ≤ 3073) (ok : h0ok h b L xs sa) (k : ∀ h', CE h h' (hZ h) (gAll (nOf (if L = 0 then 0 else xs 0))) → WR (d + 4) cd_0 28 [some (.ref b), some (.ref (hZ h)), some (.ref (hZ h + qc (gWP (qn q0 10 7 7) 0 (nOf (if L = 0 then 0 else xs 0))))), some (.int (nI 1))] [] h' Q) : WR (d + 4) cd_0 0 [some (.ref b), none, none, none] [] h Q := by
  obtain ⟨⟨b1, b2, b3⟩, bz, st, z0, top⟩ := ok
  have x0 : CE h h (hZ h) q0 := ⟨⟨rfl, rfl⟩, fun i hi => absurd hi (Nat.not_lt_zero _), fun i j _ => ⟨rfl, rfl, rfl, rfl⟩, fun a _ => ⟨rfl, rfl, rfl, rfl⟩, fun a ha => top a ha⟩
  generalize hv : (if L = 0 then 0 else xs 0) = v at *
  have base : ∀ (K : mH) (G : qG), CE h K (hZ h) G → hT K b = 30 ∧ hN K b = L ∧ ∀ j, j < L → hI K b j = xs j := fun K G y => by
    obtain ⟨q1, q2, q3, -⟩ := y.2.2.2.1 b bz
    rw [q1, q2, q3]; exact ⟨b1, b2, b3⟩
  have nb := nOf_b (v := v)
  refine r_new (t := 10) (m := 7) rfl rfl ?_
  have x1 : CE h (nw h 10 7 7) (hZ h) (qn q0 10 7 7) := x0.new
  generalize nw h 10 7 7 = h1 at *
  obtain ⟨s1, s2, s3⟩ := base _ _ x1
  refine r_dup rfl rfl (r_aload rfl rfl (r_ic (x := 0) rfl rfl ?_))
  refine r_cs (y := 149) (ra := [.int 0, .ref b]) (rest := [.ref (hZ h), .ref (hZ h)]) rfl ⟨⟨rfl, rfl⟩, by decide⟩ rfl rfl (Nat.le_of_ble_eq_true rfl) ?_
  refine c_cell (d := d + 3) s1 s2 s3 L3 ?_
  rw [hv]
  refine r_cp (y := 4) (a := hZ h) (ra := [.int v]) (rest := [.ref (hZ h)]) rfl ⟨⟨rfl, rfl⟩, by decide⟩ rfl rfl (Nat.le_of_ble_eq_true rfl) ?_
  refine c_iWP (z := hZ h) (i := 0) (d := d + 1) (n := nOf v) x1 (by decide) rfl nOf_c.2.2.2 nb.2 (fun h2 x2 => ?_)
  refine r_astore (lv' := [some (.ref b), some (.ref (hZ h)), none, none]) rfl (Nat.le_of_ble_eq_true rfl) rfl ?_
  have eA : gAll (nOf v) = gMd (qn (gWP (qn q0 10 7 7) 0 (nOf v)) 11 68 68) (qc (gWP (qn q0 10 7 7) 0 (nOf v))) (nOf v) := rfl
  generalize gWP (qn q0 10 7 7) 0 (nOf v) = W at *
  refine r_new (t := 11) (m := 68) rfl rfl ?_
  rw [x2.1.1]
  have x3 : CE h (nw h2 11 68 68) (hZ h) (qn W 11 68 68) := x2.new
  generalize nw h2 11 68 68 = h3 at *
  obtain ⟨s1, s2, s3⟩ := base _ _ x3
  refine r_dup rfl rfl (r_aload rfl rfl (r_ic (x := 0) rfl rfl ?_))
  refine r_cs (y := 149) (ra := [.int 0, .ref b]) (rest := [.ref (hZ h + qc W), .ref (hZ h + qc W)]) rfl ⟨⟨rfl, rfl⟩, by decide⟩ rfl rfl (Nat.le_of_ble_eq_true rfl) ?_
  refine c_cell (d := d + 3) s1 s2 s3 L3 ?_
  rw [hv]
  refine r_cp (y := 150) (a := hZ h + qc W) (ra := [.int v]) (rest := [.ref (hZ h + qc W)]) rfl ⟨⟨rfl, rfl⟩, by decide⟩ rfl rfl (Nat.le_of_ble_eq_true rfl) ?_
  refine c_iMo (d := d + 2) x3 (by rw [qn_c]; omega) (by rw [qT_s]) (fun h4 x4 => ?_)
  rw [← eA] at x4
  refine r_astore (lv' := [some (.ref b), some (.ref (hZ h)), some (.ref (hZ h + qc W)), none]) rfl (Nat.le_of_ble_eq_true rfl) rfl ?_
  exact r_ic (x := nI 1) rfl rfl (r_istore (lv' := [some (.ref b), some (.ref (hZ h)), some (.ref (hZ h + qc W)), some (.int (nI 1))]) rfl (Nat.le_of_ble_eq_true rfl) rfl (k _ x4))
end MDS

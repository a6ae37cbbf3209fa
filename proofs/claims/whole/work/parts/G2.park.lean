/-! ===== the start: the whole class, the reference ===== -/
section WPK
variable {h0 h : mH} {z i d n t a b c e : Nat} {G : qG} {Q : mQ} {v : Int32}
theorem gTr_c : qc (gTr G i) = qc G + 1 := rfl
theorem gTr_T {i' : Nat} (hi : i' < qc G) : qT (gTr G i) i' = qT G i' := by unfold gTr; exact gAr_T hi
theorem gF0_c : qc (gF0 G i n) = qc G + 4 := by unfold gF0; rw [gAr_c, gAr_c, gAr_c, gAr_c]
theorem gF0_T {i' : Nat} (hi : i' < qc G) : qT (gF0 G i n) i' = qT G i' := by
  unfold gF0
  rw [gAr_T (by rw [gAr_c, gAr_c, gAr_c]; omega), gAr_T (by rw [gAr_c, gAr_c]; omega), gAr_T (by rw [gAr_c]; omega), gAr_T hi]
theorem gFa_c : qc (gFa G i n) = qc G + 4 + 5 * n := by unfold gFa; rw [(gFL_k n).1, gF0_c]
theorem gFa_T {i' : Nat} (hi : i' < qc G) : qT (gFa G i n) i' = qT G i' := by
  unfold gFa
  rw [(gFL_k n).2.1 i' (by rw [gF0_c]; omega), gF0_T hi]
theorem gA1_c : qc (gA1 G i) = qc G + 3 := by unfold gA1; rw [gAr_c, gAr_c, gAr_c]
theorem gA1_T {i' : Nat} (hi : i' < qc G) : qT (gA1 G i) i' = qT G i' := by
  unfold gA1
  rw [gAr_T (by rw [gAr_c, gAr_c]; omega), gAr_T (by rw [gAr_c]; omega), gAr_T hi]
theorem gA2_c : qc (gA2 G i) = qc G + 6 := by unfold gA2; rw [qr_c, gHa_c, qn_c, gA1_c]
theorem gA2_T {i' : Nat} (hi : i' < qc G) : qT (gA2 G i) i' = qT G i' := by
  unfold gA2
  rw [qr_T, gHa_T (by rw [qn_c, gA1_c]; omega), qT_n (by rw [gA1_c]; omega), gA1_T hi]
theorem gAc_c : qc (gAc G i) = qc G + 12 := by unfold gAc; rw [qr_c, gUn_c, qn_c, gA2_c]
theorem gAc_T {i' : Nat} (hi : i' < qc G) : qT (gAc G i) i' = qT G i' := by
  unfold gAc
  rw [qr_T, gUn_T (by rw [qn_c, gA2_c]; omega), qT_n (by rw [gA2_c]; omega), gA2_T hi]
def gW2 (G : qG) (i : Nat) : qG := qr (gTr (qn (gAr G i 0 24 24) 7 2 2) (qc (gAr G i 0 24 24))) i 1 (qc (gAr G i 0 24 24))
def gW3 (G : qG) (i n : Nat) : qG := qr (gFa (qn (gW2 G i) 2 8 8) (qc (gW2 G i)) n) i 2 (qc (gW2 G i))
def gW4 (G : qG) (i n : Nat) : qG := qr (gAc (qn (gW3 G i n) 1 14 14) (qc (gW3 G i n))) i 3 (qc (gW3 G i n))
def gWP (G : qG) (i n : Nat) : qG := gAr (gW4 G i n) i 4 21 30
theorem c_iWP (x : CE h0 h z G) (hi : i < qc G) (ht : (qT G i).1 = 10) (hn : (if (1 : Int32) < (if v < 6 then v else 6) then (if v < 6 then v else 6) else 1) = nI n) (n6 : n ≤ 6) (hQ : ∀ h', CE h0 h' z (gWP G i n) → Q none h') : EV (d + 3) 4 [.ref (z + i), .int v] h Q := by
  refine in_4 (Nat.le_of_ble_eq_true rfl) ?_
  show WR _ cd_4 0 [some (.ref (z + i)), some (.int v)] [] h _
  refine r_aload rfl rfl (r_obj rfl (Nat.le_of_ble_eq_true rfl) ?_)
  refine b_aar (f := 0) (tg := 24) (tt := 10) (N := 24) x hi ht rfl rfl (fun st k => r_ic rfl rfl k) rfl (by decide) rfl ⟨rfl, rfl, rfl⟩ (fun h1 x1 i1 t1 => ?_)
  have e2 : gW2 G i = qr (gTr (qn (gAr G i 0 24 24) 7 2 2) (qc (gAr G i 0 24 24))) i 1 (qc (gAr G i 0 24 24)) := rfl
  have e3 : gW3 G i n = qr (gFa (qn (gW2 G i) 2 8 8) (qc (gW2 G i)) n) i 2 (qc (gW2 G i)) := rfl
  have e4 : gW4 G i n = qr (gAc (qn (gW3 G i n) 1 14 14) (qc (gW3 G i n))) i 3 (qc (gW3 G i n)) := rfl
  have e5 : gWP G i n = gAr (gW4 G i n) i 4 21 30 := rfl
  generalize gAr G i 0 24 24 = G1 at *
  -- the trace
  refine b_obj (t := 7) (m := 2) x1 rfl rfl rfl rfl rfl (fun h2 x2 => ?_)
  refine r_cp (y := 5) (a := z + qc G1) (ra := []) (rest := [.ref (z + qc G1), .ref (z + i)]) rfl ⟨⟨rfl, rfl⟩, by decide⟩ rfl rfl (Nat.le_of_ble_eq_true rfl) ?_
  refine c_iTr (d := d + 1) x2 (by rw [qn_c]; omega) (by rw [qT_s]) (fun h3 x3 => ?_)
  refine b_put (f := 1) (tt := 10) x3 (by rw [gTr_c, qn_c]; omega) (by rw [gTr_T (by rw [qn_c]; omega), qT_n i1]; exact t1) rfl ⟨rfl, rfl, rfl⟩ (fun h4 x4 => ?_)
  rw [← e2] at x4
  have i4 : i < qc (gW2 G i) := by rw [e2, qr_c, gTr_c, qn_c]; omega
  have t4 : (qT (gW2 G i) i).1 = 10 := by rw [e2, qr_T, gTr_T (by rw [qn_c]; omega), qT_n i1]; exact t1
  generalize gW2 G i = G2 at *
  -- the farm
  refine b_obj (t := 2) (m := 8) x4 rfl rfl rfl rfl rfl (fun h5 x5 => ?_)
  refine r_ic (x := 1) rfl rfl (r_ic (x := 6) rfl rfl (r_iload rfl rfl (r_min rfl (Nat.le_of_ble_eq_true rfl) (r_max rfl (Nat.le_of_ble_eq_true rfl) ?_))))
  rw [hn]
  refine r_cp (y := 6) (a := z + qc G2) (ra := [.int (nI n)]) (rest := [.ref (z + qc G2), .ref (z + i)]) rfl ⟨⟨rfl, rfl⟩, by decide⟩ rfl rfl (Nat.le_of_ble_eq_true rfl) ?_
  refine c_iFa (d := d) (n := n) x5 (by rw [qn_c]; omega) (by rw [qT_s]) n6 (fun h6 x6 => ?_)
  refine b_put (f := 2) (tt := 10) x6 (by rw [gFa_c, qn_c]; omega) (by rw [gFa_T (by rw [qn_c]; omega), qT_n i4]; exact t4) rfl ⟨rfl, rfl, rfl⟩ (fun h7 x7 => ?_)
  rw [← e3] at x7
  have i7 : i < qc (gW3 G i n) := by rw [e3, qr_c, gFa_c, qn_c]; omega
  have t7 : (qT (gW3 G i n) i).1 = 10 := by rw [e3, qr_T, gFa_T (by rw [qn_c]; omega), qT_n i4]; exact t4
  generalize gW3 G i n = G3 at *
  -- acts
  refine b_obj (t := 1) (m := 14) x7 rfl rfl rfl rfl rfl (fun h8 x8 => ?_)
  refine r_cp (y := 8) (a := z + qc G3) (ra := []) (rest := [.ref (z + qc G3), .ref (z + i)]) rfl ⟨⟨rfl, rfl⟩, by decide⟩ rfl rfl (Nat.le_of_ble_eq_true rfl) ?_
  refine c_iAc (d := d) x8 (by rw [qn_c]; omega) (by rw [qT_s]) (fun h9 x9 => ?_)
  refine b_put (f := 3) (tt := 10) x9 (by rw [gAc_c, qn_c]; omega) (by rw [gAc_T (by rw [qn_c]; omega), qT_n i7]; exact t7) rfl ⟨rfl, rfl, rfl⟩ (fun hA xA => ?_)
  rw [← e4] at xA
  have iA : i < qc (gW4 G i n) := by rw [e4, qr_c, gAc_c, qn_c]; omega
  have tA : (qT (gW4 G i n) i).1 = 10 := by rw [e4, qr_T, gAc_T (by rw [qn_c]; omega), qT_n i7]; exact t7
  generalize gW4 G i n = G4 at *
  refine b_arr (f := 4) (tg := 21) (tt := 10) (N := 30) xA iA tA rfl rfl (fun st k => r_ic rfl rfl k) rfl ⟨rfl, by decide⟩ (by decide) rfl ⟨rfl, rfl, rfl⟩ (fun hB xB _ _ => r_vret rfl (hQ _ (by rw [e5]; exact xB)))
/-! the reference -/
def mdl : List (Nat × Nat × Nat) := [(0, 20, 24), (1, 23, 250), (2, 20, 250), (3, 20, 250), (4, 20, 250), (5, 21, 7500), (7, 20, 60), (8, 21, 60), (10, 20, 60), (13, 23, 250), (14, 21, 30), (16, 22, 30), (18, 20, 10), (19, 20, 160), (20, 20, 160), (21, 20, 160), (22, 20, 160), (24, 20, 8), (25, 20, 8), (26, 20, 9), (27, 20, 9), (28, 20, 9), (36, 20, 60), (38, 20, 200), (39, 20, 200), (40, 20, 6), (41, 20, 30), (44, 20, 24), (45, 20, 30), (46, 21, 7500), (48, 20, 6), (49, 20, 6), (50, 22, 18), (51, 21, 18), (52, 21, 18), (53, 20, 6), (54, 22, 6), (55, 22, 6), (56, 22, 6), (57, 22, 6), (58, 22, 6), (59, 22, 6), (60, 22, 6), (66, 20, 160), (67, 20, 6)]
def gMo (G : qG) (i : Nat) (l : List (Nat × Nat × Nat)) : qG := l.foldl (fun G r => gAr G i r.1 r.2.1 r.2.2) G
theorem gMo_k : ∀ (l : List (Nat × Nat × Nat)) (G : qG), i < qc G → qc (gMo G i l) = qc G + l.length ∧ (∀ i', i' < qc G → qT (gMo G i l) i' = qT G i') ∧ (∀ k r, l[k]? = some r → qT (gMo G i l) (qc G + k) = (r.2.1, r.2.2)) ∧ (∀ f, (∀ r ∈ l, r.1 ≠ f) → qR (gMo G i l) i f = qR G i f) := by
  intro l
  induction l with
  | nil => intro G _; exact ⟨rfl, fun _ _ => rfl, (fun k r e => by cases e), fun _ _ => rfl⟩
  | cons r l ih =>
    intro G hi
    obtain ⟨a1, a2, a3, a4⟩ := ih (gAr G i r.1 r.2.1 r.2.2) (by rw [gAr_c]; omega)
    have e : gMo G i (r :: l) = gMo (gAr G i r.1 r.2.1 r.2.2) i l := rfl
    rw [e]
    refine ⟨by rw [a1, gAr_c, List.length_cons]; omega, fun i' h' => by rw [a2 i' (by rw [gAr_c]; omega), gAr_T h'], fun k s es => ?_, fun f hf => ?_⟩
    · cases k with
      | zero =>
        cases es
        rw [Nat.add_zero, a2 _ (by rw [gAr_c]; omega)]
        unfold gAr
        rw [qr_T, qT_s]
      | succ k =>
        have q := a3 k s es
        rw [gAr_c, show qc G + 1 + k = qc G + (k + 1) by omega] at q
        exact q
    · rw [a4 f (fun s hs => hf s (List.mem_cons_of_mem _ hs))]
      unfold gAr
      rw [qr_Rs, if_neg (fun z => hf r List.mem_cons_self z.symm), qn_R]
/-- a field of the reference: the array that it holds -/
theorem gMo_R : ∀ (l : List (Nat × Nat × Nat)) (G : qG) (k : Nat) (r : Nat × Nat × Nat), i < qc G → l[k]? = some r → (∀ s ∈ l.drop (k + 1), s.1 ≠ r.1) → qR (gMo G i l) i r.1 = some (qc G + k) := by
  intro l
  induction l with
  | nil => intro G k r _ e; cases e
  | cons s l ih =>
    intro G k r hi e nd
    have e' : gMo G i (s :: l) = gMo (gAr G i s.1 s.2.1 s.2.2) i l := rfl
    rw [e']
    cases k with
    | zero =>
      cases e
      rw [(gMo_k l _ (by rw [gAr_c]; omega)).2.2.2 s.1 nd]
      unfold gAr
      rw [qr_Rs, if_pos rfl]; rfl
    | succ k =>
      have q := ih (gAr G i s.1 s.2.1 s.2.2) k r (by rw [gAr_c]; omega) e nd
      rw [gAr_c, show qc G + 1 + k = qc G + (k + 1) by omega] at q
      exact q
/-! loops that fill -/
def qfI (G : qG) (a : Nat) (v : Int32) : Nat → qG
  | 0 => G
  | k + 1 => qi (qfI G a v k) a k v
def qfD (G : qG) (a : Nat) (v : UInt64) : Nat → qG
  | 0 => G
  | k + 1 => qd (qfD G a v k) a k v
def qfE (G : qG) (a b : Nat) (v w : UInt64) : Nat → qG
  | 0 => G
  | k + 1 => qd (qd (qfE G a b v w k) a k v) b k w
theorem qfI_k : ∀ k, qc (qfI G a v k) = qc G ∧ qT (qfI G a v k) = qT G ∧ qR (qfI G a v k) = qR G := by
  intro k
  induction k with
  | zero => exact ⟨rfl, rfl, rfl⟩
  | succ k ih => exact ⟨qi_c.trans ih.1, qi_T.trans ih.2.1, qi_R.trans ih.2.2⟩
theorem qfD_k {v : UInt64} : ∀ k, qc (qfD G a v k) = qc G ∧ qT (qfD G a v k) = qT G ∧ qR (qfD G a v k) = qR G := by
  intro k
  induction k with
  | zero => exact ⟨rfl, rfl, rfl⟩
  | succ k ih => exact ⟨qd_c.trans ih.1, qd_T.trans ih.2.1, qd_R.trans ih.2.2⟩
theorem qfE_k {v w : UInt64} : ∀ k, qc (qfE G a b v w k) = qc G ∧ qT (qfE G a b v w k) = qT G ∧ qR (qfE G a b v w k) = qR G := by
  intro k
  induction k with
  | zero => exact ⟨rfl, rfl, rfl⟩
  | succ k ih => exact ⟨qd_c.trans (qd_c.trans ih.1), qd_T.trans (qd_T.trans ih.2.1), qd_R.trans (qd_R.trans ih.2.2)⟩
def gBe (G : qG) (a b c e : Nat) : qG := qfD (qfI (qfE G a b 4636033603912859648 4652007308841189376 6) c (-1) 30) e 9221120237041090560 18
theorem lt_nI {k m : Nat} (hk : k < m) (hm : m < 2 ^ 31) : ¬ nI m ≤ nI k := fun q => by
  have := Int32.le_iff_toInt_le.mp q
  rw [nI_toInt (by omega), nI_toInt (by omega)] at this; omega
theorem c_iBe (x : CE h0 h z G) (hi : i < qc G) (ht : (qT G i).1 = 11) (ra : qR G i 54 = some a) (rb : qR G i 58 = some b) (rc : qR G i 41 = some c) (re : qR G i 50 = some e) (la : a < qc G ∧ b < qc G ∧ c < qc G ∧ e < qc G) (ta : qT G a = (22, 6)) (tb : qT G b = (22, 6)) (tc : qT G c = (20, 30)) (te : qT G e = (22, 18)) (hQ : ∀ h', CE h0 h' z (gBe G a b c e) → Q none h') : EV (d + 1) 151 [.ref (z + i)] h Q := by
  refine in_151 (Nat.le_of_ble_eq_true rfl) ?_
  show WR _ cd_151 0 [some (.ref (z + i)), none] [] h _
  have rd : ∀ (k : mH) (G' : qG) (f m : Nat), CE h0 k z G' → qc G' = qc G → qR G' = qR G → qR G i f = some m → hR k (z + i) f = some (z + m) := fun k G' f m y c1 r1 e1 => by
    rw [(y.2.1 i (by omega)).2.2.2.2 f, r1, e1]; rfl
  have tg : ∀ (k : mH) (G' : qG) (m p l : Nat), CE h0 k z G' → qc G' = qc G → qT G' = qT G → m < qc G → qT G m = (p, l) → hT k (z + m) = p ∧ hN k (z + m) = l := fun k G' m p l y c1 r1 hm e1 => by
    obtain ⟨⟨u, v⟩, -⟩ := y.2.1 m (by omega)
    rw [u, v, r1, e1]; exact ⟨rfl, rfl⟩
  have tt : ∀ (k : mH) (G' : qG), CE h0 k z G' → qc G' = qc G → qT G' = qT G → hT k (z + i) = 11 := fun k G' y c1 r1 => by
    rw [(y.2.1 i (by omega)).1.1, r1]; exact ht
  -- the readings
  have l3 : ∀ q k K, k + q = 18 → CE h0 K z (qfD (qfI (qfE G a b 4636033603912859648 4652007308841189376 6) c (-1) 30) e 9221120237041090560 k) → WR d cd_151 55 [some (.ref (z + i)), some (.int (nI k))] [] K Q := by
    intro q
    induction q with
    | zero =>
      intro k K e1 y
      obtain rfl : k = 18 := by omega
      exact r_iload rfl rfl (r_ic (x := nI 18) rfl rfl (r_icmp_ge (tg := 79) rfl rfl (fun _ => r_vret rfl (hQ _ y)) (fun q => absurd (Int32.le_refl _) q)))
    | succ q ih =>
      intro k K e1 y
      obtain ⟨d1, d2, d3⟩ := qfD_k (G := qfI (qfE G a b 4636033603912859648 4652007308841189376 6) c (-1) 30) (a := e) (v := 9221120237041090560) k
      have d1 := d1.trans ((qfI_k 30).1.trans (qfE_k 6).1)
      have d2 := d2.trans ((qfI_k 30).2.1.trans (qfE_k 6).2.1)
      have d3 := d3.trans ((qfI_k 30).2.2.trans (qfE_k 6).2.2)
      obtain ⟨u1, u2⟩ := tg _ _ e 22 18 y d1 d2 la.2.2.2 te
      have cl : (nI k).toNatClampNeg = k := nI_clamp (by omega)
      refine r_iload rfl rfl (r_ic (x := nI 18) rfl rfl (r_icmp_ge (tg := 79) rfl rfl (fun q => absurd q (lt_nI (by omega) (by decide))) (fun _ => ?_)))
      refine r_aload rfl rfl (r_getA (b := z + e) (f := 50) (t := 11) rfl ⟨rfl, rfl, rfl⟩ (tt _ _ y d1 d2) (rd _ _ 50 e y d1 d3 re) (r_iload rfl rfl (r_ldc (x := .long nNn) rfl rfl (r_l2dn rfl (by decide +kernel) (Nat.le_of_ble_eq_true rfl) ?_))))
      refine r_dastore rfl u1 (by rw [u2]; exact vp_in_nI (by omega) (by omega)) ?_
      rw [cl]
      have y2 := y.sd (i := e) (j := k) (v := nNn.toUInt64) (by rw [d1]; exact la.2.2.2)
      exact r_iinc (y := nI (k + 1)) (lv' := [some (.ref (z + i)), some (.int (nI (k + 1)))]) rfl rfl (nI_1 _) rfl (r_goto (tg := 55) rfl rfl (ih (k + 1) _ (by omega) y2))
  -- the slots
  have l2 : ∀ q k K, k + q = 30 → CE h0 K z (qfI (qfE G a b 4636033603912859648 4652007308841189376 6) c (-1) k) → WR d cd_151 34 [some (.ref (z + i)), some (.int (nI k))] [] K Q := by
    intro q
    induction q with
    | zero =>
      intro k K e1 y
      obtain rfl : k = 30 := by omega
      refine r_iload rfl rfl (r_ic (x := nI 30) rfl rfl (r_icmp_ge (tg := 53) rfl rfl (fun _ => ?_) (fun q => absurd (Int32.le_refl _) q)))
      exact r_ic (x := nI 0) rfl rfl (r_istore (lv' := [some (.ref (z + i)), some (.int (nI 0))]) rfl (Nat.le_of_ble_eq_true rfl) rfl (l3 18 0 K (by omega) y))
    | succ q ih =>
      intro k K e1 y
      obtain ⟨d1, d2, d3⟩ := qfI_k (G := qfE G a b 4636033603912859648 4652007308841189376 6) (a := c) (v := -1) k
      have d1 := d1.trans (qfE_k 6).1
      have d2 := d2.trans (qfE_k 6).2.1
      have d3 := d3.trans (qfE_k 6).2.2
      obtain ⟨u1, u2⟩ := tg _ _ c 20 30 y d1 d2 la.2.2.1 tc
      have cl : (nI k).toNatClampNeg = k := nI_clamp (by omega)
      refine r_iload rfl rfl (r_ic (x := nI 30) rfl rfl (r_icmp_ge (tg := 53) rfl rfl (fun q => absurd q (lt_nI (by omega) (by decide))) (fun _ => ?_)))
      refine r_aload rfl rfl (r_getA (b := z + c) (f := 41) (t := 11) rfl ⟨rfl, rfl, rfl⟩ (tt _ _ y d1 d2) (rd _ _ 41 c y d1 d3 rc) (r_iload rfl rfl (r_ic (x := -1) rfl rfl ?_)))
      refine r_iastore rfl u1 (by rw [u2]; exact vp_in_nI (by omega) (by omega)) ?_
      rw [cl]
      have y2 := y.si (i := c) (j := k) (v := -1) (by rw [d1]; exact la.2.2.1)
      exact r_iinc (y := nI (k + 1)) (lv' := [some (.ref (z + i)), some (.int (nI (k + 1)))]) rfl rfl (nI_1 _) rfl (r_goto (tg := 34) rfl rfl (ih (k + 1) _ (by omega) y2))
  -- pitch and bound
  have l1 : ∀ q k K, k + q = 6 → CE h0 K z (qfE G a b 4636033603912859648 4652007308841189376 k) → WR d cd_151 2 [some (.ref (z + i)), some (.int (nI k))] [] K Q := by
    intro q
    induction q with
    | zero =>
      intro k K e1 y
      obtain rfl : k = 6 := by omega
      refine r_iload rfl rfl (r_ic (x := nI 6) rfl rfl (r_icmp_ge (tg := 32) rfl rfl (fun _ => ?_) (fun q => absurd (Int32.le_refl _) q)))
      exact r_ic (x := nI 0) rfl rfl (r_istore (lv' := [some (.ref (z + i)), some (.int (nI 0))]) rfl (Nat.le_of_ble_eq_true rfl) rfl (l2 30 0 K (by omega) y))
    | succ q ih =>
      intro k K e1 y
      obtain ⟨d1, d2, d3⟩ := qfE_k (G := G) (a := a) (b := b) (v := 4636033603912859648) (w := 4652007308841189376) k
      obtain ⟨u1, u2⟩ := tg _ _ a 22 6 y d1 d2 la.1 ta
      have cl : (nI k).toNatClampNeg = k := nI_clamp (by omega)
      refine r_iload rfl rfl (r_ic (x := nI 6) rfl rfl (r_icmp_ge (tg := 32) rfl rfl (fun q => absurd q (lt_nI (by omega) (by decide))) (fun _ => ?_)))
      refine r_aload rfl rfl (r_getA (b := z + a) (f := 54) (t := 11) rfl ⟨rfl, rfl, rfl⟩ (tt _ _ y d1 d2) (rd _ _ 54 a y d1 d3 ra) (r_iload rfl rfl (r_ldc (x := .double 4636033603912859648) rfl rfl ?_)))
      refine r_dastore rfl u1 (by rw [u2]; exact vp_in_nI (by omega) (by omega)) ?_
      rw [cl]
      have y2 := y.sd (i := a) (j := k) (v := 4636033603912859648) (by rw [d1]; exact la.1)
      have f1 : qc (qd (qfE G a b 4636033603912859648 4652007308841189376 k) a k 4636033603912859648) = qc G := qd_c.trans d1
      have f2 : qT (qd (qfE G a b 4636033603912859648 4652007308841189376 k) a k 4636033603912859648) = qT G := qd_T.trans d2
      have f3 : qR (qd (qfE G a b 4636033603912859648 4652007308841189376 k) a k 4636033603912859648) = qR G := qd_R.trans d3
      obtain ⟨w1, w2⟩ := tg _ _ b 22 6 y2 f1 f2 la.2.1 tb
      refine r_aload rfl rfl (r_getA (b := z + b) (f := 58) (t := 11) rfl ⟨rfl, rfl, rfl⟩ (tt _ _ y2 f1 f2) (rd _ _ 58 b y2 f1 f3 rb) (r_iload rfl rfl (r_ldc (x := .double 4652007308841189376) rfl rfl ?_)))
      refine r_dastore rfl w1 (by rw [w2]; exact vp_in_nI (by omega) (by omega)) ?_
      rw [cl]
      have y3 := y2.sd (i := b) (j := k) (v := 4652007308841189376) (by rw [f1]; exact la.2.1)
      exact r_iinc (y := nI (k + 1)) (lv' := [some (.ref (z + i)), some (.int (nI (k + 1)))]) rfl rfl (nI_1 _) rfl (r_goto (tg := 2) rfl rfl (ih (k + 1) _ (by omega) y3))
  exact r_ic (x := nI 0) rfl rfl (r_istore (lv' := [some (.ref (z + i)), some (.int (nI 0))]) rfl (Nat.le_of_ble_eq_true rfl) rfl (l1 6 0 h (by omega) x))
end WPK

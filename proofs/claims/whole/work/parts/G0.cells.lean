/-! ===== the start: cells that constructors make, relative to the first ===== -/
/-- how many, slots, tags and lengths, ints, longs, doubles, references -/
abbrev qG : Type := Nat × Nat × (Nat → Nat × Nat) × (Nat → Nat → Int32) × (Nat → Nat → Int64) × (Nat → Nat → UInt64) × (Nat → Nat → Option Nat)
def qc (G : qG) : Nat := G.1
def qu (G : qG) : Nat := G.2.1
def qT (G : qG) : Nat → Nat × Nat := G.2.2.1
def qI (G : qG) : Nat → Nat → Int32 := G.2.2.2.1
def qL (G : qG) : Nat → Nat → Int64 := G.2.2.2.2.1
def qD (G : qG) : Nat → Nat → UInt64 := G.2.2.2.2.2.1
def qR (G : qG) : Nat → Nat → Option Nat := G.2.2.2.2.2.2
def q0 : qG := (0, 0, fun _ => (0, 0), fun _ _ => 0, fun _ _ => 0, fun _ _ => 0, fun _ _ => none)
def qn (G : qG) (t n m : Nat) : qG := (qc G + 1, qu G + m, u1 (qT G) (qc G) (t, n), qI G, qL G, qD G, qR G)
def qi (G : qG) (i j : Nat) (v : Int32) : qG := (qc G, qu G, qT G, u2 (qI G) i j v, qL G, qD G, qR G)
def ql (G : qG) (i j : Nat) (v : Int64) : qG := (qc G, qu G, qT G, qI G, u2 (qL G) i j v, qD G, qR G)
def qd (G : qG) (i j : Nat) (v : UInt64) : qG := (qc G, qu G, qT G, qI G, qL G, u2 (qD G) i j v, qR G)
def qr (G : qG) (i j k : Nat) : qG := (qc G, qu G, qT G, qI G, qL G, qD G, u2 (qR G) i j (some k))
def CE (h0 h : mH) (z : Nat) (G : qG) : Prop := (hZ h = z + qc G ∧ hU h = hU h0 + qu G) ∧ (∀ i, i < qc G → (hT h (z + i) = (qT G i).1 ∧ hN h (z + i) = (qT G i).2) ∧ (∀ j, hI h (z + i) j = qI G i j) ∧ (∀ j, hL h (z + i) j = qL G i j) ∧ (∀ j, hD h (z + i) j = qD G i j) ∧ ∀ j, hR h (z + i) j = (qR G i j).map (z + ·)) ∧
  (∀ i j, qc G ≤ i → qI G i j = 0 ∧ qL G i j = 0 ∧ qD G i j = 0 ∧ qR G i j = none) ∧ (∀ a, a < z → hT h a = hT h0 a ∧ hN h a = hN h0 a ∧ hI h a = hI h0 a ∧ hR h a = hR h0 a) ∧ ∀ a, z + qc G ≤ a → hT h a = 0
section CEL
variable {h0 h : mH} {z i j k d pc p1 p2 p3 p4 N f g tg tt : Nat} {G : qG} {cd : mC} {lv : mL} {Q : mQ}
theorem CE.new {t n m : Nat} (x : CE h0 h z G) : CE h0 (nw h t n m) z (qn G t n m) := by
  obtain ⟨⟨x1, x2⟩, x3, x4, x5, x6⟩ := x
  have hT' : hT (nw h t n m) = u1 (hT h) (z + qc G) t := by rw [← x1]; rfl
  have hN' : hN (nw h t n m) = u1 (hN h) (z + qc G) n := by rw [← x1]; rfl
  have hI' : hI (nw h t n m) = u1 (hI h) (z + qc G) (fun _ => 0) := by rw [← x1]; rfl
  have hL' : hL (nw h t n m) = u1 (hL h) (z + qc G) (fun _ => 0) := by rw [← x1]; rfl
  have hD' : hD (nw h t n m) = u1 (hD h) (z + qc G) (fun _ => 0) := by rw [← x1]; rfl
  have hR' : hR (nw h t n m) = u1 (hR h) (z + qc G) (fun _ => none) := by rw [← x1]; rfl
  refine ⟨⟨?_, ?_⟩, fun i hi => ?_, fun i j hi => x4 i j (by have : qc G + 1 ≤ i := hi; omega), fun a ha => ?_, fun a ha => ?_⟩
  · show hZ h + 1 = z + (qc G + 1)
    omega
  · show hU h + m = hU h0 + (qu G + m)
    omega
  · have hi : i < qc G + 1 := hi
    have eT : qT (qn G t n m) i = if i = qc G then (t, n) else qT G i := rfl
    rw [hT', hN', hI', hL', hD', hR', eT]
    unfold u1
    by_cases e : i = qc G
    · subst e
      rw [if_pos rfl, if_pos rfl, if_pos rfl, if_pos rfl, if_pos rfl, if_pos rfl, if_pos rfl]
      have q := fun j => x4 (qc G) j (Nat.le_refl _)
      exact ⟨⟨rfl, rfl⟩, fun j => (q j).1.symm, fun j => (q j).2.1.symm, fun j => (q j).2.2.1.symm, fun j => by
        show none = (qR G (qc G) j).map _
        rw [(q j).2.2.2]; rfl⟩
    · have ne : ¬ z + i = z + qc G := by omega
      rw [if_neg ne, if_neg ne, if_neg ne, if_neg ne, if_neg ne, if_neg ne, if_neg e]
      exact x3 i (by omega)
  · have ne : ¬ a = z + qc G := by omega
    rw [hT', hN', hI', hR']
    unfold u1
    rw [if_neg ne, if_neg ne, if_neg ne, if_neg ne]
    exact x5 a ha
  · have ha : z + (qc G + 1) ≤ a := ha
    rw [hT']
    unfold u1
    rw [if_neg (by omega)]
    exact x6 a (by omega)
theorem CE.si {v : Int32} (x : CE h0 h z G) (hi : i < qc G) : CE h0 (sI h (z + i) j v) z (qi G i j v) := by
  obtain ⟨x1, x3, x4, x5, x6⟩ := x
  refine ⟨x1, fun i' hi' => ?_, fun i' j' hi' => ?_, fun a ha => ?_, x6⟩
  · obtain ⟨q1, q2, q3, q4, q5⟩ := x3 i' hi'
    refine ⟨q1, fun j' => ?_, q3, q4, q5⟩
    show (if z + i' = z + i ∧ j' = j then v else hI h (z + i') j') = if i' = i ∧ j' = j then v else qI G i' j'
    by_cases e : i' = i ∧ j' = j
    · rw [if_pos e, if_pos ⟨by omega, e.2⟩]
    · rw [if_neg e, if_neg (fun q => e ⟨by omega, q.2⟩)]; exact q2 j'
  · obtain ⟨q1, q2⟩ := x4 i' j' hi'
    have hi' : qc G ≤ i' := hi'
    refine ⟨?_, q2⟩
    show (if i' = i ∧ j' = j then v else qI G i' j') = 0
    rw [if_neg (fun q => by omega)]; exact q1
  · obtain ⟨q1, q2, q3, q4⟩ := x5 a ha
    exact ⟨q1, q2, (u2_row _ (by omega) v).trans q3, q4⟩
theorem CE.sl {v : Int64} (x : CE h0 h z G) (hi : i < qc G) : CE h0 (sL h (z + i) j v) z (ql G i j v) := by
  obtain ⟨x1, x3, x4, x5, x6⟩ := x
  refine ⟨x1, fun i' hi' => ?_, fun i' j' hi' => ?_, x5, x6⟩
  · obtain ⟨q1, q2, q3, q4, q5⟩ := x3 i' hi'
    refine ⟨q1, q2, fun j' => ?_, q4, q5⟩
    show (if z + i' = z + i ∧ j' = j then v else hL h (z + i') j') = if i' = i ∧ j' = j then v else qL G i' j'
    by_cases e : i' = i ∧ j' = j
    · rw [if_pos e, if_pos ⟨by omega, e.2⟩]
    · rw [if_neg e, if_neg (fun q => e ⟨by omega, q.2⟩)]; exact q3 j'
  · obtain ⟨q1, q2, q3⟩ := x4 i' j' hi'
    have hi' : qc G ≤ i' := hi'
    refine ⟨q1, ?_, q3⟩
    show (if i' = i ∧ j' = j then v else qL G i' j') = 0
    rw [if_neg (fun q => by omega)]; exact q2
theorem CE.sd {v : UInt64} (x : CE h0 h z G) (hi : i < qc G) : CE h0 (sD h (z + i) j v) z (qd G i j v) := by
  obtain ⟨x1, x3, x4, x5, x6⟩ := x
  refine ⟨x1, fun i' hi' => ?_, fun i' j' hi' => ?_, x5, x6⟩
  · obtain ⟨q1, q2, q3, q4, q5⟩ := x3 i' hi'
    refine ⟨q1, q2, q3, fun j' => ?_, q5⟩
    show (if z + i' = z + i ∧ j' = j then v else hD h (z + i') j') = if i' = i ∧ j' = j then v else qD G i' j'
    by_cases e : i' = i ∧ j' = j
    · rw [if_pos e, if_pos ⟨by omega, e.2⟩]
    · rw [if_neg e, if_neg (fun q => e ⟨by omega, q.2⟩)]; exact q4 j'
  · obtain ⟨q1, q2, q3, q4⟩ := x4 i' j' hi'
    have hi' : qc G ≤ i' := hi'
    refine ⟨q1, q2, ?_, q4⟩
    show (if i' = i ∧ j' = j then v else qD G i' j') = 0
    rw [if_neg (fun q => by omega)]; exact q3
theorem CE.sr (x : CE h0 h z G) (hi : i < qc G) : CE h0 (sR h (z + i) j (some (z + k))) z (qr G i j k) := by
  obtain ⟨x1, x3, x4, x5, x6⟩ := x
  refine ⟨x1, fun i' hi' => ?_, fun i' j' hi' => ?_, fun a ha => ?_, x6⟩
  · obtain ⟨q1, q2, q3, q4, q5⟩ := x3 i' hi'
    refine ⟨q1, q2, q3, q4, fun j' => ?_⟩
    show (if z + i' = z + i ∧ j' = j then some (z + k) else hR h (z + i') j') = (if i' = i ∧ j' = j then some k else qR G i' j').map (z + ·)
    by_cases e : i' = i ∧ j' = j
    · rw [if_pos e, if_pos ⟨by omega, e.2⟩]; rfl
    · rw [if_neg e, if_neg (fun q => e ⟨by omega, q.2⟩)]; exact q5 j'
  · obtain ⟨q1, q2, q3, q4⟩ := x4 i' j' hi'
    have hi' : qc G ≤ i' := hi'
    refine ⟨q1, q2, q3, ?_⟩
    show (if i' = i ∧ j' = j then some k else qR G i' j') = none
    rw [if_neg (fun q => by omega)]; exact q4
  · obtain ⟨q1, q2, q3, q4⟩ := x5 a ha
    exact ⟨q1, q2, q3, (u2_row _ (by omega) _).trans q4⟩
theorem CE.tag (x : CE h0 h z G) (hi : i < qc G) (ht : (qT G i).1 = tt) : hT h (z + i) = tt := by rw [(x.2.1 i hi).1.1]; exact ht
/-- an array into a field -/
def gAr (G : qG) (i f tg N : Nat) : qG := qr (qn G tg N N) i f (qc G)
theorem qT_n {t n m : Nat} (hi : i < qc G) : qT (qn G t n m) i = qT G i := if_neg (show ¬ i = qc G by omega)
theorem gAr_T {i' : Nat} (hi : i' < qc G) : qT (gAr G i f tg N) i' = qT G i' := qT_n (G := G) (t := tg) (n := N) (m := N) hi
theorem gAr_c : qc (gAr G i f tg N) = qc G + 1 := rfl
theorem qn_c {a b c : Nat} : qc (qn G a b c) = qc G + 1 := rfl
theorem qr_c {a b c : Nat} : qc (qr G a b c) = qc G := rfl
theorem qi_c {a b : Nat} {v : Int32} : qc (qi G a b v) = qc G := rfl
theorem ql_c {a b : Nat} {v : Int64} : qc (ql G a b v) = qc G := rfl
theorem qd_c {a b : Nat} {v : UInt64} : qc (qd G a b v) = qc G := rfl
theorem qr_T {a b c : Nat} : qT (qr G a b c) = qT G := rfl
theorem qi_T {a b : Nat} {v : Int32} : qT (qi G a b v) = qT G := rfl
theorem ql_T {a b : Nat} {v : Int64} : qT (ql G a b v) = qT G := rfl
theorem qd_T {a b : Nat} {v : UInt64} : qT (qd G a b v) = qT G := rfl
theorem qn_R {a b c : Nat} : qR (qn G a b c) = qR G := rfl
theorem qi_R {a b : Nat} {v : Int32} : qR (qi G a b v) = qR G := rfl
theorem ql_R {a b : Nat} {v : Int64} : qR (ql G a b v) = qR G := rfl
theorem qd_R {a b : Nat} {v : UInt64} : qR (qd G a b v) = qR G := rfl
theorem qT_s {a b c : Nat} : qT (qn G a b c) (qc G) = (a, b) := if_pos rfl
theorem qr_R {a b c i' : Nat} (hi : i' ≠ a) : qR (qr G a b c) i' = qR G i' := u2_row _ hi _
theorem qr_Rs {a b c j : Nat} : qR (qr G a b c) a j = if j = b then some c else qR G a j := by
  show (if a = a ∧ j = b then some c else qR G a j) = _
  by_cases e : j = b
  · rw [if_pos ⟨rfl, e⟩, if_pos e]
  · rw [if_neg (fun q => e q.2), if_neg e]
theorem b_arr {at' : ArrayType} (x : CE h0 h z G) (hi : i < qc G) (ht : (qT G i).1 = tt) (hl : lv[0]? = some (some (.ref (z + i)))) (c1 : cd pc = some (.aload 0, p1)) (hp : ∀ st, WR d cd p2 lv (.int (nI N) :: st) h Q → WR d cd p1 lv st h Q) (c3 : cd p2 = some (.newarray at', p3)) (ha : atag at' = tg ∧ 20 ≤ tg) (hN : N ≤ 10000) (c4 : cd p3 = some (.putfield g, p4)) (hg : g / 100 = tt ∧ g % 100 = f ∧ isRf (fty tt f) = true)
    (k : ∀ h', CE h0 h' z (gAr G i f tg N) → i < qc (gAr G i f tg N) → (qT (gAr G i f tg N) i).1 = tt → WR d cd p4 lv [] h' Q) : WR d cd pc lv [] h Q := by
  have cl : (nI N).toNatClampNeg = N := nI_clamp (by omega)
  refine r_aload c1 hl (hp _ (r_newarray c3 ⟨by rw [ha.1]; exact ha.2, nI_pos (by omega), by rw [cl]; exact hN⟩ ?_))
  rw [cl, ha.1]
  have xn : CE h0 (nw h tg N N) z (qn G tg N N) := x.new
  have hi2 : i < qc (qn G tg N N) := by show i < qc G + 1; omega
  refine r_putA c4 hg (xn.tag hi2 (by rw [qT_n hi]; exact ht)) ?_
  rw [x.1.1]
  exact k _ (xn.sr hi2) hi2 (by rw [gAr_T hi]; exact ht)
theorem b_aar (x : CE h0 h z G) (hi : i < qc G) (ht : (qT G i).1 = tt) (hl : lv[0]? = some (some (.ref (z + i)))) (c1 : cd pc = some (.aload 0, p1)) (hp : ∀ st, WR d cd p2 lv (.int (nI N) :: st) h Q → WR d cd p1 lv st h Q) (c3 : cd p2 = some (.anewarray tg, p3)) (hN : N ≤ 10000) (c4 : cd p3 = some (.putfield g, p4)) (hg : g / 100 = tt ∧ g % 100 = f ∧ isRf (fty tt f) = true)
    (k : ∀ h', CE h0 h' z (gAr G i f tg N) → i < qc (gAr G i f tg N) → (qT (gAr G i f tg N) i).1 = tt → WR d cd p4 lv [] h' Q) : WR d cd pc lv [] h Q := by
  have cl : (nI N).toNatClampNeg = N := nI_clamp (by omega)
  refine r_aload c1 hl (hp _ (r_anewarray c3 ⟨nI_pos (by omega), by rw [cl]; exact hN⟩ ?_))
  rw [cl]
  have xn : CE h0 (nw h tg N N) z (qn G tg N N) := x.new
  have hi2 : i < qc (qn G tg N N) := by show i < qc G + 1; omega
  refine r_putA c4 hg (xn.tag hi2 (by rw [qT_n hi]; exact ht)) ?_
  rw [x.1.1]
  exact k _ (xn.sr hi2) hi2 (by rw [gAr_T hi]; exact ht)
/-- an object into a field: it is new, and lies twice on the stack -/
theorem b_obj {t m : Nat} (x : CE h0 h z G) (hl : lv[0]? = some (some (.ref (z + i)))) (c1 : cd pc = some (.aload 0, p1)) (c2 : cd p1 = some (.new t, p2)) (hm : nF t = m) (c3 : cd p2 = some (.dup, p3)) (k : ∀ h', CE h0 h' z (qn G t m m) → WR d cd p3 lv [.ref (z + qc G), .ref (z + qc G), .ref (z + i)] h' Q) : WR d cd pc lv [] h Q := by
  refine r_aload c1 hl (r_new c2 hm ?_)
  rw [x.1.1]
  exact r_dup c3 rfl (k _ x.new)
/-- it is kept -/
theorem b_put {G' : qG} {c : Nat} (x : CE h0 h z G') (hi : i < qc G') (ht : (qT G' i).1 = tt) (c4 : cd p3 = some (.putfield g, p4)) (hg : g / 100 = tt ∧ g % 100 = f ∧ isRf (fty tt f) = true) (k : ∀ h', CE h0 h' z (qr G' i f c) → WR d cd p4 lv [] h' Q) : WR d cd p3 lv [.ref (z + c), .ref (z + i)] h Q := r_putA c4 hg (x.tag hi ht) (k _ (x.sr hi))
/-! the class's parts -/
def gTr (G : qG) (i : Nat) : qG := gAr G i 0 20 60
theorem c_iTr (x : CE h0 h z G) (hi : i < qc G) (ht : (qT G i).1 = 7) (hQ : ∀ h', CE h0 h' z (gTr G i) → Q none h') : EV (d + 1) 5 [.ref (z + i)] h Q := by
  refine in_5 (Nat.le_of_ble_eq_true rfl) ?_
  show WR _ cd_5 0 [some (.ref (z + i))] [] h _
  refine r_aload rfl rfl (r_obj rfl (Nat.le_of_ble_eq_true rfl) ?_)
  exact b_arr (f := 0) (tg := 20) (tt := 7) (N := 60) x hi ht rfl rfl (fun st k => r_ic rfl rfl k) rfl ⟨rfl, by decide⟩ (by decide) rfl ⟨rfl, rfl, rfl⟩ (fun h1 x1 _ _ => r_vret rfl (hQ _ x1))
def gHa (G : qG) (i : Nat) : qG := gAr (gAr G i 0 24 100) i 1 20 100
theorem c_iHa (x : CE h0 h z G) (hi : i < qc G) (ht : (qT G i).1 = 3) (hQ : ∀ h', CE h0 h' z (gHa G i) → Q none h') : EV (d + 1) 9 [.ref (z + i), .int (nI 100)] h Q := by
  refine in_9 (Nat.le_of_ble_eq_true rfl) ?_
  show WR _ cd_9 0 [some (.ref (z + i)), some (.int (nI 100))] [] h _
  refine r_aload rfl rfl (r_obj rfl (Nat.le_of_ble_eq_true rfl) ?_)
  refine b_aar (f := 0) (tg := 24) (tt := 3) (N := 100) x hi ht rfl rfl (fun st k => r_iload rfl rfl k) rfl (by decide) rfl ⟨rfl, rfl, rfl⟩ (fun h1 x1 i1 t1 => ?_)
  exact b_arr (f := 1) (tg := 20) (tt := 3) (N := 100) x1 i1 t1 rfl rfl (fun st k => r_iload rfl rfl k) rfl ⟨rfl, by decide⟩ (by decide) rfl ⟨rfl, rfl, rfl⟩ (fun h2 x2 _ _ => r_vret rfl (hQ _ x2))
def gUn (G : qG) (i : Nat) : qG := gAr (gAr (gAr (gAr (gAr G i 0 24 24) i 1 26 30) i 2 27 100) i 3 20 100) i 4 21 100
theorem c_iUn (x : CE h0 h z G) (hi : i < qc G) (ht : (qT G i).1 = 9) (hQ : ∀ h', CE h0 h' z (gUn G i) → Q none h') : EV (d + 1) 10 [.ref (z + i), .int (nI 100)] h Q := by
  refine in_10 (Nat.le_of_ble_eq_true rfl) ?_
  show WR _ cd_10 0 [some (.ref (z + i)), some (.int (nI 100))] [] h _
  refine r_aload rfl rfl (r_obj rfl (Nat.le_of_ble_eq_true rfl) ?_)
  refine b_aar (f := 0) (tg := 24) (tt := 9) (N := 24) x hi ht rfl rfl (fun st k => r_ic rfl rfl k) rfl (by decide) rfl ⟨rfl, rfl, rfl⟩ (fun h1 x1 i1 t1 => ?_)
  refine b_aar (f := 1) (tg := 26) (tt := 9) (N := 30) x1 i1 t1 rfl rfl (fun st k => r_ic rfl rfl k) rfl (by decide) rfl ⟨rfl, rfl, rfl⟩ (fun h2 x2 i2 t2 => ?_)
  refine b_aar (f := 2) (tg := 27) (tt := 9) (N := 100) x2 i2 t2 rfl rfl (fun st k => r_iload rfl rfl k) rfl (by decide) rfl ⟨rfl, rfl, rfl⟩ (fun h3 x3 i3 t3 => ?_)
  refine b_arr (f := 3) (tg := 20) (tt := 9) (N := 100) x3 i3 t3 rfl rfl (fun st k => r_iload rfl rfl k) rfl ⟨rfl, by decide⟩ (by decide) rfl ⟨rfl, rfl, rfl⟩ (fun h4 x4 i4 t4 => ?_)
  exact b_arr (f := 4) (tg := 21) (tt := 9) (N := 100) x4 i4 t4 rfl rfl (fun st k => r_iload rfl rfl k) rfl ⟨rfl, by decide⟩ (by decide) rfl ⟨rfl, rfl, rfl⟩ (fun h5 x5 _ _ => r_vret rfl (hQ _ x5))
end CEL

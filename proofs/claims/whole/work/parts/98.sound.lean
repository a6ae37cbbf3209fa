/-! ===== an act, pure: it stays sound ===== -/
theorem uI_s {S : aS} {i j : Nat} {v : Int32} : (uI S i j v).2.1 i j = v := if_pos ⟨rfl, rfl⟩
theorem uI_n {S : aS} {i j i' j' : Nat} {v : Int32} (h : i' ≠ i) : (uI S i j v).2.1 i' j' = S.2.1 i' j' := if_neg (fun e => h e.1)
theorem uI_k {S : aS} {i j i' j' : Nat} {v : Int32} (h : j' ≠ j) : (uI S i j v).2.1 i' j' = S.2.1 i' j' := if_neg (fun e => h e.2)
theorem uN_s {S : aS} {k v : Nat} : (uN S k v).1 k = v := if_pos rfl
theorem uN_n {S : aS} {k v k' : Nat} (h : k' ≠ k) : (uN S k v).1 k' = S.1 k' := if_neg h
theorem cl_of {x : Int32} {N : Nat} {M : Int32} (hM : M.toInt = N) (h0 : ¬ x < 0) (h1 : ¬ M ≤ x) : x.toNatClampNeg < N ∧ x = nI x.toNatClampNeg := by
  have b := i_nle h1
  obtain ⟨j, hj, e⟩ := nI_of h0
  have tj : (nI j).toInt = j := nI_toInt hj
  rw [e, tj] at b
  rw [e, nI_clamp hj]
  exact ⟨by omega, rfl⟩
theorem ofC {x : Int32} (h : isC x) : x.toNatClampNeg < 24 ∧ x = nI x.toNatClampNeg := cl_of rfl h.1 h.2
theorem ofP {x : Int32} (h : isP x) : x.toNatClampNeg < 10 ∧ x = nI x.toNatClampNeg := cl_of rfl h.1 h.2
theorem ofS {x : Int32} (h : isS x) : x.toNatClampNeg < 5 ∧ x = nI x.toNatClampNeg := cl_of rfl h.1 h.2
theorem ofB {n : Nat} {x : Int32} (hn : n ≤ 6) (h : isB n x) : x.toNatClampNeg < n ∧ x = nI x.toNatClampNeg := cl_of (nI_toInt (by omega)) h.1 h.2
section VSS
variable {n np : Nat} {LV : Nat → Prop} {w : Nat} {S : aS} {P : aP}
theorem VS.wk (v : VS n np LV 1 S) : VS n np LV 0 S := ⟨v.1, by have := v.2.1; omega, by have := v.2.2.1; omega, v.2.2.2⟩
theorem VS.oth {i j : Nat} {x : Int32} (v : VS n np LV w S) (h1 : i ≠ 31) (h2 : i ≠ 54) (h3 : i ≠ 55) (h4 : i ≠ 57) : VS n np LV w (uI S i j x) := by
  obtain ⟨v1, v2, v3, v4, v5, v6, v7⟩ := v
  refine ⟨v1, v2, v3, v4, fun c hc => ?_, fun k hk => ?_, fun s hs => ?_⟩
  · rw [uI_n h1.symm]; exact v5 c hc
  · rw [uI_n h2.symm, uI_n h3.symm]; exact v6 k hk
  · rw [uI_n h4.symm]; exact v7 s hs
theorem VS.it {j : Nat} {x : Int64} (v : VS n np LV w S) : VS n np LV w (uL S j x) := v
theorem VS.cas {a : Nat} {x : Int32} (v : VS n np LV w S) (hx : x = -1 ∨ okV np LV x) : VS n np LV w (uI S 31 a x) := by
  obtain ⟨v1, v2, v3, v4, v5, v6, v7⟩ := v
  refine ⟨v1, v2, v3, v4, fun c hc => ?_, fun k hk => ?_, fun s hs => ?_⟩
  · by_cases e : c = a
    · rw [e, uI_s]; exact hx
    · rw [uI_k e]; exact v5 c hc
  · rw [uI_n (by decide), uI_n (by decide)]; exact v6 k hk
  · rw [uI_n (by decide)]; exact v7 s hs
theorem VS.slt {a : Nat} {x : Int32} (v : VS n np LV w S) (hx : okW np x) : VS n np LV w (uI S 57 a x) := by
  obtain ⟨v1, v2, v3, v4, v5, v6, v7⟩ := v
  refine ⟨v1, v2, v3, v4, fun c hc => ?_, fun k hk => ?_, fun s hs => ?_⟩
  · rw [uI_n (by decide)]; exact v5 c hc
  · rw [uI_n (by decide), uI_n (by decide)]; exact v6 k hk
  · by_cases e : s = a
    · rw [e, uI_s]; exact hx
    · rw [uI_k e]; exact v7 s hs
theorem VS.pop (v : VS n np LV w S) : VS n np LV w (uN S 0 (S.1 0 - 1)) := by
  obtain ⟨v1, v2, v3, v4, v5, v6, v7⟩ := v
  refine ⟨by rw [uN_n (by decide)]; exact v1, by rw [uN_s, uN_n (by decide)]; omega, by rw [uN_n (by decide), uN_n (by decide)]; exact v3, by rw [uN_n (by decide)]; exact v4, v5, fun k hk => v6 k ?_, v7⟩
  rw [uN_s] at hk; omega
theorem VS.push {x : Int32} {o : Nat} (v : VS n np LV 1 S) (hx : okV np LV x) (ho : o < 24) : VS n np LV 0 (gPush S x (nI o)) := by
  obtain ⟨v1, v2, v3, v4, v5, v6, v7⟩ := v
  unfold gPush
  refine ⟨by rw [uN_n (by decide)]; exact v1, by rw [uN_s, uN_n (by decide)]; exact v2, by rw [uN_n (by decide), uN_n (by decide)]; exact Nat.le_of_succ_le v3, by rw [uN_n (by decide)]; exact v4, fun c hc => ?_, fun k hk => ?_, fun s hs => ?_⟩
  · show (uI (uI S 54 (S.1 0) x) 55 (S.1 0) (nI o)).2.1 31 c = -1 ∨ okV np LV ((uI (uI S 54 (S.1 0) x) 55 (S.1 0) (nI o)).2.1 31 c)
    rw [uI_n (by decide), uI_n (by decide)]; exact v5 c hc
  · rw [uN_s] at hk
    show okV np LV ((uI (uI S 54 (S.1 0) x) 55 (S.1 0) (nI o)).2.1 54 k) ∧ ∃ o', o' < 24 ∧ (uI (uI S 54 (S.1 0) x) 55 (S.1 0) (nI o)).2.1 55 k = nI o'
    rw [uI_n (by decide)]
    by_cases e : k = S.1 0
    · rw [e, uI_s, uI_s]; exact ⟨hx, o, ho, rfl⟩
    · rw [uI_k e, uI_k e, uI_n (by decide)]; exact v6 k (by omega)
  · show okW np ((uI (uI S 54 (S.1 0) x) 55 (S.1 0) (nI o)).2.1 57 s)
    rw [uI_n (by decide), uI_n (by decide)]; exact v7 s hs
theorem VS.say {x : Int32} (v : VS n np LV 1 S) : VS n np LV 0 (gSay S x) := by
  have k : ∀ T : aS, VS n np LV 1 T → VS n np LV 0 (uN T 2 (T.1 2 + 1)) := fun T v => ⟨by rw [uN_n (by decide)]; exact v.1, by rw [uN_n (by decide), uN_n (by decide)]; have := v.2.1; omega, by rw [uN_s, uN_n (by decide)]; exact v.2.2.1, by rw [uN_n (by decide)]; exact v.2.2.2.1, v.2.2.2.2.1, fun i hi => v.2.2.2.2.2.1 i (by rw [uN_n (by decide)] at hi; exact hi), v.2.2.2.2.2.2⟩
  unfold gSay
  split
  · exact k (uI S 53 (S.1 2) x) (v.oth (by decide) (by decide) (by decide) (by decide))
  · exact k S v
theorem VS.beg (v : VS n np LV 0 S) (h : ¬ 100 ≤ S.1 1) : VS n np LV 1 (uN S 1 (S.1 1 + 1)) := by
  refine ⟨by rw [uN_s]; omega, by rw [uN_n (by decide), uN_s]; have := v.2.1; omega, by rw [uN_n (by decide), uN_s]; have := v.2.2.1; omega, by rw [uN_n (by decide)]; exact v.2.2.2.1, v.2.2.2.2.1, fun i hi => v.2.2.2.2.2.1 i (by rw [uN_n (by decide)] at hi; exact hi), v.2.2.2.2.2.2⟩
theorem VS.dep {k : Nat} (v : VS n np LV w S) (hk : k ≤ 8) : VS n np LV w (uN S 3 k) :=
  ⟨by rw [uN_n (by decide)]; exact v.1, by rw [uN_n (by decide), uN_n (by decide)]; exact v.2.1, by rw [uN_n (by decide), uN_n (by decide)]; exact v.2.2.1, by rw [uN_s]; exact hk, v.2.2.2.2.1, fun i hi => v.2.2.2.2.2.1 i (by rw [uN_n (by decide)] at hi; exact hi), v.2.2.2.2.2.2⟩
/-- a failure, or none -/
def okF (f : Int32) : Prop := ∃ k, k ≤ 8 ∧ f = nI k
theorem okF_l (k : Nat) (hk : k ≤ 8) : okF (nI k) := ⟨k, hk, rfl⟩
theorem okW_v (v : VS n np LV w S) {s : Nat} (hs : s < 5 * n) (hne : ¬ S.2.1 57 s = -1) (hp : np ≤ 60) : ∃ q, q < np ∧ S.2.1 57 s = nI q ∧ (S.2.1 57 s).toNatClampNeg = q := by
  rcases v.2.2.2.2.2.2 s hs with e | ⟨q, h1, h2⟩
  · exact absurd e hne
  · exact ⟨q, h1, h2, by rw [h2]; exact nI_clamp (by omega)⟩
theorem gDo_ok (vp : VP n np LV P) {p i : Nat} (hp : p < 10) (hi : i < P.len p) (v : VS n np LV 1 S) (h4 : P.op (16 * p + i) ≠ 4) (h7 : P.op (16 * p + i) ≠ 7) (h8 : P.op (16 * p + i) ≠ 8) (h9 : P.op (16 * p + i) ≠ 9) (h10 : P.op (16 * p + i) ≠ 10) :
    VS n np LV 0 (gDo P (16 * p + i) S).2 ∧ okF (gDo P (16 * p + i) S).1 := by
  obtain ⟨np60, n6, vp3, vk, vt⟩ := vp
  obtain ⟨o13, ok⟩ := (vp3 p hp).2 i hi
  generalize 16 * p + i = k at *
  obtain ⟨-, ok1, ok2, ok3, ok4, ok5, ok6, ok7, ok8⟩ := ok
  have hop : P.op k = 0 ∨ P.op k = 1 ∨ P.op k = 2 ∨ P.op k = 3 ∨ P.op k = 5 ∨ P.op k = 6 ∨ P.op k = 11 ∨ P.op k = 12 ∨ P.op k = 13 := by omega
  have vw := v.wk
  rcases hop with e | e | e | e | e | e | e | e | e
  · have ha := ofC (ok1 (.inl (by rw [e]; rfl)))
    unfold gDo
    simp only [e]
    unfold gTake
    split
    · exact ⟨vw, okF_l 1 (by decide)⟩
    · exact ⟨(v.push ((v.2.2.2.2.1 _ ha.1).resolve_left (by assumption)) ha.1).cas (.inl rfl), okF_l 0 (by decide)⟩
  · have ha := ofC (ok1 (.inr (.inl (by rw [e]; rfl))))
    unfold gDo
    simp only [e]
    unfold gLay
    split
    · exact ⟨vw, okF_l 1 (by decide)⟩
    · split
      · exact ⟨vw.pop.cas (.inr (v.2.2.2.2.2.1 _ (by omega)).1), okF_l 0 (by decide)⟩
      · exact ⟨vw, okF_l 5 (by decide)⟩
  · unfold gDo
    simp only [e]
    unfold gWrite
    split
    · exact ⟨vw, okF_l 1 (by decide)⟩
    · split
      · exact ⟨vw, okF_l 4 (by decide)⟩
      · split
        · split
          · exact ⟨vw.it, okF_l 0 (by decide)⟩
          · exact ⟨vw, okF_l 2 (by decide)⟩
        · exact ⟨vw, okF_l 4 (by decide)⟩
  · unfold gDo
    simp only [e]
    exact ⟨v.say, okF_l 0 (by decide)⟩
  · unfold gDo
    simp only [e]
    exact ⟨v.say, okF_l 0 (by decide)⟩
  · unfold gDo
    simp only [e]
    have a := ok8 (by rw [e]; rfl)
    have a1 := i_nlt a.1
    have a2 := i_le a.2
    have z1 : (1 : Int32).toInt = 1 := rfl
    have z8 : (8 : Int32).toInt = 8 := rfl
    obtain ⟨q, hq, eq⟩ := ix_of (x := P.a k) (n := 9) (by omega) (by omega)
    exact ⟨vw, q, by omega, eq⟩
  · unfold gDo
    simp only [e]
    unfold gWake
    split
    · exact ⟨vw, okF_l 7 (by decide)⟩
    · exact ⟨v.say, okF_l 0 (by decide)⟩
  · have hab := ok7 (.inl (by rw [e]; rfl))
    have ha := ofB n6 hab.1
    have hb := ofS hab.2
    unfold gDo
    simp only [e]
    unfold gFit
    split
    · exact ⟨vw, okF_l 7 (by decide)⟩
    · split
      · exact ⟨vw, okF_l 1 (by decide)⟩
      · split
        · rename_i q1 q2 q3
          have top := (v.2.2.2.2.2.1 (S.1 0 - 1) (by omega)).1
          have wq : okW np (nI ((S.2.1 54 (S.1 0 - 1)).toNatClampNeg - 1000)) := by
            rcases top with ⟨q, hq, eq⟩ | ⟨t, ht, -, eq⟩
            · rw [eq, nI_clamp (by omega), show 1000 + q - 1000 = q by omega]; exact .inr ⟨q, hq, rfl⟩
            · have := q3.1; rw [eq] at this
              have := (nI_leI (a := 1000) (b := t) (by decide) (by omega)).mp this; omega
          split
          · exact ⟨vw.pop.slt wq, okF_l 0 (by decide)⟩
          · rename_i q4
            obtain ⟨q, hq, -, e3⟩ := okW_v v (s := 5 * (P.a k).toNatClampNeg + (P.b k).toNatClampNeg) (by omega) q4 np60
            refine ⟨?_, okF_l 0 (by decide)⟩
            have vv : VS n np LV 1 (uI (uN S 0 (S.1 0 - 1)) 57 (5 * (P.a k).toNatClampNeg + (P.b k).toNatClampNeg) (nI ((S.2.1 54 (S.1 0 - 1)).toNatClampNeg - 1000))) := v.pop.slt wq
            rw [e3]
            exact VS.push (o := 23) vv (.inl ⟨q, hq, rfl⟩) (by decide)
        · exact ⟨vw, okF_l 4 (by decide)⟩
  · have hab := ok7 (.inr (by rw [e]; rfl))
    have ha := ofB n6 hab.1
    have hb := ofS hab.2
    unfold gDo
    simp only [e]
    unfold gStrip
    split
    · exact ⟨vw, okF_l 7 (by decide)⟩
    · split
      · exact ⟨vw, okF_l 1 (by decide)⟩
      · rename_i q4
        obtain ⟨q, hq, -, e3⟩ := okW_v v (s := 5 * (P.a k).toNatClampNeg + (P.b k).toNatClampNeg) (by omega) q4 np60
        rw [e3]
        exact ⟨(VS.push (o := 23) v (.inl ⟨q, hq, rfl⟩) (by decide)).slt (.inl rfl), okF_l 0 (by decide)⟩
/-- how a plan ends, sound -/
def okO (o : Int32) : Prop := o = 0 ∨ o = 1 ∨ ∃ f, 1 ≤ f ∧ f ≤ 9 ∧ o = -10 - nI f
/-- a function of plans that stays sound and keeps what is held -/
def okG (n np : Nat) (LV : Nat → Prop) (G : Nat → aS → aR) : Prop := ∀ p S, p < 10 → VS n np LV 0 S → VS n np LV 0 (G p S).2.2 ∧ okO (G p S).1 ∧ (G p S).2.2.2.1 56 = S.2.1 56
theorem i_p1m1 (x : Int32) : x + 1 - 1 = x := by
  rw [Int32.add_sub_cancel]
theorem say_56 {v : Int32} : (gSay S v).2.1 56 = S.2.1 56 := by
  unfold gSay
  split
  · funext j; exact uI_n (by decide)
  · rfl
theorem push_56 {v o : Int32} : (gPush S v o).2.1 56 = S.2.1 56 := by
  funext j
  show (uI (uI S 54 (S.1 0) v) 55 (S.1 0) o).2.1 56 j = _
  rw [uI_n (by decide), uI_n (by decide)]
theorem gDo_56 (k : Nat) : (gDo P k S).2.2.1 56 = S.2.1 56 := by
  have u : ∀ (T : aS) i j v, i ≠ 56 → (uI T i j v).2.1 56 = T.2.1 56 := fun T i j v h => funext fun _ => uI_n (Ne.symm h)
  unfold gDo
  split
  · unfold gTake; split
    · rfl
    · exact (u _ 31 _ _ (by decide)).trans push_56
  · unfold gLay; split
    · rfl
    · split
      · exact u _ 31 _ _ (by decide)
      · rfl
  · unfold gWrite; split
    · rfl
    · split
      · rfl
      · split
        · split <;> rfl
        · rfl
  · exact say_56
  · exact say_56
  · rfl
  · unfold gWake; split
    · rfl
    · exact say_56
  · unfold gFit; split
    · rfl
    · split
      · rfl
      · split
        · split
          · exact u _ 57 _ _ (by decide)
          · exact push_56.trans (u _ 57 _ _ (by decide))
        · rfl
  · unfold gStrip; split
    · rfl
    · split
      · rfl
      · exact (u _ 57 _ _ (by decide)).trans push_56
theorem gS_4 {G : Nat → aS → aR} {k : Nat} (v : VS n np LV 0 S) (e4 : P.op k = 4) : VS n np LV 0 (gStp G P k S).2.2 ∧ okO (gStp G P k S).1 ∧ (gStp G P k S).2.2.2.1 56 = S.2.1 56 := by
  have u : gStp G P k S = (1, P.a k, S) := by unfold gStp; rw [if_pos e4]
  rw [u]; exact ⟨v, .inr (.inl rfl), rfl⟩
theorem gS_7 {G : Nat → aS → aR} {k : Nat} (g : okG n np LV G) (v : VS n np LV 0 S) (e7 : P.op k = 7) (ha : isP (P.a k)) : VS n np LV 0 (gStp G P k S).2.2 ∧ okO (gStp G P k S).1 ∧ (gStp G P k S).2.2.2.1 56 = S.2.1 56 := by
  obtain ⟨a1, a2, a3⟩ := g _ S (ofP ha).1 v
  have u : gStp G P k S = if (G (P.a k).toNatClampNeg S).1 = 1 then (0, 0, uI (G (P.a k).toNatClampNeg S).2.2 33 0 (G (P.a k).toNatClampNeg S).2.1) else G (P.a k).toNatClampNeg S := by unfold gStp; rw [if_neg (by omega), if_pos e7]
  rw [u]
  by_cases q : (G (P.a k).toNatClampNeg S).1 = 1
  · rw [if_pos q]
    exact ⟨a1.oth (by decide) (by decide) (by decide) (by decide), .inl rfl, by rw [← a3]; exact funext fun _ => uI_n (by decide)⟩
  · rw [if_neg q]
    exact ⟨a1, a2, a3⟩
theorem gS_8 {G : Nat → aS → aR} {k : Nat} (g : okG n np LV G) (v : VS n np LV 0 S) (e8 : P.op k = 8) (ha : isP (P.a k)) (hc : isP (P.c k)) : VS n np LV 0 (gStp G P k S).2.2 ∧ okO (gStp G P k S).1 ∧ (gStp G P k S).2.2.2.1 56 = S.2.1 56 := by
  obtain ⟨a1, a2, a3⟩ := g _ S (ofP ha).1 v
  obtain ⟨b1, b2, b3⟩ := g _ _ (ofP hc).1 a1
  unfold gStp
  rw [if_neg (by omega), if_neg (by omega), if_pos e8]
  split
  · exact ⟨b1, b2, b3.trans a3⟩
  · exact ⟨a1, a2, a3⟩
def fin9 (r q : aR) : aR := if r.1 = -19 then r else if q.1 = 0 then (r.1, r.2.1, q.2.2) else if r.1 < 0 then (q.1, q.2.1, uI q.2.2 34 0 (-10 - r.1)) else q
theorem fin9_1 {r q : aR} (h : r.1 = -19) : fin9 r q = r := if_pos h
theorem fin9_2 {r q : aR} (h : ¬ r.1 = -19) (h2 : q.1 = 0) : fin9 r q = (r.1, r.2.1, q.2.2) := by unfold fin9; rw [if_neg h, if_pos h2]
theorem fin9_3 {r q : aR} (h : ¬ r.1 = -19) (h2 : ¬ q.1 = 0) (h3 : r.1 < 0) : fin9 r q = (q.1, q.2.1, uI q.2.2 34 0 (-10 - r.1)) := by unfold fin9; rw [if_neg h, if_neg h2, if_pos h3]
theorem fin9_4 {r q : aR} (h : ¬ r.1 = -19) (h2 : ¬ q.1 = 0) (h3 : ¬ r.1 < 0) : fin9 r q = q := by unfold fin9; rw [if_neg h, if_neg h2, if_neg h3]
theorem gS_9u {G : Nat → aS → aR} {k : Nat} (e9 : P.op k = 9) : gStp G P k S = fin9 (G (P.a k).toNatClampNeg S) (G (P.b k).toNatClampNeg (G (P.a k).toNatClampNeg S).2.2) := by
  unfold gStp
  rw [if_neg (by omega), if_neg (by omega), if_neg (by omega), if_pos e9]
  rfl
theorem gS_9x {r q : aR} (a1 : VS n np LV 0 r.2.2) (a2 : okO r.1) (a3 : r.2.2.2.1 56 = S.2.1 56) (b1 : VS n np LV 0 q.2.2) (b2 : okO q.1) (b3 : q.2.2.2.1 56 = r.2.2.2.1 56) : VS n np LV 0 (fin9 r q).2.2 ∧ okO (fin9 r q).1 ∧ (fin9 r q).2.2.2.1 56 = S.2.1 56 := by
  have e3 : q.2.2.2.1 56 = S.2.1 56 := b3.trans a3
  by_cases q1 : r.1 = -19
  · rw [fin9_1 q1]; exact ⟨a1, a2, a3⟩
  · by_cases q2 : q.1 = 0
    · rw [fin9_2 q1 q2]; exact ⟨b1, a2, e3⟩
    · by_cases q3 : r.1 < 0
      · rw [fin9_3 q1 q2 q3]
        have c1 : VS n np LV 0 (uI q.2.2 34 0 (-10 - r.1)) := b1.oth (by decide) (by decide) (by decide) (by decide)
        have c3 : (uI q.2.2 34 0 (-10 - r.1)).2.1 56 = q.2.2.2.1 56 := funext fun _ => uI_n (by decide)
        exact ⟨c1, b2, c3.trans e3⟩
      · rw [fin9_4 q1 q2 q3]; exact ⟨b1, b2, e3⟩
theorem gS_9 {G : Nat → aS → aR} {k : Nat} (g : okG n np LV G) (v : VS n np LV 0 S) (e9 : P.op k = 9) (ha : isP (P.a k)) (hb : isP (P.b k)) : VS n np LV 0 (gStp G P k S).2.2 ∧ okO (gStp G P k S).1 ∧ (gStp G P k S).2.2.2.1 56 = S.2.1 56 := by
  obtain ⟨a1, a2, a3⟩ := g _ S (ofP ha).1 v
  obtain ⟨b1, b2, b3⟩ := g _ _ (ofP hb).1 a1
  rw [gS_9u e9]
  exact gS_9x a1 a2 a3 b1 b2 b3
theorem gS_10 {G : Nat → aS → aR} {k : Nat} (g : okG n np LV G) (v : VS n np LV 0 S) (e10 : P.op k = 10) (hb : isP (P.b k)) : VS n np LV 0 (gStp G P k S).2.2 ∧ okO (gStp G P k S).1 ∧ (gStp G P k S).2.2.2.1 56 = S.2.1 56 := by
  obtain ⟨a1, a2, a3⟩ := g _ (uI S 56 (P.a k).toNatClampNeg (S.2.1 56 (P.a k).toNatClampNeg + 1)) (ofP hb).1 (v.oth (by decide) (by decide) (by decide) (by decide))
  unfold gStp
  rw [if_neg (by omega), if_neg (by omega), if_neg (by omega), if_neg (by omega), if_pos e10]
  refine ⟨a1.oth (by decide) (by decide) (by decide) (by decide), a2, ?_⟩
  funext j
  by_cases ej : j = (P.a k).toNatClampNeg
  · rw [ej, uI_s, a3, uI_s, i_p1m1]
  · rw [uI_k ej, a3, uI_k ej]
theorem gS_d {G : Nat → aS → aR} {k : Nat} (gd : VS n np LV 0 (gDo P k S).2 ∧ okF (gDo P k S).1) (e4 : ¬ P.op k = 4) (e7 : ¬ P.op k = 7) (e8 : ¬ P.op k = 8) (e9 : ¬ P.op k = 9) (e10 : ¬ P.op k = 10) : VS n np LV 0 (gStp G P k S).2.2 ∧ okO (gStp G P k S).1 ∧ (gStp G P k S).2.2.2.1 56 = S.2.1 56 := by
  have g56 := gDo_56 (P := P) (S := S) k
  obtain ⟨g1, f, hf, ef⟩ := gd
  unfold gStp
  rw [if_neg e4, if_neg e7, if_neg e8, if_neg e9, if_neg e10]
  by_cases q : (gDo P k S).1 = 0
  · rw [if_pos q]; exact ⟨g1, .inl rfl, g56⟩
  · rw [if_neg q]
    have f0 : f ≠ 0 := fun z => q (by rw [ef, z]; rfl)
    exact ⟨g1, .inr (.inr ⟨f, by omega, by omega, congrArg (fun x => -10 - x) ef⟩), g56⟩
theorem gStp_ok {G : Nat → aS → aR} (g : okG n np LV G) (vp : VP n np LV P) {p i : Nat} (hp : p < 10) (hi : i < P.len p) (v : VS n np LV 1 S) :
    VS n np LV 0 (gStp G P (16 * p + i) S).2.2 ∧ okO (gStp G P (16 * p + i) S).1 ∧ (gStp G P (16 * p + i) S).2.2.2.1 56 = S.2.1 56 := by
  obtain ⟨o13, ok⟩ := (vp.2.2.1 p hp).2 i hi
  have gd := gDo_ok vp hp hi v
  obtain ⟨-, ok1, ok2, ok3, ok4, ok5, ok6, ok7, ok8⟩ := ok
  have vw := v.wk
  by_cases e4 : P.op (16 * p + i) = 4
  · exact gS_4 vw e4
  by_cases e7 : P.op (16 * p + i) = 7
  · exact gS_7 g vw e7 (ok2 (congrArg nI e7))
  by_cases e8 : P.op (16 * p + i) = 8
  · have q := ok3 (congrArg nI e8)
    exact gS_8 g vw e8 q.1 q.2.1
  by_cases e9 : P.op (16 * p + i) = 9
  · have q := ok4 (congrArg nI e9)
    exact gS_9 g vw e9 q.1 q.2
  by_cases e10 : P.op (16 * p + i) = 10
  · have q := ok5 (congrArg nI e10)
    exact gS_10 g vw e10 q.2
  exact gS_d (gd e4 e7 e8 e9 e10) e4 e7 e8 e9 e10
theorem gLop_ok {G : Nat → aS → aR} (g : okG n np LV G) (vp : VP n np LV P) {p : Nat} (hp : p < 10) : ∀ r i S, i + r = P.len p → VS n np LV 0 S → VS n np LV 0 (gLop G P p r i S).2.2 ∧ okO (gLop G P p r i S).1 ∧ (gLop G P p r i S).2.2.2.1 56 = S.2.1 56 := by
  intro r
  induction r with
  | zero => intro i S _ v; exact ⟨v, .inl rfl, rfl⟩
  | succ r ih =>
    intro i S hi v
    unfold gLop
    split
    · exact ⟨v, .inr (.inr ⟨9, by decide, by decide, show (-19 : Int32) = -10 - nI 9 by decide⟩), rfl⟩
    · rename_i q
      obtain ⟨a1, a2, a3⟩ := gStp_ok g vp hp (by omega) (v.beg q) (p := p) (i := i)
      split
      · obtain ⟨b1, b2, b3⟩ := ih (i + 1) _ (by omega) a1
        exact ⟨b1, b2, b3.trans a3⟩
      · exact ⟨a1, a2, a3⟩
theorem gPln_ok (vp : VP n np LV P) : ∀ m, okG n np LV (gPln P m) := by
  intro m
  induction m with
  | zero => intro p S _ v; exact ⟨v, .inr (.inr ⟨8, by decide, by decide, show (-18 : Int32) = -10 - nI 8 by decide⟩), rfl⟩
  | succ m ih =>
    intro p S hp v
    refine gLop_ok ih vp hp (P.len p) 0 _ (by omega) (v.dep ?_)
    split
    · omega
    · exact v.2.2.2.1
end VSS

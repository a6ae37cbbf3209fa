/-! ===== run, the class's side: pitch, blades, rotor ===== -/
/-- what a failure is in the class -/
def fI (f : Nat) : Int32 := if f = 0 then 0 else -10 - nI f
theorem yWe_1 {ad : Nat → Nat} {h : mH} {t sl : Nat} {l : Int32} {S : yS} : (yWe ad h t sl l S).1 = 0 ∨ (yWe ad h t sl l S).1 = 1 ∨ (yWe ad h t sl l S).1 = 6 := by
  unfold yWe
  split
  · exact .inr (.inl rfl)
  · show (if _ then 6 else 0) = 0 ∨ (if _ then 6 else 0) = 1 ∨ (if _ then 6 else 0) = 6
    split
    · exact .inr (.inr rfl)
    · exact .inl rfl
theorem fI_z {f : Nat} (h : f = 0 ∨ f = 1 ∨ f = 6) : (fI f = 0 ↔ f = 0) ∧ (f ≠ 0 → (-10 : Int32) - fI f = nI f) := by
  rcases h with rfl | rfl | rfl
  · exact ⟨⟨fun _ => rfl, fun _ => rfl⟩, fun z => absurd rfl z⟩
  · exact ⟨⟨fun z => absurd z (by decide), fun z => absurd z (by decide)⟩, fun _ => by decide⟩
  · exact ⟨⟨fun z => absurd z (by decide), fun z => absurd z (by decide)⟩, fun _ => by decide⟩
section CMV
variable {n np : Nat} {ad sa : Nat → Nat} {z0 : Nat} {pa : Nat → Nat} {h H C : mH} {st : Nat} {B E : Nat → Int64} {S : yS} {t s m d : Nat} {Q : mQ} {l : Int32}
theorem RV.nu (r : RV n np ad pa H st B E S C) (ht : t < n) : hD C (ad (100 + 5 * t)) 12 = yD S 73 t ∧ hD C (ad (100 + 5 * t)) 13 = yD S 67 t ∧ hD C (ad (100 + 5 * t)) 14 = yD S 68 t ∧ hD C (ad (100 + 5 * t)) 15 = yD S 69 t ∧ hD C (ad (100 + 5 * t)) 16 = yD S 70 t :=
  ⟨r.2.1.2.2 73 (.inr rfl) t ht, r.2.1.2.2 67 (.inl (by decide)) t ht, r.2.1.2.2 68 (.inl (by decide)) t ht, r.2.1.2.2 69 (.inl (by decide)) t ht, r.2.1.2.2 70 (.inl (by decide)) t ht⟩
theorem four {P : Nat → Prop} (h0 : P 0) (h1 : P 1) (h2 : P 2) (h3 : P 3) {s : Nat} (hs : s ≤ 3) : P s := by
  have c : s = 0 ∨ s = 1 ∨ s = 2 ∨ s = 3 := by omega
  rcases c with rfl | rfl | rfl | rfl
  · exact h0
  · exact h1
  · exact h2
  · exact h3
theorem c_pg (k : KW n np ad sa z0 pa (eKd ad h) H) (r : RV n np ad pa H st B E S C) (ht : t < n) (es : yA S t = s) (s3 : s ≤ 3) (hm : m ≤ 20480) (bu : bd (yD S 69 t) (m * 2 ^ 40)) (hQ : Q (some (.double (gGoal s (yD S 69 t)))) C) : EV (d + 1) 137 [.ref (ad (100 + 5 * t))] C Q := by
  have fxC := r.1.fx k.1
  have n6 := (fx_k k.1).2
  have t2 := (fx_tb fxC t ht).2.1
  have e10 := r.2.1.1 t ht
  have e15 := (r.nu ht).2.2.2.1
  rw [es] at e10
  obtain ⟨g1, g2, -⟩ := goal_ok (r := 0) hm bu
  generalize yD S 69 t = u at *
  have c : s = 0 ∨ s = 1 ∨ s = 2 ∨ s = 3 := by omega
  rcases c with rfl | rfl | rfl | rfl
  · exact w_pg0 fxC ht n6 t2 e10 e15 hQ
  · exact w_pg1 fxC ht n6 t2 e10 e15 hQ
  · have eg : gGoal 2 u = (if dleB u 4621819117588971520 = true then 0 else if dgtB (FP.dmul (FP.dsub u 4621819117588971520) 4620693217682128896) 4636033603912859648 = true then 4636033603912859648 else FP.dmul (FP.dsub u 4621819117588971520) 4620693217682128896) := rfl
    rw [eg] at hQ
    refine w_pg2 fxC ht n6 t2 e10 e15 (fun _ => nn_vf (isF_nn g1)) (fun _ => nn_vf (isF_nn g2)) (fun c1 c2 => ?_) (fun c1 c2 => ?_) (fun c1 => ?_)
    · rw [if_neg (fun z => c1 (dle_B.mpr z)), if_neg (fun z => c2 (dgt_B.mpr z))] at hQ; exact hQ
    · rw [if_neg (fun z => c1 (dle_B.mpr z)), if_pos (dgt_B.mp c2)] at hQ; exact hQ
    · rw [if_pos (dle_B.mp c1)] at hQ; exact hQ
  · exact w_pg3 fxC ht n6 t2 e10 e15 hQ
/-- wear of what a slot holds, in the class: its parts stand where the reference says -/
theorem we_n {sl : Nat} (e : hI h (ad 57) (5 * t + sl) = -1) : yWe ad h t sl l S = (1, S) := by
  unfold yWe
  rw [if_pos (by rw [e]; decide)]
theorem we_q {sl q : Nat} (hq : q < 60) (e : hI h (ad 57) (5 * t + sl) = nI q) : yWe ad h t sl l S = ((if eKd ad h q = 4 ∧ q = 0 then 6 else 0), yuW S (eKd ad h q) q l) := by
  unfold yWe
  have c : (nI q).toNatClampNeg = q := nI_clamp (by omega)
  rw [e, c, if_neg (nI_pos (by omega))]
theorem c_tb (k : KW n np ad sa z0 pa (eKd ad h) H) (r : RV n np ad pa H st B E S C) (ht : t < n) (es : yA S t = s) (s3 : s ≤ 3) (hm : m ≤ 20480) (x : yTu ad h m S t) (sl : slR pa np (hI h (ad 57) (5 * t + 3)) (hR H (ad (101 + 5 * t)) 3))
    (hQ0 : FP.dcmp (gBy s (yD S 67 t) (yD S 69 t)) 0 = some .eq → Q (some (.int 0)) C)
    (hQ1 : ¬ FP.dcmp (gBy s (yD S 67 t) (yD S 69 t)) 0 = some .eq → ∀ R, yWe ad h t 3 (FP.d2i (gAb (gBy s (yD S 67 t) (yD S 69 t)))) S = R → R.1 = 0 → ∀ C', RV n np ad pa H st B E (yuD R.2 67 t (FP.dadd (yD S 67 t) (gBy s (yD S 67 t) (yD S 69 t)))) C' → Q (some (.int 0)) C')
    (hQ2 : ¬ FP.dcmp (gBy s (yD S 67 t) (yD S 69 t)) 0 = some .eq → ∀ R, yWe ad h t 3 (FP.d2i (gAb (gBy s (yD S 67 t) (yD S 69 t)))) S = R → R.1 ≠ 0 → ∀ C', RV n np ad pa H st B E R.2 C' → Q (some (.int (fI R.1))) C') : EV (d + 4) 136 [.ref (ad (100 + 5 * t)), .ref (ad 2)] C Q := by
  have fxC := r.1.fx k.1
  have n6 := (fx_k k.1).2
  obtain ⟨-, t2, ⟨a1, a2⟩, -, -, -, b5, -⟩ := fx_tb fxC t ht
  have e13 := (r.nu ht).2.1
  obtain ⟨h1, h2, h3, ⟨h4, h5⟩, h6, h7⟩ := NB_bd.mp x.2.2
  obtain ⟨y1, y2⟩ := by_ok (r := s) hm h4 h2
  -- behind the goal
  have hy : gBy s (yD S 67 t) (yD S 69 t) = wiD (gRate s) (FP.dsub (gGoal s (yD S 69 t)) (yD S 67 t)) := rfl
  have tail : ∀ o2 o3 o4 o5, WR (d + 3) cd_136 21 [some (.ref (ad (100 + 5 * t))), some (.ref (ad 2)), o2, o3, o4, o5] [.double (gGoal s (yD S 69 t)), .double (gRate s)] C Q := by
    intro o2 o3 o4 o5
    refine w_tb21 (d := d + 3) fxC ht n6 t2 e13 (nn_vf (isF_nn y1)) (c_within (d := d + 2) fxC ?_)
    show WR (d + 3) cd_136 29 [some (.ref (ad (100 + 5 * t))), some (.ref (ad 2)), o2, o3, o4, o5] [.double (wiD (gRate s) (FP.dsub (gGoal s (yD S 69 t)) (yD S 67 t)))] C Q
    rw [← hy]
    generalize gBy s (yD S 67 t) (yD S 69 t) = y at *
    rcases sl with ⟨w1, w2⟩ | ⟨q, hq, w1, w2⟩
    · refine w_tb29n (d := d + 3) fxC ht n6 t2 b5 a1 a2 (by rw [r.1.2.1]; exact w2) (fun c => ?_) (fun c => hQ0 c)
      have e : fI 1 = -11 := by decide
      have k1 : Q (some (.int (fI 1))) C := hQ2 c (1, S) (we_n w1) (show (1 : Nat) ≠ 0 by decide) C r
      rw [e] at k1; exact k1
    · have q60 : q < 60 := by have := k.2.2.2.1; omega
      have tx : hT C (pa q) = 4 := by rw [r.1.1.1]; exact (k.2.2.2.2.1 q hq).1
      have wear : ¬ FP.dcmp y 0 = some .eq → ∀ o5, EV (d + 3) 70 [.ref (pa q), .int (FP.d2i (gAb y)), .ref (ad 2)] C (fun v_ h_ => WR (d + 3) cd_136 75 [some (.ref (ad (100 + 5 * t))), some (.ref (ad 2)), some (.double y), none, some (.ref (pa q)), o5] (v_.toList ++ []) h_ Q) := by
        intro c o5
        have e := we_q (ad := ad) (h := h) (t := t) (sl := 3) (l := FP.d2i (gAb y)) (S := S) q60 w1
        refine c_wy (d := d) k r hq (fun C' f ef r' => ?_)
        show WR (d + 3) cd_136 75 [some (.ref (ad (100 + 5 * t))), some (.ref (ad 2)), some (.double y), none, some (.ref (pa q)), o5] [.int f] C' Q
        have fx' := r'.1.fx k.1
        have p13 : hD C' (ad (100 + 5 * t)) 13 = yD S 67 t := (r'.nu ht).2.1
        refine w_tb75 (d := d + 3) fx' ht n6 (fx_tb fx' t ht).2.1 p13 (fun z => ?_) (fun _ => nn_vf (isF_nn (p_ok hm h2 y2).1)) (fun z => ?_)
        · by_cases c4 : eKd ad h q = 4 ∧ q = 0
          · rw [if_pos c4] at ef e
            have e6 : fI 6 = -16 := by decide
            have k1 : Q (some (.int (fI 6))) C' := hQ2 c _ e (show (6 : Nat) ≠ 0 by decide) C' r'
            rw [e6] at k1
            rw [ef]
            exact k1
          · rw [if_neg c4] at ef; exact absurd ef z
        · by_cases c4 : eKd ad h q = 4 ∧ q = 0
          · rw [if_pos c4] at ef; rw [z] at ef; exact absurd ef (by decide)
          · rw [if_neg c4] at e
            rw [z]
            exact hQ1 c _ e rfl _ (r'.d k (r0 := 67) (.inl (by decide)) ht)
      refine w_tb29s (d := d + 3) fxC ht n6 t2 b5 a1 a2 tx (by rw [r.1.2.1]; exact w2) (fun c c2 => ?_) (fun c c2 => ?_) (fun c => hQ0 c)
      · have e : gAb y = y := if_neg (fun z => c2 (dlt_B.mpr z))
        have w := wear c o5
        rw [e] at w; exact w
      · have e : gAb y = FP.dneg y := if_pos (dlt_B.mp c2)
        have w := wear c o5
        rw [e] at w; exact w
  have e10 := r.2.1.1 t ht
  rw [es] at e10
  have c : s = 0 ∨ s = 1 ∨ s = 2 ∨ s = 3 := by omega
  rcases c with rfl | rfl | rfl | rfl
  · exact w_tb0 (d := d + 3) fxC ht n6 t2 e10 (c_pg (d := d + 2) k r ht es (by decide) hm h4 (tail _ _ _ _))
  · exact w_tb1 (d := d + 3) fxC ht n6 t2 e10 (c_pg (d := d + 2) k r ht es (by decide) hm h4 (tail _ _ _ _))
  · exact w_tb2 (d := d + 3) fxC ht n6 t2 e10 (c_pg (d := d + 2) k r ht es (by decide) hm h4 (tail _ _ _ _))
  · exact w_tb3 (d := d + 3) fxC ht n6 t2 e10 (c_pg (d := d + 2) k r ht es (by decide) hm h4 (tail _ _ _ _))
theorem y2_e {G U : UInt64} (eG : gG1 s (yD S 68 t) (yD S 69 t) = G) (eU : gU (yD S 73 t) (yD S 67 t) G (yD S 69 t) = U) : y2 ad h s t S = if dgtB (FP.dmul G U) (hD h (ad 71) t) = true then yuD (yuD (yuD (yuD S 68 t G) 69 t U) 68 t (FP.ddiv (hD h (ad 71) t) U)) 70 t (FP.dadd (yD S 70 t) (FP.dmul (FP.ddiv (hD h (ad 71) t) U) U)) else yuD (yuD (yuD S 68 t G) 69 t U) 70 t (FP.dadd (yD S 70 t) (FP.dmul G U)) := by
  subst eG; subst eU; rfl
theorem c_ro (k : KW n np ad sa z0 pa (eKd ad h) H) (r : RV n np ad pa H st B E S C) (ht : t < n) (es : yA S t = s) (s3 : s ≤ 3) (hm : m ≤ 20480) (x : vP ad h m S t) (eb : hD H (ad (100 + 5 * t)) 17 = hD h (ad 71) t) (hQ : ∀ C', RV n np ad pa H st B E (y2 ad h s t S) C' → Q none C') : EV (d + 2) 139 [.ref (ad (100 + 5 * t))] C Q := by
  have fxC := r.1.fx k.1
  have n6 := (fx_k k.1).2
  have t2 := (fx_tb fxC t ht).2.1
  obtain ⟨-, -, e14, e15, -⟩ := r.nu ht
  have e10 := r.2.1.1 t ht
  rw [es] at e10
  obtain ⟨h1, h2, h3, ⟨h4, h5⟩, h6, h7⟩ := x
  obtain ⟨k1, k2, k3, k4, k5⟩ := g1_ok (r := s) hm h4 h3
  have u1 := u_ok hm h1 h2 k5 h4 h5
  obtain ⟨x1, x2, x3, x4, x5, x6, x7, x8, -⟩ := x_ok hm h1 h2 k5 h4 h5
  have g2 := g2_ok hm k5 u1.1 u1.2 h7 h6
  have eU : gU (yD S 73 t) (yD S 67 t) (gG1 s (yD S 68 t) (yD S 69 t)) (yD S 69 t) = if dgtB (gX (yD S 73 t) (yD S 67 t) (gG1 s (yD S 68 t) (yD S 69 t)) (yD S 69 t)) 0 = true then gX (yD S 73 t) (yD S 67 t) (gG1 s (yD S 68 t) (yD S 69 t)) (yD S 69 t) else 0 := rfl
  have e2 := y2_e (ad := ad) (h := h) (s := s) (t := t) (S := S) rfl rfl
  -- from the place where the torque is done
  have tail : ∀ C1 o1 o2, RV n np ad pa H st B E (yuD S 68 t (gG1 s (yD S 68 t) (yD S 69 t))) C1 → WR (d + 1) cd_139 63 [some (.ref (ad (100 + 5 * t))), o1, o2] [] C1 Q := by
    intro C1 o1 o2 r1
    have fx1 := r1.1.fx k.1
    obtain ⟨f12, f13, f14, f15, f16⟩ := r1.nu ht
    rw [yD_r (by decide)] at f12 f13 f15 f16
    rw [yD_D] at f14
    have tail2 : ∀ C2 o1 o2, RV n np ad pa H st B E (yuD (yuD S 68 t (gG1 s (yD S 68 t) (yD S 69 t))) 69 t (gU (yD S 73 t) (yD S 67 t) (gG1 s (yD S 68 t) (yD S 69 t)) (yD S 69 t))) C2 → WR (d + 1) cd_139 117 [some (.ref (ad (100 + 5 * t))), o1, o2] [] C2 Q := by
      intro C2 o1 o2 r2
      have fx2 := r2.1.fx k.1
      obtain ⟨-, -, q14, q15, q16⟩ := r2.nu ht
      rw [yD_r (by decide), yD_D] at q14
      rw [yD_D] at q15
      rw [yD_r (by decide), yD_r (by decide)] at q16
      have q17 : hD C2 (ad (100 + 5 * t)) 17 = hD h (ad 71) t := by
        rw [r2.1.2.2.2.2 _ _ (fun u hu z => absurd z.2.2 (by decide))]; exact eb
      generalize gG1 s (yD S 68 t) (yD S 69 t) = G1 at *
      generalize gU (yD S 73 t) (yD S 67 t) G1 (yD S 69 t) = U1 at *
      refine w_tr117 (d := d + 1) fx2 ht n6 (fx_tb fx2 t ht).2.1 q14 q15 q17 q16 (nn_vf (isF_nn g2.1)) (fun _ => nn_vf (isF_nn g2.1)) (fun c => ?_) (fun c => ?_) (fun c => ?_) (fun c => ?_) (fun c => ?_) (fun c => ?_)
      · have q := g2.2.2.2.2.1
        unfold gEn gG2 at q
        rw [if_neg (fun z => c (dgt_B.mpr z))] at q
        exact nn_vf (isF_nn q)
      · rw [if_neg (fun z => c (dgt_B.mpr z))] at e2
        refine hQ _ ?_
        rw [e2]
        exact r2.d k (r0 := 70) (.inl (by decide)) ht
      · exact nn_vf (isF_nn (g2.2.1 (dgt_B.mp c)))
      · have q := g2.2.2.2.1
        unfold gG2 at q
        rw [if_pos (dgt_B.mp c)] at q
        exact nn_vf (isF_nn q)
      · have q := g2.2.2.2.2.1
        unfold gEn gG2 at q
        rw [if_pos (dgt_B.mp c)] at q
        exact nn_vf (isF_nn q)
      · rw [if_pos (dgt_B.mp c)] at e2
        refine hQ _ ?_
        rw [e2]
        exact (r2.d k (r0 := 68) (.inl (by decide)) ht).d k (r0 := 70) (.inl (by decide)) ht
    refine w_tr63 (d := d + 1) fx1 ht n6 (fx_tb fx1 t ht).2.1 f12 f13 f14 f15 (nn_vf (isF_nn x1)) (nn_vf (isF_nn x2)) (nn_vf (isF_nn x3)) (nn_vf (isF_nn x4)) (nn_vf (isF_nn x5)) (nn_vf (isF_nn x6)) (nn_vf (isF_nn x7)) (nn_vf (isF_nn x8)) (fun c => ?_) (fun c => ?_)
    · refine tail2 _ _ _ ?_
      have c : ¬ dgt (gX (yD S 73 t) (yD S 67 t) (gG1 s (yD S 68 t) (yD S 69 t)) (yD S 69 t)) 0 := c
      rw [eU, if_neg (fun z => c (dgt_B.mpr z))]
      exact r1.d k (r0 := 69) (.inl (by decide)) ht
    · refine tail2 _ _ _ ?_
      have c : dgt (gX (yD S 73 t) (yD S 67 t) (gG1 s (yD S 68 t) (yD S 69 t)) (yD S 69 t)) 0 := c
      rw [eU, if_pos (dgt_B.mp c)]
      exact r1.d k (r0 := 69) (.inl (by decide)) ht
  have c : s = 0 ∨ s = 1 ∨ s = 2 ∨ s = 3 := by omega
  rcases c with rfl | rfl | rfl | rfl
  · exact w_tr9 (d := d + 1) fxC ht n6 t2 e10 e14 (nn_vf (isF_nn k4)) (tail _ _ _ (r.d k (r0 := 68) (.inl (by decide)) ht))
  · exact w_tr1 (d := d + 1) fxC ht n6 t2 e10 e14 (nn_vf (isF_nn k4)) (tail _ _ _ (r.d k (r0 := 68) (.inl (by decide)) ht))
  · refine w_tr2 (d := d + 1) fxC ht n6 t2 e10 e14 e15 (nn_vf (isF_nn k1)) (nn_vf (isF_nn k2)) (c_within (d := d) fxC ?_)
    have eg : gG1 2 (yD S 68 t) (yD S 69 t) = if dltB (gQ (yD S 68 t) (yD S 69 t)) 0 = true then 0 else gQ (yD S 68 t) (yD S 69 t) := rfl
    refine w_tr2b (d := d + 1) fxC ht n6 t2 (nn_vf (isF_nn k3)) (fun c => ?_) (fun c => ?_)
    · refine tail _ _ _ ?_
      have c : ¬ dlt (gQ (yD S 68 t) (yD S 69 t)) 0 := c
      rw [eg, if_neg (fun z => c (dlt_B.mpr z))]
      exact r.d k (r0 := 68) (.inl (by decide)) ht
    · refine tail _ _ _ ?_
      have c : dlt (gQ (yD S 68 t) (yD S 69 t)) 0 := c
      rw [eg, if_pos (dlt_B.mp c)]
      exact r.d k (r0 := 68) (.inl (by decide)) ht
  · exact w_tr3 (d := d + 1) fxC ht n6 t2 e10 e14 (nn_vf (isF_nn k4)) (tail _ _ _ (r.d k (r0 := 68) (.inl (by decide)) ht))
theorem ld_ok {w : UInt64} (hw : bd w 1000) : (if FP.d2i w < 10000 then FP.d2i w else 10000) = FP.d2i w ∧ FP.d2i w ≤ 10000 := by
  have e := d2i_bd (M := 1000) hw (by decide)
  have z : (10000 : Int32).toInt = 10000 := rfl
  have le : FP.d2i w ≤ 10000 := Int32.le_iff_toInt_le.mpr (by rw [z]; exact e.2)
  refine ⟨?_, le⟩
  split
  · rfl
  · rename_i c
    rw [Int32.lt_iff_toInt_lt, z] at c
    exact i_inj (by rw [z]; omega)
theorem c_wb (k : KW n np ad sa z0 pa (eKd ad h) H) (r : RV n np ad pa H st B E S C) (ht : t < n) (es : yA S t = s) (s3 : s ≤ 3) (bw : bd (yD S 73 t) 1000) (sl : slR pa np (hI h (ad 57) (5 * t + 4)) (hR H (ad (101 + 5 * t)) 4))
    (hQ0 : s ≠ 2 → Q (some (.int 0)) C) (hQ1 : s = 2 → ∀ R, yWe ad h t 4 (FP.d2i (yD S 73 t)) S = R → ∀ C', RV n np ad pa H st B E R.2 C' → Q (some (.int (fI R.1))) C') : EV (d + 4) 140 [.ref (ad (100 + 5 * t)), .ref (ad 2)] C Q := by
  have fxC := r.1.fx k.1
  have n6 := (fx_k k.1).2
  obtain ⟨-, t2, ⟨a1, a2⟩, -, -, -, b5, -⟩ := fx_tb fxC t ht
  have e12 := (r.nu ht).1
  have e10 := r.2.1.1 t ht
  rw [es] at e10
  have c : s = 0 ∨ s = 1 ∨ s = 2 ∨ s = 3 := by omega
  rcases c with rfl | rfl | rfl | rfl
  · exact w_wb0 fxC ht n6 t2 e10 (hQ0 (by decide))
  · exact w_wb1 fxC ht n6 t2 e10 (hQ0 (by decide))
  · rcases sl with ⟨w1, w2⟩ | ⟨q, hq, w1, w2⟩
    · refine w_wb2n (d := d + 3) fxC ht n6 t2 b5 a1 a2 (by rw [r.1.2.1]; exact w2) e10 e12 ?_
      have e : fI 1 = -11 := by decide
      have k1 : Q (some (.int (fI 1))) C := hQ1 rfl (1, S) (we_n w1) C r
      rw [e] at k1; exact k1
    · have q60 : q < 60 := by have := k.2.2.2.1; omega
      have tx : hT C (pa q) = 4 := by rw [r.1.1.1]; exact (k.2.2.2.2.1 q hq).1
      have e := we_q (ad := ad) (h := h) (t := t) (sl := 4) (l := FP.d2i (yD S 73 t)) (S := S) q60 w1
      refine w_wb2s (d := d + 3) fxC ht n6 t2 b5 a1 a2 tx (by rw [r.1.2.1]; exact w2) e10 e12 ?_
      rw [(ld_ok bw).1]
      refine c_wy (d := d) k r hq (fun C' f ef r' => ?_)
      refine w_wbr (d := d + 3) (f := f) (r'.1.fx k.1) ?_
      have k1 := hQ1 rfl _ e C' r'
      by_cases c4 : eKd ad h q = 4 ∧ q = 0
      · rw [if_pos c4] at ef k1
        have e6 : fI 6 = -16 := by decide
        have k1 : Q (some (.int (fI 6))) C' := k1
        rw [e6] at k1
        rw [ef]; exact k1
      · rw [if_neg c4] at ef k1
        have e6 : fI 0 = 0 := rfl
        have k1 : Q (some (.int (fI 0))) C' := k1
        rw [e6] at k1
        rw [ef]; exact k1
  · exact w_wb3 fxC ht n6 t2 e10 (hQ0 (by decide))
end CMV

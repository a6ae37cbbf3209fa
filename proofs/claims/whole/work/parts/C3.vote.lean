/-! ===== run: the votes, both sides ===== -/
/-- the readings that speak, of the first s sensors -/
def voF (sp : Nat → Bool) (rd : Nat → UInt64) : Nat → Nat × (Nat → UInt64)
  | 0 => (0, fun _ => 0)
  | s + 1 => if sp s = true then ((voF sp rd s).1 + 1, u1 (voF sp rd s).2 (voF sp rd s).1 (rd s)) else voF sp rd s
def voV (sp : Nat → Bool) (rd : Nat → UInt64) : UInt64 := if (voF sp rd 3).1 = 0 then 9221120237041090560 else sgG (voF sp rd 3).2 (voF sp rd 3).1 (((voF sp rd 3).1 - 1) / 2)
theorem voF_s {sp : Nat → Bool} {rd : Nat → UInt64} {s : Nat} : voF sp rd (s + 1) = if sp s = true then ((voF sp rd s).1 + 1, u1 (voF sp rd s).2 (voF sp rd s).1 (rd s)) else voF sp rd s := rfl
theorem voF_le {sp : Nat → Bool} {rd : Nat → UInt64} : ∀ s, (voF sp rd s).1 ≤ s := by
  intro s
  induction s with
  | zero => exact Nat.le_refl 0
  | succ s ih =>
    rw [voF_s]
    split
    · show (voF sp rd s).1 + 1 ≤ s + 1; omega
    · omega
theorem voF_nn {sp : Nat → Bool} {rd : Nat → UInt64} (hn : ∀ s, sp s = true → FP.Core.val64 (rd s) ≠ .nan) : ∀ s j, j < (voF sp rd s).1 → FP.Core.val64 ((voF sp rd s).2 j) ≠ .nan := by
  intro s
  induction s with
  | zero => intro j hj; exact absurd hj (Nat.not_lt_zero _)
  | succ s ih =>
    intro j
    rw [voF_s]
    split
    · rename_i c
      intro hj
      show FP.Core.val64 (if j = (voF sp rd s).1 then rd s else (voF sp rd s).2 j) ≠ .nan
      by_cases e : j = (voF sp rd s).1
      · rw [if_pos e]; exact hn s c
      · rw [if_neg e]
        have hj' : j < (voF sp rd s).1 + 1 := hj
        exact ih j (by omega)
    · intro hj; exact ih j hj
section VO
variable {n : Nat} {ad sa : Nat → Nat} {z0 : Nat} {H C : mH} {Q : mQ} {d t : Nat} {sp : Nat → Bool} {rd : Nat → UInt64} {mf : Bool}
theorem c_vote (fx : FX n ad sa z0 H) (ht : t < n) {st : Nat} (e5 : (hI H (ad 4) 5 = 0 ∧ mf = false) ∨ (hI H (ad 4) 5 = 1 ∧ mf = decide (2 ≤ st))) (s2 : st ≤ 30000) (e3 : hI H (ad 4) 3 = nI st) (er : ∀ s, s < 3 → hL H (ad (102 + 5 * t)) s = (rd s).toInt64)
    (esp : ∀ s, s < 3 → (sp s = true ↔ ((∃ x, hR H (ad (101 + 5 * t)) s = some x) ∧ ¬ 9218868437227405312 < ((rd s).toInt64 &&& 9223372036854775807) ∧ ¬ (mf = true ∧ (rd s).toInt64 = hL H (ad (103 + 5 * t)) s ∧ (rd s).toInt64 = hL H (ad (104 + 5 * t)) s)))) (hQ : ∀ C, OL H C (ad 6) → Q (some (.long (voV sp rd).toInt64)) C) : EV (d + 3) 130 [.ref (ad 4), .ref (ad (100 + 5 * t))] H Q := by
  have n6 := (fx_k fx).2
  -- the loop over the sensors
  have lp : ∀ k s C o5, s + k = 3 → OL H C (ad 6) → (∀ j, j < (voF sp rd s).1 → hL C (ad 6) j = ((voF sp rd s).2 j).toInt64) → WR (d + 2) cd_130 26 [some (.ref (ad 4)), some (.ref (ad (100 + 5 * t))), some (.int (if mf = true then 1 else 0)), some (.int (nI (voF sp rd s).1)), some (.int (nI s)), o5] [] C Q := by
    intro k
    induction k with
    | zero =>
      intro s C o5 es x hF
      obtain rfl : s = 3 := by omega
      have fxC := OL.fx fx x
      have k3 := voF_le (sp := sp) (rd := rd) 3
      unfold voV at hQ
      by_cases z : (voF sp rd 3).1 = 0
      · simp only [if_pos z] at hQ
        rw [z]
        exact w_voz fxC (hQ C x)
      · simp only [if_neg z] at hQ
        refine w_vok (d := d + 2) fxC (by omega) k3 (c_sort (d := d) fxC (fx_t6 fxC) (fx_n6 fxC) (by decide) k3 hF (fun C2 x2 h2 => ?_))
        have x3 : OL H C2 (ad 6) := ⟨⟨x2.1.1.trans x.1.1, x2.1.2.1.trans x.1.2.1, x2.1.2.2.1.trans x.1.2.2.1, x2.1.2.2.2.trans x.1.2.2.2⟩, x2.2.1.trans x.2.1, x2.2.2.1.trans x.2.2.1, x2.2.2.2.1.trans x.2.2.2.1, fun y hy => (x2.2.2.2.2 y hy).trans (x.2.2.2.2 y hy)⟩
        refine w_vor (OL.fx fx x3) (by omega) k3 ?_
        rw [h2 _ (by omega)]
        exact hQ C2 x3
    | succ k ih =>
      intro s C o5 es x hF
      have fxC := OL.fx fx x
      have ks := voF_le (sp := sp) (rd := rd) s
      obtain ⟨-, t2, ⟨a1, a2⟩, ⟨a3, a4⟩, ⟨a5, a6⟩, ⟨a7, a8⟩, b5, b6, b7, b8⟩ := fx_tb fxC t ht
      have eL : ∀ i, i ≠ 6 → hL C (ad i) = hL H (ad i) := fun i hi => x.2.2.2.2 _ (fx_ne fx hi)
      have ev : hL C (ad (102 + 5 * t)) s = (rd s).toInt64 := by rw [eL _ (by omega)]; exact er s (by omega)
      have eb : hL C (ad (103 + 5 * t)) s = hL H (ad (103 + 5 * t)) s := by rw [eL _ (by omega)]
      have ec : hL C (ad (104 + 5 * t)) s = hL H (ad (104 + 5 * t)) s := by rw [eL _ (by omega)]
      have q := esp s (by omega)
      -- not heard, heard
      have no : ∀ o5, sp s = false → WR (d + 2) cd_130 26 [some (.ref (ad 4)), some (.ref (ad (100 + 5 * t))), some (.int (if mf = true then 1 else 0)), some (.int (nI (voF sp rd s).1)), some (.int (nI (s + 1))), o5] [] C Q := fun o5 c => by
        have w := ih (s + 1) C o5 (by omega) x
        rw [voF_s, if_neg (by rw [c]; decide)] at w
        exact w hF
      have yes : ∀ o5, sp s = true → WR (d + 2) cd_130 26 [some (.ref (ad 4)), some (.ref (ad (100 + 5 * t))), some (.int (if mf = true then 1 else 0)), some (.int (nI ((voF sp rd s).1 + 1))), some (.int (nI (s + 1))), o5] [] (sL C (ad 6) (voF sp rd s).1 (rd s).toInt64) Q := fun o5 c => by
        have w := ih (s + 1) (sL C (ad 6) (voF sp rd s).1 (rd s).toInt64) o5 (by omega) x.st
        rw [voF_s, if_pos c] at w
        refine w (fun j hj => ?_)
        show _ = (if j = (voF sp rd s).1 then rd s else (voF sp rd s).2 j).toInt64
        rw [hL_sL]
        by_cases e : j = (voF sp rd s).1
        · rw [if_pos ⟨rfl, e⟩, if_pos e]
        · rw [if_neg (fun z => e z.2), if_neg e]
          have hj' : j < (voF sp rd s).1 + 1 := hj
          exact hF j (by omega)
      have nf : ¬ sp s = true → sp s = false := fun z => by cases e : sp s with
        | false => rfl
        | true => exact absurd e z
      have eR : hR C (ad (101 + 5 * t)) s = hR H (ad (101 + 5 * t)) s := by rw [x.2.2.1]
      cases hr : hR H (ad (101 + 5 * t)) s with
      | none =>
        have f : sp s = false := nf (fun z => by obtain ⟨⟨y, ey⟩, -⟩ := q.mp z; rw [hr] at ey; cases ey)
        exact w_von fxC ht n6 t2 b5 b6 b7 b8 a1 a2 a3 a4 a5 a6 a7 a8 (by omega) ks (eR.trans hr) (no _ f)
      | some y =>
        have ex : ∃ x, hR H (ad (101 + 5 * t)) s = some x := ⟨y, hr⟩
        cases hm : mf with
        | false =>
          rw [hm] at no yes q
          refine w_vos0 fxC ht n6 t2 b5 b6 b7 b8 a1 a2 a3 a4 a5 a6 a7 a8 (by omega) ks (eR.trans hr) ev eb ec (fun c => no _ (nf (fun z => (q.mp z).2.1 c))) (fun c => yes _ (q.mpr ⟨ex, c, fun z => absurd z.1 (by decide)⟩))
        | true =>
          rw [hm] at no yes q
          refine w_vos1 fxC ht n6 t2 b5 b6 b7 b8 a1 a2 a3 a4 a5 a6 a7 a8 (by omega) ks (eR.trans hr) ev eb ec (fun c => no _ (nf (fun z => (q.mp z).2.1 c))) (fun c c2 => yes _ (q.mpr ⟨ex, c, fun z => c2 z.2.1⟩)) (fun c c2 c3 => yes _ (q.mpr ⟨ex, c, fun z => c3 z.2.2⟩)) (fun c c2 c3 => no _ (nf (fun z => (q.mp z).2.2 ⟨rfl, c2, c3⟩)))
  have go0 := lp 3 0 H none rfl OL.rf (fun j hj => absurd hj (Nat.not_lt_zero _))
  rcases e5 with ⟨e, em⟩ | ⟨e, em⟩
  · rw [em] at go0
    exact w_vo00 fx e s2 e3 go0
  · refine w_vo01 fx e s2 e3 (fun c => ?_) (fun c => ?_)
    · have : ¬ 2 ≤ st := by have := (nI_ltI (a := st) (b := 2) (by omega) (by decide)).mp c; omega
      rw [em, decide_eq_false this] at go0
      exact go0
    · have : 2 ≤ st := by
        rcases Nat.lt_or_ge st 2 with q | q
        · exact absurd ((nI_ltI (a := st) (b := 2) (by omega) (by decide)).mpr q) c
        · exact q
      rw [em, decide_eq_true this] at go0
      exact go0
/-! the reference's -/
/-- only the list of votes and its length have changed -/
def OV (ad : Nat → Nat) (H C : mH) : Prop := (hT C = hT H ∧ hN C = hN H ∧ hZ C = hZ H ∧ hU C = hU H) ∧ hL C = hL H ∧ hR C = hR H ∧ (∀ a j, ¬ (a = ad 30 ∧ j = 17) → hI C a j = hI H a j) ∧ ∀ a, a ≠ ad 42 → hD C a = hD H a
theorem OV.fx (fx : FX n ad sa z0 H) (x : OV ad H C) : FX n ad sa z0 C := fx.of x.1.1 x.1.2.1 x.1.2.2.1 (fun _ _ _ => by rw [x.2.2.1]) (fun _ => by rw [x.2.2.1])
theorem OV.dd {p : Nat} {v : UInt64} (x : OV ad H C) : OV ad H (sD C (ad 42) p v) := ⟨x.1, x.2.1, x.2.2.1, x.2.2.2.1, fun a ha => (u2_row _ ha _).trans (x.2.2.2.2 a ha)⟩
theorem OV.i {v : Int32} (x : OV ad H C) : OV ad H (sI C (ad 30) 17 v) := ⟨x.1, x.2.1, x.2.2.1, fun a j hj => by rw [hI_sI, if_neg hj]; exact x.2.2.2.1 a j hj, x.2.2.2.2⟩
theorem sgG_nn2 {F : Nat → UInt64} : ∀ k, (∀ j, j < k → FP.Core.val64 (F j) ≠ .nan) → ∀ j, j < k → FP.Core.val64 (sgG F k j) ≠ .nan := by
  intro k
  induction k with
  | zero => intro _ j hj; omega
  | succ k ih =>
    intro hF j hj
    have hp := posG_le (sgG F k) (F k) k
    show FP.Core.val64 (insG (sgG F k) k (F k) j) ≠ .nan
    unfold insG
    split
    · exact ih (fun i hi => hF i (by omega)) j (by omega)
    · split
      · exact hF k (by omega)
      · exact ih (fun i hi => hF i (by omega)) (j - 1) (by omega)
theorem m_vote (fx : FX n ad sa z0 H) (t6 : t < 6) {st : Nat} (e5 : (hI H (ad 30) 62 = 0 ∧ mf = false) ∨ (hI H (ad 30) 62 = 1 ∧ mf = decide (2 ≤ st))) (s2 : st ≤ 30000) (e3 : hI H (ad 30) 63 = nI st) (er : ∀ s, s < 3 → hD H (ad 63) (3 * t + s) = rd s) (cn : ∀ s, s < 3 → canD (rd s)) (hnn : ∀ s, sp s = true → FP.Core.val64 (rd s) ≠ .nan)
    (esp : ∀ s, s < 3 → (sp s = true ↔ (¬ hI H (ad 57) (5 * t + s) < 0 ∧ deq (rd s) (rd s) ∧ ¬ (mf = true ∧ (rd s).toInt64 = hL H (ad 64) (3 * t + s) ∧ (rd s).toInt64 = hL H (ad 65) (3 * t + s))))) (hQ : ∀ C, OV ad H C → Q (some (.double (voV sp rd))) C) : EV (d + 4) 236 [.ref (ad 30), .int (nI t)] H Q := by
  have lp : ∀ k s C o3 o4 o5 o6 o7 o8, s + k = 3 → OV ad H C → hI C (ad 30) 17 = nI (voF sp rd s).1 → (∀ j, j < (voF sp rd s).1 → hD C (ad 42) j = sgG (voF sp rd s).2 (voF sp rd s).1 j) → WR (d + 3) cd_236 7 [some (.ref (ad 30)), some (.int (nI t)), some (.int (nI s)), o3, o4, o5, o6, o7, o8] [] C Q := by
    intro k
    induction k with
    | zero =>
      intro s C o3 o4 o5 o6 o7 o8 es x e17 hF
      obtain rfl : s = 3 := by omega
      have fxC := OV.fx fx x
      have k3 := voF_le (sp := sp) (rd := rd) 3
      unfold voV at hQ
      by_cases z : (voF sp rd 3).1 = 0
      · simp only [if_pos z] at hQ
        rw [z] at e17
        exact w_mvz fxC e17 (hQ C x)
      · simp only [if_neg z] at hQ
        refine w_mvk fxC (by omega) k3 e17 ?_
        rw [hF _ (by omega)]
        exact hQ C x
    | succ k ih =>
      intro s C o3 o4 o5 o6 o7 o8 es x e17 hF
      have fxC := OV.fx fx x
      have ks := voF_le (sp := sp) (rd := rd) s
      have eI : ∀ i j, i ≠ 30 → hI C (ad i) j = hI H (ad i) j := fun i j hi => x.2.2.2.1 _ _ (fun z => hi (fx_inj fx z.1))
      have e30 : ∀ j, j ≠ 17 → hI C (ad 30) j = hI H (ad 30) j := fun j hj => x.2.2.2.1 _ _ (fun z => hj z.2)
      have ev : hD C (ad 63) (3 * t + s) = rd s := by rw [x.2.2.2.2 _ (fx_ne fx (by decide))]; exact er s (by omega)
      have q := esp s (by omega)
      have nf : ¬ sp s = true → sp s = false := fun z => by cases e : sp s with
        | false => rfl
        | true => exact absurd e z
      refine w_mvs (d := d + 3) fxC t6 (by omega) ev (c_dl (d := d + 1) (cn s (by omega)) ?_)
      have no : ∀ o3 o4 o5 o6 o7 o8, sp s = false → WR (d + 3) cd_236 174 [some (.ref (ad 30)), some (.int (nI t)), some (.int (nI s)), o3, o4, o5, o6, o7, o8] [] C Q := fun o3 o4 o5 o6 o7 o8 c => by
        have w := ih (s + 1) C o3 o4 o5 o6 o7 o8 (by omega) x
        rw [voF_s, if_neg (by rw [c]; decide)] at w
        exact w_mv4 fxC (by omega) (w e17 hF)
      -- behind the place p
      have put : ∀ p B o3 o4 o5 o6 o7 o8, sp s = true → OV ad H B → midG (sgG (voF sp rd s).2 (voF sp rd s).1) (voF sp rd s).1 p (hD B (ad 42)) → posG (sgG (voF sp rd s).2 (voF sp rd s).1) (voF sp rd s).1 (rd s) = p → WR (d + 3) cd_236 174 [some (.ref (ad 30)), some (.int (nI t)), some (.int (nI s)), o3, o4, o5, o6, o7, o8] [] (sI (sD B (ad 42) p (rd s)) (ad 30) 17 (nI ((voF sp rd s).1 + 1))) Q := by
        intro p B o3 o4 o5 o6 o7 o8 c y mm hp
        have w := ih (s + 1) (sI (sD B (ad 42) p (rd s)) (ad 30) 17 (nI ((voF sp rd s).1 + 1))) o3 o4 o5 o6 o7 o8 (by omega) y.dd.i
        rw [voF_s, if_pos c] at w
        refine w_mv4 (OV.fx fx y.dd.i) (by omega) (w I_eq (fun j hj => ?_))
        have hj' : j < (voF sp rd s).1 + 1 := hj
        show (if ad 42 = ad 42 ∧ j = p then rd s else hD B (ad 42) j) = insG (sgG (u1 (voF sp rd s).2 (voF sp rd s).1 (rd s)) (voF sp rd s).1) (voF sp rd s).1 (if (voF sp rd s).1 = (voF sp rd s).1 then rd s else (voF sp rd s).2 (voF sp rd s).1) j
        rw [if_pos (rfl : (voF sp rd s).1 = (voF sp rd s).1), sgG_c (F := u1 (voF sp rd s).2 (voF sp rd s).1 (rd s)) (F' := (voF sp rd s).2) _ (fun i hi => if_neg (by omega))]
        exact midG_end (A' := fun j => if ad 42 = ad 42 ∧ j = p then rd s else hD B (ad 42) j) mm hp (if_pos ⟨rfl, rfl⟩) (fun i hi => if_neg (fun z => hi z.2)) j (by omega)
      have inn : ∀ r B b mv, sp s = true → r ≤ (voF sp rd s).1 → OV ad H B → hI B (ad 30) 17 = nI (voF sp rd s).1 → midG (sgG (voF sp rd s).2 (voF sp rd s).1) (voF sp rd s).1 r (hD B (ad 42)) → posG (sgG (voF sp rd s).2 (voF sp rd s).1) r (rd s) = posG (sgG (voF sp rd s).2 (voF sp rd s).1) (voF sp rd s).1 (rd s) → WR (d + 3) cd_236 113 [some (.ref (ad 30)), some (.int (nI t)), some (.int (nI s)), some (.double (rd s)), none, some (.long b), none, some (.int mv), some (.int (nI r))] [] B Q := by
        intro r
        induction r with
        | zero =>
          intro B b mv c _ y e17 mm hp
          exact w_mv2z (OV.fx fx y) (by omega) e17 (put 0 B _ _ _ _ _ _ c y mm hp.symm)
        | succ r ihr =>
          intro B b mv c hr y e17 mm hp
          have fxB := OV.fx fx y
          have gn : FP.Core.val64 (hD B (ad 42) (r + 1 - 1)) ≠ .nan := by
            rw [mm.1 _ (by omega)]
            exact sgG_nn2 _ (voF_nn hnn s) _ (by omega)
          have er' : hD B (ad 42) (r + 1 - 1) = sgG (voF sp rd s).2 (voF sp rd s).1 r := mm.1 _ (by omega)
          rw [posG_s] at hp
          refine w_mv2 (d := d + 3) (r := r + 1) fxB (by omega) (by omega) (c_isBelow (d := d + 1) fxB (hnn s c) gn _ (fun c1 => ?_) (fun c1 => ?_))
          · rw [er'] at c1
            rw [if_pos c1] at hp
            refine w_mv3y (r := r + 1) fxB (by omega) (by omega) (ihr _ _ _ c (by omega) y.dd e17 ?_ hp)
            exact midG_st mm (by omega) (if_pos ⟨rfl, rfl⟩) (fun i hi => if_neg (fun z => hi z.2))
          · rw [er'] at c1
            rw [if_neg c1] at hp
            exact w_mv3n (r := r + 1) fxB (by omega) (by omega) e17 (put (r + 1) B _ _ _ _ _ _ c y mm hp.symm)
      have yes : ∀ b mv, sp s = true → WR (d + 3) cd_236 113 [some (.ref (ad 30)), some (.int (nI t)), some (.int (nI s)), some (.double (rd s)), none, some (.long b), none, some (.int mv), some (.int (nI (voF sp rd s).1))] [] C Q := fun b mv c => inn _ C b mv c (Nat.le_refl _) x e17 ⟨fun j hj => hF j hj, fun j h1 h2 => absurd h2 (by omega)⟩ rfl
      have w1 : hL C (ad 64) (3 * t + s) = hL H (ad 64) (3 * t + s) := by rw [x.2.1]
      have w2 : hL C (ad 65) (3 * t + s) = hL H (ad 65) (3 * t + s) := by rw [x.2.1]
      have e63 : hI C (ad 30) 63 = nI st := by rw [e30 63 (by decide)]; exact e3
      have esl := eI 57 (5 * t + s) (by decide)
      rcases e5 with ⟨e, em⟩ | ⟨e, em⟩
      · rw [em] at q
        exact w_mv10 fxC t6 (by omega) (by omega) s2 (by rw [e30 62 (by decide)]; exact e) e63 e17 w1 w2 esl (fun a => no _ _ _ _ _ _ (nf (fun z => (q.mp z).1 a))) (fun _ b => no _ _ _ _ _ _ (nf (fun z => b (q.mp z).2.1))) (fun a b => yes _ _ (q.mpr ⟨a, b, fun z => absurd z.1 (by decide)⟩))
      · have lt2 : nI st < 2 → mf = false := fun c => by
          rw [em]
          exact decide_eq_false (by have := (nI_ltI (a := st) (b := 2) (by omega) (by decide)).mp c; omega)
        have ge2 : ¬ nI st < 2 → mf = true := fun c => by
          rw [em]
          refine decide_eq_true ?_
          rcases Nat.lt_or_ge st 2 with q | q
          · exact absurd ((nI_ltI (a := st) (b := 2) (by omega) (by decide)).mpr q) c
          · exact q
        exact w_mv11 fxC t6 (by omega) (by omega) s2 (by rw [e30 62 (by decide)]; exact e) e63 e17 w1 w2 esl
          (fun _ a => no _ _ _ _ _ _ (nf (fun z => (q.mp z).1 a))) (fun _ _ b => no _ _ _ _ _ _ (nf (fun z => b (q.mp z).2.1))) (fun c a b => yes _ _ (q.mpr ⟨a, b, fun z => by rw [lt2 c] at z; exact absurd z.1 (by decide)⟩))
          (fun _ _ a => no _ _ _ _ _ _ (nf (fun z => (q.mp z).1 a))) (fun _ _ _ b => no _ _ _ _ _ _ (nf (fun z => b (q.mp z).2.1))) (fun _ c a b => yes _ _ (q.mpr ⟨a, b, fun z => c z.2.1⟩))
          (fun _ _ _ a => no _ _ _ _ _ _ (nf (fun z => (q.mp z).1 a))) (fun _ _ _ _ b => no _ _ _ _ _ _ (nf (fun z => b (q.mp z).2.1))) (fun c c1 c2 _ _ => no _ _ _ _ _ _ (nf (fun z => (q.mp z).2.2 ⟨ge2 c, c1, c2⟩)))
          (fun _ _ _ a => no _ _ _ _ _ _ (nf (fun z => (q.mp z).1 a))) (fun _ _ _ _ b => no _ _ _ _ _ _ (nf (fun z => b (q.mp z).2.1))) (fun _ _ c2 a b => yes _ _ (q.mpr ⟨a, b, fun z => c2 z.2.2⟩))
  exact w_mv0 (d := d + 3) fx (lp 3 0 _ _ _ _ _ _ _ rfl (OV.i ⟨⟨rfl, rfl, rfl, rfl⟩, rfl, rfl, fun _ _ _ => rfl, fun _ _ => rfl⟩) I_eq (fun j hj => absurd hj (Nat.not_lt_zero _)))
end VO

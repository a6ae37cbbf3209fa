/-! ===== run, the class's side: wear, findings, blades, rotor ===== -/
theorem pCs_ap {ad : Nat → Nat} {A L : List Int32} {h : mH} : pCs ad (A ++ L) h = pCs ad L (pCs ad A h) := by unfold pCs; rw [List.foldl_append]
theorem pMs_ap {ad : Nat → Nat} {A L : List Int32} {h : mH} : pMs ad (A ++ L) h = pMs ad L (pMs ad A h) := by unfold pMs; rw [List.foldl_append]
theorem pCs_nn {ad : Nat → Nat} (L : List Int32) : ∀ {h : mH}, 0 ≤ hI h (ad 2) 1 → 0 ≤ hI (pCs ad L h) (ad 2) 1 := by
  induction L with
  | nil => intro h q; exact q
  | cons b L ih => intro h q; exact ih (h := pC ad b h) (pC_nn q)
theorem pMs_nn {ad : Nat → Nat} (L : List Int32) : ∀ {h : mH}, 0 ≤ hI h (ad 30) 9 → 0 ≤ hI (pMs ad L h) (ad 30) 9 := by
  induction L with
  | nil => intro h q; exact q
  | cons b L ih => intro h q; exact ih (h := pM ad b h) (pM_nn q)
section RVM
variable {n np : Nat} {ad sa : Nat → Nat} {z0 : Nat} {pa kd : Nat → Nat} {h H C C' : mH} {st : Nat} {B E : Nat → Int64} {S S' : yS} {t s m d : Nat} {Q : mQ} {l : Int32}
theorem RV.ps (k : KW n np ad sa z0 pa kd H) (r : RV n np ad pa H st B E S C) (L : List Int32) (eA : yA S' = yA S) (eD : yD S' = yD S) (eW : yW S' = yW S) (eT : yT S' = yT S ++ L) (eK : yK S' = yK S) (eF : yF S' = yF S) : RV n np ad pa H st B E S' (pCs ad L C) := by
  obtain ⟨⟨f1, f2, f3, f4, f5⟩, ⟨v1, v2, v3⟩, w, tr, fi, re⟩ := r
  have n2 : ∀ i j, i ≠ 2 → i ≠ 3 → hI (pCs ad L C) (ad i) j = hI C (ad i) j := fun i j h1 h2 => pCs_I (fx_ne k.1 h2) (fun e => h1 (fx_inj k.1 e.1)) L C
  refine ⟨⟨⟨(pCs_T L C).trans f1.1, (pCs_N L C).trans f1.2.1, (pCs_Z L C).trans f1.2.2.1, (pCs_U L C).trans f1.2.2.2⟩, (pCs_R L C).trans f2, fun a j c => ?_, fun a j c => by rw [pCs_L]; exact f4 a j c, fun a j c => by rw [pCs_D]; exact f5 a j c⟩, ⟨fun u hu => by rw [n2 _ _ (by omega) (by omega), eA]; exact v1 u hu, fun u hu => by rw [pCs_L, eD]; exact v2 u hu, fun r hr u hu => by rw [pCs_D, eD]; exact v3 r hr u hu⟩, fun q hq => by rw [pCs_L, eW]; exact w q hq, ?_, ?_, fun u s hu hs => by rw [pCs_L]; exact re u s hu hs⟩
  · rw [pCs_I c.2.1 c.1 L C]; exact f3 a j c
  · rw [eT, pCs_ap]; exact smC.ps (fx_ne k.1 (by decide)) L tr
  · rw [n2 4 2 (by decide) (by decide), n2 4 3 (by decide) (by decide), eK, eF]
    exact ⟨fi.1, fi.2.1, fun i hi => by rw [n2 5 i (by decide) (by decide)]; exact fi.2.2 i hi⟩
theorem RV.w2 {q : Nat} {x y : Int64} (k : KW n np ad sa z0 pa kd H) (r : RV n np ad pa H st B E S C) (hq : q < np) (eA : yA S' = yA S) (eD : yD S' = yD S) (eW : yW S' = u1 (yW S) q y) (eT : yT S' = yT S) (eK : yK S' = yK S) (eF : yF S' = yF S) : RV n np ad pa H st B E S' (sL (sL C (pa q) 3 x) (pa q) 2 y) := by
  obtain ⟨f, ⟨v1, v2, v3⟩, w, tr, fi, re⟩ := r
  have ta := (k.2.2.2.2.1 q hq).1
  have ne : ∀ i j, dom n i → hL (sL (sL C (pa q) 3 x) (pa q) 2 y) (ad i) j = hL C (ad i) j := fun i j hd => by
    have e : ad i ≠ pa q := fun e => pa_T k hq hd e.symm
    rw [L_ne e, L_ne e]
  refine ⟨(f.l (fun c => c.2.2 ⟨ta, .inr rfl⟩)).l (fun c => c.2.2 ⟨ta, .inl rfl⟩), ⟨fun u hu => by rw [eA]; exact v1 u hu, fun u hu => by rw [ne _ _ (d_T hu 0 (by decide)), eD]; exact v2 u hu, fun r hr u hu => by rw [eD]; exact v3 r hr u hu⟩, fun q' hq' => ?_, by rw [eT]; exact tr, by rw [eK, eF]; exact fi, fun u s hu hs => by rw [ne _ _ (d_T hu 3 (by decide)), ne _ _ (d_T hu 4 (by decide))]; exact re u s hu hs⟩
  rw [eW]
  show _ = if q' = q then y else yW S q'
  by_cases e : q' = q
  · rw [e, L_eq, if_pos rfl]
  · have e2 : pa q' ≠ pa q := fun z => e (k.2.2.2.2.2 q' q hq' hq z)
    rw [L_ne e2, L_ne e2, if_neg e]; exact w q' hq'
theorem RV.rst (k : KW n np ad sa z0 pa kd H) (r : RV n np ad pa H st B E S C) : Rst sa C := fun j hj i hi => (r.1.2.2.1 _ _ (fcI_sa k.1 hj)).trans (k.2.1 j hj i hi)
theorem RV.tr0 (k : KW n np ad sa z0 pa kd H) (r : RV n np ad pa H st B E S C) : 0 ≤ hI C (ad 2) 1 := by rw [r.2.2.2.1.1]; exact pCs_nn (yT S) k.2.2.1
/-- a part wears -/
theorem c_wy {q : Nat} (k : KW n np ad sa z0 pa kd H) (r : RV n np ad pa H st B E S C) (hq : q < np) (hQ : ∀ C' f, f = (if kd q = 4 ∧ q = 0 then (-16 : Int32) else 0) → RV n np ad pa H st B E (yuW S (kd q) q l) C' → Q (some (.int f)) C') : EV (d + 3) 70 [.ref (pa q), .int l, .ref (ad 2)] C Q := by
  obtain ⟨p1, p2, p3, p4, p5⟩ := k.2.2.2.2.1 q hq
  have fxC := r.1.fx k.1
  have cI : ∀ j, hI C (pa q) j = hI H (pa q) j := fun j => r.1.2.2.1 _ _ (fcI_dy k.1 p2)
  refine c_wearI (d := d) fxC (r.rst k) (by rw [r.1.1.1]; exact p1) ((cI 0).trans p3) ((cI 1).trans p4) p5 (by have := k.2.2.2.1; omega) (r.tr0 k) (fun c => ?_) (fun c => ?_)
  · refine hQ _ 0 (if_neg c).symm ?_
    rw [r.2.2.1 q hq]
    have r1 : RV n np ad pa H st B E (S.1, S.2.1, S.2.2.1, S.2.2.2.1 ++ wB (kd q), S.2.2.2.2) (pCs ad (wB (kd q)) C) := r.ps k (wB (kd q)) rfl rfl rfl rfl rfl rfl
    refine r1.w2 k hq rfl rfl ?_ rfl rfl rfl
    show (if kd q = 4 ∧ q = 0 then S.2.2.1 else u1 S.2.2.1 q (S.2.2.1 q + wrI (kd q) q l)) = _
    rw [if_neg c]; rfl
  · refine hQ _ (-16) (if_pos c).symm ?_
    refine r.ps k (wB (kd q)) rfl rfl ?_ rfl rfl rfl
    show (if kd q = 4 ∧ q = 0 then S.2.2.1 else u1 S.2.2.1 q (S.2.2.1 q + wrI (kd q) q l)) = S.2.2.1
    exact if_pos c
/-- a finding is kept -/
theorem RV.f1 {sl f : Nat} (k : KW n np ad sa z0 pa kd H) (r : RV n np ad pa H st B E S C) (c : yK S < 40) : RV n np ad pa H st B E (yuF S t sl f st) (sI (sI (sI (sI (sI C (ad 5) (4 * yK S) (nI t)) (ad 5) (4 * yK S + 1) (nI sl)) (ad 5) (4 * yK S + 2) (nI f)) (ad 5) (4 * yK S + 3) (nI (st + 1))) (ad 4) 2 (nI (yK S + 1))) := by
  obtain ⟨f0, ⟨v1, v2, v3⟩, w, tr, fi, re⟩ := r
  have eK : yK (yuF S t sl f st) = yK S + 1 := if_pos c
  have eF : yF (yuF S t sl f st) = yFn (yF S) (yK S) t sl f st := if_pos c
  have n5 : ∀ j, ¬ fcI n ad (ad 5) j := fun j c => c.2.2.2.1 rfl
  have o : ∀ i j, i ≠ 4 → i ≠ 5 → hI (sI (sI (sI (sI (sI C (ad 5) (4 * yK S) (nI t)) (ad 5) (4 * yK S + 1) (nI sl)) (ad 5) (4 * yK S + 2) (nI f)) (ad 5) (4 * yK S + 3) (nI (st + 1))) (ad 4) 2 (nI (yK S + 1))) (ad i) j = hI C (ad i) j := fun i j h1 h2 => by
    rw [I_ne (fx_ne k.1 h1), I_ne (fx_ne k.1 h2), I_ne (fx_ne k.1 h2), I_ne (fx_ne k.1 h2), I_ne (fx_ne k.1 h2)]
  refine ⟨((((f0.i (n5 _)).i (n5 _)).i (n5 _)).i (n5 _)).i (fun c => c.2.2.1 ⟨rfl, .inl rfl⟩), ⟨fun u hu => by rw [o _ _ (by omega) (by omega)]; exact v1 u hu, v2, v3⟩, w, ?_, ?_, re⟩
  · unfold smC at tr ⊢
    rw [o 2 1 (by decide) (by decide)]
    exact ⟨tr.1, fun i => by rw [o 3 i (by decide) (by decide)]; exact tr.2 i⟩
  · rw [eK, eF, I_eq]
    refine ⟨rfl, ?_, fun i hi => ?_⟩
    · rw [I_nk (by decide), I_ne (fx_ne k.1 (by decide)), I_ne (fx_ne k.1 (by decide)), I_ne (fx_ne k.1 (by decide)), I_ne (fx_ne k.1 (by decide))]; exact fi.2.1
    · rw [I_ne (fx_ne k.1 (by decide))]
      unfold yFn u1
      rw [hI_sI, hI_sI, hI_sI, hI_sI]
      by_cases e3 : i = 4 * yK S + 3
      · rw [if_pos ⟨rfl, e3⟩, if_pos e3]
      · rw [if_neg (fun z => e3 z.2), if_neg e3]
        by_cases e2 : i = 4 * yK S + 2
        · rw [if_pos ⟨rfl, e2⟩, if_pos e2]
        · rw [if_neg (fun z => e2 z.2), if_neg e2]
          by_cases e1 : i = 4 * yK S + 1
          · rw [if_pos ⟨rfl, e1⟩, if_pos e1]
          · rw [if_neg (fun z => e1 z.2), if_neg e1]
            by_cases e0 : i = 4 * yK S
            · rw [if_pos ⟨rfl, e0⟩, if_pos e0]
            · rw [if_neg (fun z => e0 z.2), if_neg e0]; exact fi.2.2 i (by omega)
theorem RV.f2 {sl f : Nat} (r : RV n np ad pa H st B E S C) (c : ¬ yK S < 40) : RV n np ad pa H st B E (yuF S t sl f st) C := by
  obtain ⟨f0, v, w, tr, fi, re⟩ := r
  have eK : yK (yuF S t sl f st) = yK S := if_neg c
  have eF : yF (yuF S t sl f st) = yF S := if_neg c
  exact ⟨f0, v, w, tr, by rw [eK, eF]; exact fi, re⟩
theorem c_kf {sl f : Nat} (k : KW n np ad sa z0 pa kd H) (r : RV n np ad pa H st B E S C) (k40 : yK S ≤ 40) (hst : st ≤ 30000) (hQ : ∀ C', RV n np ad pa H st B E (yuF S t sl f st) C' → Q none C') : EV (d + 1) 141 [.ref (ad 4), .int (nI t), .int (nI sl), .int (nI f)] C Q := by
  have fxC := r.1.fx k.1
  by_cases c : yK S < 40
  · exact w_kfl fxC c hst r.2.2.2.2.1.1 r.2.2.2.2.1.2.1 (hQ _ (r.f1 k c))
  · have e : yK S = 40 := by omega
    refine w_kfg fxC ?_ (hQ _ (r.f2 c))
    have q := r.2.2.2.2.1.1
    rw [e] at q; exact q
/-- a turbine falls: the end of goThrough -/
theorem c_fl {sl f kk : Nat} {fv : Int32} (k : KW n np ad sa z0 pa kd H) (r : RV n np ad pa H st B E S C) (ht : t < n) (e0 : hI H (ad (100 + 5 * t)) 0 = nI t) (k40 : yK S ≤ 40) (hst : st ≤ 30000) (hsl : sl = 3 ∨ sl = 4) (hf : (-10 : Int32) - fv = nI f) (hQ : ∀ C', RV n np ad pa H st B E (yFal S t sl f st) C' → Q (some (.int 1)) C') : WR (d + 1) cd_128 116 [some (.ref (ad 4)), some (.int (nI kk)), some (.ref (ad 2)), some (.ref (ad (100 + 5 * t))), some (.int (nI sl)), some (.int fv)] [] C Q := by
  have fxC := r.1.fx k.1
  have n6 := (fx_k k.1).2
  have t2 := (fx_tb fxC t ht).2.1
  have e0C : hI C (ad (100 + 5 * t)) 0 = nI t := by rw [r.1.2.2.1 _ _ (fcI_ad k.1 (by omega) (.inr (by decide)))]; exact e0
  have r1 : RV n np ad pa H st B E (yuA S t 4) (sI C (ad (100 + 5 * t)) 10 4) := r.sta k ht SI1.st
  have r2 : RV n np ad pa H st B E (yuD (yuA S t 4) 68 t 0) (sD (sI C (ad (100 + 5 * t)) 10 4) (ad (100 + 5 * t)) 14 0) := r1.d k (r0 := 68) (.inl (by decide)) ht
  have go : ∀ C', RV n np ad pa H st B E (yFal S t sl f st) C' → ∀ o4 o5, WR (d + 1) cd_128 141 [some (.ref (ad 4)), some (.int (nI kk)), some (.ref (ad 2)), some (.ref (ad (100 + 5 * t))), o4, o5] [] C' Q := fun C' r' o4 o5 => w_gt141 (r'.1.fx k.1) (hQ C' r')
  rcases hsl with rfl | rfl
  · refine w_gt116_3 (d := d + 1) fxC ht n6 t2 e0C ?_
    rw [hf]
    exact c_kf (sl := 3) k r2 k40 hst (fun C' r' => go C' r' _ _)
  · refine w_gt116_4 (d := d + 1) fxC ht n6 t2 e0C ?_
    rw [hf]
    exact c_kf (sl := 4) k r2 k40 hst (fun C' r' => go C' r' _ _)
end RVM

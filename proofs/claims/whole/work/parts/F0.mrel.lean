/-! ===== run, the reference's side: the relation to the pure picture ===== -/
def fmI (ad : Nat → Nat) (a j : Nat) : Prop := ¬ (a = ad 30 ∧ (j = 9 ∨ j = 11 ∨ j = 17 ∨ j = 63 ∨ j = 64 ∨ j = 65)) ∧ a ≠ ad 39 ∧ a ≠ ad 66 ∧ a ≠ ad 74 ∧ a ≠ ad 75
def fmQ (ad : Nat → Nat) (a j : Nat) : Prop := ¬ (a = ad 30 ∧ j = 15) ∧ a ≠ ad 38 ∧ a ≠ ad 64 ∧ a ≠ ad 65
def qOK (r : Nat) : Prop := (67 ≤ r ∧ r ≤ 70) ∨ r = 72 ∨ r = 73
def fmD (ad : Nat → Nat) (a : Nat) : Prop := a ≠ ad 42 ∧ ∀ r, qOK r → a ≠ ad r
def FRM (ad : Nat → Nat) (X M : mH) : Prop := (hT M = hT X ∧ hN M = hN X ∧ hZ M = hZ X ∧ hU M = hU X) ∧ hR M = hR X ∧ (∀ a j, fmI ad a j → hI M a j = hI X a j) ∧ (∀ a j, fmQ ad a j → hL M a j = hL X a j) ∧ ∀ a j, fmD ad a → hD M a j = hD X a j
def RX (n np : Nat) (ad : Nat → Nat) (X : mH) (o : Nat → Nat) (no st : Nat) (B E : Nat → Int64) (S : yS) (M : mH) : Prop := FRM ad X M ∧
  ((∀ t, t < n → hI M (ad 66) t = nI (yA S t)) ∧ ∀ r, qOK r → ∀ t, t < n → hD M (ad r) t = yD S r t) ∧ (∀ q, q < np → hL M (ad 38) q = yW S q) ∧ smM ad (pMs ad (yT S) X) M ∧
  (hI M (ad 30) 64 = nI (yK S) ∧ hI M (ad 30) 63 = nI st ∧ hI M (ad 30) 65 = nI (yO S) ∧ ∀ i, i < 4 * yK S → hI M (ad 74) i = yF S i) ∧ (∀ i, i < no → hI M (ad 75) i = nI (o i)) ∧
  ∀ t s, t < n → s < 3 → hL M (ad 64) (3 * t + s) = B (3 * t + s) ∧ hL M (ad 65) (3 * t + s) = E (3 * t + s)
/-- where the reference begins its run: its rows are as they were -/
def MW (n : Nat) (ad sa : Nat → Nat) (z0 : Nat) (h X : mH) : Prop := FX n ad sa z0 X ∧ 0 ≤ hI X (ad 30) 9 ∧ (∀ i j, 30 ≤ i → i < 76 → ¬ (i = 30 ∧ j = 65) → hI X (ad i) j = hI h (ad i) j) ∧ (∀ i j, 30 ≤ i → i < 76 → hL X (ad i) j = hL h (ad i) j) ∧ ∀ i j, 30 ≤ i → i < 76 → hD X (ad i) j = hD h (ad i) j
section RXL
variable {n np : Nat} {ad sa : Nat → Nat} {z0 : Nat} {h X M M' : mH} {o : Nat → Nat} {no st : Nat} {B E : Nat → Int64} {S S' : yS} {t : Nat}
theorem FRM.rf : FRM ad X X := ⟨⟨rfl, rfl, rfl, rfl⟩, rfl, fun _ _ _ => rfl, fun _ _ _ => rfl, fun _ _ _ => rfl⟩
theorem FRM.i {a j : Nat} {v : Int32} (x : FRM ad X M) (hn : ¬ fmI ad a j) : FRM ad X (sI M a j v) := ⟨x.1, x.2.1, fun a' j' c => by
  have ne : ¬ (a' = a ∧ j' = j) := fun e => hn (by rw [← e.1, ← e.2]; exact c)
  rw [hI_sI, if_neg ne]; exact x.2.2.1 a' j' c, x.2.2.2.1, x.2.2.2.2⟩
theorem FRM.l {a j : Nat} {v : Int64} (x : FRM ad X M) (hn : ¬ fmQ ad a j) : FRM ad X (sL M a j v) := ⟨x.1, x.2.1, x.2.2.1, fun a' j' c => by
  have ne : ¬ (a' = a ∧ j' = j) := fun e => hn (by rw [← e.1, ← e.2]; exact c)
  rw [hL_sL, if_neg ne]; exact x.2.2.2.1 a' j' c, x.2.2.2.2⟩
theorem FRM.d {a j : Nat} {v : UInt64} (x : FRM ad X M) (hn : ¬ fmD ad a) : FRM ad X (sD M a j v) := ⟨x.1, x.2.1, x.2.2.1, x.2.2.2.1, fun a' j' c => by
  have ne : ¬ (a' = a ∧ j' = j) := fun e => hn (by rw [← e.1]; exact c)
  rw [hD_sD, if_neg ne]; exact x.2.2.2.2 a' j' c⟩
theorem FRM.fx (fx : FX n ad sa z0 X) (x : FRM ad X M) : FX n ad sa z0 M := fx.of x.1.1 x.1.2.1 x.1.2.2.1 (fun _ _ _ => by rw [x.2.1]) (fun _ => by rw [x.2.1])
theorem fmI_ad (fx : FX n ad sa z0 X) {i j : Nat} (h1 : ¬ (i = 30 ∧ (j = 9 ∨ j = 11 ∨ j = 17 ∨ j = 63 ∨ j = 64 ∨ j = 65)) ∧ i ≠ 39 ∧ i ≠ 66 ∧ i ≠ 74 ∧ i ≠ 75) : fmI ad (ad i) j := ⟨fun e => h1.1 ⟨fx_inj fx e.1, e.2⟩, fx_ne fx h1.2.1, fx_ne fx h1.2.2.1, fx_ne fx h1.2.2.2.1, fx_ne fx h1.2.2.2.2⟩
theorem fmD_ad (fx : FX n ad sa z0 X) {i : Nat} (h1 : i ≠ 42 ∧ ¬ qOK i) : fmD ad (ad i) := ⟨fx_ne fx h1.1, fun r hr => fx_ne fx (fun e => h1.2 (by rw [e]; exact hr))⟩
theorem nmI {j : Nat} (hj : j = 9 ∨ j = 11 ∨ j = 17 ∨ j = 63 ∨ j = 64 ∨ j = 65) : ¬ fmI ad (ad 30) j := fun c => c.1 ⟨rfl, hj⟩
/-- the list of votes -/
theorem RX.ov (k : MW n ad sa z0 h X) (r : RX n np ad X o no st B E S M) (x : OV ad M M') : RX n np ad X o no st B E S M' := by
  obtain ⟨⟨f1, f2, f3, f4, f5⟩, ⟨v1, v3⟩, w, tr, fi, od, re⟩ := r
  obtain ⟨⟨t1, t2, t3, t4⟩, xL, xR, xI, xD⟩ := x
  have i2 : ∀ i j, ¬ (i = 30 ∧ j = 17) → hI M' (ad i) j = hI M (ad i) j := fun i j hj => xI _ _ (fun e => hj ⟨fx_inj k.1 e.1, e.2⟩)
  refine ⟨⟨⟨t1.trans f1.1, t2.trans f1.2.1, t3.trans f1.2.2.1, t4.trans f1.2.2.2⟩, xR.trans f2, fun a j c => by rw [xI a j (fun e => c.1 ⟨e.1, by omega⟩)]; exact f3 a j c, fun a j c => by rw [xL]; exact f4 a j c, fun a j c => by rw [xD a c.1]; exact f5 a j c⟩, ⟨fun t ht => by rw [i2 66 t (by omega)]; exact v1 t ht, fun r hr t ht => by rw [xD _ (fx_ne k.1 (by unfold qOK at hr; omega))]; exact v3 r hr t ht⟩, fun q hq => by rw [xL]; exact w q hq, ?_, ?_, fun i hi => by rw [i2 75 i (by omega)]; exact od i hi, fun t s ht hs => by rw [xL]; exact re t s ht hs⟩
  · unfold smM at tr ⊢
    rw [i2 30 9 (by omega)]
    exact ⟨tr.1, fun i => by rw [i2 39 i (by omega)]; exact tr.2 i⟩
  · rw [i2 30 64 (by omega), i2 30 63 (by omega), i2 30 65 (by omega)]
    exact ⟨fi.1, fi.2.1, fi.2.2.1, fun i hi => by rw [i2 74 i (by omega)]; exact fi.2.2.2 i hi⟩
/-- a number -/
theorem RX.d {v : UInt64} {r0 : Nat} (k : MW n ad sa z0 h X) (h0 : qOK r0) (r : RX n np ad X o no st B E S M) : RX n np ad X o no st B E (yuD S r0 t v) (sD M (ad r0) t v) := by
  obtain ⟨f, ⟨v1, v3⟩, w, tr, fi, od, re⟩ := r
  refine ⟨f.d (fun c => c.2 r0 h0 rfl), ⟨v1, fun r hr u hu => ?_⟩, w, tr, fi, od, re⟩
  by_cases e2 : r = r0
  · by_cases e : u = t
    · rw [e, e2, D_eq, yD_D]
    · rw [D_nk e, yD_t e]; exact v3 r hr u hu
  · rw [D_ne (fx_ne k.1 e2), yD_r e2]; exact v3 r hr u hu
/-- ints: only some places have changed -/
theorem RX.sta {s : Nat} (k : MW n ad sa z0 h X) (r : RX n np ad X o no st B E S M) (x : SI1 M M' (ad 66) t (nI s)) : RX n np ad X o no st B E (yuA S t s) M' := by
  obtain ⟨⟨f1, f2, f3, f4, f5⟩, ⟨v1, v3⟩, w, tr, fi, od, re⟩ := r
  obtain ⟨⟨t1, t2, t3, t4⟩, xL, xD, xR, xI, x0⟩ := x
  have n2 : ∀ i j, i ≠ 66 → hI M' (ad i) j = hI M (ad i) j := fun i j hi => xI _ _ (fun e => hi (fx_inj k.1 e.1))
  refine ⟨⟨⟨t1.trans f1.1, t2.trans f1.2.1, t3.trans f1.2.2.1, t4.trans f1.2.2.2⟩, xR.trans f2, fun a j c => by rw [xI a j (fun e => c.2.2.1 e.1)]; exact f3 a j c, fun a j c => by rw [xL]; exact f4 a j c, fun a j c => by rw [xD]; exact f5 a j c⟩, ⟨fun u hu => ?_, fun r hr u hu => by rw [xD]; exact v3 r hr u hu⟩, fun q hq => by rw [xL]; exact w q hq, ?_, ?_, fun i hi => by rw [n2 75 i (by decide)]; exact od i hi, fun u s hu hs => by rw [xL]; exact re u s hu hs⟩
  · by_cases e : u = t
    · rw [e, x0, yA_A]
    · rw [xI _ _ (fun z => e z.2), yA_n e]; exact v1 u hu
  · unfold smM at tr ⊢
    rw [n2 30 9 (by decide)]
    exact ⟨tr.1, fun i => by rw [n2 39 i (by decide)]; exact tr.2 i⟩
  · rw [n2 30 64 (by decide), n2 30 63 (by decide), n2 30 65 (by decide)]
    exact ⟨fi.1, fi.2.1, fi.2.2.1, fun i hi => by rw [n2 74 i (by decide)]; exact fi.2.2.2 i hi⟩
/-- one step more -/
theorem RX.s (k : MW n ad sa z0 h X) (r : RX n np ad X o no st B E S M) : RX n np ad X o 0 (st + 1) B E S (sI M (ad 30) 63 (nI (st + 1))) := by
  obtain ⟨f, ⟨v1, v3⟩, w, tr, fi, od, re⟩ := r
  have n2 : ∀ i j, i ≠ 30 → hI (sI M (ad 30) 63 (nI (st + 1))) (ad i) j = hI M (ad i) j := fun i j hi => I_ne (fx_ne k.1 hi)
  refine ⟨f.i (nmI (by decide)), ⟨fun u hu => by rw [n2 _ _ (by decide)]; exact v1 u hu, v3⟩, w, ?_, ?_, fun i hi => absurd hi (by omega), re⟩
  · unfold smM at tr ⊢
    rw [I_nk (by decide)]
    exact ⟨tr.1, fun i => by rw [n2 39 i (by decide)]; exact tr.2 i⟩
  · rw [I_nk (by decide), I_eq, I_nk (by decide)]
    exact ⟨fi.1, rfl, fi.2.2.1, fun i hi => by rw [n2 74 i (by decide)]; exact fi.2.2.2 i hi⟩
/-- the order -/
theorem RX.od {L : Nat → Int32} (k : MW n ad sa z0 h X) (r : RX n np ad X o no st B E S M) (x : ODR ad L M M' n) (eo : ∀ i, i < n → srtL L n i = o i) : RX n np ad X o n st B E S M' := by
  obtain ⟨⟨f1, f2, f3, f4, f5⟩, ⟨v1, v3⟩, w, tr, fi, -, re⟩ := r
  obtain ⟨⟨t1, t2, t3, t4⟩, xD, xL, xR, xI, x0⟩ := x
  have n2 : ∀ i j, i ≠ 75 → hI M' (ad i) j = hI M (ad i) j := fun i j hi => by rw [xI _ (fx_ne k.1 hi)]
  refine ⟨⟨⟨t1.trans f1.1, t2.trans f1.2.1, t3.trans f1.2.2.1, t4.trans f1.2.2.2⟩, xR.trans f2, fun a j c => by rw [xI a c.2.2.2.2]; exact f3 a j c, fun a j c => by rw [xL]; exact f4 a j c, fun a j c => by rw [xD]; exact f5 a j c⟩, ⟨fun u hu => by rw [n2 66 u (by decide)]; exact v1 u hu, fun r hr u hu => by rw [xD]; exact v3 r hr u hu⟩, fun q hq => by rw [xL]; exact w q hq, ?_, ?_, fun i hi => by rw [x0 i hi, eo i hi], fun u s hu hs => by rw [xL]; exact re u s hu hs⟩
  · unfold smM at tr ⊢
    rw [n2 30 9 (by decide)]
    exact ⟨tr.1, fun i => by rw [n2 39 i (by decide)]; exact tr.2 i⟩
  · rw [n2 30 64 (by decide), n2 30 63 (by decide), n2 30 65 (by decide)]
    exact ⟨fi.1, fi.2.1, fi.2.2.1, fun i hi => by rw [n2 74 i (by decide)]; exact fi.2.2.2 i hi⟩
/-- traces -/
theorem RX.ps (k : MW n ad sa z0 h X) (r : RX n np ad X o no st B E S M) (L : List Int32) (eA : yA S' = yA S) (eD : yD S' = yD S) (eW : yW S' = yW S) (eT : yT S' = yT S ++ L) (eK : yK S' = yK S) (eF : yF S' = yF S) (eO : yO S' = yO S) : RX n np ad X o no st B E S' (pMs ad L M) := by
  obtain ⟨⟨f1, f2, f3, f4, f5⟩, ⟨v1, v3⟩, w, tr, fi, od, re⟩ := r
  have n2 : ∀ i j, i ≠ 39 → ¬ (i = 30 ∧ j = 9) → hI (pMs ad L M) (ad i) j = hI M (ad i) j := fun i j h1 h2 => pMs_I (fx_ne k.1 h1) (fun e => h2 ⟨fx_inj k.1 e.1, e.2⟩) L M
  refine ⟨⟨⟨(pMs_T L M).trans f1.1, (pMs_N L M).trans f1.2.1, (pMs_Z L M).trans f1.2.2.1, (pMs_U L M).trans f1.2.2.2⟩, (pMs_R L M).trans f2, fun a j c => ?_, fun a j c => by rw [pMs_L]; exact f4 a j c, fun a j c => by rw [pMs_D]; exact f5 a j c⟩, ⟨fun u hu => by rw [n2 66 u (by decide) (by omega), eA]; exact v1 u hu, fun r hr u hu => by rw [pMs_D, eD]; exact v3 r hr u hu⟩, fun q hq => by rw [pMs_L, eW]; exact w q hq, ?_, ?_, fun i hi => by rw [n2 75 i (by decide) (by omega)]; exact od i hi, fun u s hu hs => by rw [pMs_L]; exact re u s hu hs⟩
  · rw [pMs_I c.2.1 (fun e => c.1 ⟨e.1, .inl e.2⟩) L M]; exact f3 a j c
  · rw [eT, pMs_ap]; exact smM.ps (fx_ne k.1 (by decide)) L tr
  · rw [n2 30 64 (by decide) (by omega), n2 30 63 (by decide) (by omega), n2 30 65 (by decide) (by omega), eK, eF, eO]
    exact ⟨fi.1, fi.2.1, fi.2.2.1, fun i hi => by rw [n2 74 i (by decide) (by omega)]; exact fi.2.2.2 i hi⟩
/-- the last cost is kept for nobody -/
theorem RX.l15 {v : Int64} (k : MW n ad sa z0 h X) (r : RX n np ad X o no st B E S M) : RX n np ad X o no st B E S (sL M (ad 30) 15 v) := by
  obtain ⟨f, v', w, tr, fi, od, re⟩ := r
  exact ⟨f.l (fun c => c.1 ⟨rfl, rfl⟩), v', fun q hq => by rw [L_ne (fx_ne k.1 (by decide))]; exact w q hq, tr, fi, od, fun u s hu hs => by rw [L_ne (fx_ne k.1 (by decide)), L_ne (fx_ne k.1 (by decide))]; exact re u s hu hs⟩
theorem RX.w {q : Nat} {y : Int64} (k : MW n ad sa z0 h X) (r : RX n np ad X o no st B E S M) (eA : yA S' = yA S) (eD : yD S' = yD S) (eW : yW S' = u1 (yW S) q y) (eT : yT S' = yT S) (eK : yK S' = yK S) (eF : yF S' = yF S) (eO : yO S' = yO S) : RX n np ad X o no st B E S' (sL M (ad 38) q y) := by
  obtain ⟨f, ⟨v1, v3⟩, w, tr, fi, od, re⟩ := r
  refine ⟨f.l (fun c => c.2.1 rfl), ⟨fun u hu => by rw [eA]; exact v1 u hu, fun r hr u hu => by rw [eD]; exact v3 r hr u hu⟩, fun q' hq' => ?_, by rw [eT]; exact tr, by rw [eK, eF, eO]; exact fi, od, fun u s hu hs => by rw [L_ne (fx_ne k.1 (by decide)), L_ne (fx_ne k.1 (by decide))]; exact re u s hu hs⟩
  rw [eW]
  show _ = if q' = q then y else yW S q'
  by_cases e : q' = q
  · rw [e, L_eq, if_pos rfl]
  · rw [L_nk e, if_neg e]; exact w q' hq'
/-- a finding -/
theorem RX.f0 (k : MW n ad sa z0 h X) (r : RX n np ad X o no st B E S M) (eA : yA S' = yA S) (eD : yD S' = yD S) (eW : yW S' = yW S) (eT : yT S' = yT S) (eK : yK S' = yK S) (eF : yF S' = yF S) (eO : yO S' = yO S + 1) : RX n np ad X o no st B E S' (sI M (ad 30) 65 (nI (yO S + 1))) := by
  obtain ⟨f, ⟨v1, v3⟩, w, tr, fi, od, re⟩ := r
  have n2 : ∀ i j, i ≠ 30 → hI (sI M (ad 30) 65 (nI (yO S + 1))) (ad i) j = hI M (ad i) j := fun i j hi => I_ne (fx_ne k.1 hi)
  refine ⟨f.i (nmI (by decide)), ⟨fun u hu => by rw [n2 66 u (by decide), eA]; exact v1 u hu, fun r hr u hu => by rw [eD]; exact v3 r hr u hu⟩, fun q hq => by rw [eW]; exact w q hq, ?_, ?_, fun i hi => by rw [n2 75 i (by decide)]; exact od i hi, re⟩
  · rw [eT]
    unfold smM at tr ⊢
    rw [I_nk (by decide)]
    exact ⟨tr.1, fun i => by rw [n2 39 i (by decide)]; exact tr.2 i⟩
  · rw [I_nk (by decide), I_nk (by decide), I_eq, eK, eF, eO]
    exact ⟨fi.1, fi.2.1, rfl, fun i hi => by rw [n2 74 i (by decide)]; exact fi.2.2.2 i hi⟩
theorem RX.f1 {sl f : Nat} (k : MW n ad sa z0 h X) (r : RX n np ad X o no st B E S M) (eA : yA S' = yA S) (eD : yD S' = yD S) (eW : yW S' = yW S) (eT : yT S' = yT S) (eK : yK S' = yK S + 1) (eF : yF S' = yFn (yF S) (yK S) t sl f st) (eO : yO S' = yO S) : RX n np ad X o no st B E S' (sI (sI (sI (sI (sI M (ad 74) (4 * yK S) (nI t)) (ad 74) (4 * yK S + 1) (nI sl)) (ad 74) (4 * yK S + 2) (nI f)) (ad 74) (4 * yK S + 3) (nI (st + 1))) (ad 30) 64 (nI (yK S + 1))) := by
  obtain ⟨f0, ⟨v1, v3⟩, w, tr, fi, od, re⟩ := r
  have n5 : ∀ j, ¬ fmI ad (ad 74) j := fun j c => c.2.2.2.1 rfl
  have o' : ∀ i j, i ≠ 74 → ¬ (i = 30 ∧ j = 64) → hI (sI (sI (sI (sI (sI M (ad 74) (4 * yK S) (nI t)) (ad 74) (4 * yK S + 1) (nI sl)) (ad 74) (4 * yK S + 2) (nI f)) (ad 74) (4 * yK S + 3) (nI (st + 1))) (ad 30) 64 (nI (yK S + 1))) (ad i) j = hI M (ad i) j := fun i j h1 h2 => by
    rw [hI_sI, if_neg (fun e => h2 ⟨fx_inj k.1 e.1, e.2⟩), I_ne (fx_ne k.1 h1), I_ne (fx_ne k.1 h1), I_ne (fx_ne k.1 h1), I_ne (fx_ne k.1 h1)]
  refine ⟨((((f0.i (n5 _)).i (n5 _)).i (n5 _)).i (n5 _)).i (nmI (by decide)), ⟨fun u hu => by rw [o' 66 u (by decide) (by omega), eA]; exact v1 u hu, fun r hr u hu => by rw [eD]; exact v3 r hr u hu⟩, fun q hq => by rw [eW]; exact w q hq, ?_, ?_, fun i hi => by rw [o' 75 i (by decide) (by omega)]; exact od i hi, re⟩
  · rw [eT]
    unfold smM at tr ⊢
    rw [o' 30 9 (by decide) (by omega)]
    exact ⟨tr.1, fun i => by rw [o' 39 i (by decide) (by omega)]; exact tr.2 i⟩
  · rw [o' 30 63 (by decide) (by omega), o' 30 65 (by decide) (by omega), eK, eF, eO, I_eq]
    refine ⟨rfl, fi.2.1, fi.2.2.1, fun i hi => ?_⟩
    rw [I_ne (fx_ne k.1 (by decide))]
    unfold yFn u1
    rw [hI_sI, hI_sI, hI_sI, hI_sI]
    by_cases e3 : i = 4 * yK S + 3
    · rw [if_pos ⟨rfl, e3⟩, if_pos e3]
    · rw [if_neg (fun z => e3 z.2), if_neg e3]
      by_cases e2 : i = 4 * yK S + 2
      · rw [if_pos ⟨rfl, e2⟩, if_pos e2]
      · rw [if_neg (fun z => e2 z.2), if_neg e2]
        by_cases e1 : i = 4 * yK S + 1
        · rw [if_pos ⟨rfl, e1⟩, if_pos e1]
        · rw [if_neg (fun z => e1 z.2), if_neg e1]
          by_cases e0 : i = 4 * yK S
          · rw [if_pos ⟨rfl, e0⟩, if_pos e0]
          · rw [if_neg (fun z => e0 z.2), if_neg e0]; exact fi.2.2.2 i (by omega)
end RXL

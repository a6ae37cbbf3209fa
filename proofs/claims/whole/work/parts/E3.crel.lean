/-! ===== run, the class's side: the relation to the pure picture ===== -/
def fcI (n : Nat) (ad : Nat → Nat) (a j : Nat) : Prop := ¬ (a = ad 2 ∧ j = 1) ∧ a ≠ ad 3 ∧ ¬ (a = ad 4 ∧ (j = 2 ∨ j = 3)) ∧ a ≠ ad 5 ∧ ∀ t, t < n → ¬ (a = ad (100 + 5 * t) ∧ j = 10)
def fcL (n : Nat) (ad : Nat → Nat) (H : mH) (a j : Nat) : Prop := a ≠ ad 6 ∧ (∀ t, t < n → ¬ (a = ad (100 + 5 * t) ∧ j = 11) ∧ a ≠ ad (103 + 5 * t) ∧ a ≠ ad (104 + 5 * t)) ∧ ¬ (hT H a = 4 ∧ (j = 2 ∨ j = 3))
def fcD (n : Nat) (ad : Nat → Nat) (a j : Nat) : Prop := ∀ t, t < n → ¬ (a = ad (100 + 5 * t) ∧ 12 ≤ j ∧ j ≤ 16)
def FRC (n : Nat) (ad : Nat → Nat) (H C : mH) : Prop := (hT C = hT H ∧ hN C = hN H ∧ hZ C = hZ H ∧ hU C = hU H) ∧ hR C = hR H ∧ (∀ a j, fcI n ad a j → hI C a j = hI H a j) ∧ (∀ a j, fcL n ad H a j → hL C a j = hL H a j) ∧ ∀ a j, fcD n ad a j → hD C a j = hD H a j
def rOK (r : Nat) : Prop := (67 ≤ r ∧ r ≤ 70) ∨ r = 73
def fd (r : Nat) : Nat := if r = 73 then 12 else r - 54
theorem fd_b {r : Nat} (h : rOK r) : 12 ≤ fd r ∧ fd r ≤ 16 := by unfold rOK at h; unfold fd; split <;> omega
theorem fd_in {r r' : Nat} (h : rOK r) (h' : rOK r') (e : fd r = fd r') : r = r' := by
  unfold rOK at h h'; unfold fd at e
  split at e <;> split at e <;> omega
/-- steps st; B, E: the readings of one step before, of two -/
def RV (n np : Nat) (ad pa : Nat → Nat) (H : mH) (st : Nat) (B E : Nat → Int64) (S : yS) (C : mH) : Prop := FRC n ad H C ∧
  ((∀ t, t < n → hI C (ad (100 + 5 * t)) 10 = nI (yA S t)) ∧ (∀ t, t < n → hL C (ad (100 + 5 * t)) 11 = (yD S 72 t).toInt64) ∧ ∀ r, rOK r → ∀ t, t < n → hD C (ad (100 + 5 * t)) (fd r) = yD S r t) ∧
  (∀ q, q < np → hL C (pa q) 2 = yW S q) ∧ smC ad (pCs ad (yT S) H) C ∧
  (hI C (ad 4) 2 = nI (yK S) ∧ hI C (ad 4) 3 = nI st ∧ ∀ i, i < 4 * yK S → hI C (ad 5) i = yF S i) ∧
  ∀ t s, t < n → s < 3 → hL C (ad (103 + 5 * t)) s = B (3 * t + s) ∧ hL C (ad (104 + 5 * t)) s = E (3 * t + s)
/-- what stands still while the class runs -/
def KW (n np : Nat) (ad sa : Nat → Nat) (z0 : Nat) (pa : Nat → Nat) (kd : Nat → Nat) (H : mH) : Prop := FX n ad sa z0 H ∧ Rst sa H ∧ 0 ≤ hI H (ad 2) 1 ∧ np ≤ 60 ∧ (∀ q, q < np → hT H (pa q) = 4 ∧ z0 ≤ pa q ∧ hI H (pa q) 0 = nI (kd q) ∧ hI H (pa q) 1 = nI q ∧ kd q < 7) ∧ ∀ q r, q < np → r < np → pa q = pa r → q = r
section RVL
variable {n np : Nat} {ad sa : Nat → Nat} {z0 : Nat} {pa kd : Nat → Nat} {H C C' : mH} {st : Nat} {B E : Nat → Int64} {S : yS} {t : Nat}
theorem FRC.rf : FRC n ad H H := ⟨⟨rfl, rfl, rfl, rfl⟩, rfl, fun _ _ _ => rfl, fun _ _ _ => rfl, fun _ _ _ => rfl⟩
theorem FRC.i {a j : Nat} {v : Int32} (x : FRC n ad H C) (hn : ¬ fcI n ad a j) : FRC n ad H (sI C a j v) := ⟨x.1, x.2.1, fun a' j' c => by
  have ne : ¬ (a' = a ∧ j' = j) := fun e => hn (by rw [← e.1, ← e.2]; exact c)
  rw [hI_sI, if_neg ne]; exact x.2.2.1 a' j' c, x.2.2.2.1, x.2.2.2.2⟩
theorem FRC.l {a j : Nat} {v : Int64} (x : FRC n ad H C) (hn : ¬ fcL n ad H a j) : FRC n ad H (sL C a j v) := ⟨x.1, x.2.1, x.2.2.1, fun a' j' c => by
  have ne : ¬ (a' = a ∧ j' = j) := fun e => hn (by rw [← e.1, ← e.2]; exact c)
  rw [hL_sL, if_neg ne]; exact x.2.2.2.1 a' j' c, x.2.2.2.2⟩
theorem FRC.d {a j : Nat} {v : UInt64} (x : FRC n ad H C) (hn : ¬ fcD n ad a j) : FRC n ad H (sD C a j v) := ⟨x.1, x.2.1, x.2.2.1, x.2.2.2.1, fun a' j' c => by
  have ne : ¬ (a' = a ∧ j' = j) := fun e => hn (by rw [← e.1, ← e.2]; exact c)
  rw [hD_sD, if_neg ne]; exact x.2.2.2.2 a' j' c⟩
theorem FRC.fx (fx : FX n ad sa z0 H) (x : FRC n ad H C) : FX n ad sa z0 C := fx.of x.1.1 x.1.2.1 x.1.2.2.1 (fun _ _ _ => by rw [x.2.1]) (fun _ => by rw [x.2.1])
theorem fcI_ad (fx : FX n ad sa z0 H) {i j : Nat} (h1 : ¬ (i = 2 ∧ j = 1) ∧ i ≠ 3 ∧ ¬ (i = 4 ∧ (j = 2 ∨ j = 3)) ∧ i ≠ 5) (h2 : i < 100 ∨ j ≠ 10) : fcI n ad (ad i) j := ⟨fun e => h1.1 ⟨fx_inj fx e.1, e.2⟩, fx_ne fx h1.2.1, fun e => h1.2.2.1 ⟨fx_inj fx e.1, e.2⟩, fx_ne fx h1.2.2.2, fun t _ e => by have := fx_inj fx e.1; omega⟩
theorem fcI_dy (fx : FX n ad sa z0 H) {a j : Nat} (ha : z0 ≤ a) : fcI n ad a j := ⟨fun e => dy_ad fx (i := 2) (.inl (by decide)) ha e.1, dy_ad fx (.inl (by decide)) ha, fun e => dy_ad fx (i := 4) (.inl (by decide)) ha e.1, dy_ad fx (.inl (by decide)) ha, fun t ht e => dy_ad fx (i := 100 + 5 * t) (.inr ⟨by omega, by omega⟩) ha e.1⟩
theorem fcI_sa (fx : FX n ad sa z0 H) {i j : Nat} (hi : i < 4) : fcI n ad (sa i) j := ⟨fun e => (fx_lt fx (i := 2) (.inl (by decide))).2.2 i hi e.1, (fx_lt fx (.inl (by decide))).2.2 i hi, fun e => (fx_lt fx (i := 4) (.inl (by decide))).2.2 i hi e.1, (fx_lt fx (.inl (by decide))).2.2 i hi, fun t ht e => (fx_lt fx (i := 100 + 5 * t) (.inr ⟨by omega, by omega⟩)).2.2 i hi e.1⟩
theorem pa_T (k : KW n np ad sa z0 pa kd H) {q i : Nat} (hq : q < np) (hd : dom n i) : pa q ≠ ad i := dy_ad k.1 hd (k.2.2.2.2.1 q hq).2.1
theorem d_T (ht : t < n) (k : Nat) (hk : k < 5) : dom n (100 + k + 5 * t) := .inr ⟨by omega, by omega⟩
/-- the list of votes -/
theorem RV.ol (k : KW n np ad sa z0 pa kd H) (r : RV n np ad pa H st B E S C) (x : OL C C' (ad 6)) : RV n np ad pa H st B E S C' := by
  obtain ⟨⟨f1, f2, f3, f4, f5⟩, ⟨v1, v2, v3⟩, w, tr, fi, re⟩ := r
  obtain ⟨⟨t1, t2, t3, t4⟩, xI, xR, xD, xL⟩ := x
  refine ⟨⟨⟨t1.trans f1.1, t2.trans f1.2.1, t3.trans f1.2.2.1, t4.trans f1.2.2.2⟩, xR.trans f2, fun a j c => by rw [xI]; exact f3 a j c, fun a j c => by rw [xL a c.1]; exact f4 a j c, fun a j c => by rw [xD]; exact f5 a j c⟩, ⟨fun t ht => by rw [xI]; exact v1 t ht, fun t ht => by rw [xL _ (fx_ne k.1 (by omega))]; exact v2 t ht, fun r hr t ht => by rw [xD]; exact v3 r hr t ht⟩, fun q hq => by rw [xL _ (pa_T k hq (.inl (by decide)))]; exact w q hq, ?_, ?_, fun t s ht hs => ?_⟩
  · unfold smC at tr ⊢
    rw [xI]; exact tr
  · rw [xI]; exact fi
  · rw [xL _ (fx_ne k.1 (by omega)), xL _ (fx_ne k.1 (by omega))]; exact re t s ht hs
/-- the vote -/
theorem RV.v {v : UInt64} (k : KW n np ad sa z0 pa kd H) (r : RV n np ad pa H st B E S C) (ht : t < n) : RV n np ad pa H st B E (yuD S 72 t v) (sL C (ad (100 + 5 * t)) 11 v.toInt64) := by
  obtain ⟨f, ⟨v1, v2, v3⟩, w, tr, fi, re⟩ := r
  refine ⟨f.l (fun c => (c.2.1 t ht).1 ⟨rfl, rfl⟩), ⟨v1, fun u hu => ?_, fun r hr u hu => ?_⟩, fun q hq => ?_, tr, fi, fun u s hu hs => ?_⟩
  · by_cases e : u = t
    · rw [e, L_eq, yD_D]
    · rw [L_ne (fx_ne k.1 (by omega)), yD_t e]; exact v2 u hu
  · rw [yD_r (by unfold rOK at hr; omega)]; exact v3 r hr u hu
  · rw [L_ne (pa_T k hq (d_T ht 0 (by decide)))]; exact w q hq
  · rw [L_ne (fx_ne k.1 (by omega)), L_ne (fx_ne k.1 (by omega))]; exact re u s hu hs
/-- a number -/
theorem RV.d {v : UInt64} {r0 : Nat} (k : KW n np ad sa z0 pa kd H) (h0 : rOK r0) (r : RV n np ad pa H st B E S C) (ht : t < n) : RV n np ad pa H st B E (yuD S r0 t v) (sD C (ad (100 + 5 * t)) (fd r0) v) := by
  obtain ⟨f, ⟨v1, v2, v3⟩, w, tr, fi, re⟩ := r
  refine ⟨f.d (fun c => c t ht ⟨rfl, fd_b h0⟩), ⟨v1, fun u hu => ?_, fun r hr u hu => ?_⟩, w, tr, fi, re⟩
  · rw [yD_r (by unfold rOK at h0; omega)]; exact v2 u hu
  · by_cases e : u = t
    · by_cases e2 : r = r0
      · rw [e, e2, D_eq, yD_D]
      · rw [D_nk (fun z => e2 (fd_in hr h0 z)), yD_r e2]; exact v3 r hr u hu
    · rw [D_ne (fx_ne k.1 (by omega)), yD_t e]; exact v3 r hr u hu
/-- the state -/
theorem RV.sta {s : Nat} (k : KW n np ad sa z0 pa kd H) (r : RV n np ad pa H st B E S C) (ht : t < n) (x : SI1 C C' (ad (100 + 5 * t)) 10 (nI s)) : RV n np ad pa H st B E (yuA S t s) C' := by
  obtain ⟨⟨f1, f2, f3, f4, f5⟩, ⟨v1, v2, v3⟩, w, tr, fi, re⟩ := r
  obtain ⟨⟨t1, t2, t3, t4⟩, xL, xD, xR, xI, x0⟩ := x
  have n2 : ∀ i j, i < 100 → hI C' (ad i) j = hI C (ad i) j := fun i j hi => xI _ _ (fun e => by have := fx_inj k.1 e.1; omega)
  refine ⟨⟨⟨t1.trans f1.1, t2.trans f1.2.1, t3.trans f1.2.2.1, t4.trans f1.2.2.2⟩, xR.trans f2, fun a j c => by rw [xI a j (fun e => c.2.2.2.2 t ht e)]; exact f3 a j c, fun a j c => by rw [xL]; exact f4 a j c, fun a j c => by rw [xD]; exact f5 a j c⟩, ⟨fun u hu => ?_, fun u hu => by rw [xL]; exact v2 u hu, fun r hr u hu => by rw [xD]; exact v3 r hr u hu⟩, fun q hq => by rw [xL]; exact w q hq, ?_, ?_, fun u s hu hs => by rw [xL]; exact re u s hu hs⟩
  · by_cases e : u = t
    · rw [e, x0, yA_A]
    · rw [xI _ _ (fun z => e (by have := fx_inj k.1 z.1; omega)), yA_n e]; exact v1 u hu
  · unfold smC at tr ⊢
    rw [n2 2 1 (by decide)]
    exact ⟨tr.1, fun i => by rw [n2 3 i (by decide)]; exact tr.2 i⟩
  · rw [n2 4 2 (by decide), n2 4 3 (by decide)]
    exact ⟨fi.1, fi.2.1, fun i hi => by rw [n2 5 i (by decide)]; exact fi.2.2 i hi⟩
/-- one step more -/
theorem RV.s (k : KW n np ad sa z0 pa kd H) (r : RV n np ad pa H st B E S C) : RV n np ad pa H (st + 1) B E S (sI C (ad 4) 3 (nI (st + 1))) := by
  obtain ⟨f, ⟨v1, v2, v3⟩, w, tr, fi, re⟩ := r
  have n2 : ∀ i j, i ≠ 4 → hI (sI C (ad 4) 3 (nI (st + 1))) (ad i) j = hI C (ad i) j := fun i j hi => I_ne (fx_ne k.1 hi)
  refine ⟨f.i (fun c => c.2.2.1 ⟨rfl, .inr rfl⟩), ⟨fun u hu => by rw [n2 _ _ (by omega)]; exact v1 u hu, v2, v3⟩, w, ?_, ?_, re⟩
  · unfold smC at tr ⊢
    rw [n2 2 1 (by decide)]
    exact ⟨tr.1, fun i => by rw [n2 3 i (by decide)]; exact tr.2 i⟩
  · rw [I_nk (by decide), I_eq]
    exact ⟨fi.1, rfl, fun i hi => by rw [n2 5 i (by decide)]; exact fi.2.2 i hi⟩
/-- the readings are remembered -/
def rmB (B : Nat → Int64) (rd : Nat → Int64) (t : Nat) : Nat → Int64 := fun e => if e / 3 = t then rd e else B e
def rmE (B E : Nat → Int64) (t : Nat) : Nat → Int64 := fun e => if e / 3 = t then B e else E e
def rmBs (B rd : Nat → Int64) (t s : Nat) : Nat → Int64 := fun e => if e / 3 = t ∧ e % 3 < s then rd e else B e
def rmEs (B E : Nat → Int64) (t s : Nat) : Nat → Int64 := fun e => if e / 3 = t ∧ e % 3 < s then B e else E e
theorem rmBs_y {B rd : Nat → Int64} {t s e : Nat} (c : e / 3 = t ∧ e % 3 < s) : rmBs B rd t s e = rd e := if_pos c
theorem rmBs_n {B rd : Nat → Int64} {t s e : Nat} (c : ¬ (e / 3 = t ∧ e % 3 < s)) : rmBs B rd t s e = B e := if_neg c
theorem rmEs_y {B E : Nat → Int64} {t s e : Nat} (c : e / 3 = t ∧ e % 3 < s) : rmEs B E t s e = B e := if_pos c
theorem rmEs_n {B E : Nat → Int64} {t s e : Nat} (c : ¬ (e / 3 = t ∧ e % 3 < s)) : rmEs B E t s e = E e := if_neg c
theorem c_rem {d : Nat} {Q : mQ} {rd : Nat → Int64} (k : KW n np ad sa z0 pa kd H) (r : RV n np ad pa H st B E S C) (ht : t < n) (er : ∀ s, s < 3 → hL H (ad (102 + 5 * t)) s = rd (3 * t + s)) (hQ : ∀ C', RV n np ad pa H st (rmB B rd t) (rmE B E t) S C' → Q none C') : EV (d + 1) 129 [.ref (ad (100 + 5 * t))] C Q := by
  have n6 := (fx_k k.1).2
  have lp : ∀ m s C, s + m = 3 → RV n np ad pa H st (rmBs B rd t s) (rmEs B E t s) S C → WR d cd_129 2 [some (.ref (ad (100 + 5 * t))), some (.int (nI s))] [] C Q := by
    intro m
    induction m with
    | zero =>
      intro s C es r
      obtain rfl : s = 3 := by omega
      refine w_rre (r.1.fx k.1) (hQ C ?_)
      have e1 : rmBs B rd t 3 = rmB B rd t := by
        funext e
        unfold rmB
        by_cases c : e / 3 = t
        · rw [rmBs_y ⟨c, by omega⟩, if_pos c]
        · rw [rmBs_n (fun z => c z.1), if_neg c]
      have e2 : rmEs B E t 3 = rmE B E t := by
        funext e
        unfold rmE
        by_cases c : e / 3 = t
        · rw [rmEs_y ⟨c, by omega⟩, if_pos c]
        · rw [rmEs_n (fun z => c z.1), if_neg c]
      rw [e1, e2] at r
      exact r
    | succ m ih =>
      intro s C es r
      obtain ⟨f, ⟨v1, v2, v3⟩, w, tr, fi, re⟩ := id r
      have fxC := f.fx k.1
      obtain ⟨-, t2, ⟨a1, a2⟩, ⟨a3, a4⟩, ⟨a5, a6⟩, ⟨a7, a8⟩, b5, b6, b7, b8⟩ := fx_tb fxC t ht
      refine w_rrs fxC ht n6 t2 b5 b6 b7 b8 a1 a2 a3 a4 a5 a6 a7 a8 (by omega) (ih (s + 1) _ (by omega) ?_)
      have z3 : (3 * t + s) / 3 = t ∧ (3 * t + s) % 3 = s := ⟨by omega, by omega⟩
      have vb : hL C (ad (103 + 5 * t)) s = B (3 * t + s) := by
        have q := (re t s ht (by omega)).1
        rw [rmBs_n (fun z => by omega)] at q; exact q
      have vr : hL C (ad (102 + 5 * t)) s = rd (3 * t + s) := by
        rw [f.2.2.2.1 _ _ ⟨fx_ne k.1 (by omega), fun u hu => ⟨fun e => by have := fx_inj k.1 e.1; omega, fx_ne k.1 (by omega), fx_ne k.1 (by omega)⟩, fun e => by have q := (fx_tb k.1 t ht).2.2.2.1.1; rw [q] at e; exact absurd e.1 (by decide)⟩]
        exact er s (by omega)
      rw [vb, vr]
      refine ⟨(f.l (fun c => (c.2.1 t ht).2.2 rfl)).l (fun c => (c.2.1 t ht).2.1 rfl), ⟨v1, fun u hu => ?_, v3⟩, fun q hq => ?_, tr, fi, fun u s' hu hs' => ?_⟩
      · rw [L_ne (fx_ne k.1 (by omega)), L_ne (fx_ne k.1 (by omega))]; exact v2 u hu
      · rw [L_ne (pa_T k hq (d_T ht 3 (by decide))), L_ne (pa_T k hq (d_T ht 4 (by decide)))]; exact w q hq
      · obtain ⟨q1, q2⟩ := re u s' hu hs'
        have zz : (3 * u + s') / 3 = u ∧ (3 * u + s') % 3 = s' := ⟨by omega, by omega⟩
        by_cases e : u = t
        · subst e
          by_cases e2 : s' = s
          · subst e2
            refine ⟨?_, ?_⟩
            · rw [L_eq, rmBs_y ⟨zz.1, by omega⟩]
            · rw [L_ne (fx_ne k.1 (by omega)), L_eq, rmEs_y ⟨zz.1, by omega⟩]
          · refine ⟨?_, ?_⟩
            · rw [L_nk e2, L_ne (fx_ne k.1 (by omega)), q1]
              by_cases c : s' < s
              · rw [rmBs_y ⟨zz.1, by omega⟩, rmBs_y ⟨zz.1, by omega⟩]
              · rw [rmBs_n (fun z => by omega), rmBs_n (fun z => by omega)]
            · rw [L_ne (fx_ne k.1 (by omega)), L_nk e2, q2]
              by_cases c : s' < s
              · rw [rmEs_y ⟨zz.1, by omega⟩, rmEs_y ⟨zz.1, by omega⟩]
              · rw [rmEs_n (fun z => by omega), rmEs_n (fun z => by omega)]
        · refine ⟨?_, ?_⟩
          · rw [L_ne (fx_ne k.1 (by omega)), L_ne (fx_ne k.1 (by omega)), q1, rmBs_n (fun z => by omega), rmBs_n (fun z => by omega)]
          · rw [L_ne (fx_ne k.1 (by omega)), L_ne (fx_ne k.1 (by omega)), q2, rmEs_n (fun z => by omega), rmEs_n (fun z => by omega)]
  refine w_rr0 (r.1.fx k.1) (lp 3 0 C rfl ?_)
  have e1 : rmBs B rd t 0 = B := by
    funext e; exact rmBs_n (fun z => absurd z.2 (by omega))
  have e2 : rmEs B E t 0 = E := by
    funext e; exact rmEs_n (fun z => absurd z.2 (by omega))
  rw [e1, e2]
  exact r
end RVL

/-! ===== what is measured: class and reference by one picture ===== -/
def flC (X : Nat → UInt64) : Nat → Nat
  | 0 => 0
  | k + 1 => if nuB (X k) = true then flC X k + 1 else flC X k
def flF (X : Nat → UInt64) : Nat → (Nat → UInt64)
  | 0 => fun _ => 0
  | k + 1 => if nuB (X k) = true then u1 (flF X k) (flC X k) (X k) else flF X k
section FL
variable {X : Nat → UInt64}
theorem flC_s (k : Nat) : flC X (k + 1) = if nuB (X k) = true then flC X k + 1 else flC X k := rfl
theorem flF_s (k : Nat) : flF X (k + 1) = if nuB (X k) = true then u1 (flF X k) (flC X k) (X k) else flF X k := rfl
theorem flC_le : ∀ k, flC X k ≤ k := by
  intro k
  induction k with
  | zero => exact Nat.le_refl _
  | succ k ih => rw [flC_s]; split <;> omega
theorem flF_nn : ∀ k j, j < flC X k → FP.Core.val64 (flF X k j) ≠ .nan := by
  intro k
  induction k with
  | zero => intro j hj; exact absurd hj (Nat.not_lt_zero _)
  | succ k ih =>
    intro j hj
    rw [flC_s] at hj
    rw [flF_s]
    by_cases e : nuB (X k) = true
    · rw [if_pos e] at hj ⊢
      unfold u1
      by_cases e2 : j = flC X k
      · rw [if_pos e2]; exact nuB_t.mp e
      · rw [if_neg e2]; exact ih j (by omega)
    · rw [if_neg e] at hj ⊢
      exact ih j hj
theorem sgG_fl (k : Nat) : sgG (u1 (flF X k) (flC X k) (X k)) (flC X k) = sgG (flF X k) (flC X k) := sgG_c _ (fun j hj => by unfold u1; rw [if_neg (by omega)])
theorem smG_c {F F' : Nat → UInt64} : ∀ k, (∀ j, j < k → F j = F' j) → smG F k = smG F' k := by
  intro k
  induction k with
  | zero => intro _; rfl
  | succ k ih =>
    intro h
    rw [smG_s, smG_s, ih (fun j hj => h j (by omega)), h k (by omega)]
theorem sgG_in {F : Nat → UInt64} {P : UInt64 → Prop} : ∀ k, (∀ j, j < k → P (F j)) → ∀ j, j < k → P (sgG F k j) := by
  intro k
  induction k with
  | zero => intro _ j hj; exact absurd hj (Nat.not_lt_zero _)
  | succ k ih =>
    intro h j hj
    show P (insG (sgG F k) k (F k) j)
    have pl := posG_le (sgG F k) (F k) k
    unfold insG
    by_cases e : j < posG (sgG F k) k (F k)
    · rw [if_pos e]; exact ih (fun j hj => h j (by omega)) j (by omega)
    · rw [if_neg e]
      by_cases e2 : j = posG (sgG F k) k (F k)
      · rw [if_pos e2]; exact h k (by omega)
      · rw [if_neg e2]; exact ih (fun j hj => h j (by omega)) (j - 1) (by omega)
end FL
/-- the double that an item means -/
def wD (ln : Nat) (v : Int64) : UInt64 := if ln = 5 then wFl v.toInt32 else v.toUInt64
/-- only seconds and the doubles of row 42 have changed -/
def OD (ad : Nat → Nat) (H M : mH) : Prop := (hT M = hT H ∧ hN M = hN H ∧ hZ M = hZ H ∧ hU M = hU H) ∧ (∀ a j, ¬ (a = ad 30 ∧ j = 17) → hI M a j = hI H a j) ∧ hL M = hL H ∧ hR M = hR H ∧ ∀ y, y ≠ ad 42 → hD M y = hD H y
section ME
variable {d : Nat} {Q : mQ} {n : Nat} {ad sa : Nat → Nat} {z0 : Nat} {H C M : mH} {a t ln sz : Nat} {X : Nat → UInt64}
theorem OD.rf : OD ad H H := ⟨⟨rfl, rfl, rfl, rfl⟩, fun _ _ _ => rfl, rfl, rfl, fun _ _ => rfl⟩
theorem OD.fx (fx : FX n ad sa z0 H) (x : OD ad H M) : FX n ad sa z0 M := fx.of x.1.1 x.1.2.1 x.1.2.2.1 (fun _ _ _ => by rw [x.2.2.2.1]) (fun _ => by rw [x.2.2.2.1])
theorem OD.st {p : Nat} {v : UInt64} (x : OD ad H M) : OD ad H (sD M (ad 42) p v) := ⟨x.1, x.2.1, x.2.2.1, x.2.2.2.1, fun y hy => (u2_row _ hy _).trans (x.2.2.2.2 y hy)⟩
theorem OD.i {v : Int32} (x : OD ad H M) : OD ad H (sI M (ad 30) 17 v) := ⟨x.1, fun a j h => by rw [hI_sI, if_neg h]; exact x.2.1 a j h, x.2.2.1, x.2.2.2.1, x.2.2.2.2⟩
theorem c_dbl (fx : FX n ad sa z0 C) (ta : hT C a = 5) (ra : hR C a 1 = some (a + 1)) (tA : hT C (a + 1) = 21) (nA : hN C (a + 1) = sz) {i : Nat} (hi : i < sz) (s3 : sz ≤ 30) (hl : ln = 5 ∨ ln = 6) (el : hI C a 0 = nI ln) (hc : canL ln (hL C (a + 1) i)) (hq : Q (some (.long (wD ln (hL C (a + 1) i)).toInt64)) C) : EV (d + 2) 78 [.ref a, .int (nI i)] C Q := by
  rcases hl with rfl | rfl
  · refine w_db5 (d := d + 1) fx ta ra tA nA hi s3 el ?_
    refine c_widened fx (canL_F hc).1 ?_
    exact w_db25 (d := d + 1) fx _ hq
  · exact w_db6 (d := d + 1) fx ta ra tA nA hi s3 el hq
theorem ms_4 (fx : FX n ad sa z0 H) (ta : hT H a = 5) (ra : hR H a 1 = some (a + 1)) (tA : hT H (a + 1) = 21) (nA : hN H (a + 1) = sz) (s3 : sz ≤ 30) (hz : z0 ≤ a) (hl : ln = 5 ∨ ln = 6) (el : hI H a 0 = nI ln) (hc : ∀ i, i < sz → canL ln (hL H (a + 1) i) ∧ X i = wD ln (hL H (a + 1) i))
    (hQ : ∀ C, OL H C (ad 22) → (∀ j, j < flC X sz → hL C (ad 22) j = (flF X sz j).toInt64) → Q (some (.int (nI (flC X sz)))) C) :
    ∀ r i C (o4 : Option Value), i + r = sz → OL H C (ad 22) → (∀ j, j < flC X i → hL C (ad 22) j = (flF X i j).toInt64) → WR (d + 2) cd_77 4 [some (.ref (ad 0)), some (.ref a), some (.int (nI (flC X i))), some (.int (nI i)), o4, none] [] C Q := by
  intro r
  have ne : a + 1 ≠ ad 22 := dy_ad fx (.inl (by decide)) (by omega)
  induction r with
  | zero =>
    intro i C o4 hi o h1
    obtain rfl : i = sz := by omega
    exact w_ms4e (o.fx fx) (by rw [o.1.1]; exact ta) (by rw [o.2.2.1]; exact ra) (by rw [o.1.1]; exact tA) (by rw [o.1.2.1]; exact nA) s3 (flC_le _) o4 rfl (hQ C o h1)
  | succ r ih =>
    intro i C o4 hi o h1
    have fl := flC_le (X := X) i
    have tac : hT C a = 5 := by rw [o.1.1]; exact ta
    have rac : hR C a 1 = some (a + 1) := by rw [o.2.2.1]; exact ra
    have tAc : hT C (a + 1) = 21 := by rw [o.1.1]; exact tA
    have nAc : hN C (a + 1) = sz := by rw [o.1.2.1]; exact nA
    have lc : hL C (a + 1) = hL H (a + 1) := o.2.2.2.2 _ ne
    obtain ⟨c1, c2⟩ := hc i (by omega)
    refine w_ms4 (o.fx fx) tac rac tAc nAc s3 fl o4 (by omega) ?_
    refine c_dbl (o.fx fx) tac rac tAc nAc (by omega) s3 hl (by rw [o.2.1]; exact el) (by rw [lc]; exact c1) ?_
    rw [lc, ← c2]
    show WR _ cd_77 27 [some (.ref (ad 0)), some (.ref a), some (.int (nI (flC X i))), some (.int (nI i)), o4, none] [.long (X i).toInt64] C _
    have nm := num64 (X i).toInt64
    rw [i64u] at nm
    refine w_ms27 (d := d) (o.fx fx) (by omega) (by omega) _ o4 (fun w => ?_) (fun w => ?_)
    · have e : ¬ nuB (X i) = true := fun z => nm.mpr (nuB_t.mp z) w
      have q := ih (i + 1) C (some (.long (X i).toInt64)) (by omega) o (by rw [flC_s, flF_s, if_neg e, if_neg e]; exact h1)
      rw [flC_s, if_neg e] at q
      exact q
    · have e : nuB (X i) = true := nuB_t.mpr (nm.mp w)
      have q := ih (i + 1) (sL C (ad 22) (flC X i) (X i).toInt64) (some (.long (X i).toInt64)) (by omega) o.st (fun j hj => ?_)
      · rw [flC_s, if_pos e] at q
        exact q
      · rw [flC_s, if_pos e] at hj
        rw [flF_s, if_pos e]
        unfold u1
        by_cases e2 : j = flC X i
        · rw [if_pos e2, e2, L_eq]
        · rw [if_neg e2, L_nk e2]; exact h1 j (by omega)
theorem mm_48 (fx : FX n ad sa z0 H) {l : Int32} {k c : Nat} (hk : k < 30) (hc : c < 30) {x : UInt64} (nx : FP.Core.val64 x ≠ .nan) {g : Nat → UInt64} (ng : ∀ j, j < c → FP.Core.val64 (g j) ≠ .nan)
    (hQ : ∀ M p, OD ad H M → hI M (ad 30) 17 = nI (c + 1) → (∀ j, j ≤ c → hD M (ad 42) j = insG g c x j) → WR (d + 3) cd_194 7 [some (.ref (ad 30)), some (.int (nI t)), some (.int l), some (.int (nI (k + 1))), some (.double x), none, some (.int (nI p))] [] M Q) :
    ∀ p M, p ≤ c → OD ad H M → hI M (ad 30) 17 = nI c → posG g c x = posG g p x → midG g c p (fun j => hD M (ad 42) j) → WR (d + 3) cd_194 48 [some (.ref (ad 30)), some (.int (nI t)), some (.int l), some (.int (nI k)), some (.double x), none, some (.int (nI p))] [] M Q := by
  intro p
  have fin : ∀ p M, p ≤ c → OD ad H M → hI M (ad 30) 17 = nI c → posG g c x = p → midG g c p (fun j => hD M (ad 42) j) → WR (d + 3) cd_194 92 [some (.ref (ad 30)), some (.int (nI t)), some (.int l), some (.int (nI k)), some (.double x), none, some (.int (nI p))] [] M Q := by
    intro p M hp o e17 e m
    refine w_mm92 (o.fx fx) hk hp hc l x e17 ?_
    refine hQ _ p o.st.i I_eq (fun j hj => ?_)
    exact midG_end m e (x := x) (A' := fun j => hD (sI (sD M (ad 42) p x) (ad 30) 17 (nI (c + 1))) (ad 42) j) (by show hD (sD M (ad 42) p x) (ad 42) p = x; exact D_eq) (fun j hj => by show hD (sD M (ad 42) p x) (ad 42) j = _; exact D_nk hj) j hj
  induction p with
  | zero =>
    intro M hp o e17 e m
    exact w_mm48z (o.fx fx) hk hp hc l x rfl (fin 0 M hp o e17 e m)
  | succ p ih =>
    intro M hp o e17 e m
    have v : hD M (ad 42) (p + 1 - 1) = g p := m.1 p (by omega)
    refine w_mm48 (o.fx fx) hk hp hc l x (by omega) ?_
    rw [v]
    refine c_isBelow (d := d + 1) (o.fx fx) nx (ng p (by omega)) _ (fun w => ?_) (fun w => ?_)
    · refine w_mm67 (o.fx fx) hk hp hc l x (by omega) 1 (fun z => absurd z (by decide)) (fun _ => ?_)
      refine ih _ (by omega) o.st (by show hI M (ad 30) 17 = _; exact e17) ?_ ?_
      · rw [e, posG_s, if_pos w]
      · exact midG_st m (by omega) (by show hD (sD M (ad 42) (p + 1) _) (ad 42) (p + 1) = _; exact D_eq) (fun j hj => by show hD (sD M (ad 42) (p + 1) _) (ad 42) j = _; exact D_nk hj)
    · refine w_mm67 (o.fx fx) hk hp hc l x (by omega) 0 (fun _ => ?_) (fun z => absurd rfl z)
      exact fin (p + 1) M hp o e17 (by rw [e, posG_s, if_neg w]) m
theorem c_real (fx : FX n ad sa z0 M) (hl : ln = 5 ∨ ln = 6) {v : Int64} (hc : canL ln v) (hq : Q (some (.double (wD ln v))) M) : EV (d + 1) 195 [.int (nI ln), .long v] M Q := by
  rcases hl with rfl | rfl
  · exact c_real5 fx hc hq
  · exact c_real6 fx (hc.2 rfl) hq
theorem mm_7 (fx : FX n ad sa z0 H) (ht : t < 250) (s3 : sz ≤ 30) (z1 : hI H (ad 35) t = nI sz) (hl : ln = 5 ∨ ln = 6) (hc : ∀ i, i < sz → canL ln (hL H (ad 36) (30 * t + i)) ∧ X i = wD ln (hL H (ad 36) (30 * t + i)))
    (hQ : ∀ M, OD ad H M → hI M (ad 30) 17 = nI (flC X sz) → (∀ j, j < flC X sz → hD M (ad 42) j = sgG (flF X sz) (flC X sz) j) → Q none M) :
    ∀ r k M (o4 o6 : Option Value), k + r = sz → OD ad H M → hI M (ad 30) 17 = nI (flC X k) → (∀ j, j < flC X k → hD M (ad 42) j = sgG (flF X k) (flC X k) j) → WR (d + 3) cd_194 7 [some (.ref (ad 30)), some (.int (nI t)), some (.int (nI ln)), some (.int (nI k)), o4, none, o6] [] M Q := by
  intro r
  induction r with
  | zero =>
    intro k M o4 o6 hk o e17 h1
    obtain rfl : k = sz := by omega
    exact w_mm7e (c := 0) (o.fx fx) ht s3 ((o.2.1 _ _ (fun e => absurd (fx_inj fx e.1) (by decide))).trans z1) _ o4 o6 rfl (hQ M o e17 h1)
  | succ r ih =>
    intro k M o4 o6 hk o e17 h1
    have fl := flC_le (X := X) k
    obtain ⟨c1, c2⟩ := hc k (by omega)
    refine w_mm7 (c := 0) (o.fx fx) ht s3 ((o.2.1 _ _ (fun e => absurd (fx_inj fx e.1) (by decide))).trans z1) _ o4 o6 (by omega) ?_
    rw [o.2.2.1]
    refine c_real (d := d + 2) (o.fx fx) hl c1 ?_
    rw [← c2]
    show WR _ cd_194 32 [some (.ref (ad 30)), some (.int (nI t)), some (.int (nI ln)), some (.int (nI k)), o4, none, o6] [.double (X k)] M _
    refine w_mm32 (c := flC X k) (o.fx fx) (by omega) (by omega) e17 _ _ o4 o6 (fun w => ?_) (fun w => ?_)
    · have e : ¬ nuB (X k) = true := fun z => w (de_self.mpr (nuB_t.mp z))
      exact ih (k + 1) M _ _ (by omega) o (by rw [flC_s, if_neg e]; exact e17) (by rw [flC_s, flF_s, if_neg e, if_neg e]; exact h1)
    · have nx := de_self.mp w
      have e : nuB (X k) = true := nuB_t.mpr nx
      refine mm_48 (H := M) (o.fx fx) (by omega) (by omega) nx (g := sgG (flF X k) (flC X k)) (sgG_in (P := fun x => FP.Core.val64 x ≠ .nan) _ (flF_nn k)) (fun M' p o' e17' g1 => ?_) _ M (Nat.le_refl _) OD.rf e17 rfl ⟨fun j hj => h1 j hj, fun j h2 h3 => by omega⟩
      have oo : OD ad H M' := ⟨⟨o'.1.1.trans o.1.1, o'.1.2.1.trans o.1.2.1, o'.1.2.2.1.trans o.1.2.2.1, o'.1.2.2.2.trans o.1.2.2.2⟩, fun a j q => (o'.2.1 a j q).trans (o.2.1 a j q), o'.2.2.1.trans o.2.2.1, o'.2.2.2.1.trans o.2.2.2.1, fun y hy => (o'.2.2.2.2 y hy).trans (o.2.2.2.2 y hy)⟩
      refine ih (k + 1) M' _ _ (by omega) oo (by rw [flC_s, if_pos e]; exact e17') (fun j hj => ?_)
      rw [flC_s, if_pos e] at hj
      rw [g1 j (by omega), flC_s, flF_s, if_pos e, if_pos e]
      show _ = insG (sgG (u1 (flF X k) (flC X k) (X k)) (flC X k)) (flC X k) (u1 (flF X k) (flC X k) (X k) (flC X k)) j
      rw [sgG_fl, show u1 (flF X k) (flC X k) (X k) (flC X k) = X k from if_pos rfl]
theorem c_mmeas (fx : FX n ad sa z0 H) (ht : t < 250) (s3 : sz ≤ 30) (z1 : hI H (ad 35) t = nI sz) (hl : ln = 5 ∨ ln = 6) (hc : ∀ i, i < sz → canL ln (hL H (ad 36) (30 * t + i)) ∧ X i = wD ln (hL H (ad 36) (30 * t + i)))
    (hQ : ∀ M, OD ad H M → hI M (ad 30) 17 = nI (flC X sz) → (∀ j, j < flC X sz → hD M (ad 42) j = sgG (flF X sz) (flC X sz) j) → Q none M) : EV (d + 4) 194 [.ref (ad 30), .int (nI t), .int (nI ln)] H Q :=
  w_mm0 (d := d + 3) fx _ (mm_7 fx ht s3 z1 hl hc hQ sz 0 _ none none (by omega) OD.rf.i I_eq (fun j hj => absurd hj (Nat.not_lt_zero _)))
theorem c_meas (fx : FX n ad sa z0 H) (ta : hT H a = 5) (ra : hR H a 1 = some (a + 1)) (tA : hT H (a + 1) = 21) (nA : hN H (a + 1) = sz) (s3 : sz ≤ 30) (hz : z0 ≤ a) (hl : ln = 5 ∨ ln = 6) (el : hI H a 0 = nI ln) (hc : ∀ i, i < sz → canL ln (hL H (a + 1) i) ∧ X i = wD ln (hL H (a + 1) i))
    (hQ : ∀ C, OL H C (ad 22) → (∀ j, j < flC X sz → hL C (ad 22) j = (flF X sz j).toInt64) → Q (some (.int (nI (flC X sz)))) C) : EV (d + 3) 77 [.ref (ad 0), .ref a] H Q := by
  refine in_77 (Nat.le_of_ble_eq_true rfl) ?_
  show WR _ cd_77 0 [some (.ref (ad 0)), some (.ref a), none, none, none, none] [] H _
  refine r_ic (x := 0) rfl rfl ?_
  refine r_istore (lv' := [some (.ref (ad 0)), some (.ref a), some (.int 0), none, none, none]) rfl (Nat.le_of_ble_eq_true rfl) rfl ?_
  refine r_ic (x := 0) rfl rfl ?_
  refine r_istore (lv' := [some (.ref (ad 0)), some (.ref a), some (.int 0), some (.int 0), none, none]) rfl (Nat.le_of_ble_eq_true rfl) rfl ?_
  exact ms_4 fx ta ra tA nA s3 hz hl el hc hQ sz 0 H none (by omega) OL.rf (fun j hj => absurd hj (Nat.not_lt_zero _))
/-- the sum, or the one that is no number -/
def sOr (F : Nat → UInt64) (k : Nat) : UInt64 := (smG F k).getD 9221120237041090560
theorem ms_5 (fx : FX n ad sa z0 M) (ht : t < 250) (s3 : sz ≤ 30) (z1 : hI M (ad 35) t = nI sz) (hl : ln = 5 ∨ ln = 6) (hc : ∀ i, i < sz → canL ln (hL M (ad 36) (30 * t + i)) ∧ X i = wD ln (hL M (ad 36) (30 * t + i))) (hq : Q (some (.double (sOr (flF X sz) (flC X sz)))) M) :
    ∀ r k (o6 o8 : Option Value), k + r = sz → WR (d + 1) cd_200 5 [some (.ref (ad 30)), some (.int (nI t)), some (.int (nI ln)), some (.double (sOr (flF X k) (flC X k))), none, some (.int (nI k)), o6, none, o8] [] M Q := by
  intro r
  induction r with
  | zero =>
    intro k o6 o8 hk
    obtain rfl : k = sz := by omega
    exact w_ms5e fx ht s3 z1 _ _ o6 o8 rfl hq
  | succ r ih =>
    intro k o6 o8 hk
    obtain ⟨c1, c2⟩ := hc k (by omega)
    refine w_ms5 fx ht s3 z1 _ _ o6 o8 (by omega) ?_
    refine c_real (d := d) fx hl c1 ?_
    rw [← c2]
    show WR _ cd_200 32 [some (.ref (ad 30)), some (.int (nI t)), some (.int (nI ln)), some (.double (sOr (flF X k) (flC X k))), none, some (.int (nI k)), o6, none, o8] [.double (X k)] M _
    by_cases e : nuB (X k) = true
    · have nx := nuB_t.mp e
      have IH := fun o6 o8 => ih (k + 1) o6 o8 (by omega)
      have es : sOr (flF X (k + 1)) (flC X (k + 1)) = match smG (flF X k) (flC X k) with
          | none => 9221120237041090560
          | some s => if OPP s (X k) then 9221120237041090560 else FP.dadd s (X k) := by
        unfold sOr
        rw [flC_s, flF_s, if_pos e, if_pos e, smG_s, smG_c (F := u1 (flF X k) (flC X k) (X k)) (F' := flF X k) _ (fun j hj => by unfold u1; rw [if_neg (by omega)]), show u1 (flF X k) (flC X k) (X k) (flC X k) = X k from if_pos rfl]
        cases smG (flF X k) (flC X k) with
        | none => rfl
        | some s =>
          show Option.getD (if OPP s (X k) then none else some (FP.dadd s (X k))) 9221120237041090560 = if OPP s (X k) then 9221120237041090560 else FP.dadd s (X k)
          by_cases o : OPP s (X k)
          · rw [if_pos o, if_pos o]; rfl
          · rw [if_neg o, if_neg o]; rfl
      cases e1 : smG (flF X k) (flC X k) with
      | none =>
        rw [e1] at es
        have es : sOr (flF X (k + 1)) (flC X (k + 1)) = 9221120237041090560 := es
        have e0 : sOr (flF X k) (flC X k) = 9221120237041090560 := by unfold sOr; rw [e1]; rfl
        rw [e0]
        simp only [es] at IH
        have n1 : ¬ deq 9221120237041090560 9221120237041090560 := fun z => de_self.mp z (by decide +kernel)
        have go : ∀ w, WR (d + 1) cd_200 75 [some (.ref (ad 30)), some (.int (nI t)), some (.int (nI ln)), some (.double 9221120237041090560), none, some (.int (nI k)), some (.double (X k)), none, some (.int w)] [] M Q := fun w =>
          w_ms75 fx (by omega) _ w _ _ (fun _ => IH _ _) (fun _ z => absurd z n1) (fun _ z => absurd z n1) (fun _ z => absurd z n1) (fun _ _ => IH _ _)
        exact w_ms32 fx (by omega) _ _ _ o6 o8 (fun _ _ => go 0) (fun _ _ _ => go 0) (fun _ _ _ => go 1) (fun _ _ => go 1) (fun _ _ _ => go 0) (fun _ _ _ _ => go 0) (fun _ _ _ _ => go 1)
      | some s =>
        rw [e1] at es
        have es : sOr (flF X (k + 1)) (flC X (k + 1)) = if OPP s (X k) then 9221120237041090560 else FP.dadd s (X k) := es
        have e0 : sOr (flF X k) (flC X k) = s := by unfold sOr; rw [e1]; rfl
        have ns := smG_nn (F := flF X k) (k := flC X k) (flF_nn k) _ s (Nat.le_refl _) e1
        rw [e0]
        have i1 := inf_iff nx
        have i2 := ninf_iff nx
        have i3 := inf_iff ns
        have i4 := ninf_iff ns
        have yes : OPP s (X k) → WR (d + 1) cd_200 75 [some (.ref (ad 30)), some (.int (nI t)), some (.int (nI ln)), some (.double s), none, some (.int (nI k)), some (.double (X k)), none, some (.int 1)] [] M Q := by
          intro o
          rw [if_pos o] at es
          simp only [es] at IH
          exact w_ms75 fx (by omega) _ 1 _ _ (fun z => absurd (de_self.mpr nx) z) (fun _ _ z => absurd z (by decide)) (fun _ _ z => absurd z (by decide)) (fun _ _ _ => IH _ _) (fun _ z => absurd (de_self.mpr ns) z)
        have no : ¬ OPP s (X k) → WR (d + 1) cd_200 75 [some (.ref (ad 30)), some (.int (nI t)), some (.int (nI ln)), some (.double s), none, some (.int (nI k)), some (.double (X k)), none, some (.int 0)] [] M Q := by
          intro o
          rw [if_neg o] at es
          simp only [es] at IH
          exact w_ms75 fx (by omega) _ 0 _ _ (fun z => absurd (de_self.mpr nx) z) (fun _ _ _ => nn_vf (add_nn ns nx o)) (fun _ _ _ => IH _ _) (fun _ _ z => absurd rfl z) (fun _ z => absurd (de_self.mpr ns) z)
        refine w_ms32 fx (by omega) _ _ _ o6 o8 ?_ ?_ ?_ ?_ ?_ ?_ ?_
        all_goals rw [inf_iff nx]
        · rw [ninf_iff nx]; exact fun a b => no (fun o => o.elim (fun z => a z.1) (fun z => b z.1))
        · rw [ninf_iff nx, inf_iff ns]; exact fun a b c => no (fun o => o.elim (fun z => a z.1) (fun z => c z.2))
        · rw [ninf_iff nx, inf_iff ns]; exact fun a b c => yes (.inr ⟨b, c⟩)
        · rw [ninf_iff ns]; exact fun a b => yes (.inl ⟨a, b⟩)
        · rw [ninf_iff ns, ninf_iff nx]; exact fun a b c => no (fun o => o.elim (fun z => b z.2) (fun z => c z.1))
        · rw [ninf_iff ns, ninf_iff nx, inf_iff ns]; exact fun a b c e => no (fun o => o.elim (fun z => b z.2) (fun z => e z.2))
        · rw [ninf_iff ns, ninf_iff nx, inf_iff ns]; exact fun a b c e => yes (.inr ⟨c, e⟩)
    · have IH := fun o6 o8 => ih (k + 1) o6 o8 (by omega)
      rw [flC_s, flF_s, if_neg e, if_neg e] at IH
      have nv : ¬ deq (X k) (X k) := fun z => e (nuB_t.mpr (de_self.mp z))
      have go : ∀ w, WR (d + 1) cd_200 75 [some (.ref (ad 30)), some (.int (nI t)), some (.int (nI ln)), some (.double (sOr (flF X k) (flC X k))), none, some (.int (nI k)), some (.double (X k)), none, some (.int w)] [] M Q := fun w =>
        w_ms75 fx (by omega) _ w _ _ (fun _ => IH _ _) (fun z => absurd z nv) (fun z => absurd z nv) (fun z => absurd z nv) (fun z => absurd z nv)
      exact w_ms32 fx (by omega) _ _ _ o6 o8 (fun _ _ => go 0) (fun _ _ _ => go 0) (fun _ _ _ => go 1) (fun _ _ => go 1) (fun _ _ _ => go 0) (fun _ _ _ _ => go 0) (fun _ _ _ _ => go 1)
theorem c_msum (fx : FX n ad sa z0 M) (ht : t < 250) (s3 : sz ≤ 30) (z1 : hI M (ad 35) t = nI sz) (hl : ln = 5 ∨ ln = 6) (hc : ∀ i, i < sz → canL ln (hL M (ad 36) (30 * t + i)) ∧ X i = wD ln (hL M (ad 36) (30 * t + i))) (hq : Q (some (.double (sOr (flF X sz) (flC X sz)))) M) : EV (d + 2) 200 [.ref (ad 30), .int (nI t), .int (nI ln)] M Q :=
  w_ms0 (d := d + 1) fx _ (ms_5 fx ht s3 z1 hl hc hq sz 0 none none (by omega))
end ME

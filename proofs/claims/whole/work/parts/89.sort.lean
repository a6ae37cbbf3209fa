/-! ===== insertion: one picture for both sides; sort of the class by contract ===== -/
def posG (g : Nat → UInt64) : Nat → UInt64 → Nat
  | 0, _ => 0
  | k + 1, x => if kO x < kO (g k) then posG g k x else k + 1
def insG (g : Nat → UInt64) (k : Nat) (x : UInt64) : Nat → UInt64 := fun j => if j < posG g k x then g j else if j = posG g k x then x else g (j - 1)
/-- the first k of F in order -/
def sgG (F : Nat → UInt64) : Nat → (Nat → UInt64)
  | 0 => fun _ => 0
  | k + 1 => insG (sgG F k) k (F k)
theorem posG_le (g : Nat → UInt64) (x : UInt64) : ∀ k, posG g k x ≤ k := by
  intro k
  induction k with
  | zero => exact Nat.le_refl _
  | succ k ih =>
    unfold posG
    split
    · omega
    · exact Nat.le_refl _
theorem posG_s (g : Nat → UInt64) (x : UInt64) (k : Nat) : posG g (k + 1) x = if kO x < kO (g k) then posG g k x else k + 1 := rfl
theorem sgG_c {F F' : Nat → UInt64} : ∀ k, (∀ j, j < k → F j = F' j) → sgG F k = sgG F' k := by
  intro k
  induction k with
  | zero => intro _; rfl
  | succ k ih =>
    intro h
    show insG (sgG F k) k (F k) = insG (sgG F' k) k (F' k)
    rw [ih (fun j hj => h j (by omega)), h k (by omega)]
/-- what the array holds while x goes down to place p: g below p, g moved up by one above it -/
def midG (g : Nat → UInt64) (i p : Nat) (A : Nat → UInt64) : Prop := (∀ j, j < p → A j = g j) ∧ ∀ j, p < j → j ≤ i → A j = g (j - 1)
theorem midG_end {g : Nat → UInt64} {i p : Nat} {A : Nat → UInt64} {x : UInt64} (m : midG g i p A) (hp : posG g i x = p) {A' : Nat → UInt64} (h1 : A' p = x) (h2 : ∀ j, j ≠ p → A' j = A j) : ∀ j, j ≤ i → A' j = insG g i x j := by
  intro j hj
  unfold insG
  rw [hp]
  by_cases e : j < p
  · rw [if_pos e, h2 j (by omega), m.1 j e]
  · rw [if_neg e]
    by_cases e2 : j = p
    · rw [if_pos e2, e2, h1]
    · rw [if_neg e2, h2 j e2, m.2 j (by omega) hj]
theorem midG_st {g : Nat → UInt64} {i p : Nat} {A A' : Nat → UInt64} (m : midG g i p A) (p0 : 1 ≤ p) (h1 : A' p = A (p - 1)) (h2 : ∀ j, j ≠ p → A' j = A j) : midG g i (p - 1) A' := by
  refine ⟨fun j hj => by rw [h2 j (by omega)]; exact m.1 j (by omega), fun j h3 h4 => ?_⟩
  by_cases e : j = p
  · rw [e, h1]; exact m.1 _ (by omega)
  · rw [h2 j e]; exact m.2 j (by omega) h4
/-- only the longs of row a have changed -/
def OL (H C : mH) (a : Nat) : Prop := (hT C = hT H ∧ hN C = hN H ∧ hZ C = hZ H ∧ hU C = hU H) ∧ hI C = hI H ∧ hR C = hR H ∧ hD C = hD H ∧ ∀ y, y ≠ a → hL C y = hL H y
section SO
variable {d : Nat} {Q : mQ} {n : Nat} {ad sa : Nat → Nat} {z0 : Nat} {H C : mH} {a k L : Nat} {F : Nat → UInt64}
theorem OL.rf : OL H H a := ⟨⟨rfl, rfl, rfl, rfl⟩, rfl, rfl, rfl, fun _ _ => rfl⟩
theorem OL.st {p : Nat} {v : Int64} (x : OL H C a) : OL H (sL C a p v) a := ⟨x.1, x.2.1, x.2.2.1, x.2.2.2.1, fun y hy => (u2_row _ hy _).trans (x.2.2.2.2 y hy)⟩
theorem OL.fx (fx : FX n ad sa z0 H) (x : OL H C a) : FX n ad sa z0 C := fx.of x.1.1 x.1.2.1 x.1.2.2.1 (fun _ _ _ => by rw [x.2.2.1]) (fun _ => by rw [x.2.2.1])
theorem so_14 (fx : FX n ad sa z0 H) (ta : hT H a = 21) (nA : hN H a = L) (l1 : L ≤ 100) {i : Nat} (hi : i < L) {x : UInt64} {g : Nat → UInt64} {T : Nat → Int64}
    (hQ : ∀ C p, OL H C a → (∀ j, j ≤ i → hL C a j = (insG g i x j).toInt64) → (∀ j, i < j → hL C a j = T j) → WR (d + 1) cd_81 2 [some (.ref a), some (.int (nI k)), some (.int (nI (i + 1))), some (.long x.toInt64), none, some (.int (nI p))] [] C Q) :
    ∀ p C, p ≤ i → OL H C a → posG g i x = posG g p x → midG g i p (fun j => (hL C a j).toUInt64) → (∀ j, i < j → hL C a j = T j) → WR (d + 1) cd_81 14 [some (.ref a), some (.int (nI k)), some (.int (nI i)), some (.long x.toInt64), none, some (.int (nI p))] [] C Q := by
  intro p
  have fin : ∀ p C, p ≤ i → OL H C a → posG g i x = p → midG g i p (fun j => (hL C a j).toUInt64) → (∀ j, i < j → hL C a j = T j) → WR (d + 1) cd_81 52 [some (.ref a), some (.int (nI k)), some (.int (nI i)), some (.long x.toInt64), none, some (.int (nI p))] [] C Q := by
    intro p C hp o e m t
    refine w_so52 (d := d + 1) (o.fx fx) (by rw [o.1.1]; exact ta) (by rw [o.1.2.1]; exact nA) l1 hi hp _ ?_
    refine hQ _ p o.st (fun j hj => ?_) (fun j hj => ?_)
    · have q := midG_end m e (x := x) (A' := fun j => (hL (sL C a p x.toInt64) a j).toUInt64) (by show (hL _ _ _).toUInt64 = x; rw [L_eq]; rfl) (fun j hj => by show (hL _ _ _).toUInt64 = _; rw [L_nk hj]) j hj
      have q : (hL (sL C a p x.toInt64) a j).toUInt64 = insG g i x j := q
      exact (u64i _).symm.trans (congrArg UInt64.toInt64 q)
    · rw [L_nk (by omega)]; exact t j hj
  induction p with
  | zero =>
    intro C hp o e m t
    exact w_so14z (d := d + 1) (o.fx fx) (by rw [o.1.1]; exact ta) (by rw [o.1.2.1]; exact nA) l1 hi hp _ rfl (fin 0 C hp o e m t)
  | succ p ih =>
    intro C hp o e m t
    have v : (hL C a (p + 1 - 1)).toUInt64 = g p := m.1 p (by omega)
    have ob : (oO x.toInt64).toInt = kO x := oO_t x.toInt64
    have oa : (oO (hL C a (p + 1 - 1))).toInt = kO (g p) := by rw [oO_t, v]
    refine w_so14 (o.fx fx) (by rw [o.1.1]; exact ta) (by rw [o.1.2.1]; exact nA) l1 hi hp _ (by omega) (fun w => ?_) (fun w => ?_)
    · have w2 := l_le w
      rw [oa, ob] at w2
      refine fin (p + 1) C hp o ?_ m t
      rw [e, posG_s, if_neg (by omega)]
    · have w2 := l_nle w
      rw [oa, ob] at w2
      refine ih _ (by omega) o.st ?_ ?_ (fun j hj => by rw [L_nk (by omega)]; exact t j hj)
      · rw [e, posG_s, if_pos (by omega)]
      · exact midG_st m (by omega) (by show (hL _ _ _).toUInt64 = (hL _ _ _).toUInt64; rw [L_eq]) (fun j hj => by show (hL _ _ _).toUInt64 = _; rw [L_nk hj])
theorem so_2 (fx : FX n ad sa z0 H) (ta : hT H a = 21) (nA : hN H a = L) (l1 : L ≤ 100) (hk : k ≤ L)
    (hQ : ∀ C, OL H C a → (∀ j, j < k → hL C a j = (sgG F k j).toInt64) → Q none C) :
    ∀ r i C (o3 o5 : Option Value), i + r = k → OL H C a → (∀ j, j < i → hL C a j = (sgG F i j).toInt64) → (∀ j, i ≤ j → j < k → hL C a j = (F j).toInt64) → WR (d + 1) cd_81 2 [some (.ref a), some (.int (nI k)), some (.int (nI i)), o3, none, o5] [] C Q := by
  intro r
  induction r with
  | zero =>
    intro i C o3 o5 hi o h1 h2
    obtain rfl : i = k := by omega
    exact w_so2e (d := d + 1) (o.fx fx) (by rw [o.1.1]; exact ta) (by rw [o.1.2.1]; exact nA) l1 hk o3 o5 (Nat.le_refl _) (by omega) (hQ C o h1)
  | succ r ih =>
    intro i C o3 o5 hi o h1 h2
    refine w_so2 (d := d + 1) (o.fx fx) (by rw [o.1.1]; exact ta) (by rw [o.1.2.1]; exact nA) l1 hk o3 o5 (by omega) ?_
    rw [h2 i (Nat.le_refl _) (by omega)]
    refine so_14 (k := k) (T := fun j => hL C a j) fx ta nA l1 (by omega) (x := F i) (g := sgG F i) (fun C' p o' g1 g2 => ?_) i C (Nat.le_refl _) o rfl ⟨fun j hj => by show (hL _ _ _).toUInt64 = _; rw [h1 j hj]; rfl, fun j h3 h4 => by omega⟩ (fun j _ => rfl)
    refine ih (i + 1) C' _ _ (by omega) o' (fun j hj => g1 j (by omega)) (fun j h3 h4 => ?_)
    rw [g2 j (by omega)]
    exact h2 j (by omega) h4
theorem c_sort (fx : FX n ad sa z0 H) (ta : hT H a = 21) (nA : hN H a = L) (l1 : L ≤ 100) (hk : k ≤ L) (h2 : ∀ j, j < k → hL H a j = (F j).toInt64) (hQ : ∀ C, OL H C a → (∀ j, j < k → hL C a j = (sgG F k j).toInt64) → Q none C) : EV (d + 2) 81 [.ref a, .int (nI k)] H Q := by
  refine in_81 (Nat.le_of_ble_eq_true rfl) ?_
  show WR _ cd_81 0 [some (.ref a), some (.int (nI k)), none, none, none, none] [] H _
  refine r_ic (x := 1) rfl rfl ?_
  refine r_istore (lv' := [some (.ref a), some (.int (nI k)), some (.int 1), none, none, none]) rfl (Nat.le_of_ble_eq_true rfl) rfl ?_
  by_cases k0 : k = 0
  · subst k0
    exact w_so2e (i := 1) (d := d + 1) fx ta nA l1 hk none none (by omega) (by omega) (hQ H OL.rf (fun j hj => absurd hj (Nat.not_lt_zero _)))
  · refine so_2 (F := F) fx ta nA l1 hk hQ (k - 1) 1 H none none (by omega) OL.rf (fun j hj => ?_) (fun j _ hj => h2 j hj)
    obtain rfl : j = 0 := by omega
    rw [h2 0 (by omega)]
    rfl
end SO

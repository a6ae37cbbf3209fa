/-! ===== loops of square roots ===== -/
section LS
variable {r s p : Nat}
theorem ls_2 (hp : p < 4) : (lN s <<< ((2 : Int32).toInt64 &&& 63)) ||| lN p = lN (4 * s + p) := by
  rw [shlN (k := 2) (by decide +kernel), bl_or]
  have := Nat.two_pow_add_eq_or_of_lt (show p < 2 ^ 2 from hp) s
  rw [Nat.mul_comm s, ← this]
theorem ls_1 : lN r <<< ((1 : Int32).toInt64 &&& 63) = lN (2 * r) := by rw [shlN (k := 1) (by decide +kernel), Nat.pow_one, Nat.mul_comm]
theorem ls_o : lN (2 * r) ||| 1 = lN (2 * r + 1) := by
  rw [show (1 : Int64) = lN 1 from rfl, bl_or]
  have := Nat.two_pow_add_eq_or_of_lt (show 1 < 2 ^ 1 by decide) r
  rw [Nat.pow_one] at this
  rw [← this]
theorem ls_p {C j : Nat} (hC : C < 2 ^ 63) (hj : j ≤ 26) : (lN C >>> ((nI (2 * j)).toInt64 &&& 63)) &&& 3 = lN (C / 4 ^ j % 4) := by
  have hl : C / 2 ^ (2 * j) ≤ C := Nat.div_le_self _ _
  rw [shrN (smod_k (by omega)) hC, bl_lo _ 2 (by decide +kernel), lN_tn (by omega), Nat.pow_mul]
end LS
section RO
variable {d : Nat} {Q : mQ} {h : mH} {x : UInt64} {b : Int64} {e : Int32} {C : Nat}
theorem ro_60 (hC : C < 2 ^ 54) (fin : ∀ (i : Int32) (o1 o2 : Option Value), WR d cd_134 144 [some (.double x), none, some (.long b), none, some (.int e), some (.long (lN C)), none, some (.long (lN (sqS C 54).1)), none, some (.long (lN (sqS C 54).2)), none, some (.int i), o1, none, o2, none] [] h Q) :
    ∀ (m i : Nat) (o1 o2 : Option Value), i + m = 54 → WR d cd_134 60 [some (.double x), none, some (.long b), none, some (.int e), some (.long (lN C)), none, some (.long (lN (sqS C i).1)), none, some (.long (lN (sqS C i).2)), none, some (.int (nI i)), o1, none, o2, none] [] h Q := by
  intro m
  induction m with
  | zero =>
    intro i o1 o2 hi
    obtain rfl : i = 54 := by omega
    exact w_ro60 x b _ _ _ e (nI 54) o1 o2 (fun _ => fin _ _ _) (fun z => absurd z (by decide)) (fun z => absurd z (by decide)) (fun z => absurd z (by decide)) (fun z => absurd z (by decide))
  | succ m ih =>
    intro i o1 o2 hi
    obtain ⟨-, b1, b2⟩ := sq_inv C i
    have b3 : 2 ^ i ≤ 2 ^ 54 := Nat.pow_le_pow_right (by decide) (by omega)
    have p := pr_lt C i
    have es : sqS C (i + 1) = if 4 * (sqS C i).2 + pr C i < 4 * (sqS C i).1 + 1 then (2 * (sqS C i).1, 4 * (sqS C i).2 + pr C i) else (2 * (sqS C i).1 + 1, 4 * (sqS C i).2 + pr C i - (4 * (sqS C i).1 + 1)) := rfl
    have IH := fun o1 o2 => ih (i + 1) o1 o2 (by omega)
    rw [es] at IH
    have hp : ¬ 27 ≤ nI i → i < 27 := fun z => Nat.lt_of_not_le (fun w => z (nI_le w (by omega)))
    have hp2 : 27 ≤ nI i → 27 ≤ i := fun z => (nI_leI (a := 27) (by decide) (by omega)).mp z
    have p0 : 27 ≤ i → pr C i = 0 := fun z => by unfold pr; rw [if_neg (by omega)]
    have p1 : i < 27 → (lN C >>> (((52 : Int32) - (2 * nI i)).toInt64 &&& 63)) &&& 3 = lN (pr C i) := fun z => by
      have : (52 : Int32) - (2 * nI i) = nI (2 * (26 - i)) := by
        rw [show (2 : Int32) = nI 2 from rfl, pk_mul, show (52 : Int32) = nI 52 from rfl, pk_sub (by omega)]
        congr 1; omega
      rw [this, ls_p (by omega) (by omega)]
      unfold pr; rw [if_pos z]
    generalize (sqS C i).1 = r at *
    generalize (sqS C i).2 = s at *
    generalize pr C i = pp at *
    have h2 : (lN r <<< ((2 : Int32).toInt64 &&& 63)) ||| 1 = lN (4 * r + 1) := ls_2 (p := 1) (by decide)
    have h1 : (lN s <<< ((2 : Int32).toInt64 &&& 63)) ||| 0 = lN (4 * s + 0) := ls_2 (p := 0) (by decide)
    have h6 := ls_2 (s := s) p
    have h3 : lN r <<< ((1 : Int32).toInt64 &&& 63) = lN (2 * r) := ls_1
    refine w_ro60 x b _ _ _ e (nI i) o1 o2 ?_ ?_ ?_ ?_ ?_
    · intro z
      have := (nI_leI (a := 54) (b := i) (by decide) (by omega)).mp z
      omega
    · intro _ z c
      rw [h1, h2, pk_lLT (by omega) (by omega)] at c
      rw [p0 (hp2 z), if_pos c] at IH
      rw [h1, h3, nI_1]
      exact IH _ _
    · intro _ z c
      rw [h1, h2, pk_lLT (by omega) (by omega)] at c
      rw [p0 (hp2 z), if_neg c] at IH
      rw [h1, h2, h3, ls_o, lN_sub (by omega), nI_1]
      exact IH _ _
    · intro _ z c
      rw [p1 (hp z), h6, h2, pk_lLT (by omega) (by omega)] at c
      rw [if_pos c] at IH
      rw [p1 (hp z), h6, h3, nI_1]
      exact IH _ _
    · intro _ z c
      rw [p1 (hp z), h6, h2, pk_lLT (by omega) (by omega)] at c
      rw [if_neg c] at IH
      rw [p1 (hp z), h6, h2, h3, ls_o, lN_sub (by omega), nI_1]
      exact IH _ _
theorem rt_109 (hC : C < 2 ^ 54) (fin : ∀ (i : Int32) (o1 : Option Value), WR d cd_239 184 [some (.double x), none, some (.long b), none, some (.int e), some (.long (lN C)), none, some (.long (lN (sqS C 55).2)), none, some (.long (lN (sqS C 55).1)), none, some (.int i), o1, none, none, none] [] h Q) :
    ∀ (m i : Nat) (k : Int32) (o1 : Option Value), i + m = 55 → k.toInt = 26 - (i : Int) → WR d cd_239 109 [some (.double x), none, some (.long b), none, some (.int e), some (.long (lN C)), none, some (.long (lN (sqS C i).2)), none, some (.long (lN (sqS C i).1)), none, some (.int k), o1, none, none, none] [] h Q := by
  intro m
  have en : (-28 : Int32).toInt = -28 := rfl
  have e0 : (0 : Int32).toInt = 0 := rfl
  have em : (-1 : Int32).toInt = -1 := rfl
  induction m with
  | zero =>
    intro i k o1 hi hk
    obtain rfl : i = 55 := by omega
    have z : k < -28 := Int32.lt_iff_toInt_lt.mpr (by omega)
    exact w_rt109 x b _ _ _ e k o1 (fun _ => fin _ _) (fun w => absurd z w) (fun w => absurd z w) (fun w => absurd z w) (fun w => absurd z w)
  | succ m ih =>
    intro i k o1 hi hk
    have es := sq_step C i
    have tk : (k + (-1)).toInt = k.toInt + (-1 : Int32).toInt := add_t (by omega) (by omega)
    have IH := fun o1 => ih (i + 1) (k + (-1)) o1 (by omega) (by omega)
    rw [es] at IH
    have k28 : ¬ k < -28 := fun z => by have := i_lt z; omega
    have p0 : k < 0 → pr C i = 0 := fun z => by have := i_lt z; unfold pr; rw [if_neg (by omega)]
    have p1 : ¬ k < 0 → (lN C >>> (((2 : Int32) * k).toInt64 &&& 63)) &&& 3 = lN (pr C i) := fun z => by
      have := i_nlt z
      have ek : k = nI (26 - i) := i_inj (by rw [nI_toInt (by omega)]; omega)
      rw [ek, show (2 : Int32) = nI 2 from rfl, pk_mul, ls_p (by omega) (by omega)]
      unfold pr; rw [if_pos (by omega)]
    have b3 : 2 ^ i ≤ 2 ^ 54 := Nat.pow_le_pow_right (by decide) (by omega)
    clear tk hk en e0 em es
    obtain ⟨-, b1, b2⟩ := sq_inv C i
    have p := pr_lt C i
    generalize (sqS C i).1 = r at *
    generalize (sqS C i).2 = s at *
    generalize pr C i = pp at *
    have h2 : (lN r <<< ((2 : Int32).toInt64 &&& 63)) ||| 1 = lN (4 * r + 1) := ls_2 (p := 1) (by decide)
    have h1 : (lN s <<< ((2 : Int32).toInt64 &&& 63)) ||| 0 = lN (4 * s + 0) := ls_2 (p := 0) (by decide)
    have h6 := ls_2 (s := s) p
    have h3 : lN r <<< ((1 : Int32).toInt64 &&& 63) = lN (2 * r) := ls_1
    refine w_rt109 x b _ _ _ e k o1 ?_ ?_ ?_ ?_ ?_
    · intro z; exact absurd z k28
    · intro _ z c
      rw [h1, h2, pk_lLT (by omega) (by omega)] at c
      rw [p0 z, if_pos c] at IH
      rw [h1, h3]
      exact IH _
    · intro _ z c
      rw [h1, h2, pk_lLT (by omega) (by omega)] at c
      rw [p0 z, if_neg c] at IH
      rw [h1, h2, h3, ls_o, lN_sub (by omega)]
      exact IH _
    · intro _ z c
      rw [p1 z, h6, h2, pk_lLT (by omega) (by omega)] at c
      rw [if_pos c] at IH
      rw [p1 z, h6, h3]
      exact IH _
    · intro _ z c
      rw [p1 z, h6, h2, pk_lLT (by omega) (by omega)] at c
      rw [if_neg c] at IH
      rw [p1 z, h6, h2, h3, ls_o, lN_sub (by omega)]
      exact IH _
end RO

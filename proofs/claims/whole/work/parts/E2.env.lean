/-! ===== run: order, votes and winds stay in their bounds ===== -/
section OR
variable {L L' : Nat → Int32}
theorem posL_c {o o' : Nat → Nat} {t : Nat} (ht : L t = L' t) : ∀ r, (∀ i, i < r → L (o i) = L' (o' i)) → posL L o t r = posL L' o' t r := by
  intro r
  induction r with
  | zero => intro _; rfl
  | succ r ih =>
    intro e
    rw [posL_s, posL_s, e r (by omega), ht, ih (fun i hi => e i (by omega))]
theorem srtL_c : ∀ k, (∀ u, u < k → L u = L' u) → ∀ i, i < k → srtL L k i = srtL L' k i := by
  intro k
  induction k with
  | zero => intro _ i hi; omega
  | succ t ih =>
    intro e i hi
    have ih' := ih (fun u hu => e u (by omega))
    have p : posL L (srtL L t) t t = posL L' (srtL L' t) t t := posL_c (e t (by omega)) t (fun i hi => by
      have := srtL_lt (L := L) t i hi
      rw [← ih' i hi]; exact e _ (by omega))
    have pl := posL_le (L := L') (o := srtL L' t) (t := t) t
    rw [srtL_s, srtL_s, p]
    split
    · exact ih' i (by omega)
    · split
      · rfl
      · exact ih' (i - 1) (by omega)
theorem srtL_in : ∀ k i j, i < k → j < k → srtL L k i = srtL L k j → i = j := by
  intro k
  induction k with
  | zero => intro i j hi; omega
  | succ t ih =>
    intro i j hi hj e
    have pl := posL_le (L := L) (o := srtL L t) (t := t) t
    rw [srtL_s, srtL_s] at e
    generalize posL L (srtL L t) t t = p at *
    by_cases a1 : i < p
    · rw [if_pos a1] at e
      have q1 := srtL_lt (L := L) t i (by omega)
      by_cases b1 : j < p
      · rw [if_pos b1] at e; exact ih i j (by omega) (by omega) e
      · rw [if_neg b1] at e
        by_cases b2 : j = p
        · rw [if_pos b2] at e; omega
        · rw [if_neg b2] at e
          have := ih i (j - 1) (by omega) (by omega) e; omega
    · rw [if_neg a1] at e
      by_cases a2 : i = p
      · rw [if_pos a2] at e
        by_cases b1 : j < p
        · rw [if_pos b1] at e
          have q1 := srtL_lt (L := L) t j (by omega); omega
        · rw [if_neg b1] at e
          by_cases b2 : j = p
          · omega
          · rw [if_neg b2] at e
            have q1 := srtL_lt (L := L) t (j - 1) (by omega); omega
      · rw [if_neg a2] at e
        have q1 := srtL_lt (L := L) t (i - 1) (by omega)
        by_cases b1 : j < p
        · rw [if_pos b1] at e
          have := ih (i - 1) j (by omega) (by omega) e; omega
        · rw [if_neg b1] at e
          by_cases b2 : j = p
          · rw [if_pos b2] at e; omega
          · rw [if_neg b2] at e
            have := ih (i - 1) (j - 1) (by omega) (by omega) e; omega
theorem srtL_su : ∀ k u, u < k → ∃ j, j < k ∧ srtL L k j = u := by
  intro k
  induction k with
  | zero => intro u hu; omega
  | succ t ih =>
    intro u hu
    have pl := posL_le (L := L) (o := srtL L t) (t := t) t
    by_cases e : u = t
    · refine ⟨posL L (srtL L t) t t, by omega, ?_⟩
      rw [srtL_s, if_neg (Nat.lt_irrefl _), if_pos rfl, e]
    · obtain ⟨j, hj, q⟩ := ih u (by omega)
      by_cases a : j < posL L (srtL L t) t t
      · exact ⟨j, by omega, by rw [srtL_s, if_pos a]; exact q⟩
      · exact ⟨j + 1, by omega, by rw [srtL_s, if_neg (by omega), if_neg (by omega)]; exact q⟩
end OR
section LB
theorem dx_b {w : Nat} (hw : w < 8) : (-1 ≤ (dxP w).toInt ∧ (dxP w).toInt ≤ 1) ∧ -1 ≤ (dyP w).toInt ∧ (dyP w).toInt ≤ 1 := by
  have k : ∀ w, w < 8 → (-1 ≤ (dxP w).toInt ∧ (dxP w).toInt ≤ 1) ∧ -1 ≤ (dyP w).toInt ∧ (dyP w).toInt ≤ 1 := by decide
  exact k w hw
theorem mul_b {x d : Int32} (hx : -100 ≤ x.toInt ∧ x.toInt ≤ 100) (hd : -1 ≤ d.toInt ∧ d.toInt ≤ 1) : -100 ≤ (x * d).toInt ∧ (x * d).toInt ≤ 100 := by
  have c : d.toInt = -1 ∨ d.toInt = 0 ∨ d.toInt = 1 := by omega
  rw [Int32.toInt_mul]
  rcases c with e | e | e <;> rw [e] <;> rw [Int.bmod_eq_of_le (by omega) (by omega)] <;> omega
theorem ln_b {x y : Int32} {w : Nat} (hw : w < 8) (hx : -100 ≤ x.toInt ∧ x.toInt ≤ 100) (hy : -100 ≤ y.toInt ∧ y.toInt ≤ 100) : -200 ≤ (lnP x y w).toInt ∧ (lnP x y w).toInt ≤ 200 := by
  have a := mul_b hx (dx_b hw).1
  have b := mul_b hy (dx_b hw).2
  unfold lnP
  rw [Int32.toInt_add, Int.bmod_eq_of_le (by omega) (by omega)]
  omega
theorem df_b {a b : Int32} (ha : -200 ≤ a.toInt ∧ a.toInt ≤ 200) (hb : -200 ≤ b.toInt ∧ b.toInt ≤ 200) (c : ¬ a - b ≤ 0) : ∃ m, 1 ≤ m ∧ m ≤ 400 ∧ a - b = nI m := by
  have e : (a - b).toInt = a.toInt - b.toInt := by rw [Int32.toInt_sub, Int.bmod_eq_of_le (by omega) (by omega)]
  have z : (0 : Int32).toInt = 0 := rfl
  have p : 0 < (a - b).toInt := by
    rcases Int.lt_or_le 0 (a - b).toInt with q | q
    · exact q
    · exact absurd (Int32.le_iff_toInt_le.mpr (by rw [z]; exact q)) c
  refine ⟨(a - b).toInt.toNat, by omega, by omega, ?_⟩
  refine i_inj ?_
  rw [nI_toInt (by omega)]
  omega
end LB
section VO
variable {P : UInt64 → Prop}
theorem sgG_P {F : Nat → UInt64} : ∀ k, (∀ j, j < k → P (F j)) → ∀ j, j < k → P (sgG F k j) := by
  intro k
  induction k with
  | zero => intro _ j hj; omega
  | succ k ih =>
    intro hF j hj
    have hp := posG_le (sgG F k) (F k) k
    show P (insG (sgG F k) k (F k) j)
    unfold insG
    split
    · exact ih (fun i hi => hF i (by omega)) j (by omega)
    · split
      · exact hF k (by omega)
      · exact ih (fun i hi => hF i (by omega)) (j - 1) (by omega)
theorem voF_P {sp : Nat → Bool} {rd : Nat → UInt64} (hn : ∀ s, sp s = true → P (rd s)) : ∀ s j, j < (voF sp rd s).1 → P ((voF sp rd s).2 j) := by
  intro s
  induction s with
  | zero => intro j hj; exact absurd hj (Nat.not_lt_zero _)
  | succ s ih =>
    intro j
    rw [voF_s]
    split
    · rename_i c
      intro hj
      show P (if j = (voF sp rd s).1 then rd s else (voF sp rd s).2 j)
      by_cases e : j = (voF sp rd s).1
      · rw [if_pos e]; exact hn s c
      · rw [if_neg e]
        have hj' : j < (voF sp rd s).1 + 1 := hj
        exact ih j (by omega)
    · intro hj; exact ih j hj
theorem voV_P {sp : Nat → Bool} {rd : Nat → UInt64} (hn : ∀ s, sp s = true → P (rd s)) : voV sp rd = 9221120237041090560 ∨ P (voV sp rd) := by
  unfold voV
  split
  · exact .inl rfl
  · rename_i c
    exact .inr (sgG_P _ (voF_P hn 3) _ (by omega))
end VO
theorem nanc_n : FP.dcmp 9221120237041090560 9221120237041090560 ≠ some .eq := by decide +kernel
theorem deq_self {x : UInt64} (h : FP.Core.val64 x ≠ .nan) : deq x x := FP.Core.dcmp_eq.mpr ⟨h, h, rfl⟩
theorem t64_inj {x y : UInt64} (e : x.toInt64 = y.toInt64) : x = y := by
  have := congrArg Int64.toUInt64 e
  simpa using this
section EN
variable {n : Nat} {ad : Nat → Nat} {h : mH} {s0 w : Nat}
/-- what is given of the turbines -/
def eOK (n np : Nat) (ad : Nat → Nat) (h : mH) (s0 w : Nat) : Prop := (n ≤ 6 ∧ np ≤ 60 ∧ w < 8 ∧ hI h (ad 30) 61 = nI w ∧ hI h (ad 30) 63 = nI s0 ∧ hI h (ad 30) 12 = nI n ∧ (hI h (ad 30) 62 = 0 ∨ hI h (ad 30) 62 = 1)) ∧ (∀ t s, t < n → s < 3 → rdOK (hD h (ad 63) (3 * t + s))) ∧
  (∀ t, t < n → ¬ hI h (ad 61) t < -100 ∧ ¬ 100 < hI h (ad 61) t ∧ ¬ hI h (ad 62) t < -100 ∧ ¬ 100 < hI h (ad 62) t) ∧ (∀ t s, t < n → s < 5 → okW np (hI h (ad 57) (5 * t + s))) ∧ ∀ q, q < np → eKd ad h q < 7 ∧ hI h (ad 37) q = nI (eKd ad h q)
variable {np : Nat}
theorem eLn_b (ok : eOK n np ad h s0 w) (t : Nat) : -200 ≤ (eLn n ad h w t).toInt ∧ (eLn n ad h w t).toInt ≤ 200 := by
  unfold eLn
  split
  · rename_i ht
    obtain ⟨a, b, c, d⟩ := ok.2.2.1 t ht
    have m1 : (-100 : Int32).toInt = -100 := rfl
    have m2 : (100 : Int32).toInt = 100 := rfl
    rw [Int32.lt_iff_toInt_lt] at a b c d
    rw [m1] at a c
    rw [m2] at b d
    exact ln_b ok.1.2.2.1 ⟨by omega, by omega⟩ ⟨by omega, by omega⟩
  · have : (0 : Int32).toInt = 0 := rfl
    omega
theorem eHp (ok : eOK n np ad h s0 w) (t : Nat) : ∀ u, ¬ eLn n ad h w t - eLn n ad h w u ≤ 0 → ∃ m, 1 ≤ m ∧ m ≤ 400 ∧ eLn n ad h w t - eLn n ad h w u = nI m := fun u c => df_b (eLn_b ok t) (eLn_b ok u) c
theorem eVo_ok (ok : eOK n np ad h s0 w) {i t : Nat} (ht : t < n) : eVo ad h s0 i t = 9221120237041090560 ∨ bd (eVo ad h s0 i t) 1000 := by
  unfold eVo
  refine voV_P (P := fun x => bd x 1000) (fun s c => ?_)
  simp only [Bool.and_eq_true, decide_eq_true_eq, eSp] at c
  obtain ⟨c1, -, c3, -⟩ := c
  rcases ok.2.1 t s ht c1 with e | ⟨e1, e2⟩
  · rw [e] at c3; exact absurd c3 nanc_n
  · rw [mg_zm e1] at e2
    exact ⟨e1, e2⟩
theorem eVo_can (ok : eOK n np ad h s0 w) {i t : Nat} (ht : t < n) : canD (eVo ad h s0 i t) := by
  rcases eVo_ok (i := i) ok ht with e | e
  · exact .inl e
  · exact .inr (isF_nn e.1)
theorem eBl_c {v : UInt64} : eBl v = true ↔ v.toInt64 = 9221120237041090560 := by
  unfold eBl
  rw [decide_eq_true_eq]
  constructor
  · intro e; rw [e]; rfl
  · intro e; exact t64_inj (y := 9221120237041090560) e
theorem eBl_m {v : UInt64} (hv : v = 9221120237041090560 ∨ bd v 1000) : eBl v = true ↔ ¬ deq v v := by
  unfold eBl
  rw [decide_eq_true_eq]
  constructor
  · intro e; rw [e]; exact nanc_n
  · intro e
    rcases hv with q | q
    · exact q
    · exact absurd (deq_self (isF_nn q.1)) e
theorem wk_bd {x : UInt64} : bd (FP.dsub 4607182418800017408 (wkV x)) 1 := by
  obtain ⟨a, b, c⟩ := wk_1 (x := x)
  refine ⟨a, ?_⟩
  have e := zv_abs (x := FP.dsub 4607182418800017408 (wkV x))
  have k := kn_1.2
  have e1 := zv_abs (x := 4607182418800017408)
  generalize 1 * uU = m at *
  omega
theorem eWi_ok {v : UInt64} (hv : v = 9221120237041090560 ∨ bd v 1000) {k t : Nat} {S : yS} : bd (eWi n ad h w v k t S) 1000 := by
  unfold eWi
  split
  · exact (kn_0 _).1
  · rename_i c
    rcases hv with q | q
    · exact absurd (by unfold eBl; rw [q]; rfl) c
    · exact q.mul wk_bd (rep_lt (by decide)) (by decide)
end EN
/-! the steps stay sound -/
section VS
variable {n np : Nat} {ad : Nat → Nat} {h : mH} {s0 w i k : Nat} {S : yS}
/-- ahead of rank k in step i -/
def VI (n : Nat) (ad : Nat → Nat) (h : mH) (s0 w i k : Nat) (S : yS) : Prop := (∀ t, t < n → yTu ad h (s0 + i + 1) S t) ∧ (∀ j, k ≤ j → j < n → yTu ad h (s0 + i) S (eOr n ad h w j)) ∧ yK S ≤ 40 ∧ yO S ≤ 6 * i + k
theorem eOr_lt {j : Nat} (hj : j < n) : eOr n ad h w j < n := srtL_lt n j hj
theorem VI.tur (ok : eOK n np ad h s0 w) (hs : s0 + i ≤ 20480) (hk : k < n) (x : VI n ad h s0 w i k S) : VI n ad h s0 w i (k + 1) (yTur n ad h s0 w i k S) := by
  obtain ⟨x1, x2, x3, x4⟩ := x
  have on := yTur_on (n := n) (ad := ad) (h := h) (s0 := s0) (w := w) (S := S) (i := i) (k := k)
  have ht : eOr n ad h w k < n := eOr_lt hk
  have xt := x2 k (Nat.le_refl k) hk
  refine ⟨fun t hh => ?_, fun j h1 h2 => ?_, on.2 x3, ?_⟩
  · by_cases e : t = eOr n ad h w k
    · subst e
      unfold yTur
      split
      · rename_i c
        have nb := nb_slow hs xt.2.2
        refine ⟨by show yA S _ ≤ 4; omega, by rw [yD_r (by decide)]; exact xt.2.1, ?_⟩
        unfold vN
        rw [yD_r (by decide), yD_r (by decide), yD_r (by decide), yD_D, yD_r (by decide)]
        exact nb.2
      · have vo := eVo_ok (i := i) ok ht
        unfold y0
        refine y1_v hs ?_
        generalize eVo ad h s0 i (eOr n ad h w k) = v at *
        have wi : bd (eWi n ad h w v k (eOr n ad h w k) S) 1000 := eWi_ok vo
        generalize eWi n ad h w v k (eOr n ad h w k) S = x at *
        refine ⟨?_, ?_, ?_⟩
        · rw [yA_A]
          unfold gSt
          split
          · split <;> omega
          · split
            · omega
            · split <;> omega
          · split <;> omega
          · split <;> omega
        · show canD (yD (yuD (yuD S 72 (eOr n ad h w k) v) 73 (eOr n ad h w k) x) 72 (eOr n ad h w k))
          rw [yD_r (by decide), yD_D]
          rcases vo with q | q
          · exact .inl q
          · exact .inr (isF_nn q.1)
        · show vN ad h (s0 + i) (yuD (yuD S 72 (eOr n ad h w k) v) 73 (eOr n ad h w k) x) (eOr n ad h w k)
          unfold vN
          rw [yD_D, yD_r (by decide), yD_r (by decide), yD_r (by decide), yD_r (by decide), yD_r (by decide), yD_r (by decide), yD_r (by decide), yD_r (by decide)]
          exact nb_w xt.2.2 wi
    · exact (x1 t hh).eq (on.1 t e).1 (on.1 t e).2 (Nat.le_refl _)
  · have ne : eOr n ad h w j ≠ eOr n ad h w k := fun e => by have := srtL_in n j k h2 hk e; omega
    exact (x2 j (by omega) h2).eq (on.1 _ ne).1 (on.1 _ ne).2 (Nat.le_refl _)
  · have := yTur_O (n := n) (ad := ad) (h := h) (s0 := s0) (w := w) (S := S) (i := i) (k := k)
    omega
theorem VI.nx (n6 : n ≤ 6) (x : VI n ad h s0 w i n S) : VI n ad h s0 w (i + 1) 0 S := by
  obtain ⟨x1, -, x3, x4⟩ := x
  exact ⟨fun t ht => (x1 t ht).eq rfl (fun _ => rfl) (by omega), fun j _ hj => x1 _ (eOr_lt hj), x3, by omega⟩
theorem VI.rnk (ok : eOK n np ad h s0 w) (hs : s0 + i ≤ 20480) (x : VI n ad h s0 w i 0 S) : ∀ k, k ≤ n → VI n ad h s0 w i k (yRnk n ad h s0 w i k S) := by
  intro k
  induction k with
  | zero => intro _; exact x
  | succ k ih => intro hk; exact (ih (by omega)).tur ok hs (by omega)
theorem VI.run (ok : eOK n np ad h s0 w) (x : VI n ad h s0 w 0 0 S) : ∀ i, s0 + i ≤ 20481 → VI n ad h s0 w i 0 (yRun n ad h s0 w i S) := by
  intro i
  induction i with
  | zero => intro _; exact x
  | succ i ih => intro hi; exact ((ih (by omega)).rnk ok (by omega) n (Nat.le_refl n)).nx ok.1.1
end VS

/-! ===== run: the wakes, both sides ===== -/
def wkV (x : UInt64) : UInt64 := if FP.dcmp (rtv x) 4607182418800017408 = some .gt then 4607182418800017408 else rtv x
theorem rtv_nn {x : UInt64} : FP.Core.val64 (rtv x) ≠ .nan ∧ (rtv x).toNat < 2 ^ 63 := by
  unfold rtv
  split
  · exact ⟨by decide +kernel, by decide⟩
  · refine ⟨dv_nn _ _, ?_⟩
    have hn := dv_nn (rtK x.toNat) (rtX x.toNat - 26)
    have e := FP.Core.sgn_bits hn
    rw [val_dv] at e
    have e2 : FP.Core.sgn (FP.Core.round FP.Core.b64 (.fin false (rtK x.toNat) (rtX x.toNat - 26))) = false := FP.Core.sgn_roundRatio _ _ _ _ _
    rw [e2] at e
    have := of_decide_eq_false e.symm
    omega
theorem wkV_F {x : UInt64} : isF (wkV x) ∧ (wkV x).toNat ≤ 4607182418800017408 := by
  have one : isF 4607182418800017408 := (isF_bits _).mpr (by decide)
  obtain ⟨h1, h2⟩ := rtv_nn (x := x)
  unfold wkV
  split
  · exact ⟨one, by decide⟩
  · rename_i c
    have k : ¬ dgt (rtv x) 4607182418800017408 := c
    rw [dg_k h1 (isF_nn one), dk_def, dk_def, if_neg (by decide), if_neg (by omega)] at k
    have z : (4607182418800017408 : UInt64).toNat = 4607182418800017408 := rfl
    rw [z] at k
    have le : (rtv x).toNat ≤ 4607182418800017408 := by omega
    exact ⟨(isF_bits _).mpr (by omega), le⟩
theorem wk_1 {x : UInt64} : isF (FP.dsub 4607182418800017408 (wkV x)) ∧ 0 ≤ zv (FP.dsub 4607182418800017408 (wkV x)) ∧ zv (FP.dsub 4607182418800017408 (wkV x)) ≤ zv 4607182418800017408 := by
  have one : isF 4607182418800017408 := (isF_bits _).mpr (by decide)
  have z : (4607182418800017408 : UInt64).toNat = 4607182418800017408 := rfl
  obtain ⟨f, le⟩ := wkV_F (x := x)
  have p0 : 0 ≤ zv (wkV x) := by rw [pos_zv (by omega) (isF_nn f)]; omega
  have p1 : zv (wkV x) ≤ zv 4607182418800017408 := (bits_le (isF_nn f) (isF_nn one) (by omega) (by omega)).mpr (by omega)
  have r := rnd_sub one f
  have ab := zv_abs (x := 4607182418800017408)
  have p2 : 0 ≤ zv (4607182418800017408 : UInt64) := by omega
  refine ⟨r.fin one (by omega), ?_, r.up (isF_nn one) (by omega)⟩
  rcases r.sgn with ⟨-, e⟩ | ⟨e1, e⟩
  · omega
  · have f0 : isF (0 : UInt64) := (isF_bits 0).mpr (by decide)
    have z0 : zv (0 : UInt64) = 0 := by
      have k := (vB_zv (i := 0) (by decide)).2
      rw [Nat.zero_mul] at k
      exact k
    have := r.dn (V := 0) (isF_nn f0) (by omega)
    omega
theorem i_neg0 (x : Int32) : -x = 0 - x := by rw [Int32.zero_sub]
section WD
variable {n : Nat} {ad sa : Nat → Nat} {z0 : Nat} {H : mH} {Q : mQ} {d k t : Nat} {L C st : Nat → Int32} {o : Nat → Nat}
theorem wk_pre (hp : ∀ u, ¬ L t - L u ≤ 0 → ∃ m, 1 ≤ m ∧ m ≤ 400 ∧ L t - L u = nI m) {i : Nat} (hi : i ≤ 6) : wkS L C st o t i = 0 ∨ (2 ^ 52 ≤ (wkS L C st o t i).toNat ∧ (wkS L C st o t i).toNat < 9218868437227405312) := by
  obtain ⟨a1, a2, -⟩ := wkS_ok (C := C) (st := st) (o := o) hp i hi
  rcases a1 with e | ⟨e1, e2, e3⟩
  · exact .inl e
  · have := (isF_bits _).mp e1
    exact .inr ⟨by omega, by omega⟩
theorem c_wake (fx : FX n ad sa z0 H) (k6 : k < n) (ht : t < n) (ho : ∀ i, i < n → o i < n) (eo : ∀ i, i < n → hR H (ad 8) i = some (ad (100 + 5 * o i))) (et : o k = t) (eL : ∀ u, u < n → hI H (ad (100 + 5 * u)) 3 = L u) (eC : ∀ u, u < n → hI H (ad (100 + 5 * u)) 4 = C u) (eS : ∀ u, u < n → hI H (ad (100 + 5 * u)) 10 = st u) (hp : ∀ u, ¬ L t - L u ≤ 0 → ∃ m, 1 ≤ m ∧ m ≤ 400 ∧ L t - L u = nI m) (hQ : Q (some (.double (wkV (wkS L C st o t k)))) H) : EV (d + 3) 133 [.ref (ad 4), .int (nI k)] H Q := by
  have n6 := (fx_k fx).2
  obtain ⟨-, t2, -⟩ := fx_tb fx t ht
  have lp : ∀ r i o6 o7 o8 o9 o10 o11, i + r = k → WR (d + 2) cd_133 12 [some (.ref (ad 4)), some (.int (nI k)), some (.ref (ad (100 + 5 * t))), some (.double (wkS L C st o t i)), none, some (.int (nI i)), o6, o7, o8, o9, o10, o11] [] H Q := by
    intro r
    induction r with
    | zero =>
      intro i o6 o7 o8 o9 o10 o11 e
      obtain rfl : i = k := by omega
      refine w_wke (d := d + 2) fx rfl (by omega) (c_rootOf (d := d) (wk_pre hp (by omega)) ?_)
      refine w_wkr fx (fun c => ?_) (fun c => ?_)
      · have e1 : wkV (wkS L C st o t i) = rtv (wkS L C st o t i) := if_neg c
        rw [e1] at hQ; exact hQ
      · have e1 : wkV (wkS L C st o t i) = 4607182418800017408 := if_pos c
        rw [e1] at hQ; exact hQ
    | succ r ih =>
      intro i o6 o7 o8 o9 o10 o11 e
      have hu := ho i (by omega)
      obtain ⟨-, u2, -⟩ := fx_tb fx (o i) hu
      have no : ¬ wkC (st (o i)) (L t - L (o i)) (C t - C (o i)) → ∀ o6 o7 o8 o9 o10 o11, WR (d + 2) cd_133 12 [some (.ref (ad 4)), some (.int (nI k)), some (.ref (ad (100 + 5 * t))), some (.double (wkS L C st o t i)), none, some (.int (nI (i + 1))), o6, o7, o8, o9, o10, o11] [] H Q := fun c o6 o7 o8 o9 o10 o11 => by
        have w := ih (i + 1) o6 o7 o8 o9 o10 o11 (by omega)
        rw [wkS_s, if_neg c] at w; exact w
      have yes : wkC (st (o i)) (L t - L (o i)) (C t - C (o i)) → ∀ o6 o7 o8 o9 o10 o11, WR (d + 2) cd_133 12 [some (.ref (ad 4)), some (.int (nI k)), some (.ref (ad (100 + 5 * t))), some (.double (FP.dadd (wkS L C st o t i) (wkW (L t - L (o i))))), none, some (.int (nI (i + 1))), o6, o7, o8, o9, o10, o11] [] H Q := fun c o6 o7 o8 o9 o10 o11 => by
        have w := ih (i + 1) o6 o7 o8 o9 o10 o11 (by omega)
        rw [wkS_s, if_pos c] at w; exact w
      have ok : ¬ L t - L (o i) ≤ 0 → isF (FP.dmul (FP.i2d (L t - L (o i))) 4591870180066957722) ∧ isF (wkE (L t - L (o i))) ∧ isF (FP.dmul (wkE (L t - L (o i))) (wkE (L t - L (o i)))) ∧ isF (wkO (L t - L (o i))) ∧ isF (wkW (L t - L (o i))) := fun c => by
        obtain ⟨m, m1, m2, em⟩ := hp (o i) c
        rw [em]
        obtain ⟨a1, a2, a3, a4, -⟩ := wk_ok m1 m2
        exact ⟨a1, a2, a3, a4, (wkW_zv m1 m2).1⟩
      have a2 := (wkS_ok (C := C) (st := st) (o := o) hp i (by omega)).2.1
      exact w_wki fx ht n6 t2 hu u2 (by omega) (by omega) (eo i (by omega)) (eL t ht) (eL _ hu) (eC t ht) (eC _ hu) (eS _ hu)
        (fun c => no (fun z => c z.1) _ _ _ _ _ _) (fun _ c => no (fun z => z.2.1 c) _ _ _ _ _ _) (fun _ _ c => no (fun z => z.2.2 c) _ _ _ _ _ _)
        (fun _ c _ => nn_vf (isF_nn (ok c).1)) (fun _ c _ => nn_vf (isF_nn (ok c).2.1)) (fun _ c _ => nn_vf (isF_nn (ok c).2.2.1)) (fun _ c _ => nn_vf (isF_nn (ok c).2.2.2.1)) (fun _ c _ => nn_vf (isF_nn (ok c).2.2.2.2)) (fun _ c _ => nn_vf (rnd_add a2 (ok c).2.2.2.2).nn)
        (fun c1 c2 c3 => yes ⟨c1, c2, c3⟩ _ _ _ _ _ _)
  exact w_wk0 (d := d + 2) fx ht n6 t2 k6 (by rw [eo k k6, et]) (lp k 0 _ _ _ _ _ _ (by omega))
theorem m_windo {v : UInt64} {w : Nat} (fx : FX n ad sa z0 H) (w8 : w < 8) (ew : hI H (ad 30) 61 = nI w) (k6 : k < n) (ht : t < n) (ho : ∀ i, i < n → o i < n) (eo : ∀ i, i < n → hI H (ad 75) i = nI (o i)) (eL : ∀ u, u < n → L u = lnP (hI H (ad 61) u) (hI H (ad 62) u) w) (eC : ∀ u, u < n → C u = crP (hI H (ad 61) u) (hI H (ad 62) u) w) (eS : ∀ u, u < n → hI H (ad 66) u = st u) (hp : ∀ u, ¬ L t - L u ≤ 0 → ∃ m, 1 ≤ m ∧ m ≤ 400 ∧ L t - L u = nI m) (ev : hD H (ad 72) t = v) (hv : deq v v → isF v)
    (hQ0 : ¬ deq v v → Q (some (.double 0)) H) (hQ : deq v v → Q (some (.double (FP.dmul v (FP.dsub 4607182418800017408 (wkV (wkS L C st o t k)))))) H) : EV (d + 4) 237 [.ref (ad 30), .int (nI k), .int (nI t)] H Q := by
  have n6 := (fx_k fx).2
  refine w_mw0 (d := d + 3) fx (by omega) ev (fun dv' => ?_) hQ0
  have hQ := hQ dv'
  have fv := hv dv'
  have one : isF 4607182418800017408 := (isF_bits _).mpr (by decide)
  have lp : ∀ r i o8 o9 o10 o11 o12 o13 o14, i + r = k → WR (d + 3) cd_237 21 [some (.ref (ad 30)), some (.int (nI k)), some (.int (nI t)), some (.double v), none, some (.double (wkS L C st o t i)), none, some (.int (nI i)), o8, o9, o10, o11, o12, o13, o14] [] H Q := by
    intro r
    induction r with
    | zero =>
      intro i o8 o9 o10 o11 o12 o13 o14 e
      obtain rfl : i = k := by omega
      refine w_mwe (d := d + 3) fx rfl (by omega) (c_root (d := d) (wk_pre hp (by omega)) ?_)
      have w1 := (wk_1 (x := wkS L C st o t i)).1
      have ng : ¬ dgt (rtv (wkS L C st o t i)) 4607182418800017408 → wkV (wkS L C st o t i) = rtv (wkS L C st o t i) := fun c => if_neg c
      have ps : dgt (rtv (wkS L C st o t i)) 4607182418800017408 → wkV (wkS L C st o t i) = 4607182418800017408 := fun c => if_pos c
      refine w_mwr fx (fun c => ?_) (fun c => ?_) (fun c => ?_) (fun c => ?_) (fun c => ?_) (fun c => ?_)
      · rw [ng c] at w1; exact nn_vf (isF_nn w1)
      · rw [ng c] at w1; exact nn_vf (rnd_mul fv w1).nn
      · rw [ng c] at hQ; exact hQ
      · rw [ps c] at w1; exact nn_vf (isF_nn w1)
      · rw [ps c] at w1; exact nn_vf (rnd_mul fv w1).nn
      · rw [ps c] at hQ; exact hQ
    | succ r ih =>
      intro i o8 o9 o10 o11 o12 o13 o14 e
      have hu := ho i (by omega)
      have no : ¬ wkC (st (o i)) (L t - L (o i)) (C t - C (o i)) → ∀ o8 o9 o10 o11 o12 o13 o14, WR (d + 3) cd_237 21 [some (.ref (ad 30)), some (.int (nI k)), some (.int (nI t)), some (.double v), none, some (.double (wkS L C st o t i)), none, some (.int (nI (i + 1))), o8, o9, o10, o11, o12, o13, o14] [] H Q := fun c o8 o9 o10 o11 o12 o13 o14 => by
        have w := ih (i + 1) o8 o9 o10 o11 o12 o13 o14 (by omega)
        rw [wkS_s, if_neg c] at w; exact w
      have yes : wkC (st (o i)) (L t - L (o i)) (C t - C (o i)) → ∀ o8 o9 o10 o11 o12 o13 o14, WR (d + 3) cd_237 21 [some (.ref (ad 30)), some (.int (nI k)), some (.int (nI t)), some (.double v), none, some (.double (FP.dadd (wkS L C st o t i) (wkW (L t - L (o i))))), none, some (.int (nI (i + 1))), o8, o9, o10, o11, o12, o13, o14] [] H Q := fun c o8 o9 o10 o11 o12 o13 o14 => by
        have w := ih (i + 1) o8 o9 o10 o11 o12 o13 o14 (by omega)
        rw [wkS_s, if_pos c] at w; exact w
      have ok : ¬ L t - L (o i) ≤ 0 → isF (FP.dmul (FP.i2d (L t - L (o i))) 4591870180066957722) ∧ isF (wkE (L t - L (o i))) ∧ isF (FP.dmul (wkE (L t - L (o i))) (wkE (L t - L (o i)))) ∧ isF (wkO (L t - L (o i))) ∧ isF (wkW (L t - L (o i))) := fun c => by
        obtain ⟨m, m1, m2, em⟩ := hp (o i) c
        rw [em]
        obtain ⟨a1, a2, a3, a4, -⟩ := wk_ok m1 m2
        exact ⟨a1, a2, a3, a4, (wkW_zv m1 m2).1⟩
      have a2 := (wkS_ok (C := C) (st := st) (o := o) hp i (by omega)).2.1
      have ap : 0 ≤ C t - C (o i) → absI (C t - C (o i)) = C t - C (o i) := fun c => if_pos c
      have an : ¬ 0 ≤ C t - C (o i) → absI (C t - C (o i)) = -(C t - C (o i)) := fun c => by rw [i_neg0]; exact if_neg c
      refine w_mwi (d := d + 3) fx (by omega) (u := o i) (by omega) (by omega) (by omega) (eo i (by omega)) (c_line (d := d + 1) fx w8 ew (by omega) ?_)
      rw [← eL t ht]
      refine w_mwj (d := d + 3) fx (c_line (d := d + 1) fx w8 ew (by omega) ?_)
      rw [← eL (o i) hu]
      refine w_mwk (d := d + 3) fx (c_cross (d := d + 1) fx w8 ew (by omega) ?_)
      rw [← eC t ht]
      refine w_mwl (d := d + 3) fx (c_cross (d := d + 1) fx w8 ew (by omega) ?_)
      rw [← eC (o i) hu]
      exact w_mwm (d := d + 3) fx (by omega) (by omega) (eS (o i) hu)
        (fun _ c => no (fun z => c z.1) _ _ _ _ _ _ _) (fun _ _ c => no (fun z => z.2.1 c) _ _ _ _ _ _ _) (fun p _ _ c => no (fun z => z.2.2 (by rw [ap p]; exact c)) _ _ _ _ _ _ _)
        (fun _ _ c _ => nn_vf (isF_nn (ok c).1)) (fun _ _ c _ => nn_vf (isF_nn (ok c).2.1)) (fun _ _ c _ => nn_vf (isF_nn (ok c).2.2.1)) (fun _ _ c _ => nn_vf (isF_nn (ok c).2.2.2.1)) (fun _ _ c _ => nn_vf (isF_nn (ok c).2.2.2.2)) (fun _ _ c _ => nn_vf (rnd_add a2 (ok c).2.2.2.2).nn)
        (fun p c1 c2 c3 => yes ⟨c1, c2, by rw [ap p]; exact c3⟩ _ _ _ _ _ _ _)
        (fun _ c => no (fun z => c z.1) _ _ _ _ _ _ _) (fun _ _ c => no (fun z => z.2.1 c) _ _ _ _ _ _ _) (fun p _ _ c => no (fun z => z.2.2 (by rw [an p]; exact c)) _ _ _ _ _ _ _)
        (fun _ _ c _ => nn_vf (isF_nn (ok c).1)) (fun _ _ c _ => nn_vf (isF_nn (ok c).2.1)) (fun _ _ c _ => nn_vf (isF_nn (ok c).2.2.1)) (fun _ _ c _ => nn_vf (isF_nn (ok c).2.2.2.1)) (fun _ _ c _ => nn_vf (isF_nn (ok c).2.2.2.2)) (fun _ _ c _ => nn_vf (rnd_add a2 (ok c).2.2.2.2).nn)
        (fun p c1 c2 c3 => yes ⟨c1, c2, by rw [an p]; exact c3⟩ _ _ _ _ _ _ _)
  exact lp k 0 _ _ _ _ _ _ _ (by omega)
end WD

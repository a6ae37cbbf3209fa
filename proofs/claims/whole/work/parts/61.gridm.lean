/-! ===== grid: the reference's loop ===== -/
section GM
variable {d : Nat} {Q : mQ} {n : Nat} {ad sa : Nat → Nat} {z0 : Nat} {H H1 M M' : mH} {t u j sz ln : Nat} {U f : Nat → Nat}
def NN (t : Nat) (U : Nat → Nat) (j k : Nat) : Prop := k = t ∨ ∃ i, i < j ∧ k = U i
theorem NN.up {k : Nat} (w : NN t U j k) : NN t (u1 U j u) (j + 1) k := by
  rcases w with w | ⟨i, h1, h2⟩
  · exact .inl w
  · exact .inr ⟨i, by omega, by unfold u1; rw [if_neg (by omega)]; exact h2⟩
theorem NN.nw : NN t (u1 U j u) (j + 1) u := .inr ⟨j, by omega, by unfold u1; rw [if_pos rfl]⟩
theorem NN.dn {k : Nat} (w : NN t (u1 U j u) (j + 1) k) : NN t U j k ∨ k = u := by
  rcases w with w | ⟨i, h1, h2⟩
  · exact .inl (.inl w)
  · by_cases e : i = j
    · right; rw [e] at h2; unfold u1 at h2; rw [if_pos rfl] at h2; exact h2
    · left; unfold u1 at h2; rw [if_neg e] at h2; exact .inr ⟨i, by omega, h2⟩
def GM (ad : Nat → Nat) (H M : mH) (t : Nat) (U f : Nat → Nat) (sz ln j : Nat) : Prop :=
  (hT M = hT H ∧ hN M = hN H ∧ hZ M = hZ H ∧ hU M = hU H ∧ hD M = hD H ∧ hR M = hR H) ∧
  (∀ a k, a ≠ ad 40 → a ≠ ad 32 → ¬ ((a = ad 33 ∨ a = ad 34 ∨ a = ad 35) ∧ NN t U j k) → hI M a k = hI H a k) ∧
  (∀ a k, ¬ (a = ad 36 ∧ ∃ u, NN t U j u ∧ 30 * u ≤ k ∧ k < 30 * u + 30) → hL M a k = hL H a k) ∧
  (hI M (ad 33) t = 8 ∧ hI M (ad 34) t = 0 ∧ hI M (ad 35) t = nI sz ∧ ∀ i, j ≤ i → i < 30 → hL M (ad 36) (30 * t + i) = -1) ∧
  (∀ i, i < j → (U i < 250 ∧ ¬ live ad H (U i) ∧ U i ≠ t ∧ ∀ i', i' < i → U i' ≠ U i) ∧ hI M (ad 33) (U i) = 3 ∧ hI M (ad 34) (U i) = 0 ∧ hI M (ad 35) (U i) = nI ln ∧ (∀ x, x < 30 → hL M (ad 36) (30 * U i + x) = 0) ∧ hL M (ad 36) (30 * t + i) = lN (U i)) ∧
  MKS ad 32 M f (217 + j) ∧ ∀ u, u < 250 → live ad H u ∨ NN t U j u → hI M (ad 32) u = 1
theorem GM.in0 {f : Nat → Nat} (e1 : E40 ad H H1) (mk : MKS ad 32 H1 f 216) (lv : ∀ t, t < 250 → live ad H t → hI H1 (ad 32) t = 1) (e2 : EM ad H1 M t 30 8 0 (nI sz)) : GM ad H M t (fun _ => 0) (u1 f 216 t) sz ln 0 := by
  have mk2 := e2.mk mk
  obtain ⟨a1, a2, a3, a4, a5, a6, a7, ⟨a8, a9, a10, a11⟩, a12, a13⟩ := e2
  obtain ⟨b1, b2, b3, b4, b5, b6, b7, b8⟩ := e1
  refine ⟨⟨a1.trans b1, a2.trans b2, a3.trans b3, a4.trans b4, a5.trans b6, a6.trans b7⟩, fun a k h1 h2 h3 => ?_, fun a k h1 => ?_, ⟨a9, a10, a11, fun i _ hi => a13 i hi⟩, fun i hi => absurd hi (Nat.not_lt_zero _), mk2, fun u hu w => ?_⟩
  · rw [a7 a k (fun z => ?_), b8 a k h1 h2]
    rcases z with ⟨z1, z | z | z | z⟩
    · exact h2 z
    · exact h3 ⟨.inl z, .inl z1⟩
    · exact h3 ⟨.inr (.inl z), .inl z1⟩
    · exact h3 ⟨.inr (.inr z), .inl z1⟩
  · rw [a12 a k (fun z => h1 ⟨z.1, t, .inl rfl, z.2.1, z.2.2⟩), b5]
  · by_cases e : u = t
    · rw [e]; exact a8
    · rw [a7 _ u (fun z => e z.1)]
      rcases w with w | w | ⟨i, h1, -⟩
      · exact lv u hu w
      · exact absurd w e
      · exact absurd h1 (Nat.not_lt_zero _)
theorem GM.st (fx : FX n ad sa z0 H) (g : GM ad H M t U f sz ln j) (hj : j < 30) (ht : t < 250) (hu : u < 250) (hz : hI M (ad 32) u = 0) (e : EM ad M M' u 30 3 0 (nI ln)) : GM ad H (sL M' (ad 36) (30 * t + j) (lN u)) t (u1 U j u) (u1 f (217 + j) u) sz ln (j + 1) := by
  have mk2 : MKS ad 32 M' (u1 f (217 + j) u) (217 + j + 1) := e.mk g.2.2.2.2.2.1
  obtain ⟨⟨a1, a2, a3, a4, a5, a6⟩, gI, gL, ⟨t1, t2, t3, t4⟩, gU, mk, mm⟩ := g
  obtain ⟨b1, b2, b3, b4, b5, b6, bI, ⟨b8, b9, b10, b11⟩, bL, bf⟩ := e
  have no : ∀ w, w < 250 → live ad H w ∨ NN t U j w → w ≠ u := fun w hw q z => by
    have := mm w hw q; rw [z, hz] at this; exact absurd this (by decide)
  have ut : t ≠ u := no t ht (.inr (.inl rfl))
  have nlu : ¬ live ad H u := fun l => no u hu (.inl l) rfl
  have v0 : fv 3 = 0 := rfl
  have rI : ∀ a k, k ≠ u → hI (sL M' (ad 36) (30 * t + j) (lN u)) a k = hI M a k := fun a k q => I_oL.trans (bI a k (fun z => q z.1))
  have Uj : u1 U j u j = u := by unfold u1; rw [if_pos rfl]
  have Ui : ∀ i, i < j → u1 U j u i = U i := fun i hi => by unfold u1; rw [if_neg (by omega)]
  refine ⟨⟨b1.trans a1, b2.trans a2, b3.trans a3, b4.trans a4, b5.trans a5, b6.trans a6⟩, fun a k h1 h2 h3 => ?_, fun a k h1 => ?_, ⟨?_, ?_, ?_, fun i h1 h2 => ?_⟩, fun i hi => ?_, ?_, fun w hw q => ?_⟩
  · rw [I_oL, bI a k (fun z => ?_)]
    · exact gI a k h1 h2 (fun z => h3 ⟨z.1, z.2.up⟩)
    · rcases z with ⟨z1, z | z⟩
      · exact h2 z
      · exact h3 ⟨z, z1 ▸ NN.nw⟩
  · rw [hL_sL, if_neg (fun z => h1 ⟨z.1, t, .inl rfl, by have := z.2; omega, by have := z.2; omega⟩), bL a k (fun z => h1 ⟨z.1, u, NN.nw, z.2.1, z.2.2⟩)]
    exact gL a k (fun z => by obtain ⟨z1, w, z2, z3⟩ := z; exact h1 ⟨z1, w, z2.up, z3⟩)
  · rw [rI _ _ ut]; exact t1
  · rw [rI _ _ ut]; exact t2
  · rw [rI _ _ ut]; exact t3
  · rw [L_nk (by omega), bL _ _ (fun z => by have := z.2; omega)]; exact t4 i (by omega) h2
  · by_cases ei : i = j
    · rw [ei, Uj]
      refine ⟨⟨hu, nlu, fun z => ut z.symm, fun i' hi' => ?_⟩, I_oL.trans b9, I_oL.trans b10, I_oL.trans b11, fun x hx => ?_, L_eq⟩
      · rw [Ui i' hi']; exact no _ (gU i' hi').1.1 (.inr (.inr ⟨i', hi', rfl⟩))
      · rw [L_nk (by omega), bf x hx]; rfl
    · have hi' : i < j := by omega
      obtain ⟨⟨q1, q2, q3, q4⟩, q5, q6, q7, q8, q9⟩ := gU i hi'
      have nu : U i ≠ u := no _ q1 (.inr (.inr ⟨i, hi', rfl⟩))
      rw [Ui i hi']
      refine ⟨⟨q1, q2, q3, fun i' h' => by rw [Ui i' (by omega)]; exact q4 i' h'⟩, (rI _ _ nu).trans q5, (rI _ _ nu).trans q6, (rI _ _ nu).trans q7, fun x hx => ?_, ?_⟩
      · rw [L_nk (by omega), bL _ _ (fun z => by have := z.2; omega)]; exact q8 x hx
      · rw [L_nk (by omega), bL _ _ (fun z => by have := z.2; omega)]; exact q9
  · intro w hw; rw [I_oL]; exact mk2 w hw
  · by_cases e : w = u
    · rw [e, I_oL]; exact b8
    · rw [rI _ _ e]
      refine mm w hw ?_
      rcases q with q | q
      · exact .inl q
      · rcases q.dn with q | q
        · exact .inr q
        · exact absurd q e
theorem GM.fx (fx : FX n ad sa z0 H) (g : GM ad H M t U f sz ln j) : FX n ad sa z0 M := by
  unfold FX; rw [g.1.1, g.1.2.1, g.1.2.2.1, g.1.2.2.2.2.2]; exact fx
theorem gm_65 (fx : FX n ad sa z0 H) (ht : t < 250) {c : Int32} (hs : sz ≤ 8) (hl : ln ≤ 12) (hQ : ∀ M U f, GM ad H M t U f sz ln sz → WR (d + 1) cd_160 102 [some (.ref (ad 30)), some (.int c), some (.int (nI sz)), some (.int (nI ln)), some (.int (nI t)), some (.int (nI sz))] [] M Q) :
    ∀ m j M U f, j + m = sz → GM ad H M t U f sz ln j → WR (d + 1) cd_160 65 [some (.ref (ad 30)), some (.int c), some (.int (nI sz)), some (.int (nI ln)), some (.int (nI t)), some (.int (nI j))] [] M Q := by
  intro m
  induction m with
  | zero =>
    intro j M U f hj g
    obtain rfl : j = sz := by omega
    refine r_iload rfl rfl ?_
    refine r_iload rfl rfl ?_
    exact r_icmp_ge (tg := 102) rfl rfl (fun _ => hQ M U f g) (fun q => absurd (nI_le (Nat.le_refl _) (by omega)) q)
  | succ m ih =>
    intro j M U f hj g
    have fxM := g.fx fx
    refine r_iload rfl rfl ?_
    refine r_iload rfl rfl ?_
    refine r_icmp_ge (tg := 102) rfl rfl (fun q => absurd q (nI_ge (by omega) (by omega))) (fun _ => ?_)
    refine r_iload rfl rfl ?_
    refine r_if_lt (tg := 102) rfl rfl (fun q => absurd q (nI_pos (by omega))) (fun _ => ?_)
    refine r_aload rfl rfl ?_
    refine r_getA (b := ad 36) rfl ⟨rfl, rfl, rfl⟩ (fx_t30 fxM) (fx_r30_5 fxM) ?_
    refine r_ic (x := 30) rfl rfl ?_
    refine r_iload rfl rfl ?_
    refine r_imul rfl ?_
    refine r_iload rfl rfl ?_
    refine r_iadd rfl ?_
    refine WR_tI (y := nI (30 * t + j)) (by rw [show (30 : Int32) = nI 30 from rfl, pk_mul, nI_add]) ?_
    refine r_aload rfl rfl ?_
    refine r_ic (x := 3) rfl rfl ?_
    refine r_ic (x := 0) rfl rfl ?_
    refine r_iload rfl rfl ?_
    refine r_cv (y := 159) (ra := [.int (nI ln), .int 0, .int 3]) (rest := [.int (nI (30 * t + j)), .ref (ad 36)]) rfl ⟨⟨rfl, rfl⟩, rfl, by decide⟩ (fx_t30 fxM) rfl rfl (Nat.le_of_ble_eq_true rfl) ?_
    refine c_make fxM g.2.2.2.2.2.1 (by omega) (fun u M' hu uz e => ?_)
    show WR _ cd_160 94 [some (.ref (ad 30)), some (.int c), some (.int (nI sz)), some (.int (nI ln)), some (.int (nI t)), some (.int (nI j))] [.int (nI u), .int (nI (30 * t + j)), .ref (ad 36)] M' _
    have fx2 := e.fx fxM
    refine r_i2l rfl ?_
    refine WR_tL (y := lN u) (nI_l (by omega)) ?_
    refine r_lastore rfl (fx_t36 fx2) (vp_ct (fx_n36 fx2) (vp_in_nI (by omega) (by omega))) ?_
    refine WR_h (h2 := sL M' (ad 36) (30 * t + j) (lN u)) (congrArg (fun z => sL M' (ad 36) z (lN u)) (nI_clamp (by omega))) ?_
    refine r_iinc (y := nI (j + 1)) (lv' := [some (.ref (ad 30)), some (.int c), some (.int (nI sz)), some (.int (nI ln)), some (.int (nI t)), some (.int (nI (j + 1)))]) rfl rfl (nI_1 _) rfl ?_
    refine r_goto (tg := 65) rfl rfl ?_
    exact ih (j + 1) _ _ _ (by omega) (g.st fx (by omega) ht hu uz e)
end GM

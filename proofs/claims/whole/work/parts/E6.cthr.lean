/-! ===== run, the class's side: one turbine ===== -/
def eSn (o : Nat → Nat) : Nat → Nat → Bool
  | 0, _ => false
  | k + 1, t => eSn o k t || o k == t
theorem eSn_f {o : Nat → Nat} {n : Nat} (hi : ∀ i j, i < n → j < n → o i = o j → i = j) : ∀ k j, k ≤ j → j < n → eSn o k (o j) = false := by
  intro k
  induction k with
  | zero => intro j _ _; rfl
  | succ k ih =>
    intro j h1 h2
    show (eSn o k (o j) || o k == o j) = false
    rw [ih j (by omega) h2, Bool.false_or]
    exact beq_false_of_ne (fun e => by have := hi k j (by omega) h2 e; omega)
theorem eSn_t {o : Nat → Nat} : ∀ k j, j < k → eSn o k (o j) = true := by
  intro k
  induction k with
  | zero => intro j hj; omega
  | succ k ih =>
    intro j hj
    show (eSn o k (o j) || o k == o j) = true
    by_cases e : j = k
    · subst e; rw [beq_self_eq_true, Bool.or_true]
    · rw [ih j (by omega), Bool.true_or]
def eBk (n : Nat) (ad : Nat → Nat) (h : mH) (w i k : Nat) : Nat → Int64 := fun e => if eSn (eOr n ad h w) k (e / 3) = true then eB ad h (i + 1) e else eB ad h i e
def eEk (n : Nat) (ad : Nat → Nat) (h : mH) (w i k : Nat) : Nat → Int64 := fun e => if eSn (eOr n ad h w) k (e / 3) = true then eE ad h (i + 1) e else eE ad h i e
section TH
variable {n np : Nat} {ad sa : Nat → Nat} {z0 : Nat} {pa : Nat → Nat} {h H C : mH} {s0 w i kk d : Nat} {S : yS} {Q : mQ}
theorem eBk_0 : eBk n ad h w i 0 = eB ad h i := rfl
theorem eEk_0 : eEk n ad h w i 0 = eE ad h i := rfl
theorem eBk_s (hk : kk < n) : rmB (eBk n ad h w i kk) (fun e => (hD h (ad 63) e).toInt64) (eOr n ad h w kk) = eBk n ad h w i (kk + 1) := by
  funext e
  unfold rmB eBk
  show _ = if (eSn (eOr n ad h w) kk (e / 3) || eOr n ad h w kk == e / 3) = true then _ else _
  by_cases c : e / 3 = eOr n ad h w kk
  · rw [if_pos c, c, beq_self_eq_true, Bool.or_true, if_pos rfl]; rfl
  · rw [if_neg c, beq_false_of_ne (fun z => c z.symm), Bool.or_false]
theorem eEk_s (hk : kk < n) : rmE (eBk n ad h w i kk) (eEk n ad h w i kk) (eOr n ad h w kk) = eEk n ad h w i (kk + 1) := by
  funext e
  unfold rmE eEk
  show _ = if (eSn (eOr n ad h w) kk (e / 3) || eOr n ad h w kk == e / 3) = true then _ else _
  by_cases c : e / 3 = eOr n ad h w kk
  · rw [if_pos c, c, beq_self_eq_true, Bool.or_true, if_pos rfl]
    unfold eBk
    rw [c, eSn_f (o := eOr n ad h w) (n := n) (fun i j => srtL_in n i j) kk kk (Nat.le_refl kk) hk, if_neg (by decide)]
    rfl
  · rw [if_neg c, beq_false_of_ne (fun z => c z.symm), Bool.or_false]
theorem eBk_n (hk : kk ≤ n) {j s : Nat} (hj : kk ≤ j) (hj2 : j < n) (hs : s < 3) : eBk n ad h w i kk (3 * eOr n ad h w j + s) = eB ad h i (3 * eOr n ad h w j + s) ∧ eEk n ad h w i kk (3 * eOr n ad h w j + s) = eE ad h i (3 * eOr n ad h w j + s) := by
  unfold eBk eEk
  rw [show (3 * eOr n ad h w j + s) / 3 = eOr n ad h w j by omega, eSn_f (o := eOr n ad h w) (n := n) (fun i j => srtL_in n i j) kk j hj hj2]
  exact ⟨if_neg (by decide), if_neg (by decide)⟩
theorem eBk_e {t s : Nat} (ht : t < n) (hs : s < 3) : eBk n ad h w i n (3 * t + s) = eB ad h (i + 1) (3 * t + s) ∧ eEk n ad h w i n (3 * t + s) = eE ad h (i + 1) (3 * t + s) := by
  obtain ⟨j, hj, e⟩ := srtL_su (L := eLn n ad h w) n t ht
  have e : eOr n ad h w j = t := e
  unfold eBk eEk
  rw [show (3 * t + s) / 3 = t by omega, ← e, eSn_t n j hj]
  exact ⟨if_pos rfl, if_pos rfl⟩
/-- what stands still in the class: order, lines, numbers, bounds, parts, readings, cold -/
def WH (n np : Nat) (ad pa : Nat → Nat) (h H : mH) (w : Nat) : Prop := (∀ i, i < n → hR H (ad 8) i = some (ad (100 + 5 * eOr n ad h w i))) ∧ (∀ u, u < n → hI H (ad (100 + 5 * u)) 3 = eLn n ad h w u ∧ hI H (ad (100 + 5 * u)) 4 = eCr ad h w u ∧ hI H (ad (100 + 5 * u)) 0 = nI u ∧ hD H (ad (100 + 5 * u)) 17 = hD h (ad 71) u) ∧
  (∀ t s, t < n → s < 5 → slR pa np (hI h (ad 57) (5 * t + s)) (hR H (ad (101 + 5 * t)) s)) ∧ (∀ t s, t < n → s < 3 → hL H (ad (102 + 5 * t)) s = (hD h (ad 63) (3 * t + s)).toInt64) ∧ hI H (ad 4) 5 = hI h (ad 30) 62
theorem gSt_le {s : Nat} {bl : Bool} {x u b : UInt64} : gSt s bl x u b ≤ 3 := by
  unfold gSt
  split
  · split <;> omega
  · split
    · omega
    · split <;> omega
  · split <;> omega
  · split <;> omega
theorem v0_ok {s t a : Nat} {v x : UInt64} (xt : yTu ad h s S t) (vo : v = 9221120237041090560 ∨ bd v 1000) (wi : bd x 1000) (ha : a ≤ 3) : yTu ad h s (yuA (yuD (yuD S 72 t v) 73 t x) t a) t := by
  refine ⟨?_, ?_, ?_⟩
  · rw [yA_A]; omega
  · show canD (yD (yuD (yuD S 72 t v) 73 t x) 72 t)
    rw [yD_r (by decide), yD_D]
    rcases vo with q | q
    · exact .inl q
    · exact .inr (isF_nn q.1)
  · show vN ad h s (yuD (yuD S 72 t v) 73 t x) t
    unfold vN
    rw [yD_D, yD_r (by decide), yD_r (by decide), yD_r (by decide), yD_r (by decide), yD_r (by decide), yD_r (by decide), yD_r (by decide), yD_r (by decide)]
    exact nb_w xt.2.2 wi
/-- the class's vote -/
theorem c_vt {st t : Nat} {B E : Nat → Int64} (k : KW n np ad sa z0 pa (eKd ad h) H) (ok : eOK n np ad h s0 w) (wh : WH n np ad pa h H w) (hs : s0 + i ≤ 20480) (ht : t < n) (r : RV n np ad pa H (s0 + i) B E S C) (eb : ∀ s, s < 3 → B (3 * t + s) = eB ad h i (3 * t + s) ∧ E (3 * t + s) = eE ad h i (3 * t + s)) (hQ : ∀ C', RV n np ad pa H (s0 + i) B E S C' → Q (some (.long (eVo ad h s0 i t).toInt64)) C') : EV (d + 3) 130 [.ref (ad 4), .ref (ad (100 + 5 * t))] C Q := by
  have fxC := r.1.fx k.1
  have n6 := (fx_k k.1).2
  have e5 : hI C (ad 4) 5 = hI h (ad 30) 62 := by rw [r.1.2.2.1 _ _ (fcI_ad k.1 (by omega) (.inl (by decide)))]; exact wh.2.2.2.2
  have eL : ∀ s, s < 3 → hL C (ad (102 + 5 * t)) s = (hD h (ad 63) (3 * t + s)).toInt64 := fun s hs => by
    rw [r.1.2.2.2.1 _ _ ⟨fx_ne k.1 (by omega), fun u hu => ⟨fun e => by have := fx_inj k.1 e.1; omega, fx_ne k.1 (by omega), fx_ne k.1 (by omega)⟩, fun e => by have q := (fx_tb k.1 t ht).2.2.2.1.1; rw [q] at e; exact absurd e.1 (by decide)⟩]
    exact wh.2.2.2.1 t s ht hs
  refine c_vote (d := d) (st := s0 + i) (mf := eFz ad h s0 i) (sp := fun s => decide (s < 3) && eSp ad h s0 i t s) (rd := fun s => hD h (ad 63) (3 * t + s)) fxC ht ?_ (by omega) r.2.2.2.2.1.2.1 eL (fun s hs3 => ?_) (fun C' x => hQ C' (r.ol k x))
  · rcases ok.1.2.2.2.2.2.2 with q | q
    · refine .inl ⟨e5.trans q, ?_⟩
      unfold eFz
      exact decide_eq_false (fun z => by rw [q] at z; exact absurd z.1 (by decide))
    · refine .inr ⟨e5.trans q, ?_⟩
      unfold eFz
      rw [q]
      simp
  · obtain ⟨b1, b2⟩ := r.2.2.2.2.2 t s ht hs3
    rw [(eb s hs3).1] at b1
    rw [(eb s hs3).2] at b2
    rw [b1, b2, r.1.2.1]
    have sl := wh.2.2.1 t s ht (by omega)
    have q1 : (∃ x, hR H (ad (101 + 5 * t)) s = some x) ↔ ¬ hI h (ad 57) (5 * t + s) < 0 := by
      rcases sl with ⟨w1, w2⟩ | ⟨q, hq, w1, w2⟩
      · rw [w1, w2]
        exact ⟨fun ⟨x, e⟩ => (by cases e), fun z => absurd (by decide) z⟩
      · rw [w1, w2]
        exact ⟨fun _ => nI_pos (by have := k.2.2.2.1; omega), fun _ => ⟨_, rfl⟩⟩
    have q2 : (¬ 9218868437227405312 < ((hD h (ad 63) (3 * t + s)).toInt64 &&& 9223372036854775807)) ↔ FP.dcmp (hD h (ad 63) (3 * t + s)) (hD h (ad 63) (3 * t + s)) = some .eq := by
      rw [num64]
      have e : (hD h (ad 63) (3 * t + s)).toInt64.toUInt64 = hD h (ad 63) (3 * t + s) := by simp
      rw [e]
      exact ⟨fun z => deq_self z, fun z => (FP.Core.dcmp_eq.mp z).1⟩
    rw [q1, q2]
    show (decide (s < 3) && eSp ad h s0 i t s) = true ↔ _
    rw [decide_eq_true hs3, Bool.true_and]
    unfold eSp
    rw [decide_eq_true_eq]
theorem c_thr (k : KW n np ad sa z0 pa (eKd ad h) H) (ok : eOK n np ad h s0 w) (wh : WH n np ad pa h H w) (hs : s0 + i ≤ 20480) (hk : kk < n) (vi : VI n ad h s0 w i kk S) (r : RV n np ad pa H (s0 + i) (eBk n ad h w i kk) (eEk n ad h w i kk) S C)
    (hQ : ∀ C' f, yO (yTur n ad h s0 w i kk S) = yO S + f → f ≤ 1 → RV n np ad pa H (s0 + i) (eBk n ad h w i (kk + 1)) (eEk n ad h w i (kk + 1)) (yTur n ad h s0 w i kk S) C' → Q (some (.int (nI f))) C') : EV (d + 5) 128 [.ref (ad 4), .int (nI kk), .ref (ad 2)] C Q := by
  have n6 := (fx_k k.1).2
  have fxC := r.1.fx k.1
  have ht : eOr n ad h w kk < n := eOr_lt hk
  have vt := vi.2.1 kk (Nat.le_refl kk) hk
  have ek := wh.1 kk hk
  have eb : ∀ s, s < 3 → eBk n ad h w i kk (3 * eOr n ad h w kk + s) = eB ad h i (3 * eOr n ad h w kk + s) ∧ eEk n ad h w i kk (3 * eOr n ad h w kk + s) = eE ad h i (3 * eOr n ad h w kk + s) := fun s hs3 => eBk_n (by omega) (Nat.le_refl kk) hk hs3
  have eT : yTur n ad h s0 w i kk S = (if yA S (eOr n ad h w kk) = 4 then yuD S 69 (eOr n ad h w kk) (FP.dmul (yD S 69 (eOr n ad h w kk)) 4602678819172646912)
    else y0 ad h (s0 + i) (eOr n ad h w kk) (eVo ad h s0 i (eOr n ad h w kk)) (eWi n ad h w (eVo ad h s0 i (eOr n ad h w kk)) kk (eOr n ad h w kk) S) S) := rfl
  rw [← eBk_s hk, ← eEk_s hk] at hQ
  generalize yTur n ad h s0 w i kk S = Y at *
  have ek : hR C (ad 8) kk = some (ad (100 + 5 * eOr n ad h w kk)) := by rw [r.1.2.1]; exact ek
  have hor : ∀ j, j < n → eOr n ad h w j < n := fun j hj => eOr_lt hj
  have hoe : ∀ j, j < n → hR H (ad 8) j = some (ad (100 + 5 * eOr n ad h w j)) := wh.1
  generalize eo : eOr n ad h w kk = t at *
  have t2 := (fx_tb fxC t ht).2.1
  have e10 := r.2.1.1 t ht
  have rem : ∀ S' C', RV n np ad pa H (s0 + i) (eBk n ad h w i kk) (eEk n ad h w i kk) S' C' → ∀ Q', (∀ C2, RV n np ad pa H (s0 + i) (rmB (eBk n ad h w i kk) (fun e => (hD h (ad 63) e).toInt64) t) (rmE (eBk n ad h w i kk) (eEk n ad h w i kk) t) S' C2 → Q' none C2) → EV (d + 4) 129 [.ref (ad (100 + 5 * t))] C' Q' := fun S' C' r' Q' q => c_rem (d := d + 3) k r' ht (fun s hs3 => wh.2.2.2.1 t s ht hs3) q
  by_cases c4 : yA S t = 4
  · rw [if_pos c4] at eT
    rw [c4] at e10
    have e15 := (r.nu ht).2.2.2.1
    refine w_gt4 (d := d + 4) fxC ht n6 t2 hk ek e10 e15 (nn_vf (isF_nn (nb_slow hs vt.2.2).1)) ?_
    refine rem _ _ (r.d k (r0 := 69) (.inl (by decide)) ht) _ (fun C2 r2 => ?_)
    refine w_gt4r (d := d + 4) (r2.1.fx k.1) ?_
    rw [← eT] at r2
    exact hQ C2 0 (by rw [eT]; rfl) (by decide) r2
  · rw [if_neg c4] at eT
    have hv := eVo_ok (i := i) ok ht
    have s3 : yA S t ≤ 3 := by have := vt.1; omega
    generalize eB1 : rmB (eBk n ad h w i kk) (fun e => (hD h (ad 63) e).toInt64) t = B1 at *
    generalize eE1 : rmE (eBk n ad h w i kk) (eEk n ad h w i kk) t = E1 at *
    -- behind the readings
    have mid : ∀ C1 o4 o5, RV n np ad pa H (s0 + i) B1 E1 (yuD S 72 t (eVo ad h s0 i t)) C1 → WR (d + 4) cd_128 46 [some (.ref (ad 4)), some (.int (nI kk)), some (.ref (ad 2)), some (.ref (ad (100 + 5 * t))), o4, o5] [] C1 Q := by
      intro C1 o4 o5 r1
      have fx1 := r1.1.fx k.1
      have e11 : hL C1 (ad (100 + 5 * t)) 11 = (eVo ad h s0 i t).toInt64 := by
        have q := r1.2.1.2.1 t ht
        rw [yD_D] at q; exact q
      -- behind the wind
      have wnd : ∀ C2 o4 o5, RV n np ad pa H (s0 + i) B1 E1 (yuD (yuD S 72 t (eVo ad h s0 i t)) 73 t (eWi n ad h w (eVo ad h s0 i t) kk t S)) C2 → WR (d + 4) cd_128 76 [some (.ref (ad 4)), some (.int (nI kk)), some (.ref (ad 2)), some (.ref (ad (100 + 5 * t))), o4, o5] [] C2 Q := by
        intro C2 o4 o5 r2
        have wi : bd (eWi n ad h w (eVo ad h s0 i t) kk t S) 1000 := eWi_ok hv
        have fx2 := r2.1.fx k.1
        have bl := eBl_c (v := eVo ad h s0 i t)
        have x11 : hL C2 (ad (100 + 5 * t)) 11 = (eVo ad h s0 i t).toInt64 := by
          have q := r2.2.1.2.1 t ht
          rw [yD_r (by decide), yD_D] at q; exact q
        obtain ⟨x12, -, -, x15, -⟩ := r2.nu ht
        rw [yD_D] at x12
        rw [yD_r (by decide), yD_r (by decide)] at x15
        have x17 : hD C2 (ad (100 + 5 * t)) 17 = hD h (ad 71) t := by
          rw [r2.1.2.2.2.2 _ _ (fun u hu z => absurd z.2.2 (by decide))]; exact (wh.2.1 t ht).2.2.2
        have x10 : hI C2 (ad (100 + 5 * t)) 10 = nI (yA S t) := r2.2.1.1 t ht
        have va := v0_ok (a := gSt (yA S t) (eBl (eVo ad h s0 i t)) (eWi n ad h w (eVo ad h s0 i t) kk t S) (yD S 69 t) (hD h (ad 71) t)) vt hv wi gSt_le
        unfold y0 at eT
        generalize eVo ad h s0 i t = v at *
        generalize eWi n ad h w v kk t S = x at *
        -- behind the change of state
        have chg : ∀ C3 o4 o5, RV n np ad pa H (s0 + i) B1 E1 (yuA (yuD (yuD S 72 t v) 73 t x) t (gSt (yA S t) (eBl v) x (yD S 69 t) (hD h (ad 71) t))) C3 → WR (d + 4) cd_128 80 [some (.ref (ad 4)), some (.int (nI kk)), some (.ref (ad 2)), some (.ref (ad (100 + 5 * t))), o4, o5] [] C3 Q := by
          intro C3 o4 o5 r3
          have g3 : gSt (yA S t) (eBl v) x (yD S 69 t) (hD h (ad 71) t) ≤ 3 := gSt_le
          have es : yA (yuA (yuD (yuD S 72 t v) 73 t x) t (gSt (yA S t) (eBl v) x (yD S 69 t) (hD h (ad 71) t))) t = gSt (yA S t) (eBl v) x (yD S 69 t) (hD h (ad 71) t) := yA_A
          have eO : yO (yuA (yuD (yuD S 72 t v) 73 t x) t (gSt (yA S t) (eBl v) x (yD S 69 t) (hD h (ad 71) t))) = yO S := rfl
          have eK : yK (yuA (yuD (yuD S 72 t v) 73 t x) t (gSt (yA S t) (eBl v) x (yD S 69 t) (hD h (ad 71) t))) = yK S := rfl
          generalize gSt (yA S t) (eBl v) x (yD S 69 t) (hD h (ad 71) t) = s at *
          generalize yuA (yuD (yuD S 72 t v) 73 t x) t s = S3 at *
          have fx3 := r3.1.fx k.1
          have k40 : yK S3 ≤ 40 := by rw [eK]; exact vi.2.2.1
          have e0 := (wh.2.1 t ht).2.2.1
          have s2 : s0 + i ≤ 30000 := by omega
          -- behind the blades, where they turned
          have good : ∀ S4 C4 o5, RV n np ad pa H (s0 + i) B1 E1 S4 C4 → yA S4 t = s → vP ad h (s0 + i) S4 t → Y = y3 ad h (s0 + i) s t (y2 ad h s t S4) → yK S4 ≤ 40 → yO S4 = yO S → WR (d + 4) cd_128 88 [some (.ref (ad 4)), some (.int (nI kk)), some (.ref (ad 2)), some (.ref (ad (100 + 5 * t))), some (.int 3), o5] [.int 0] C4 Q := by
            intro S4 C4 o5 r4 a4 p4 eY k4 o4'
            have fx4 := r4.1.fx k.1
            refine w_gt88 (d := d + 4) fx4 ht n6 (fx_tb fx4 t ht).2.1 (fun z => absurd rfl z) (fun _ => ?_)
            refine c_ro (d := d + 2) k r4 ht a4 g3 hs p4 (wh.2.1 t ht).2.2.2 (fun C5 r5 => ?_)
            have fx5 := r5.1.fx k.1
            refine w_gt99 (d := d + 4) fx5 ht n6 (fx_tb fx5 t ht).2.1 ?_
            obtain ⟨-, -, -, d4, d5⟩ := y2_D (ad := ad) (h := h) (s := s) (t := t) (S := S4)
            have k5 : yK (y2 ad h s t S4) ≤ 40 := y2_on.2 k4
            have o5' : yO (y2 ad h s t S4) = yO S := y2_O.trans o4'
            have a5 : yA (y2 ad h s t S4) t = s := by rw [d5]; exact a4
            have w5 : bd (yD (y2 ad h s t S4) 73 t) 1000 := by rw [d4 73 (by decide) (by decide) (by decide)]; exact p4.1
            generalize y2 ad h s t S4 = S5 at *
            refine c_wb (d := d) k r5 ht a5 g3 w5 (wh.2.2.1 t 4 ht (by decide)) (fun c2 => ?_) (fun c2 R eR C6 r6 => ?_)
            · unfold y3 at eY
              rw [if_neg c2] at eY
              refine w_gt107 (d := d + 4) fx5 ht n6 (fx_tb fx5 t ht).2.1 (fun z => absurd rfl z) (fun _ => ?_)
              exact hQ C5 0 (by rw [eY]; exact o5') (by decide) (by rw [eY]; exact r5)
            · unfold y3 yEnd at eY
              rw [if_pos c2, eR] at eY
              have f6 := yWe_1 (ad := ad) (h := h) (t := t) (sl := 4) (l := FP.d2i (yD S5 73 t)) (S := S5)
              have w2 := yWe_2 (ad := ad) (h := h) (t := t) (sl := 4) (l := FP.d2i (yD S5 73 t)) (S := S5)
              rw [eR] at f6 w2
              have fx6 := r6.1.fx k.1
              have z6 := fI_z f6
              refine w_gt107 (d := d + 4) (f := fI R.1) fx6 ht n6 (fx_tb fx6 t ht).2.1 (fun z => ?_) (fun z => ?_)
              · have ne : R.1 ≠ 0 := fun q => z (z6.1.mpr q)
                rw [if_neg ne] at eY
                refine c_fl (d := d + 3) (sl := 4) (f := R.1) k r6 ht e0 (by rw [w2.2.2.1]; exact k5) s2 (.inr rfl) (z6.2 ne) (fun C7 r7 => ?_)
                rw [← eY] at r7
                refine hQ C7 1 ?_ (by decide) r7
                rw [eY]
                show yO R.2 + 1 = _
                rw [w2.2.2.2, o5']
              · have e : R.1 = 0 := z6.1.mp z
                rw [if_pos e] at eY
                exact hQ C6 0 (by rw [eY]; exact (w2.2.2.2).trans o5') (by decide) (by rw [eY]; exact r6)
          refine w_gt80 (d := d + 4) fx3 ht n6 (fx_tb fx3 t ht).2.1 ?_
          unfold y1 at eT
          refine c_tb (d := d) k r3 ht es g3 hs va (wh.2.2.1 t 3 ht (by decide)) (fun c => ?_) (fun c R eR z C4 r4 => ?_) (fun c R eR z C4 r4 => ?_)
          · rw [if_pos c] at eT
            exact good S3 C3 _ r3 es va.p eT k40 eO
          · rw [if_neg c, eR] at eT
            unfold yEnd at eT
            rw [if_pos z] at eT
            obtain ⟨w1, w2, w3, w4⟩ := yWe_2 (ad := ad) (h := h) (t := t) (sl := 3) (l := FP.d2i (gAb (gBy s (yD S3 67 t) (yD S3 69 t)))) (S := S3)
            rw [eR] at w1 w2 w3 w4
            obtain ⟨h1, h2, h3, ⟨h4, h5⟩, h6, h7⟩ := NB_bd.mp va.2.2
            have bb := (by_ok (r := s) hs h4 h2).2
            refine good _ C4 _ r4 ?_ ?_ eT ?_ ?_
            · show yA R.2 t = s
              rw [w1]; exact es
            · unfold vP
              rw [yD_D, yD_r (by decide), yD_r (by decide), yD_r (by decide), yD_r (by decide), w2]
              exact ⟨h1, p_ok hs h2 bb, h3, ⟨h4, h5⟩, h6, h7⟩
            · show yK R.2 ≤ 40
              rw [w3]; exact k40
            · show yO R.2 = _
              rw [w4]; exact eO
          · rw [if_neg c, eR] at eT
            unfold yEnd at eT
            rw [if_neg z] at eT
            have f6 := yWe_1 (ad := ad) (h := h) (t := t) (sl := 3) (l := FP.d2i (gAb (gBy s (yD S3 67 t) (yD S3 69 t)))) (S := S3)
            obtain ⟨w1, w2, w3, w4⟩ := yWe_2 (ad := ad) (h := h) (t := t) (sl := 3) (l := FP.d2i (gAb (gBy s (yD S3 67 t) (yD S3 69 t)))) (S := S3)
            rw [eR] at f6 w1 w2 w3 w4
            have z6 := fI_z f6
            have fx4 := r4.1.fx k.1
            refine w_gt88 (d := d + 4) (f := fI R.1) fx4 ht n6 (fx_tb fx4 t ht).2.1 (fun _ => ?_) (fun q => absurd (z6.1.mp q) z)
            refine c_fl (d := d + 3) (sl := 3) (f := R.1) k r4 ht e0 (by rw [w3]; exact k40) s2 (.inl rfl) (z6.2 z) (fun C7 r7 => ?_)
            rw [← eT] at r7
            refine hQ C7 1 ?_ (by decide) r7
            rw [eT]
            show yO R.2 + 1 = _
            rw [w4, eO]
        refine w_gt76 (d := d + 4) fx2 ht n6 (fx_tb fx2 t ht).2.1 ?_
        have c : yA S t = 0 ∨ yA S t = 1 ∨ yA S t = 2 ∨ yA S t = 3 := by omega
        rcases c with q | q | q | q
        · rw [q] at chg x10
          exact c_st0 (d := d + 2) fx2 ht bl x10 x11 x12 x15 x17 (fun C3 y => chg C3 _ _ (r2.sta k ht y))
        · rw [q] at chg x10
          exact c_st1 (d := d + 2) fx2 ht bl x10 x11 x12 x15 x17 (fun C3 y => chg C3 _ _ (r2.sta k ht y))
        · rw [q] at chg x10
          exact c_st2 (d := d + 2) fx2 ht bl x10 x11 x12 x15 x17 (fun C3 y => chg C3 _ _ (r2.sta k ht y))
        · rw [q] at chg x10
          exact c_st3 (d := d + 2) fx2 ht bl x10 x11 x12 x15 x17 (fun C3 y => chg C3 _ _ (r2.sta k ht y))
      have ebl : eBl (eVo ad h s0 i t) = true ↔ (eVo ad h s0 i t).toInt64 = 9221120237041090560 := eBl_c
      refine w_gt46 fx1 ht n6 (fx_tb fx1 t ht).2.1 e11 (fun c => ?_) (fun c => ?_)
      · have nb : ¬ eBl (eVo ad h s0 i t) = true := fun z => c (ebl.mp z)
        have fv : bd (eVo ad h s0 i t) 1000 := by
          rcases hv with q | q
          · exact absurd (by rw [q]; rfl) c
          · exact q
        have eu : (eVo ad h s0 i t).toInt64.toUInt64 = eVo ad h s0 i t := by simp
        have ew : eWi n ad h w (eVo ad h s0 i t) kk t S = FP.dmul (eVo ad h s0 i t) (FP.dsub 4607182418800017408 (wkV (wkS (eLn n ad h w) (eCr ad h w) (fun u => nI (yA S u)) (eOr n ad h w) t kk))) := if_neg nb
        refine c_valueOf (by rw [eu]; exact isF_nn fv.1) ?_
        rw [eu]
        refine w_gt65 fx1 ht n6 (fx_tb fx1 t ht).2.1 ?_
        refine c_wake (o := eOr n ad h w) (L := eLn n ad h w) (C := eCr ad h w) (st := fun u => nI (yA S u)) fx1 hk ht hor (fun j hj => by rw [r1.1.2.1]; exact hoe j hj) eo (fun u hu => ?_) (fun u hu => ?_) (fun u hu => r1.2.1.1 u hu) (eHp ok t) ?_
        · rw [r1.1.2.2.1 _ _ (fcI_ad k.1 (by omega) (.inr (by decide)))]; exact (wh.2.1 u hu).1
        · rw [r1.1.2.2.1 _ _ (fcI_ad k.1 (by omega) (.inr (by decide)))]; exact (wh.2.1 u hu).2.1
        · refine w_gt71 fx1 ht n6 (fx_tb fx1 t ht).2.1 (nn_vf (isF_nn wk_bd.1)) (nn_vf (isF_nn (fv.mul wk_bd (rep_lt (M := 1000) (by decide)) (by decide)).1)) (wnd _ _ _ ?_)
          rw [ew]
          exact r1.d k (r0 := 73) (.inr rfl) ht
      · have ew : eWi n ad h w (eVo ad h s0 i t) kk t S = 0 := if_pos (ebl.mpr c)
        refine wnd _ _ _ ?_
        rw [ew]
        exact r1.d k (r0 := 73) (.inr rfl) ht
    have start : EV (d + 4) 130 [.ref (ad 4), .ref (ad (100 + 5 * t))] C (fun v_ h_ => WR (d + 4) cd_128 39 [some (.ref (ad 4)), some (.int (nI kk)), some (.ref (ad 2)), some (.ref (ad (100 + 5 * t))), none, none] (v_.toList ++ [.ref (ad (100 + 5 * t))]) h_ Q) := by
      refine c_vt (d := d + 1) (st := s0 + i) k ok wh hs ht r eb (fun C1 r1 => ?_)
      have fx1 := r1.1.fx k.1
      refine w_gt39 (d := d + 4) fx1 ht n6 (fx_tb fx1 t ht).2.1 ?_
      refine rem _ _ (r1.v k ht) _ (fun C2 r2 => mid C2 _ _ r2)
    have c : yA S t = 0 ∨ yA S t = 1 ∨ yA S t = 2 ∨ yA S t = 3 := by omega
    rcases c with q | q | q | q
    · rw [q] at e10; exact w_gt0 (d := d + 4) fxC ht n6 t2 hk ek e10 start
    · rw [q] at e10; exact w_gt1 (d := d + 4) fxC ht n6 t2 hk ek e10 start
    · rw [q] at e10; exact w_gt2 (d := d + 4) fxC ht n6 t2 hk ek e10 start
    · rw [q] at e10; exact w_gt3 (d := d + 4) fxC ht n6 t2 hk ek e10 start
end TH

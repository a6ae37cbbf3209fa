/-! ===== what an act gives back: both sides ===== -/
def lsN (f : Nat → Int32) : Nat → Nat → Int32
  | 0, _ => -1
  | k + 1, c => if f c = -1 then nI c else lsN f k (c + 1)
def gC (S : aS) (i : Nat) : Int32 := if S.2.1 31 (S.2.1 55 i).toNatClampNeg = -1 then S.2.1 55 i else lsN (S.2.1 31) 24 0
def gBk : Nat → aS → Nat → aS × Nat
  | 0, S, g => (S, g)
  | i + 1, S, g => if gC S i = -1 then gBk i S g else gBk i (uI S 31 (gC S i).toNatClampNeg (S.2.1 54 i)) (g + 1)
def li (i : Nat) : Int32 := if i = 0 then -1 else nI (i - 1)
theorem lsN_ok (f : Nat → Int32) : ∀ k c, lsN f k c = -1 ∨ ∃ j, j < c + k ∧ lsN f k c = nI j := by
  intro k
  induction k with
  | zero => intro c; exact .inl rfl
  | succ k ih =>
    intro c
    unfold lsN
    split
    · exact .inr ⟨c, by omega, rfl⟩
    · rcases ih (c + 1) with e | ⟨j, hj, e⟩
      · exact .inl e
      · exact .inr ⟨j, by omega, e⟩
section BK
variable {n np : Nat} {ad sa : Nat → Nat} {z0 : Nat} {mid pa : Nat → Nat} {LV : Nat → Prop} {P : aP} {h hc G : mH} {S : aS} {Q : mQ} {d : Nat}
theorem gC_ok (v : VS n np LV 0 S) {i : Nat} (hi : i < S.1 0) : gC S i = -1 ∨ ∃ j, j < 24 ∧ gC S i = nI j := by
  unfold gC
  split
  · obtain ⟨o, ho, e⟩ := (v.2.2.2.2.2.1 i hi).2
    exact .inr ⟨o, ho, e⟩
  · rcases lsN_ok (S.2.1 31) 24 0 with e | ⟨j, hj, e⟩
    · exact .inl e
    · exact .inr ⟨j, by omega, e⟩
theorem c_least {f : Nat → Int32} (fx : FX n ad sa z0 hc) (ef : ∀ c, c < 24 → vR np mid pa LV (f c) (hR hc (ad 1) c)) (hp : np ≤ 60) (hQ : Q (some (.int (lsN f 24 0))) hc) : EV (d + 1) 118 [.ref (ad 1)] hc Q := by
  have lp : ∀ k c, c + k = 24 → Q (some (.int (lsN f k c))) hc → WR d cd_118 2 [some (.ref (ad 1)), some (.int (nI c))] [] hc Q := by
    intro k
    induction k with
    | zero =>
      intro c hc' q
      obtain rfl : c = 24 := by omega
      exact w_lee fx q
    | succ k ih =>
      intro c hc' q
      unfold lsN at q
      by_cases e : f c = -1
      · rw [if_pos e] at q
        exact w_len fx (by omega) (vR.zz hp (ef c (by omega)) e) q
      · rw [if_neg e] at q
        obtain ⟨y, ey⟩ := (ef c (by omega)).nn e
        exact w_les fx (by omega) ey (ih (c + 1) (by omega) q)
  exact w_le0 fx (lp 24 0 rfl hQ)
theorem m_least {f : Nat → Int32} (fx : FX n ad sa z0 G) (ef : ∀ c, c < 24 → hI G (ad 31) c = f c) (hQ : Q (some (.int (lsN f 24 0))) G) : EV (d + 1) 222 [.ref (ad 30)] G Q := by
  have lp : ∀ k c, c + k = 24 → Q (some (.int (lsN f k c))) G → WR d cd_222 2 [some (.ref (ad 30)), some (.int (nI c))] [] G Q := by
    intro k
    induction k with
    | zero =>
      intro c hc' q
      obtain rfl : c = 24 := by omega
      exact w_mle fx q
    | succ k ih =>
      intro c hc' q
      unfold lsN at q
      refine w_mls fx (by omega) (ef c (by omega)) (fun e => ?_) (fun e => ?_)
      · rw [if_pos e] at q; exact q
      · rw [if_neg e] at q; exact ih (c + 1) (by omega) q
  exact w_ml0 fx (lp 24 0 rfl hQ)
theorem VS.bk {i c : Nat} (v : VS n np LV 0 S) (hi : i < S.1 0) : VS n np LV 0 (uI S 31 c (S.2.1 54 i)) := v.cas (.inr (v.2.2.2.2.2.1 i hi).1)
theorem li_s {i : Nat} : li (i + 1) = nI i := by unfold li; rw [if_neg (by omega)]; rfl
/-- the class gives back -/
theorem c_gb (fx : FX n ad sa z0 h) (cw : CW np ad mid pa LV P h sa z0) (vp : VP n np LV P) : ∀ i hc S g o4, RC n np ad mid pa LV P h hc 0 S → VS n np LV 0 S → i ≤ S.1 0 → g + i ≤ 100 → (∀ hc', RC n np ad mid pa LV P h hc' 0 (gBk i S g).1 → hI hc' (ad 9) = hI hc (ad 9) → Q (some (.int (nI (gBk i S g).2))) (sI hc' (ad 13) 2 0)) →
    WR (d + 1) cd_117 9 [some (.ref (ad 13)), some (.ref (ad 1)), some (.int (nI g)), some (.int (li i)), o4] [] hc Q := by
  intro i
  induction i with
  | zero =>
    intro hc S g o4 r v hi hg hQ
    exact w_gbe (r.1.fx fx) (hQ hc r rfl)
  | succ i ih =>
    intro hc S g o4 r v hi hg hQ
    have v1 := v.1
    have v2 := v.2.1
    have fxc := r.1.fx fx
    unfold gBk at hQ
    obtain ⟨o, ho, eo⟩ := (v.2.2.2.2.2.1 i (by omega)).2
    have t1 := (r.2.1.2.2.1 i (by omega)).trans eo
    have top := r.2.2.1.2.1 i (by omega)
    have tn : S.2.1 54 i ≠ -1 := by
      rcases (v.2.2.2.2.2.1 i (by omega)).1 with ⟨q, hq, e⟩ | ⟨t, ht, -, e⟩ <;> have := vp.1 <;> rw [e] <;> exact nI_nm1 (by omega)
    obtain ⟨x, ex⟩ := top.nn tn
    rw [ex] at top
    -- behind the choice
    have go : ∀ o4, WR (d + 1) cd_117 37 [some (.ref (ad 13)), some (.ref (ad 1)), some (.int (nI g)), some (.int (nI i)), o4] [.int (gC S i)] hc Q := by
      intro o4
      rcases gC_ok v (i := i) (by omega) with e | ⟨c, hc24, e⟩
      · rw [if_pos e] at hQ
        rw [e]
        cases i with
        | zero => exact w_gbmz fxc (by omega) (ih hc S g _ r v (by omega) (by omega) hQ)
        | succ i => exact w_gbms fxc (by omega) (by omega) (by omega) (by have := ih hc S g (some (.int (-1))) r v (by omega) (by omega) hQ; rw [li_s] at this; exact this)
      · have ne : ¬ gC S i = -1 := by rw [e]; exact nI_nm1 (by omega)
        have ec : (gC S i).toNatClampNeg = c := by rw [e]; exact nI_clamp (by omega)
        rw [if_neg ne, ec] at hQ
        rw [e]
        have r' := RC.cas (a := c) fx r top
        have k := ih (sR hc (ad 1) c (some x)) (uI S 31 c (S.2.1 54 i)) (g + 1) (some (.int (nI c))) r' (v.bk (by omega)) (by show i ≤ S.1 0; omega) (by omega) hQ
        cases i with
        | zero => exact w_gbpz fxc (by omega) hc24 (r.okE vp.1 fx cw top).1 ex k
        | succ i => rw [li_s] at k; exact w_gbps fxc (by omega) (by omega) (by omega) hc24 (r.okE vp.1 fx cw top).1 ex k
    have cs := r.2.2.1.1 o ho
    have co : (S.2.1 55 i).toNatClampNeg = o := by rw [eo]; exact nI_clamp (by omega)
    rw [li_s]
    by_cases e : S.2.1 31 o = -1
    · have eg : gC S i = nI o := by unfold gC; rw [co, if_pos e]; exact eo
      rw [eg] at go
      cases i with
      | zero => exact w_gbnz fxc (by omega) ho t1 (vR.zz vp.1 cs e) (go _)
      | succ i => exact w_gbns fxc (by omega) (by omega) (by omega) ho t1 (vR.zz vp.1 cs e) (go _)
    · have eg : gC S i = lsN (S.2.1 31) 24 0 := by unfold gC; rw [co, if_neg e]
      rw [eg] at go
      obtain ⟨y, ey⟩ := cs.nn e
      have cl : ∀ o4, EV (d + 1) 118 [.ref (ad 1)] hc (fun v_ h_ => WR (d + 1) cd_117 37 [some (.ref (ad 13)), some (.ref (ad 1)), some (.int (nI g)), some (.int (nI i)), o4] (v_.toList ++ []) h_ Q) := fun o4 => c_least fxc r.2.2.1.1 vp.1 (go o4)
      cases i with
      | zero => exact w_gboz fxc (by omega) ho t1 ey (cl _)
      | succ i => exact w_gbos fxc (by omega) (by omega) (by omega) ho t1 ey (cl _)
/-- only the cases and the count of what went back -/
def CHb : (Nat → Nat) → mH → mH → Prop := CHx (fun i => i = 31) (fun j => j = 43)
theorem RM.g43 {v : Int32} (fx : FX n ad sa z0 G) (r : RM ad G S) : RM ad (sI G (ad 30) 43 v) S := r.sc fx (fun _ _ _ => trivial) rfl (fun _ _ _ => rfl) rfl rfl rfl rfl rfl rfl
theorem m_gb : ∀ i G S g o2, FX n ad sa z0 G → RM ad G S → VS n np LV 0 S → i ≤ S.1 0 → g + i ≤ 100 → hI G (ad 30) 43 = nI g → (∀ G', CHb ad G G' → RM ad G' (gBk i S g).1 → hI G' (ad 30) 43 = nI (gBk i S g).2 → Q none (sI G' (ad 30) 37 0)) →
    WR (d + 1) cd_221 7 [some (.ref (ad 30)), some (.int (li i)), o2] [] G Q := by
  intro i
  induction i with
  | zero =>
    intro G S g o2 fx r v hi hg e43 hQ
    exact w_mge fx (hQ G CHx.rf r e43)
  | succ i ih =>
    intro G S g o2 fx r v hi hg e43 hQ
    have v1 := v.1
    have v2 := v.2.1
    unfold gBk at hQ
    obtain ⟨o, ho, eo⟩ := (v.2.2.2.2.2.1 i (by omega)).2
    have t1 := (r.r5 (i := 55) (by decide) (by decide) i).trans eo
    have go : ∀ o2, WR (d + 1) cd_221 39 [some (.ref (ad 30)), some (.int (nI i)), o2] [.int (gC S i)] G Q := by
      intro o2
      rcases gC_ok v (i := i) (by omega) with e | ⟨c, hc24, e⟩
      · rw [if_pos e] at hQ
        rw [e]
        cases i with
        | zero => exact w_mgmz fx (ih G S g _ fx r v (by omega) (by omega) e43 hQ)
        | succ i => exact w_mgms fx (by omega) (by omega) (by have := ih G S g (some (.int (-1))) fx r v (by omega) (by omega) e43 hQ; rw [li_s] at this; exact this)
      · have ne : ¬ gC S i = -1 := by rw [e]; exact nI_nm1 (by omega)
        have ec : (gC S i).toNatClampNeg = c := by rw [e]; exact nI_clamp (by omega)
        rw [if_neg ne, ec] at hQ
        rw [e]
        have e54 := r.r5 (i := 54) (by decide) (by decide) i
        have r' : RM ad (sI (sI G (ad 31) c (hI G (ad 54) i)) (ad 30) 43 (nI (g + 1))) (uI S 31 c (S.2.1 54 i)) := by
          rw [e54]; exact RM.g43 (FX.sI fx) (r.i fx (.inl rfl))
        have c' : CHb ad G (sI (sI G (ad 31) c (hI G (ad 54) i)) (ad 30) 43 (nI (g + 1))) := CHx.f (CHx.i CHx.rf rfl) rfl
        have k := ih _ (uI S 31 c (S.2.1 54 i)) (g + 1) (some (.int (nI c))) (FX.sI (FX.sI fx)) r' (v.bk (by omega)) (by show i ≤ S.1 0; omega) (by omega) I_eq (fun G' c2 r2 e2 => hQ G' (CHx.tr c' c2) r2 e2)
        cases i with
        | zero => exact w_mgpz fx hc24 (by omega) e43 k
        | succ i => rw [li_s] at k; exact w_mgps fx (by omega) (by omega) hc24 (by omega) e43 k
    have co : (S.2.1 55 i).toNatClampNeg = o := by rw [eo]; exact nI_clamp (by omega)
    rw [li_s]
    have e1 : S.2.1 31 o = -1 → gC S i = nI o := fun e => by unfold gC; rw [co, if_pos e]; exact eo
    have e2 : ¬ S.2.1 31 o = -1 → gC S i = lsN (S.2.1 31) 24 0 := fun e => by unfold gC; rw [co, if_neg e]
    have kn : ∀ o2, S.2.1 31 o = -1 → WR (d + 1) cd_221 39 [some (.ref (ad 30)), some (.int (nI i)), o2] [.int (nI o)] G Q := fun o2 e => by have := go o2; rw [e1 e] at this; exact this
    have kl : ∀ o2, ¬ S.2.1 31 o = -1 → EV (d + 1) 222 [.ref (ad 30)] G (fun v_ h_ => WR (d + 1) cd_221 39 [some (.ref (ad 30)), some (.int (nI i)), o2] (v_.toList ++ []) h_ Q) := fun o2 e => m_least fx (fun c _ => r.r31 c) (by have := go o2; rw [e2 e] at this; exact this)
    cases i with
    | zero => exact w_mgiz fx ho t1 (r.r31 o) (kl _) (kn _)
    | succ i => exact w_mgis fx (by omega) (by omega) ho t1 (r.r31 o) (kl _) (kn _)
end BK

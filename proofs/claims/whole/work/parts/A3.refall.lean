/-! ===== the reference's plans, all of them ===== -/
theorem nf {f : Nat} (h9 : f ≤ 9) : -10 - nI f < 0 ∧ (-10 - nI f = -19 ↔ f = 9) ∧ -10 - (-10 - nI f) = nI f ∧ -10 - nI f ≠ 0 ∧ -10 - nI f ≠ 1 := by
  have q : f = 0 ∨ f = 1 ∨ f = 2 ∨ f = 3 ∨ f = 4 ∨ f = 5 ∨ f = 6 ∨ f = 7 ∨ f = 8 ∨ f = 9 := by omega
  rcases q with rfl | rfl | rfl | rfl | rfl | rfl | rfl | rfl | rfl | rfl <;> decide
theorem nf_inj {f g : Nat} (h9 : f ≤ 9) (g9 : g ≤ 9) : (-10 - nI f = -10 - nI g) ↔ nI g = nI f := by
  refine ⟨fun e => ?_, fun e => by rw [e]⟩
  have := congrArg (fun x => -10 - x) e
  simp only [(nf h9).2.2.1, (nf g9).2.2.1] at this
  exact this.symm
/-- a step has been done -/
def AFT (ad : Nat → Nat) (k p i : Nat) (o val : Int32) (S : aS) (G : mH) : Prop := RM ad G S ∧ hI G (ad 30) 47 = 0 ∧ ((o = 0 ∧ LPt ad k p (i + 1) G ∧ hI G (ad 30) 29 = 0) ∨ (o ≠ 0 ∧ hI G (ad 30) 23 = nI (k + 1) ∧ WVt ad o val G))
section RN2
variable {n np : Nat} {ad sa : Nat → Nat} {z0 : Nat} {LV : Nat → Prop} {P : aP} {G G' G2 : mH} {S : aS} {Q : mQ} {pl : Int32}
theorem LPt.f {k p i f : Nat} {v : Int32} (fx : FX n ad sa z0 G) (l : LPt ad k p i G) (h : 23 ≠ f) : LPt ad k p i (sI G (ad 30) f v) := ⟨(I_nk h).trans l.1, (I_ne (fx_ne fx (by decide))).trans l.2.1, (I_ne (fx_ne fx (by decide))).trans l.2.2⟩
theorem LPt.a {k p i j f : Nat} {v : Int32} (fx : FX n ad sa z0 G) (l : LPt ad k p i G) (h0 : 30 ≠ j) (h1 : 48 ≠ j) (h2 : 49 ≠ j) : LPt ad k p i (sI G (ad j) f v) := ⟨(I_ne (fx_ne fx h0)).trans l.1, (I_ne (fx_ne fx h1)).trans l.2.1, (I_ne (fx_ne fx h2)).trans l.2.2⟩
theorem WVt.f {o val : Int32} {f : Nat} {v : Int32} (w : WVt ad o val G) (h1 : 29 ≠ f) (h2 : 30 ≠ f) : WVt ad o val (sI G (ad 30) f v) := by
  unfold WVt at w ⊢
  rw [I_nk h1, I_nk h2]
  exact w
theorem WVt.s {o val x : Int32} (e : hI G (ad 30) 29 = x) (w : WVt ad o val G) : WVt ad o val (sI G (ad 30) 29 x) := by
  unfold WVt at w ⊢
  rw [I_eq, I_nk (by decide), ← e]
  exact w
/-- what m_sub's ways out need -/
theorem m_k132 (fx : FX n ad sa z0 G) (L : LOP ad pl Q G) (o1 o2 o3 o4 o5 : Option Value) : WR 98 cd_215 156 [some (.ref (ad 30)), o1, o2, o3, o4, o5] ((none : Option Value).toList ++ []) G (fun v_ h_ => WR 99 cd_209 132 [some (.ref (ad 30)), some (.int pl)] (v_.toList ++ []) h_ Q) := w_gsr fx o1 o2 o3 o4 o5 (w_lr132 fx L)
theorem m_k127 (fx : FX n ad sa z0 G) (L : LOP ad pl Q G) (o1 o2 o3 o4 o5 : Option Value) : WR 98 cd_215 127 [some (.ref (ad 30)), o1, o2, o3, o4, o5] ((none : Option Value).toList ++ []) G (fun v_ h_ => WR 99 cd_209 132 [some (.ref (ad 30)), some (.int pl)] (v_.toList ++ []) h_ Q) := w_gsr10 fx o1 o2 o3 o4 o5 (w_lr132 fx L)
theorem m_k199 (fx : FX n ad sa z0 G) (L : LOP ad pl Q G) (o1 o2 o3 o4 : Option Value) : WR 98 cd_213 199 [some (.ref (ad 30)), o1, o2, o3, o4] ((none : Option Value).toList ++ []) G (fun v_ h_ => WR 99 cd_209 89 [some (.ref (ad 30)), some (.int pl)] (v_.toList ++ []) h_ Q) := w_br199 fx o1 o2 o3 o4 (w_lr89 fx L)
theorem m_k254 (fx : FX n ad sa z0 G) (L : LOP ad pl Q G) (o1 o2 o3 o4 : Option Value) : WR 98 cd_213 254 [some (.ref (ad 30)), o1, o2, o3, o4] ((none : Option Value).toList ++ []) G (fun v_ h_ => WR 99 cd_209 89 [some (.ref (ad 30)), some (.int pl)] (v_.toList ++ []) h_ Q) := w_br254 fx o1 o2 o3 o4 (w_lr89 fx L)
section ST
variable {m k p i : Nat}
/-- what is behind a plan has been looked at: nothing more to do -/
theorem m_b0 {o val : Int32} (fx : FX n ad sa z0 G) (r : RM ad G S) (l : LPt ad k p (i + 1) G) (eo : o = 0) (hQ : ∀ G', CH ad G G' → KF ad k G G' → AFT ad k p i o val S G' → LOP ad pl Q G') : WR 99 cd_209 89 [some (.ref (ad 30)), some (.int pl)] ((none : Option Value).toList ++ []) (sI (sI G (ad 30) 47 0) (ad 30) 29 0) (Q) :=
  w_lr89 (FX.sI (FX.sI fx)) (hQ _ (CH.f (CH.f CHx.rf (.inr (.inr (.inr rfl)))) (.inr (.inl rfl))) (KF.f fx (KF.f fx KF.rf)) ⟨RM.cf (FX.sI fx) (r.cf fx (.inr (.inr (.inr rfl)))) (.inr (.inl rfl)), by rw [I_nk (by decide), I_eq], .inl ⟨eo, LPt.f (FX.sI fx) (l.f fx (by decide)) (by decide), I_eq⟩⟩)
theorem m_bw {o val x : Int32} (fx : FX n ad sa z0 G) (r : RM ad G S) (l : LPt ad k p (i + 1) G) (eo : o ≠ 0) (ew : hI G (ad 30) 29 = x) (wv : WVt ad o val G) (hQ : ∀ G', CH ad G G' → KF ad k G G' → AFT ad k p i o val S G' → LOP ad pl Q G') : WR 99 cd_209 89 [some (.ref (ad 30)), some (.int pl)] ((none : Option Value).toList ++ []) (sI (sI G (ad 30) 47 0) (ad 30) 29 x) (Q) :=
  w_lr89 (FX.sI (FX.sI fx)) (hQ _ (CH.f (CH.f CHx.rf (.inr (.inr (.inr rfl)))) (.inr (.inl rfl))) (KF.f fx (KF.f fx KF.rf)) ⟨RM.cf (FX.sI fx) (r.cf fx (.inr (.inr (.inr rfl)))) (.inr (.inl rfl)), by rw [I_nk (by decide), I_eq], .inr ⟨eo, by rw [I_nk (by decide), I_nk (by decide)]; exact l.1, WVt.s (by rw [I_nk (by decide)]; exact ew) (wv.f (by decide) (by decide))⟩⟩)
/-- by 20: what the rescue did stands -/
theorem m_20 {o val : Int32} (fx : FX n ad sa z0 G) (k8 : k < 8) (p10 : p < 10) (i16 : i < 16) (r : RM ad G S) (l : LPt ad k p (i + 1) G) (t1 : hI G (ad 30) 47 = 1) (tb : hI G (ad 50) k = 20) (wv : WVt ad o val G) (hQ : ∀ G', CH ad G G' → KF ad k G G' → AFT ad k p i o val S G' → LOP ad pl Q G') : LOP ad pl Q G := by
  refine w_lpb fx k8 l.1 t1 ?_
  have wv0 := wv
  rcases wv with ⟨eo, w⟩ | ⟨eo, w, -⟩ | ⟨f, f1, f9, eo, w, -⟩
  · exact w_b20_1 (d := 97) fx k8 p10 i16 l.1 l.2.1 l.2.2 rfl rfl tb w (m_b0 fx r l eo hQ)
  · exact w_b20_2 (d := 97) fx k8 p10 i16 l.1 l.2.1 l.2.2 rfl rfl tb w (m_bw fx r l (by rw [eo]; decide) w wv0 hQ)
  · exact w_b20_3 (d := 97) fx k8 p10 i16 l.1 l.2.1 l.2.2 rfl rfl tb w (m_bw fx r l (by rw [eo]; exact (nf f9).2.2.2.1) w wv0 hQ)
/-- where a plan is asked for, ready -/
theorem m_7 {rr : aR} (fx : FX n ad sa z0 G) (k8 : k < 8) (p10 : p < 10) (i16 : i < 16) (r : RM ad G rr.2.2) (l : LPt ad k p (i + 1) G) (t1 : hI G (ad 30) 47 = 1) (tb : hI G (ad 50) k = 7) (wv : WVt ad rr.1 rr.2.1 G)
    (hQ : ∀ G', CH ad G G' → KF ad k G G' → AFT ad k p i (if rr.1 = 1 then (0, 0, uI rr.2.2 33 0 rr.2.1) else rr).1 (if rr.1 = 1 then (0, 0, uI rr.2.2 33 0 rr.2.1) else rr).2.1 (if rr.1 = 1 then (0, 0, uI rr.2.2 33 0 rr.2.1) else rr : aR).2.2 G' → LOP ad pl Q G') : LOP ad pl Q G := by
  refine w_lpb fx k8 l.1 t1 ?_
  have wv0 := wv
  rcases wv with ⟨eo, w⟩ | ⟨eo, w, e2⟩ | ⟨f, f1, f9, eo, w, -⟩
  · rw [if_neg (by rw [eo]; decide)] at hQ
    exact w_b7_1 (d := 97) fx k8 p10 i16 l.1 l.2.1 l.2.2 rfl rfl tb w rfl (m_b0 fx r l eo hQ)
  · rw [if_pos eo] at hQ
    refine w_b7_2 (d := 97) fx k8 p10 i16 l.1 l.2.1 l.2.2 rfl rfl tb w e2 (w_lr89 (FX.sI (FX.sI (FX.sI (FX.sI fx)))) (hQ _ (CH.f (CH.f (CH.a (CH.f CHx.rf (.inr (.inr (.inr rfl)))) (.inl ⟨by decide, by decide⟩)) (.inr (.inl rfl))) (.inr (.inl rfl))) (KF.f fx (KF.f fx (KF.f fx (KF.f fx KF.rf)))) ⟨RM.cf (FX.sI (FX.sI (FX.sI fx))) (RM.cf (FX.sI (FX.sI fx)) (RM.v33 (FX.sI fx) (r.cf fx (.inr (.inr (.inr rfl))))) (.inr (.inl rfl))) (.inr (.inl rfl)), ?_, .inl ⟨rfl, ?_, I_eq⟩⟩))
    · rw [I_nk (by decide), I_nk (by decide), I_nk (by decide), I_eq]
    · exact LPt.f (FX.sI (FX.sI (FX.sI fx))) (LPt.f (FX.sI (FX.sI fx)) (LPt.f (FX.sI fx) (l.f fx (by decide)) (by decide)) (by decide)) (by decide)
  · rw [if_neg (by rw [eo]; exact (nf f9).2.2.2.2)] at hQ
    exact w_b7_3 (d := 97) fx k8 p10 i16 l.1 l.2.1 l.2.2 rfl rfl tb w rfl (m_bw fx r l (by rw [eo]; exact (nf f9).2.2.2.1) w wv0 hQ)
/-- a plan that must be done whatever comes -/
theorem m_21 {rr qq : aR} (fx : FX n ad sa z0 G) (k8 : k < 8) (p10 : p < 10) (i16 : i < 16) (r : RM ad G qq.2.2) (l : LPt ad k p (i + 1) G) (t1 : hI G (ad 30) 47 = 1) (tb : hI G (ad 50) k = 21) (wv : WVt ad qq.1 qq.2.1 G) (hr : ¬ rr.1 = -19)
    (hk : (rr.1 = 0 ∧ hI G (ad 51) k = 1) ∨ (rr.1 = 1 ∧ hI G (ad 51) k = 2 ∧ hI G (ad 52) k = rr.2.1) ∨ ∃ f, 1 ≤ f ∧ f ≤ 9 ∧ rr.1 = -10 - nI f ∧ hI G (ad 51) k = 3 ∧ hI G (ad 52) k = nI f)
    (hQ : ∀ G', CH ad G G' → KF ad k G G' → AFT ad k p i (fin9 rr qq).1 (fin9 rr qq).2.1 (fin9 rr qq).2.2 G' → LOP ad pl Q G') : LOP ad pl Q G := by
  refine w_lpb fx k8 l.1 t1 ?_
  have wv0 := wv
  -- the second plan's own end stands
  have own : ∀ (no : ¬ qq.1 = 0), (hI G (ad 51) k = 3 → WR 99 cd_209 89 [some (.ref (ad 30)), some (.int pl)] ((none : Option Value).toList ++ []) (sI (sI G (ad 30) 47 0) (ad 30) 34 (hI G (ad 52) k)) Q) ∧ (¬ hI G (ad 51) k = 3 → WR 99 cd_209 89 [some (.ref (ad 30)), some (.int pl)] ((none : Option Value).toList ++ []) (sI G (ad 30) 47 0) Q) := by
    intro no
    refine ⟨fun e3 => ?_, fun e3 => ?_⟩
    · have h3 : ∃ f, 1 ≤ f ∧ f ≤ 9 ∧ rr.1 = -10 - nI f ∧ hI G (ad 51) k = 3 ∧ hI G (ad 52) k = nI f := by
        rcases hk with ⟨-, e⟩ | ⟨-, e, -⟩ | h
        · rw [e] at e3; exact absurd e3 (by decide)
        · rw [e] at e3; exact absurd e3 (by decide)
        · exact h
      obtain ⟨f, f1, f9, eo, -, ef⟩ := h3
      rw [fin9_3 hr no (by rw [eo]; exact (nf f9).1), eo, (nf f9).2.2.1] at hQ
      rw [ef]
      exact w_lr89 (FX.sI (FX.sI fx)) (hQ _ (CH.a (CH.f CHx.rf (.inr (.inr (.inr rfl)))) (.inl ⟨by decide, by decide⟩)) (KF.f fx (KF.f fx KF.rf)) ⟨RM.v34 (FX.sI fx) (r.cf fx (.inr (.inr (.inr rfl)))), by rw [I_nk (by decide), I_eq], .inr ⟨no, by rw [I_nk (by decide), I_nk (by decide)]; exact l.1, (wv0.f (by decide) (by decide)).f (by decide) (by decide)⟩⟩)
    · have h3 : ¬ rr.1 < 0 := by
        rcases hk with ⟨e, -⟩ | ⟨e, -⟩ | ⟨f, -, -, -, h, -⟩
        · rw [e]; decide
        · rw [e]; decide
        · exact absurd h e3
      rw [fin9_4 hr no h3] at hQ
      exact w_lr89 (FX.sI fx) (hQ _ (CH.f CHx.rf (.inr (.inr (.inr rfl)))) (KF.f fx KF.rf) ⟨r.cf fx (.inr (.inr (.inr rfl))), I_eq, .inr ⟨no, by rw [I_nk (by decide)]; exact l.1, wv0.f (by decide) (by decide)⟩⟩)
  rcases wv with ⟨eo, w⟩ | ⟨eo, w, -⟩ | ⟨f, f1, f9, eo, w, -⟩
  · rw [fin9_2 hr eo] at hQ
    have c : CH ad G (sI (sI (sI (sI G (ad 30) 47 0) (ad 30) 29 (hI G (ad 51) k)) (ad 30) 30 (hI G (ad 52) k)) (ad 30) 29 (hI G (ad 51) k)) := CH.f (CH.f (CH.f (CH.f CHx.rf (.inr (.inr (.inr rfl)))) (.inr (.inl rfl))) (.inr (.inr (.inl rfl)))) (.inr (.inl rfl))
    have c0 : CH ad G (sI (sI (sI (sI G (ad 30) 47 0) (ad 30) 29 (hI G (ad 51) k)) (ad 30) 30 (hI G (ad 52) k)) (ad 30) 29 0) := CH.f (CH.f (CH.f (CH.f CHx.rf (.inr (.inr (.inr rfl)))) (.inr (.inl rfl))) (.inr (.inr (.inl rfl)))) (.inr (.inl rfl))
    have kf : ∀ x, KF ad k G (sI (sI (sI (sI G (ad 30) 47 0) (ad 30) 29 (hI G (ad 51) k)) (ad 30) 30 (hI G (ad 52) k)) (ad 30) 29 x) := fun x => KF.f fx (KF.f fx (KF.f fx (KF.f fx KF.rf)))
    have rm : ∀ x, RM ad (sI (sI (sI (sI G (ad 30) 47 0) (ad 30) 29 (hI G (ad 51) k)) (ad 30) 30 (hI G (ad 52) k)) (ad 30) 29 x) qq.2.2 := fun x => RM.cf (FX.sI (FX.sI (FX.sI fx))) (RM.cf (FX.sI (FX.sI fx)) (RM.cf (FX.sI fx) (r.cf fx (.inr (.inr (.inr rfl)))) (.inr (.inl rfl))) (.inr (.inr (.inl rfl)))) (.inr (.inl rfl))
    have f47 : ∀ x, hI (sI (sI (sI (sI G (ad 30) 47 0) (ad 30) 29 (hI G (ad 51) k)) (ad 30) 30 (hI G (ad 52) k)) (ad 30) 29 x) (ad 30) 47 = 0 := fun x => by rw [I_nk (by decide), I_nk (by decide), I_nk (by decide), I_eq]
    have f30 : ∀ x, hI (sI (sI (sI (sI G (ad 30) 47 0) (ad 30) 29 (hI G (ad 51) k)) (ad 30) 30 (hI G (ad 52) k)) (ad 30) 29 x) (ad 30) 30 = hI G (ad 52) k := fun x => by rw [I_nk (by decide), I_eq]
    have f23 : ∀ x, hI (sI (sI (sI (sI G (ad 30) 47 0) (ad 30) 29 (hI G (ad 51) k)) (ad 30) 30 (hI G (ad 52) k)) (ad 30) 29 x) (ad 30) 23 = nI (k + 1) := fun x => by rw [I_nk (by decide), I_nk (by decide), I_nk (by decide), I_nk (by decide)]; exact l.1
    refine w_b21_1 (d := 97) fx k8 p10 i16 l.1 l.2.1 l.2.2 rfl rfl tb w rfl rfl (fun ne => ?_) (fun e1 => ?_)
    · refine w_lr89 (FX.sI (FX.sI (FX.sI (FX.sI fx)))) (hQ _ c (kf _) ⟨rm _, f47 _, .inr ⟨?_, f23 _, ?_⟩⟩)
      · rcases hk with ⟨-, e⟩ | ⟨e, -⟩ | ⟨f, -, f9, e, -⟩
        · exact absurd e ne
        · rw [e]; decide
        · rw [e]; exact (nf f9).2.2.2.1
      · rcases hk with ⟨-, e⟩ | ⟨e, e2, e3⟩ | ⟨f, f1, f9, e, e2, e3⟩
        · exact absurd e ne
        · exact .inr (.inl ⟨e, I_eq.trans e2, (f30 _).trans e3⟩)
        · exact .inr (.inr ⟨f, f1, f9, e, I_eq.trans e2, (f30 _).trans e3⟩)
    · have r0 : rr.1 = 0 := by
        rcases hk with ⟨e, -⟩ | ⟨-, e, -⟩ | ⟨f, -, -, -, e, -⟩
        · exact e
        · rw [e] at e1; exact absurd e1 (by decide)
        · rw [e] at e1; exact absurd e1 (by decide)
      exact w_lr89 (FX.sI (FX.sI (FX.sI (FX.sI fx)))) (hQ _ c0 (kf _) ⟨rm _, f47 _, .inl ⟨r0, LPt.f (FX.sI (FX.sI (FX.sI fx))) (LPt.f (FX.sI (FX.sI fx)) (LPt.f (FX.sI fx) (l.f fx (by decide)) (by decide)) (by decide)) (by decide), I_eq⟩⟩)
  · have o := own (by rw [eo]; decide)
    exact w_b21_2 (d := 98) fx k8 p10 i16 l.1 l.2.1 l.2.2 rfl rfl tb w rfl rfl o.2 o.1
  · have o := own (by rw [eo]; exact (nf f9).2.2.2.1)
    exact w_b21_3 (d := 98) fx k8 p10 i16 l.1 l.2.1 l.2.2 rfl rfl tb w rfl rfl o.2 o.1
/-- a plan done while a building is held -/
theorem m_10 {rr : aR} {a : Nat} (a6 : a < 6) (fx : FX n ad sa z0 G) (k8 : k < 8) (p10 : p < 10) (i16 : i < 16) (r : RM ad G rr.2.2) (l : LPt ad k p (i + 1) G) (t1 : hI G (ad 30) 47 = 1) (tb : hI G (ad 50) k = 10) (ta : hI G (ad 45) (16 * p + i) = nI a) (wv : WVt ad rr.1 rr.2.1 G)
    (hQ : ∀ G', CH ad G G' → KF ad k G G' → AFT ad k p i rr.1 rr.2.1 (uI rr.2.2 56 a (rr.2.2.2.1 56 a - 1)) G' → LOP ad pl Q G') : LOP ad pl Q G := by
  refine w_lpb fx k8 l.1 t1 ?_
  have wv0 := wv
  have tx := r.r5 (i := 56) (by decide) (by decide) a
  have c : ∀ x, CH ad G (sI (sI (sI G (ad 30) 47 0) (ad 56) a (rr.2.2.2.1 56 a - 1)) (ad 30) 29 x) := fun x => CH.f (CHx.i (CH.f CHx.rf (.inr (.inr (.inr rfl)))) (.inl (.inr ⟨by decide, by decide⟩))) (.inr (.inl rfl))
  have kf : ∀ x, KF ad k G (sI (sI (sI G (ad 30) 47 0) (ad 56) a (rr.2.2.2.1 56 a - 1)) (ad 30) 29 x) := fun x => KF.f fx (KF.a fx (KF.f fx KF.rf) (.inr (by decide)))
  have rm : ∀ x, RM ad (sI (sI (sI G (ad 30) 47 0) (ad 56) a (rr.2.2.2.1 56 a - 1)) (ad 30) 29 x) (uI rr.2.2 56 a (rr.2.2.2.1 56 a - 1)) := fun x => RM.cf (FX.sI (FX.sI fx)) (RM.i (FX.sI fx) (r.cf fx (.inr (.inr (.inr rfl)))) (.inr ⟨by decide, by decide⟩)) (.inr (.inl rfl))
  have f47 : ∀ x, hI (sI (sI (sI G (ad 30) 47 0) (ad 56) a (rr.2.2.2.1 56 a - 1)) (ad 30) 29 x) (ad 30) 47 = 0 := fun x => by rw [I_nk (by decide), I_ne (fx_ne fx (by decide)), I_eq]
  have lp : ∀ x, LPt ad k p (i + 1) (sI (sI (sI G (ad 30) 47 0) (ad 56) a (rr.2.2.2.1 56 a - 1)) (ad 30) 29 x) := fun x => LPt.f (FX.sI (FX.sI fx)) (LPt.a (FX.sI fx) (l.f fx (by decide)) (by decide) (by decide) (by decide)) (by decide)
  have w3 : ∀ x, hI G (ad 30) 29 = x → WVt ad rr.1 rr.2.1 (sI (sI (sI G (ad 30) 47 0) (ad 56) a (rr.2.2.2.1 56 a - 1)) (ad 30) 29 x) := fun x ex => by
    refine WVt.s (by rw [I_ne (fx_ne fx (by decide)), I_nk (by decide)]; exact ex) ?_
    have := wv0.f (f := 47) (v := 0) (by decide) (by decide)
    unfold WVt at this ⊢
    have n5 : ad 30 ≠ ad 56 := fx_ne fx (by decide)
    rw [I_ne (j := 29) n5, I_ne (j := 30) n5]
    exact this
  rcases wv with ⟨eo, w⟩ | ⟨eo, w, -⟩ | ⟨f, f1, f9, eo, w, -⟩
  · exact w_b10_1 (d := 97) fx k8 p10 i16 a6 l.1 l.2.1 l.2.2 ta rfl tb w tx (w_lr89 (FX.sI (FX.sI (FX.sI fx))) (hQ _ (c _) (kf _) ⟨rm _, f47 _, .inl ⟨eo, lp _, I_eq⟩⟩))
  · exact w_b10_2 (d := 97) fx k8 p10 i16 a6 l.1 l.2.1 l.2.2 ta rfl tb w tx (w_lr89 (FX.sI (FX.sI (FX.sI fx))) (hQ _ (c _) (kf _) ⟨rm _, f47 _, .inr ⟨by rw [eo]; decide, (lp _).1, w3 _ w⟩⟩))
  · exact w_b10_3 (d := 97) fx k8 p10 i16 a6 l.1 l.2.1 l.2.2 ta rfl tb w tx (w_lr89 (FX.sI (FX.sI (FX.sI fx))) (hQ _ (c _) (kf _) ⟨rm _, f47 _, .inr ⟨by rw [eo]; exact (nf f9).2.2.2.1, (lp _).1, w3 _ w⟩⟩))
end ST
end RN2

/-! ===== run, the class's side: all its steps ===== -/
section GO
variable {n np : Nat} {ad sa : Nat → Nat} {z0 : Nat} {mid pa : Nat → Nat} {h H A C : mH} {s0 w d m : Nat} {S : yS} {Q : mQ}
theorem RV.be {st : Nat} {B E B' E' : Nat → Int64} (r : RV n np ad pa H st B E S C) (e : ∀ t s, t < n → s < 3 → B (3 * t + s) = B' (3 * t + s) ∧ E (3 * t + s) = E' (3 * t + s)) : RV n np ad pa H st B' E' S C := by
  obtain ⟨f, v, wr, tr, fi, re⟩ := r
  exact ⟨f, v, wr, tr, fi, fun t s ht hs => by rw [← (e t s ht hs).1, ← (e t s ht hs).2]; exact re t s ht hs⟩
theorem c_lopr (k : KW n np ad sa z0 pa (eKd ad h) H) (ok : eOK n np ad h s0 w) (wh : WH n np ad pa h H w) (m4 : m ≤ 40) (hs : s0 + m ≤ 20480) (vi : VI n ad h s0 w 0 0 S) (r : RV n np ad pa H s0 (eB ad h 0) (eE ad h 0) S C) (o0 : yO S = 0) (hQ : ∀ C', RV n np ad pa H (s0 + m) (eB ad h m) (eE ad h m) (yRun n ad h s0 w m S) C' → Q (some (.int (nI (yO (yRun n ad h s0 w m S))))) C') (o5 : Option Value) : WR (d + 5) cd_126 9 [some (.ref (ad 4)), some (.int (nI m)), some (.ref (ad 2)), some (.int 0), some (.int 0), o5] [] C Q := by
  have n6 := (fx_k k.1).2
  have t8 : hT H (ad 8) = 25 := k.1.2.1.2.2.1
  have n8 : hN H (ad 8) = n := k.1.2.1.2.2.2
  have out : ∀ q i C o5, i + q = m → RV n np ad pa H (s0 + i) (eB ad h i) (eE ad h i) (yRun n ad h s0 w i S) C → WR (d + 5) cd_126 9 [some (.ref (ad 4)), some (.int (nI m)), some (.ref (ad 2)), some (.int (nI (yO (yRun n ad h s0 w i S)))), some (.int (nI i)), o5] [] C Q := by
    intro q
    induction q with
    | zero =>
      intro i C o5 e r
      obtain rfl : i = m := by omega
      exact w_goe (d := d + 5) (r.1.fx k.1) m4 (hQ C r)
    | succ q ih =>
      intro i C o5 e r
      have v0 := VI.run (s0 := s0) ok vi i (by omega)
      refine w_gon (d := d + 5) (r.1.fx k.1) m4 (by omega) ?_
      have inn : ∀ p kk C, kk + p = n → RV n np ad pa H (s0 + i) (eBk n ad h w i kk) (eEk n ad h w i kk) (yRnk n ad h s0 w i kk (yRun n ad h s0 w i S)) C → WR (d + 5) cd_126 18 [some (.ref (ad 4)), some (.int (nI m)), some (.ref (ad 2)), some (.int (nI (yO (yRnk n ad h s0 w i kk (yRun n ad h s0 w i S))))), some (.int (nI i)), some (.int (nI kk))] [] C Q := by
        intro p
        induction p with
        | zero =>
          intro kk C e2 r
          obtain rfl : kk = n := by omega
          refine w_gos (d := d + 5) (st := s0 + i) (r.1.fx k.1) n6 (by omega) (by omega) (by rw [r.1.1.1]; exact t8) (by rw [r.1.1.2.1]; exact n8) r.2.2.2.2.1.2.1 ?_
          exact ih (i + 1) _ _ (by omega) ((r.s k).be (fun t s ht hs3 => eBk_e ht hs3))
        | succ p ihp =>
          intro kk C e2 r
          have v1 := v0.rnk ok (by omega) kk (by omega)
          refine w_gor (d := d + 5) (r.1.fx k.1) n6 (by omega) (by rw [r.1.1.1]; exact t8) (by rw [r.1.1.2.1]; exact n8) ?_
          refine c_thr (d := d) k ok wh (by omega) (by omega) v1 r (fun C' f e3 f1 r' => ?_)
          have v4 := v1.2.2.2
          refine w_go36 (d := d + 5) (r'.1.fx k.1) (by omega) f1 (by omega) ?_
          have w' := ihp (kk + 1) C' (by omega) r'
          have e4 : yO (yRnk n ad h s0 w i (kk + 1) (yRun n ad h s0 w i S)) = yO (yRnk n ad h s0 w i kk (yRun n ad h s0 w i S)) + f := e3
          rw [e4] at w'
          exact w'
      exact inn n 0 C (by omega) r
  have q := out m 0 C o5 (by omega) r
  have e0 : yO (yRun n ad h s0 w 0 S) = 0 := o0
  rw [e0] at q
  exact q
/-! the start -/
/-- what the relation gives for a run -/
theorem ok_h (fx : FX n ad sa z0 h) (rf : Rf ad h) (ru : Ru n ad pa np h) (rs : Rs ad z0 mid pa np h) (e63 : hI h (ad 30) 63 = nI s0) (w8 : w < 8) (ew : hI h (ad 4) 4 = nI w) : eOK n np ad h s0 w := by
  have n6 := (fx_k fx).2
  obtain ⟨p1, p2, p3, p4, p5⟩ := rs.1
  refine ⟨⟨n6, p1, w8, by rw [← rf.2.2.1.1]; exact ew, e63, ru.1, by rw [← rf.2.2.2.1]; exact rf.2.2.2.2⟩, fun t s ht hs => ((ru.2 t ht).2.2.2.2.2.1 s hs).2.1, fun t ht => (ru.2 t ht).1.2.2.2, fun t s ht hs => ?_, fun q hq => ?_⟩
  · rcases (ru.2 t ht).2.2.2.2.2.2 s hs with ⟨a, -⟩ | ⟨q, hq, a, -⟩
    · exact .inl a
    · exact .inr ⟨q, hq, a⟩
  · obtain ⟨k, hk, e⟩ := (p4 q hq).2.2.2.2.1
    have c : eKd ad h q = k := by unfold eKd; rw [e]; exact nI_clamp (by omega)
    rw [c]; exact ⟨hk, e⟩
theorem vi_h (fx : FX n ad sa z0 h) (rf : Rf ad h) (ru : Ru n ad pa np h) (e63 : hI h (ad 30) 63 = nI s0) (hs : s0 ≤ 20480) : VI n ad h s0 w 0 0 (yS0 ad h) := by
  have v : ∀ t, t < n → yTu ad h s0 (yS0 ad h) t := fun t ht => by
    obtain ⟨-, -, ⟨-, s, s4, es⟩, ⟨-, cn⟩, ⟨-, -, -, -, -, -, s', e', l', nb⟩, -⟩ := ru.2 t ht
    have e2 : s' = s0 := by
      rw [e63] at e'
      exact ((nI_eq (by omega) (by omega)).mp e').symm
    subst e2
    refine ⟨?_, cn, nb⟩
    show (hI h (ad 66) t).toNatClampNeg ≤ 4
    rw [es, nI_clamp (by omega)]; exact s4
  obtain ⟨f, f4, -, ef, -⟩ := rf.1
  refine ⟨fun t ht => (v t ht).eq rfl (fun _ => rfl) (by omega), fun j _ hj => v _ (eOr_lt hj), ?_, Nat.zero_le _⟩
  show (hI h (ad 30) 64).toNatClampNeg ≤ 40
  rw [ef, nI_clamp (by omega)]; exact f4
/-- behind the ordering the class is ready to go -/
theorem go_h {L0 C0 : Nat → Int32} (fx : FX n ad sa z0 h) (rt : Rt ad h) (rf : Rf ad h) (rst : Rst sa h) (ru : Ru n ad pa np h) (rs : Rs ad z0 mid pa np h) (e63 : hI h (ad 30) 63 = nI s0) (hs : s0 ≤ 20480) (eL : ∀ t, L0 t = lnP (hI h (ad (100 + 5 * t)) 1) (hI h (ad (100 + 5 * t)) 2) w) (eC : ∀ t, C0 t = crP (hI h (ad (100 + 5 * t)) 1) (hI h (ad (100 + 5 * t)) 2) w)
    (x : ARR n ad L0 C0 (sI h (ad 0) 6 0) A n) : KW n np ad sa z0 pa (eKd ad h) A ∧ WH n np ad pa h A w ∧ RV n np ad pa A s0 (eB ad h 0) (eE ad h 0) (yS0 ad h) A := by
  obtain ⟨x1, x2, x3, x4, x5, x6, x7⟩ := x
  have n6 := (fx_k fx).2
  have fxA : FX n ad sa z0 A := fx_r8 (H := sI h (ad 0) 6 0) (FX.sI fx) x1 x6
  obtain ⟨p1, p2, p3, p4, p5⟩ := rs.1
  have hi : ∀ i j, i ≠ 0 → (i < 100 ∨ (j ≠ 3 ∧ j ≠ 4)) → hI A (ad i) j = hI h (ad i) j := fun i j h1 h2 => by
    rw [x4 _ _ (fun t ht z => by have := fx_inj fx z.1; omega), I_ne (fx_ne fx h1)]
  have hdy : ∀ a j, z0 ≤ a → hI A a j = hI h a j := fun a j ha => by
    rw [x4 _ _ (fun t ht z => dy_ad fx (i := 100 + 5 * t) (.inr ⟨by omega, by omega⟩) ha z.1), I_ne (dy_ad fx (.inl (by decide)) ha)]
  have tu := ru.2
  have eLn' : ∀ t, t < n → L0 t = eLn n ad h w t := fun t ht => by
    obtain ⟨⟨-, a2, a3, -⟩, -⟩ := tu t ht
    unfold eLn
    rw [if_pos ht, eL, a2, a3]
  have k60 : Rt ad h := rt
  refine ⟨⟨fxA, fun j hj i hi' => ?_, ?_, p1, fun q hq => ?_, p5⟩, ⟨fun i hi' => ?_, fun u hu => ⟨?_, ?_, ?_, ?_⟩, fun t s ht hs5 => ?_, fun t s ht hs3 => ?_, ?_⟩, ⟨FRC.rf, ⟨fun t ht => ?_, fun t ht => ?_, fun r hr t ht => ?_⟩, fun q hq => ?_, ⟨rfl, fun _ => rfl⟩, ⟨?_, ?_, fun i hi' => ?_⟩, fun t s ht hs3 => ?_⟩⟩
  · rw [x4 (sa j) i (fun t ht z => (fx_lt fx (i := 100 + 5 * t) (.inr ⟨by omega, by omega⟩)).2.2 j hj z.1), I_ne ((fx_lt fx (i := 0) (.inl (by decide))).2.2 j hj)]
    exact rst j hj i hi'
  · obtain ⟨kk, k1, k2, -⟩ := k60
    rw [hi 2 1 (by decide) (.inl (by decide)), k2]
    exact Int32.not_lt.mp (nI_pos (by omega))
  · obtain ⟨b1, b2, b3, b4, ⟨kq, b5, b6⟩, b7⟩ := p4 q hq
    have c : eKd ad h q = kq := by unfold eKd; rw [b6]; exact nI_clamp (by omega)
    refine ⟨by rw [x1.1]; exact b1, b2, ?_, ?_, by rw [c]; exact b5⟩
    · rw [hdy _ _ b2, b4, b6, c]
    · rw [hdy _ _ b2]; exact b3
  · rw [x7 i hi']
    exact congrArg (fun z => some (ad (100 + 5 * z))) (srtL_c n (fun u hu => eLn' u hu) i hi')
  · rw [(x5 u hu).1]; exact eLn' u hu
  · obtain ⟨⟨-, a2, a3, -⟩, -⟩ := tu u hu
    rw [(x5 u hu).2, eC, a2, a3]; rfl
  · rw [hi _ _ (by omega) (.inr ⟨by decide, by decide⟩)]; exact (tu u hu).1.1
  · rw [x2]; exact (tu u hu).2.2.2.2.1.2.2.2.2.2.1
  · rw [x6 _ (fx_ne fx (by omega))]; exact (tu t ht).2.2.2.2.2.2 s hs5
  · rw [x3]; exact ((tu t ht).2.2.2.2.2.1 s hs3).1
  · rw [hi 4 5 (by decide) (.inl (by decide))]; exact rf.2.2.2.1
  · obtain ⟨-, -, ⟨a1, s, s4, es⟩, -⟩ := tu t ht
    rw [hi _ _ (by omega) (.inr ⟨by decide, by decide⟩), a1]
    show _ = nI (hI h (ad 66) t).toNatClampNeg
    rw [es, nI_clamp (by omega)]
  · rw [x3]; exact (tu t ht).2.2.2.1.1
  · obtain ⟨-, -, -, -, ⟨a1, a2, a3, a4, a5, a6, -⟩, -⟩ := tu t ht
    rw [x2]
    show hD h _ (fd r) = hD h (ad r) t
    have c : r = 67 ∨ r = 68 ∨ r = 69 ∨ r = 70 ∨ r = 73 := by unfold rOK at hr; omega
    rcases c with rfl | rfl | rfl | rfl | rfl
    · exact a2
    · exact a3
    · exact a4
    · exact a5
    · exact a1
  · rw [x3]; exact (p4 q hq).2.2.2.2.2
  · obtain ⟨f, f4, f5, f6, f7⟩ := rf.1
    rw [hi 4 2 (by decide) (.inl (by decide)), f5]
    show _ = nI (hI h (ad 30) 64).toNatClampNeg
    rw [f6, nI_clamp (by omega)]
  · rw [hi 4 3 (by decide) (.inl (by decide)), rf.2.1]; exact e63
  · obtain ⟨f, f4, f5, f6, f7⟩ := rf.1
    rw [hi 5 i (by decide) (.inl (by decide))]
    refine f7 i ?_
    have c : yK (yS0 ad h) = f := by
      show (hI h (ad 30) 64).toNatClampNeg = f
      rw [f6, nI_clamp (by omega)]
    rw [c] at hi'; exact hi'
  · rw [x3]; exact ((tu t ht).2.2.2.2.2.1 s hs3).2.2
end GO

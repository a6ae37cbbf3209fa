/-! ===== copy: the tails of class and reference ===== -/
section CT
variable {d : Nat} {Q : mQ} {n : Nat} {ad sa : Nat → Nat} {z0 : Nat} {mid pa : Nat → Nat} {np : Nat} {h C : mH} {kc ke i j m t u st su sA sB b x k : Nat}
theorem c_mcopy (fx : FX n ad sa z0 C) (hc : kc < 24) (he : ke < 24) (ht : t < 250) (hu : u < 250) (hA : i + m ≤ sA) (hB : j + m ≤ sB) (sA3 : sA ≤ 30) (sB3 : sB ≤ 30) (e1 : hI C (ad 31) kc = nI t) (e2 : hI C (ad 31) ke = nI u) (s1 : hI C (ad 33) t = nI st) (s2 : hI C (ad 33) u = nI su) (z1 : hI C (ad 35) t = nI sA) (z2 : hI C (ad 35) u = nI sB) (l1 : st < 10) (l2 : su < 10) (es : st = su ∨ (8 ≤ st ∧ 8 ≤ su)) (O : Nat → Prop)
    (hx : ∀ k, k < m → st < 8 ∨ hL C (ad 36) (30 * t + i + k) = -1 ∨ ∃ v, v < 2000 ∧ hL C (ad 36) (30 * t + i + k) = lN v ∧ (st = 9 → su = 9 → ∃ q kq ku, v = 1000 + q ∧ q < 60 ∧ hI C (ad 37) q = nI kq ∧ kq < 7 ∧ hI C (ad 34) u = nI ku ∧ ku < 8 ∧ (O k ↔ ofK kq ku = true)))
    (h89 : 8 ≤ st → st = su → st = 8 ∨ st = 9)
    (hQ1 : ∀ M, (∀ k, k < m → BEL st su (hL C (ad 36) (30 * t + i + k)) (O k)) → MC ad C M t u i j m m → Q (some (.int (nI m))) (sI M (ad 30) 11 0))
    (hQ0 : ∀ M k, k < m → (∀ k', k' < k → BEL st su (hL C (ad 36) (30 * t + i + k')) (O k')) → ¬ BEL st su (hL C (ad 36) (30 * t + i + k)) (O k) → MC ad C M t u i j m k → Q (some (.int (-15))) (sI M (ad 30) 11 (-15))) : EV (d + 3) 179 [.ref (ad 30), .int (nI kc), .int (nI i), .int (nI ke), .int (nI j), .int (nI m)] C Q := by
  have k178 : WR (d + 2) cd_179 178 [some (.ref (ad 30)), some (.int (nI kc)), some (.int (nI i)), some (.int (nI ke)), some (.int (nI j)), some (.int (nI m)), some (.int (nI t)), some (.int (nI u)), some (.int 0), none, none] [] C Q :=
    mc_178 fx ht hu (by omega) (by omega) (fun M x => mc_216 fx ht hu (by omega) (by omega) (fun k => BEL st su (hL C (ad 36) (30 * t + i + k)) (O k)) (fun k M o9 o10 hk x => mc_bel fx ht hu (by omega) s1 s2 l1 l2 (O k) (hx k hk) h89 hk o9 o10 x) hQ1 hQ0 m 0 M none none (by omega) (fun _ h => absurd h (Nat.not_lt_zero _)) x) m 0 C (by omega) ⟨⟨rfl, rfl, rfl, rfl⟩, rfl, rfl, rfl, fun _ _ _ => rfl, fun p hp => absurd hp (Nat.not_lt_zero _), (cpy_0 _ _ _ _).symm⟩
  rcases es with es | ⟨es1, es2⟩
  · exact w_cmA fx hc he ht hu hA hB sA3 sB3 e1 e2 s1 s2 z1 z2 l1 l2 es k178
  · exact w_cmB fx hc he ht hu hA hB sA3 sB3 e1 e2 s1 s2 z1 z2 l1 l2 es1 es2 (fun _ => k178) (fun _ => k178)
theorem wl_n (fx : FX n ad sa z0 C) (tb : hT C b = 6) : DP (d + 1) 47 [.ref b, .null] C True := fun Q hy _ => w_wl0 fx tb (hy trivial)
theorem wl_gr (fx : FX n ad sa z0 C) (tb : hT C b = 6) (kb : hI C b 0 = -1) (tx : hT C x = 5) (lx : hI C x 0 = 3) : DP (d + 2) 47 [.ref b, .ref x] C True := fun Q hy _ => w_wlgr fx tb kb tx lx (hy trivial)
theorem wl_gp (fx : FX n ad sa z0 C) (tb : hT C b = 6) (kb : hI C b 0 = -1) (tx : hT C x = 4) : DP (d + 2) 47 [.ref b, .ref x] C False := fun Q _ hn => w_wlgp fx tb kb tx (hn not_false)
theorem wl_cr (fx : FX n ad sa z0 C) (tb : hT C b = 6) (k8 : k < 8) (kb : hI C b 0 = nI k) (tx : hT C x = 5) : DP (d + 1) 47 [.ref b, .ref x] C False := fun Q _ hn => w_wlcr fx tb k8 kb tx (hn not_false)
theorem wl_cp {kd : Nat} (fx : FX n ad sa z0 C) (rst : Rst sa C) (tb : hT C b = 6) (k8 : k < 8) (kb : hI C b 0 = nI k) (tx : hT C x = 4) (kx : hI C x 0 = nI kd) (k7 : kd < 7) : DP (d + 2) 47 [.ref b, .ref x] C (ofK kd k = true) := by
  intro Q hy hn
  refine w_wlcp fx tb k8 kb tx ?_
  refine c_isOf fx rst tx kx k7 k8 ?_
  by_cases o : ofK kd k = true
  · rw [if_pos o]; exact w_wl48 fx 1 (fun z => absurd z (by decide)) (fun _ => hy o)
  · rw [if_neg o]; exact w_wl48 fx 0 (fun _ => hn o) (fun z => absurd rfl z)
theorem t_copyR {ln : Nat} (fx : FX n ad sa z0 h) (rt : Rt ad h) (ra : Ra ad h) (rp : Rp n ad h) (rf : Rf ad h) (rst : Rst sa h) (ru : Ru n ad pa np h) (rs : Rs ad z0 mid pa np h) (hc : kc < 24) (he : ke < 24) (ht : t < 250) (hu : u < 250) (e1 : hI h (ad 31) kc = nI t) (e2 : hI h (ad 31) ke = nI u) (q1 : rowR ad z0 h t (mid t) ln) (q2 : rowR ad z0 h u (mid u) ln) (z1 : hI h (ad 35) t = nI sA) (z2 : hI h (ad 35) u = nI sB) (hA : i + m ≤ sA) (hB : j + m ≤ sB) (sA3 : sA ≤ 30) (sB3 : sB ≤ 30) :
    WR 99 cd_51 106 [some (.ref (ad 0)), some (.int (nI kc)), some (.int (nI i)), some (.int (nI ke)), some (.int (nI j)), some (.int (nI m)), some (.ref (mid t)), some (.ref (mid u)), none] [] (sI h (ad 0) 6 0) (fun v h1 => EV 100 179 [.ref (ad 30), .int (nI kc), .int (nI i), .int (nI ke), .int (nI j), .int (nI m)] h1 (fun v2 h2 => v2 = v ∧ Rel n ad sa z0 h2 ∧ hZ h2 ≤ hZ h + 20 ∧ hU h2 ≤ hU h + 150)) := by
  have fxH : FX n ad sa z0 (sI h (ad 0) 6 0) := FX.sI fx
  obtain ⟨v1, v2, v3, v4, ⟨v5, v6, v7, v8⟩, sA', v9, v10, v11, v12⟩ := id (q1.s (smY fx (v := 0)))
  obtain ⟨w1, w2, w3, w4, ⟨w5, w6, w7, w8⟩, sB', w9, w10, w11, w12⟩ := id (q2.s (smY fx (v := 0)))
  have i0 : ∀ i j, i ≠ 0 → hI (sI h (ad 0) 6 0) (ad i) j = hI h (ad i) j := fun i j h0 => I_ne (fx_ne fx h0)
  obtain rfl : sA' = sA := (nI_eq (by omega) (by omega)).mp (v11.symm.trans ((i0 35 t (by decide)).trans z1))
  obtain rfl : sB' = sB := (nI_eq (by omega) (by omega)).mp (w11.symm.trans ((i0 35 u (by decide)).trans z2))
  refine w_ctR fxH v1 ?_
  refine c_copyR (d := 98) fxH v1 w1 v3 w3 v4 w4 v10 w10 hA hB v9 w9 (fun C x => ?_)
  have fxC : FX n ad sa z0 C := fxH.of x.1.1 x.1.2.1 x.1.2.2.1 (fun _ _ _ => by rw [x.2.2.1]) (fun _ => by rw [x.2.2.1])
  refine w_ct0 fxC ?_
  have xI := x.2.1
  refine c_mcopy (d := 97) (st := ln) (su := ln) (sA := sA') (sB := sB') fxC hc he ht hu hA hB v9 w9 ?_ ?_ ?_ ?_ ?_ ?_ (by omega) (by omega) (.inl rfl) (fun _ => True) (fun _ _ => .inl v5) (fun q => by omega) (fun M _ mc => ⟨rfl, cp_rows fx rt ra rp rf rst ru rs hu (.inl ⟨ke, he, e2⟩) q1 q2 z1 z2 hA hB v9 w9 x mc, ?_, ?_⟩) (fun M k _ _ q _ => absurd (.inl v5) q)
  · rw [xI, i0 31 _ (by decide)]; exact e1
  · rw [xI, i0 31 _ (by decide)]; exact e2
  · rw [xI]; exact v7
  · rw [xI]; exact w7
  · rw [xI]; exact v11
  · rw [xI]; exact w11
  · have a : hZ (sI M (ad 30) 11 0) = hZ h := mc.1.2.2.1.trans x.1.2.2.1
    omega
  · have a : hU (sI M (ad 30) 11 0) = hU h := mc.1.2.2.2.trans x.1.2.2.2
    omega
theorem t_copyX (fx : FX n ad sa z0 h) (hc : kc < 24) (he : ke < 24) (ht : t < 250) (hu : u < 250) (e1 : hI h (ad 31) kc = nI t) (e2 : hI h (ad 31) ke = nI u) (ta : hT h (mid t) = 6) (tb : hT h (mid u) = 6) (ra : hR h (mid t) 1 = some (mid t + 1)) (rb : hR h (mid u) 1 = some (mid u + 1)) (tA : hT h (mid t + 1) = 24) (tB : hT h (mid u + 1) = 24) (hz : z0 ≤ mid u) (nA : hN h (mid t + 1) = sA) (nB : hN h (mid u + 1) = sB)
    (s1 : hI h (ad 33) t = nI st) (s2 : hI h (ad 33) u = nI su) (z1 : hI h (ad 35) t = nI sA) (z2 : hI h (ad 35) u = nI sB) (hA : i + m ≤ sA) (hB : j + m ≤ sB) (sA3 : sA ≤ 8) (sB3 : sB ≤ 8) (l1 : st = 8 ∨ st = 9) (l2 : su = 8 ∨ su = 9) (O : Nat → Prop)
    (ok : ∀ k x, k < m → hR h (mid t + 1) (i + k) = some x → okE 24 (hT h x))
    (wel : ∀ k C, k < m → FX n ad sa z0 C → hT C = hT h → (∀ a, z0 ≤ a → hI C a = hI h a) → Rst sa C → DP 98 47 [.ref (mid u), va_rf (hR h (mid t + 1) (i + k))] C (BEL st su (hL h (ad 36) (30 * t + i + k)) (O k))) (rst : Rst sa h)
    (own : mid u = mid t → ∀ k, k < m → BEL st su (hL h (ad 36) (30 * t + i + k)) (O k))
    (hx : ∀ k, k < m → hL h (ad 36) (30 * t + i + k) = -1 ∨ ∃ v, v < 2000 ∧ hL h (ad 36) (30 * t + i + k) = lN v ∧ (st = 9 → su = 9 → ∃ q kq ku, v = 1000 + q ∧ q < 60 ∧ hI h (ad 37) q = nI kq ∧ kq < 7 ∧ hI h (ad 34) u = nI ku ∧ ku < 8 ∧ (O k ↔ ofK kq ku = true)))
    (rel : ∀ k C M y, k ≤ m → (∀ p, p < k → BEL st su (hL h (ad 36) (30 * t + i + p)) (O p)) → CS ad h C (mid u + 1) (va_cpy (hR h (mid t + 1)) (hR h (mid u + 1)) i j k) y → MC ad C M t u i j m k → Rel n ad sa z0 (sI M (ad 30) 11 y)) :
    WR 99 cd_51 106 [some (.ref (ad 0)), some (.int (nI kc)), some (.int (nI i)), some (.int (nI ke)), some (.int (nI j)), some (.int (nI m)), some (.ref (mid t)), some (.ref (mid u)), none] [] (sI h (ad 0) 6 0) (fun v h1 => EV 100 179 [.ref (ad 30), .int (nI kc), .int (nI i), .int (nI ke), .int (nI j), .int (nI m)] h1 (fun v2 h2 => v2 = v ∧ Rel n ad sa z0 h2 ∧ hZ h2 ≤ hZ h + 20 ∧ hU h2 ≤ hU h + 150)) := by
  have fxH : FX n ad sa z0 (sI h (ad 0) 6 0) := FX.sI fx
  have nl : ∀ p, ¬ p < 0 := Nat.not_lt_zero
  -- the reference behind the class's heap
  have mdl : ∀ C y k, k ≤ m → (∀ p, p < k → BEL st su (hL h (ad 36) (30 * t + i + p)) (O p)) → (k = m → y = 0) → (k < m → y = -15 ∧ ¬ BEL st su (hL h (ad 36) (30 * t + i + k)) (O k)) → CS ad h C (mid u + 1) (va_cpy (hR h (mid t + 1)) (hR h (mid u + 1)) i j k) y →
      EV 100 179 [.ref (ad 30), .int (nI kc), .int (nI i), .int (nI ke), .int (nI j), .int (nI m)] C (fun v2 h2 => v2 = some (.int (if k < m then -15 else nI m)) ∧ Rel n ad sa z0 h2 ∧ hZ h2 ≤ hZ h + 20 ∧ hU h2 ≤ hU h + 150) := by
    intro C y k hk hb hy0 hy5 c
    have c' := c
    obtain ⟨⟨x1, x2, x3, x4⟩, cI, cy, cL, cD, cR, cE⟩ := c'
    have z := (fx_lt fx (i := 0) (.inl (by decide)))
    have fxC : FX n ad sa z0 C := fx.of x1 x2 x3 (fun i j hd => by rw [cR _ (ad_dy fx hd (by omega))]) (fun j => by rw [cR _ (by omega)])
    have i0 : ∀ i j, i ≠ 0 → hI C (ad i) j = hI h (ad i) j := fun i j h0 => cI _ _ (fun e => h0 (fx_inj fx e.1))
    refine c_mcopy (d := 97) (st := st) (su := su) (sA := sA) (sB := sB) fxC hc he ht hu hA hB (by omega) (by omega) ((i0 31 _ (by decide)).trans e1) ((i0 31 _ (by decide)).trans e2) ((i0 33 _ (by decide)).trans s1) ((i0 33 _ (by decide)).trans s2) ((i0 35 _ (by decide)).trans z1) ((i0 35 _ (by decide)).trans z2) (by omega) (by omega) (.inr ⟨by omega, by omega⟩) O ?_ (fun _ _ => l1) ?_ ?_
    · intro k hk
      rw [cL, i0 34 _ (by decide)]
      simp only [i0 37 _ (by decide)]
      exact .inr (hx k hk)
    · rw [cL]
      intro M hall mc
      have ek : k = m := by
        by_cases e : k < m
        · exact absurd (hall k e) (hy5 e).2
        · omega
      subst ek
      have y0 := hy0 rfl
      subst y0
      refine ⟨by rw [if_neg (Nat.lt_irrefl _)], rel k C M 0 hk hb c mc, ?_, ?_⟩
      · have a : hZ (sI M (ad 30) 11 0) = hZ h := mc.1.2.2.1.trans x3
        omega
      · have a : hU (sI M (ad 30) 11 0) = hU h := mc.1.2.2.2.trans x4
        omega
    · rw [cL]
      intro M k2 hk2 hb2 nb mc
      have ek : k = k2 := by
        rcases Nat.lt_trichotomy k k2 with e | e | e
        · exact absurd (hb2 k e) (hy5 (by omega)).2
        · exact e
        · exact absurd (hb k2 e) nb
      subst ek
      have y5 := (hy5 hk2).1
      subst y5
      refine ⟨by rw [if_pos hk2], rel k C M (-15) hk hb c mc, ?_, ?_⟩
      · have a : hZ (sI M (ad 30) 11 (-15)) = hZ h := mc.1.2.2.1.trans x3
        omega
      · have a : hU (sI M (ad 30) 11 (-15)) = hU h := mc.1.2.2.2.trans x4
        omega
  refine w_ctS fxH ta ?_
  refine c_copyS (d := 98) fxH ta tb ra rb tA tB hz nA nB hA hB (by omega) (by omega) (fun k => BEL st su (hL h (ad 36) (30 * t + i + k)) (O k)) ok (fun k C hk x => ?_) own (fun C hall x => ?_) (fun C k hk hb nb x => ?_)
  · refine wel k C hk (x.fx fxH (by omega)) x.1.1 (fun a ha => ?_) (fun j hj i hi => ?_)
    · rw [x.2.1]; exact u2_row _ (dy_ad fx (.inl (by decide)) ha) _
    · rw [x.2.1, I_ne ((fx_lt fx (i := 0) (.inl (by decide))).2.2 j hj)]; exact rst j hj i hi
  · refine w_ct0 (x.fx fxH (by omega)) ?_
    have q := mdl C 0 m (Nat.le_refl _) hall (fun _ => rfl) (fun q => absurd q (Nat.lt_irrefl _)) (CS.of0 x)
    rw [if_neg (Nat.lt_irrefl _)] at q
    exact q
  · refine w_ct5 (x.fx fxH (by omega)) ?_
    have q := mdl (sI C (ad 0) 6 (-15)) (-15) k (by omega) hb (fun q => by omega) (fun _ => ⟨rfl, nb⟩) (CS.of1 x)
    rw [if_pos hk] at q
    exact q
end CT

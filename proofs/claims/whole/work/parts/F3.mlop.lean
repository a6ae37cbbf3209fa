/-! ===== run, the reference's side: all its steps ===== -/
section ML
variable {n np : Nat} {ad sa : Nat → Nat} {z0 : Nat} {h X M : mH} {o : Nat → Nat} {no st : Nat} {B E : Nat → Int64} {S : yS} {s0 w d m : Nat} {Q : mQ}
theorem RX.be {B' E' : Nat → Int64} (r : RX n np ad X o no st B E S M) (e : ∀ t s, t < n → s < 3 → B (3 * t + s) = B' (3 * t + s) ∧ E (3 * t + s) = E' (3 * t + s)) : RX n np ad X o no st B' E' S M := by
  obtain ⟨f, v, wr, tr, fi, od, re⟩ := r
  exact ⟨f, v, wr, tr, fi, od, fun t s ht hs => by rw [← (e t s ht hs).1, ← (e t s ht hs).2]; exact re t s ht hs⟩
/-- one reading is remembered -/
theorem RX.rm {e : Nat} {v b : Int64} (k : MW n ad sa z0 h X) (r : RX n np ad X o no st B E S M) (hb : hL M (ad 64) e = b) : RX n np ad X o no st (u1 B e v) (u1 E e (if e < 3 * n then B e else b)) S (sL (sL M (ad 65) e b) (ad 64) e v) := by
  obtain ⟨f, vv, wr, tr, fi, od, re⟩ := r
  refine ⟨(f.l (fun c => c.2.2.2 rfl)).l (fun c => c.2.2.1 rfl), vv, fun q hq => by rw [L_ne (fx_ne k.1 (by decide)), L_ne (fx_ne k.1 (by decide))]; exact wr q hq, tr, fi, od, fun t s ht hs => ?_⟩
  unfold u1
  obtain ⟨q1, q2⟩ := re t s ht hs
  by_cases c : 3 * t + s = e
  · rw [if_pos c, if_pos c, if_pos (by omega), c, L_eq, L_ne (fx_ne k.1 (by decide)), L_eq, ← hb, ← c]
    exact ⟨rfl, q1⟩
  · rw [if_neg c, if_neg c, L_nk c, L_ne (fx_ne k.1 (by decide)), L_ne (fx_ne k.1 (by decide)), L_nk c]
    exact ⟨q1, q2⟩
theorem m_lopr (k : MW n ad sa z0 h X) (ok : eOK n np ad h s0 w) (m4 : m ≤ 40) (hs : s0 + m ≤ 20480) (vi : VI n ad h s0 w 0 0 S) (r : RX n np ad X (eOr n ad h w) 0 s0 (eB ad h 0) (eE ad h 0) S M) (hQ : ∀ M', RX n np ad X (eOr n ad h w) 0 (s0 + m) (eB ad h m) (eE ad h m) (yRun n ad h s0 w m S) M' → Q (some (.int (nI (yO (yRun n ad h s0 w m S))))) (sI M' (ad 30) 11 0)) (o3 : Option Value) : WR (d + 5) cd_230 26 [some (.ref (ad 30)), some (.int (nI m)), some (.int 0), o3] [] M Q := by
  have n6 := ok.1.1
  have out : ∀ q i M o3, i + q = m → RX n np ad X (eOr n ad h w) 0 (s0 + i) (eB ad h i) (eE ad h i) (yRun n ad h s0 w i S) M → WR (d + 5) cd_230 26 [some (.ref (ad 30)), some (.int (nI m)), some (.int (nI i)), o3] [] M Q := by
    intro q
    induction q with
    | zero =>
      intro i M o3 e r
      obtain rfl : i = m := by omega
      have v0 := (VI.run (s0 := s0) ok vi i (by omega)).2.2.2
      have e0 : (nI (yO (yRun n ad h s0 w i S))).toInt = yO (yRun n ad h s0 w i S) := nI_toInt (by omega)
      refine w_mre (d := d + 4) (r.1.fx k.1) m4 r.2.2.2.2.1.2.2.1 (fun _ => hQ M r) (fun c => absurd ?_ c)
      refine Int32.le_iff_toInt_le.mpr ?_
      rw [e0]
      have : (-1 : Int32).toInt = -1 := rfl
      omega
    | succ q ih =>
      intro i M o3 e r
      have v0 := VI.run (s0 := s0) ok vi i (by omega)
      have fxM := r.1.fx k.1
      have fI' : ∀ i' j, ¬ (i' = 30 ∧ (j = 9 ∨ j = 11 ∨ j = 17 ∨ j = 63 ∨ j = 64 ∨ j = 65)) ∧ i' ≠ 39 ∧ i' ≠ 66 ∧ i' ≠ 74 ∧ i' ≠ 75 → 30 ≤ i' → i' < 76 → hI M (ad i') j = hI h (ad i') j := fun i' j hh h3 h7 => by
        rw [r.1.2.2.1 _ _ (fmI_ad k.1 hh)]; exact k.2.2.1 i' j h3 h7 (by omega)
      refine w_mrn (d := d + 5) fxM m4 (by omega) ?_
      refine m_order (d := d + 2) (L := eLn n ad h w) (w := w) fxM (by rw [fI' 30 61 (by omega) (by decide) (by decide)]; exact ok.1.2.2.2.1) ok.1.2.2.1 (by rw [fI' 30 12 (by omega) (by decide) (by decide)]; exact ok.1.2.2.2.2.2.1) (fun t ht => ?_) (fun M1 x1 => ?_)
      · unfold eLn
        rw [if_pos ht, fI' 61 t (by omega) (by decide) (by decide), fI' 62 t (by omega) (by decide) (by decide)]
      have r1 := r.od k x1 (fun _ _ => rfl)
      refine w_mr35 (d := d + 5) (r1.1.fx k.1) ?_
      have inn : ∀ p kk M, kk + p = n → RX n np ad X (eOr n ad h w) n (s0 + i) (eB ad h i) (eE ad h i) (yRnk n ad h s0 w i kk (yRun n ad h s0 w i S)) M → WR (d + 5) cd_230 37 [some (.ref (ad 30)), some (.int (nI m)), some (.int (nI i)), some (.int (nI kk))] [] M Q := by
        intro p
        induction p with
        | zero =>
          intro kk M e2 r
          obtain rfl : kk = n := by omega
          have en : hI M (ad 30) 12 = nI kk := by rw [r.1.2.2.1 _ _ (fmI_ad k.1 (by omega)), k.2.2.1 30 12 (by decide) (by decide) (by omega)]; exact ok.1.2.2.2.2.2.1
          refine w_mrf (d := d + 5) (r.1.fx k.1) n6 en ?_
          -- the readings
          have rem : ∀ p e M B E, e + p = 18 → (∀ j, j < 3 * kk → B j = (if j < e then eB ad h (i + 1) j else eB ad h i j) ∧ E j = (if j < e then eE ad h (i + 1) j else eE ad h i j)) → RX kk np ad X (eOr kk ad h w) kk (s0 + i) B E (yRnk kk ad h s0 w i kk (yRun kk ad h s0 w i S)) M → WR (d + 5) cd_230 58 [some (.ref (ad 30)), some (.int (nI m)), some (.int (nI i)), some (.int (nI e))] [] M Q := by
            intro p
            induction p with
            | zero =>
              intro e M B E e3 hB r
              obtain rfl : e = 18 := by omega
              refine w_mrz (d := d + 5) (st := s0 + i) (r.1.fx k.1) (by omega) (by omega) r.2.2.2.2.1.2.1 ?_
              refine ih (i + 1) _ _ (by omega) ((r.s k).be (fun t s ht hs3 => ?_))
              obtain ⟨q1, q2⟩ := hB (3 * t + s) (by omega)
              rw [q1, q2, if_pos (by omega), if_pos (by omega)]
              exact ⟨rfl, rfl⟩
            | succ p ihp =>
              intro e M B E e3 hB r
              refine w_mrc (d := d + 5) (r.1.fx k.1) (by omega) rfl rfl ?_
              have eR : hD M (ad 63) e = hD h (ad 63) e := by
                rw [r.1.2.2.2.2 _ _ (fmD_ad k.1 ⟨by decide, by unfold qOK; omega⟩)]; exact k.2.2.2.2 63 e (by decide) (by decide)
              have nxt : ∀ v, (e < 3 * kk → v = (hD h (ad 63) e).toInt64) → WR (d + 5) cd_230 90 [some (.ref (ad 30)), some (.int (nI m)), some (.int (nI i)), some (.int (nI e))] [.long v, .int (nI e), .ref (ad 64)] (sL M (ad 65) e (hL M (ad 64) e)) Q := by
                intro v hv
                have r2 := r.rm (v := v) k (b := hL M (ad 64) e) (e := e) rfl
                have fxL : FX kk ad sa z0 (sL M (ad 65) e (hL M (ad 64) e)) := FX.sL (r.1.fx k.1)
                refine w_mr90 (d := d + 5) fxL (by omega) (ihp (e + 1) _ _ _ (by omega) (fun j hj => ?_) r2)
                obtain ⟨q1, q2⟩ := hB j hj
                unfold u1
                by_cases c : j = e
                · subst c
                  rw [if_pos rfl, if_pos rfl, if_pos hj, if_pos (show j < j + 1 by omega), if_pos (show j < j + 1 by omega), hv hj, q1, if_neg (show ¬ j < j by omega)]
                  exact ⟨rfl, rfl⟩
                · rw [if_neg c, if_neg c, q1, q2]
                  by_cases c2 : j < e
                  · rw [if_pos c2, if_pos c2, if_pos (by omega), if_pos (by omega)]; exact ⟨rfl, rfl⟩
                  · rw [if_neg c2, if_neg c2, if_neg (by omega), if_neg (by omega)]; exact ⟨rfl, rfl⟩
              refine w_dl (d := d + 3) _ (fun c => nxt _ (fun _ => by rw [eR])) (fun c => nxt _ (fun hj => ?_))
              rw [eR] at c
              have q := ok.2.1 (e / 3) (e % 3) (by omega) (by omega)
              rw [show 3 * (e / 3) + e % 3 = e by omega] at q
              rcases q with q | q
              · rw [q]; rfl
              · exact absurd (deq_self (isF_nn q.1)) c
          exact rem 18 0 M _ _ rfl (fun j _ => ⟨rfl, rfl⟩) r
        | succ p ihp =>
          intro kk M e2 r
          have v1 := v0.rnk ok (by omega) kk (by omega)
          have en : hI M (ad 30) 12 = nI n := by rw [r.1.2.2.1 _ _ (fmI_ad k.1 (by omega)), k.2.2.1 30 12 (by decide) (by decide) (by omega)]; exact ok.1.2.2.2.2.2.1
          refine w_mrk (d := d + 5) (r.1.fx k.1) n6 en (by omega) ?_
          refine m_tur (d := d) k ok (by omega) (by omega) (by omega) v1 r (fun M' r' => ?_)
          exact w_mr50 (d := d + 5) (r'.1.fx k.1) (by omega) (ihp (kk + 1) M' (by omega) r')
      exact inn n 0 M1 (by omega) r1
  exact out m 0 M o3 (by omega) r
end ML

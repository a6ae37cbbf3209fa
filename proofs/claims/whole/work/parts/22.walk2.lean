/-! ===== helpers of the second walker ===== -/
theorem WR_tI {d : Nat} {cd : mC} {p : Nat} {lv : mL} {st : List Value} {h : mH} {Q : mQ} {x y : Int32} (e : x = y) (k : WR d cd p lv (.int y :: st) h Q) : WR d cd p lv (.int x :: st) h Q := by subst e; exact k
theorem WR_tL {d : Nat} {cd : mC} {p : Nat} {lv : mL} {st : List Value} {h : mH} {Q : mQ} {x y : Int64} (e : x = y) (k : WR d cd p lv (.long y :: st) h Q) : WR d cd p lv (.long x :: st) h Q := by subst e; exact k
theorem WR_tD {d : Nat} {cd : mC} {p : Nat} {lv : mL} {st : List Value} {h : mH} {Q : mQ} {x y : UInt64} (e : x = y) (k : WR d cd p lv (.double y :: st) h Q) : WR d cd p lv (.double x :: st) h Q := by subst e; exact k
theorem WR_h {d : Nat} {cd : mC} {p : Nat} {lv : mL} {st : List Value} {h h2 : mH} {Q : mQ} (e : h = h2) (k : WR d cd p lv st h2 Q) : WR d cd p lv st h Q := by subst e; exact k
section W2
variable {h : mH} {a b k j : Nat}
theorem I_ne {v : Int32} (hn : b ≠ a) : hI (sI h a k v) b j = hI h b j := u2_ne _ hn k j v
theorem I_nk {v : Int32} (hn : j ≠ k) : hI (sI h a k v) b j = hI h b j := by rw [hI_sI, if_neg (fun z => hn z.2)]
theorem I_eq {v : Int32} : hI (sI h a k v) a k = v := by rw [hI_sI, if_pos ⟨rfl, rfl⟩]
theorem I_oL {v : Int64} : hI (sL h a k v) b j = hI h b j := rfl
theorem I_oD {v : UInt64} : hI (sD h a k v) b j = hI h b j := rfl
theorem I_oR {v : Option Nat} : hI (sR h a k v) b j = hI h b j := rfl
theorem L_ne {v : Int64} (hn : b ≠ a) : hL (sL h a k v) b j = hL h b j := u2_ne _ hn k j v
theorem L_nk {v : Int64} (hn : j ≠ k) : hL (sL h a k v) b j = hL h b j := by rw [hL_sL, if_neg (fun z => hn z.2)]
theorem L_eq {v : Int64} : hL (sL h a k v) a k = v := by rw [hL_sL, if_pos ⟨rfl, rfl⟩]
theorem L_oI {v : Int32} : hL (sI h a k v) b j = hL h b j := rfl
theorem L_oD {v : UInt64} : hL (sD h a k v) b j = hL h b j := rfl
theorem L_oR {v : Option Nat} : hL (sR h a k v) b j = hL h b j := rfl
theorem D_ne {v : UInt64} (hn : b ≠ a) : hD (sD h a k v) b j = hD h b j := u2_ne _ hn k j v
theorem D_nk {v : UInt64} (hn : j ≠ k) : hD (sD h a k v) b j = hD h b j := by rw [hD_sD, if_neg (fun z => hn z.2)]
theorem D_eq {v : UInt64} : hD (sD h a k v) a k = v := by rw [hD_sD, if_pos ⟨rfl, rfl⟩]
theorem D_oI {v : Int32} : hD (sI h a k v) b j = hD h b j := rfl
theorem D_oL {v : Int64} : hD (sL h a k v) b j = hD h b j := rfl
theorem D_oR {v : Option Nat} : hD (sR h a k v) b j = hD h b j := rfl
theorem R_ne {v : Option Nat} (hn : b ≠ a) : hR (sR h a k v) b j = hR h b j := u2_ne _ hn k j v
theorem R_nk {v : Option Nat} (hn : j ≠ k) : hR (sR h a k v) b j = hR h b j := by rw [hR_sR, if_neg (fun z => hn z.2)]
theorem R_eq {v : Option Nat} : hR (sR h a k v) a k = v := by rw [hR_sR, if_pos ⟨rfl, rfl⟩]
theorem R_oI {v : Int32} : hR (sI h a k v) b j = hR h b j := rfl
theorem R_oL {v : Int64} : hR (sL h a k v) b j = hR h b j := rfl
theorem R_oD {v : UInt64} : hR (sD h a k v) b j = hR h b j := rfl
end W2
theorem i_lt {x y : Int32} (q : x < y) : x.toInt < y.toInt := Int32.lt_iff_toInt_lt.mp q
theorem i_le {x y : Int32} (q : x ≤ y) : x.toInt ≤ y.toInt := Int32.le_iff_toInt_le.mp q
theorem i_nlt {x y : Int32} (q : ¬ x < y) : y.toInt ≤ x.toInt := Int.not_lt.mp (fun z => q (Int32.lt_iff_toInt_lt.mpr z))
theorem i_nle {x y : Int32} (q : ¬ x ≤ y) : y.toInt < x.toInt := Int.not_le.mp (fun z => q (Int32.le_iff_toInt_le.mpr z))
theorem i_eq {x y : Int32} (q : x = y) : x.toInt = y.toInt := by rw [q]
theorem i_neq {x y : Int32} (q : ¬ x = y) : ¬ x.toInt = y.toInt := fun z => q (Int32.toInt_inj.mp z)
theorem l_lt {x y : Int64} (q : x < y) : x.toInt < y.toInt := Int64.lt_iff_toInt_lt.mp q
theorem l_le {x y : Int64} (q : x ≤ y) : x.toInt ≤ y.toInt := Int64.le_iff_toInt_le.mp q
theorem l_nlt {x y : Int64} (q : ¬ x < y) : y.toInt ≤ x.toInt := Int.not_lt.mp (fun z => q (Int64.lt_iff_toInt_lt.mpr z))
theorem l_nle {x y : Int64} (q : ¬ x ≤ y) : y.toInt < x.toInt := Int.not_le.mp (fun z => q (Int64.le_iff_toInt_le.mpr z))
theorem l_eq {x y : Int64} (q : x = y) : x.toInt = y.toInt := by rw [q]
theorem l_neq {x y : Int64} (q : ¬ x = y) : ¬ x.toInt = y.toInt := fun z => q (Int64.toInt_inj.mp z)
theorem i_rg (x : Int32) : -2147483648 ≤ x.toInt ∧ x.toInt ≤ 2147483647 := ⟨Int32.le_toInt x, by have := Int32.toInt_lt x; omega⟩
theorem w_t (x : Int32) : x.toInt64.toInt = x.toInt := Int32.toInt_toInt64 x
theorem add_t {x y : Int32} (h1 : -2147483648 ≤ x.toInt + y.toInt) (h2 : x.toInt + y.toInt ≤ 2147483647) : (x + y).toInt = x.toInt + y.toInt := by
  rw [Int32.toInt_add]; exact Int.bmod_eq_of_le (by omega) (by omega)
theorem sub_t {x y : Int32} (h1 : -2147483648 ≤ x.toInt - y.toInt) (h2 : x.toInt - y.toInt ≤ 2147483647) : (x - y).toInt = x.toInt - y.toInt := by
  rw [Int32.toInt_sub]; exact Int.bmod_eq_of_le (by omega) (by omega)
theorem nI_n {k n : Nat} (h : k < n) (hn : n ≤ 2147483648) : (nI k).toInt = k := nI_toInt (by omega)
theorem ad_dy {n : Nat} {ad sa : Nat → Nat} {z0 : Nat} {h : mH} (fx : FX n ad sa z0 h) {i a : Nat} (hd : dom n i) (ha : z0 ≤ a) : ad i ≠ a := by
  have := (fx_lt fx hd).1; omega
theorem dy_ad {n : Nat} {ad sa : Nat → Nat} {z0 : Nat} {h : mH} (fx : FX n ad sa z0 h) {i a : Nat} (hd : dom n i) (ha : z0 ≤ a) : a ≠ ad i := by
  have := (fx_lt fx hd).1; omega
/-- a call of the class, then the same call of the reference -/
def AP (n : Nat) (ad sa : Nat → Nat) (z0 : Nat) (h : mH) (xi mi : Nat) (as : List Value) : Prop :=
  EV 100 xi (.ref (ad 0) :: as) h (fun v h1 => EV 100 mi (.ref (ad 30) :: as) h1 (fun v2 h2 => v2 = v ∧ Rel n ad sa z0 h2 ∧ hZ h2 ≤ hZ h + 20 ∧ hU h2 ≤ hU h + 150))
/-- what a case holds, told apart -/
theorem Rs.cs {n : Nat} {ad sa : Nat → Nat} {z0 : Nat} {mid pa : Nat → Nat} {np : Nat} {h : mH} (r : Rs ad z0 mid pa np h) {c : Nat} (hc : c < 24) :
    (hI h (ad 31) c = -1 ∧ hR h (ad 1) c = none) ∨
    (∃ q k, q < np ∧ np ≤ 60 ∧ hI h (ad 31) c = nI (q + 1000) ∧ hR h (ad 1) c = some (pa q) ∧ z0 ≤ pa q ∧ hT h (pa q) = 4 ∧ hI h (pa q) 1 = nI q ∧ hI h (pa q) 0 = nI k ∧ hI h (ad 37) q = nI k ∧ k < 7 ∧ hL h (pa q) 2 = hL h (ad 38) q) ∨
    (∃ t ln sz, t < 250 ∧ hI h (ad 31) c = nI t ∧ hR h (ad 1) c = some (mid t) ∧ z0 ≤ mid t ∧ hT h (mid t) = 5 ∧ hR h (mid t) 1 = some (mid t + 1) ∧ hT h (mid t + 1) = 21 ∧ hI h (mid t) 0 = nI ln ∧ hI h (ad 33) t = nI ln ∧ ln < 8 ∧ hI h (ad 34) t = 0 ∧ hN h (mid t + 1) = sz ∧ hI h (ad 35) t = nI sz ∧ sz ≤ 30 ∧ (∀ i, i < sz → hL h (mid t + 1) i = hL h (ad 36) (30 * t + i) ∧ canL ln (hL h (mid t + 1) i)) ∧ rowR ad z0 h t (mid t) ln) ∨
    (∃ t sz, t < 250 ∧ hI h (ad 31) c = nI t ∧ hR h (ad 1) c = some (mid t) ∧ z0 ≤ mid t ∧ hT h (mid t) = 6 ∧ hR h (mid t) 1 = some (mid t + 1) ∧ hT h (mid t + 1) = 24 ∧ hI h (mid t) 0 = -1 ∧ hI h (ad 33) t = 8 ∧ hI h (ad 34) t = 0 ∧ hN h (mid t + 1) = sz ∧ hI h (ad 35) t = nI sz ∧ sz ≤ 8 ∧ (∀ i, i < sz → (hL h (ad 36) (30 * t + i) = -1 ∧ hR h (mid t + 1) i = none) ∨ ∃ t', t' < 250 ∧ hL h (ad 36) (30 * t + i) = lN t' ∧ hR h (mid t + 1) i = some (mid t') ∧ rowR ad z0 h t' (mid t') 3) ∧ grdR ad z0 mid h t (mid t)) ∨
    (∃ t k sz, t < 250 ∧ hI h (ad 31) c = nI t ∧ hR h (ad 1) c = some (mid t) ∧ z0 ≤ mid t ∧ hT h (mid t) = 6 ∧ hR h (mid t) 1 = some (mid t + 1) ∧ hT h (mid t + 1) = 24 ∧ hI h (mid t) 0 = nI k ∧ hI h (ad 33) t = 9 ∧ hI h (ad 34) t = nI k ∧ k < 8 ∧ hN h (mid t + 1) = sz ∧ hI h (ad 35) t = nI sz ∧ sz ≤ 8 ∧ (∀ i, i < sz → (hL h (ad 36) (30 * t + i) = -1 ∧ hR h (mid t + 1) i = none) ∨ ∃ q, q < np ∧ hL h (ad 36) (30 * t + i) = lN (1000 + q) ∧ hR h (mid t + 1) i = some (pa q) ∧ ∃ kq, hI h (ad 37) q = nI kq ∧ kq < 7 ∧ ofK kq k = true) ∧ craR ad z0 pa np h t (mid t)) := by
  rcases r.2.1 c hc with e | ⟨q, hq, e1, e2⟩ | ⟨t, ht, e1, e2, ⟨ln, w⟩ | w | w⟩
  · exact .inl e
  · obtain ⟨w1, w2, w3, w4, ⟨k, w5, w6⟩, w7⟩ := r.1.2.2.2.1 q hq
    exact .inr (.inl ⟨q, k, hq, r.1.1, by rw [e1, Nat.add_comm], e2, w2, w1, w3, w4.trans w6, w6, w5, w7⟩)
  · obtain ⟨w1, w2, w3, w4, ⟨w5, w6, w7, w8⟩, sz, w9, w10, w11, w12⟩ := id w
    exact .inr (.inr (.inl ⟨t, ln, sz, ht, e1, e2, w2, w1, w3, w4, w6, w7, w5, w8, w10, w11, w9, w12, w⟩))
  · obtain ⟨w1, w2, w3, w4, ⟨w5, w6, w7⟩, sz, w9, w10, w11, w12⟩ := id w
    exact .inr (.inr (.inr (.inl ⟨t, sz, ht, e1, e2, w2, w1, w3, w4, w5, w6, w7, w10, w11, w9, w12, w⟩)))
  · obtain ⟨w1, w2, w3, w4, k, ⟨w5, w6, w7, w8⟩, sz, w9, w10, w11, w12⟩ := id w
    exact .inr (.inr (.inr (.inr ⟨t, k, sz, ht, e1, e2, w2, w1, w3, w4, w6, w7, w8, w5, w10, w11, w9, w12, w⟩)))

/-! ===== more of turbines and lanes ===== -/
theorem canL_fit2 {k ln : Nat} (e : ln = k) (h : k < 8) (b : Int64) : canL ln (fitV (nI k) b) := by subst e; exact canL_fit h b
theorem tu5.d {ad : Nat → Nat} {h h2 : mH} {t : Nat} (q : tu5 ad h t) (a : ∀ j, hD h2 (ad (100 + 5 * t)) j = hD h (ad (100 + 5 * t)) j) (b1 : hD h2 (ad 67) t = hD h (ad 67) t) (b2 : hD h2 (ad 68) t = hD h (ad 68) t) (b3 : hD h2 (ad 69) t = hD h (ad 69) t) (b4 : hD h2 (ad 70) t = hD h (ad 70) t) (b5 : hD h2 (ad 71) t = hD h (ad 71) t) (b6 : hD h2 (ad 73) t = hD h (ad 73) t) (c : hI h2 (ad 30) 63 = hI h (ad 30) 63) : tu5 ad h2 t := by
  unfold tu5 at q ⊢
  rw [a, a, a, a, a, a, b1, b2, b3, b4, b5, b6, c]; exact q

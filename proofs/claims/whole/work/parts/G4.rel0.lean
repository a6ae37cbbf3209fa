/-! ===== the start: what the constructors have made is related ===== -/
def raI (n i : Nat) : Nat := if i < 9 then i else if i < 23 then 5 * n + i else if i < 100 then 5 * n + (i - 7) else i - 91
def adz (n z i : Nat) : Nat := if ((i < 23 ∨ 30 ≤ i) ∧ i < 76) ∨ (100 ≤ i ∧ i < 100 + 5 * n) then z + raI n i else z + 1000 + i
def zIs : List (Nat × Nat) := [(0, 5), (0, 6), (2, 1), (4, 2), (4, 3), (4, 4), (4, 5), (9, 8), (9, 9), (9, 10), (9, 11), (9, 12), (9, 13), (30, 6), (30, 9), (30, 11), (30, 31), (30, 32), (30, 34), (30, 35), (30, 42), (30, 43), (30, 61), (30, 62), (30, 63), (30, 64)]
def CK (n : Nat) (G : qG) : Prop := (qc G = 69 + 5 * n ∧ qu G ≤ 40000) ∧ (∀ r ∈ fxL, qT G (raI n r.1) = (r.2.1, r.2.2)) ∧ (qT G 7 = (25, n) ∧ qT G 8 = (25, n)) ∧ (∀ r ∈ fxR, qR G (raI n r.1) r.2.1 = some (raI n r.2.2)) ∧
  (∀ t, t < n → qR G 7 t = some (9 + 5 * t) ∧ (qT G (9 + 5 * t)).1 = 8 ∧ qT G (10 + 5 * t) = (26, 5) ∧ qT G (11 + 5 * t) = (21, 3) ∧ qT G (12 + 5 * t) = (21, 3) ∧ qT G (13 + 5 * t) = (21, 3) ∧ qR G (9 + 5 * t) 5 = some (10 + 5 * t) ∧ qR G (9 + 5 * t) 6 = some (11 + 5 * t) ∧ qR G (9 + 5 * t) 7 = some (12 + 5 * t) ∧ qR G (9 + 5 * t) 8 = some (13 + 5 * t)) ∧
  (∀ p ∈ zIs, qI G (raI n p.1) p.2 = 0) ∧ qI G (raI n 30) 12 = nI n ∧ (∀ p, p < 10 → qI G (raI n 11) p = 0 ∧ qI G (raI n 43) p = 0) ∧ (∀ c, c < 24 → qI G (raI n 31) c = -1 ∧ qR G (raI n 1) c = none) ∧
  ∀ t, t < n → (qI G (9 + 5 * t) 0 = nI t ∧ qI G (9 + 5 * t) 1 = 0 ∧ qI G (9 + 5 * t) 2 = 0 ∧ qI G (9 + 5 * t) 9 = 0 ∧ qI G (9 + 5 * t) 10 = 0) ∧ (qI G (raI n 61) t = 0 ∧ qI G (raI n 62) t = 0 ∧ qI G (raI n 56) t = 0 ∧ qI G (raI n 66) t = 0) ∧ (qL G (9 + 5 * t) 11 = 0 ∧ qD G (raI n 72) t = 0) ∧
    (qD G (9 + 5 * t) 12 = 0 ∧ qD G (9 + 5 * t) 13 = 4636033603912859648 ∧ qD G (9 + 5 * t) 14 = 0 ∧ qD G (9 + 5 * t) 15 = 0 ∧ qD G (9 + 5 * t) 16 = 0 ∧ qD G (9 + 5 * t) 17 = 4652007308841189376) ∧ (qD G (raI n 73) t = 0 ∧ qD G (raI n 67) t = 4636033603912859648 ∧ qD G (raI n 68) t = 0 ∧ qD G (raI n 69) t = 0 ∧ qD G (raI n 70) t = 0 ∧ qD G (raI n 71) t = 4652007308841189376) ∧
    (∀ s, s < 3 → qL G (11 + 5 * t) s = 9221120237041090560 ∧ qD G (raI n 63) (3 * t + s) = 9221120237041090560 ∧ qL G (12 + 5 * t) s = 0 ∧ qL G (13 + 5 * t) s = 0 ∧ qL G (raI n 64) (3 * t + s) = 0 ∧ qL G (raI n 65) (3 * t + s) = 0) ∧ ∀ s, s < 5 → qI G (raI n 57) (5 * t + s) = -1 ∧ qR G (10 + 5 * t) s = none
theorem ck_1 : CK 1 (gAll 1) := by
  have a1 : ∀ t, t < 1 → (qI (gAll 1) (9 + 5 * t) 0 = nI t ∧ qI (gAll 1) (9 + 5 * t) 1 = 0 ∧ qI (gAll 1) (9 + 5 * t) 2 = 0 ∧ qI (gAll 1) (9 + 5 * t) 9 = 0 ∧ qI (gAll 1) (9 + 5 * t) 10 = 0) := by decide +kernel
  have a2 : ∀ t, t < 1 → (qI (gAll 1) (raI 1 61) t = 0 ∧ qI (gAll 1) (raI 1 62) t = 0 ∧ qI (gAll 1) (raI 1 56) t = 0 ∧ qI (gAll 1) (raI 1 66) t = 0) := by decide +kernel
  have a3 : ∀ t, t < 1 → (qL (gAll 1) (9 + 5 * t) 11 = 0 ∧ qD (gAll 1) (raI 1 72) t = 0) := by decide +kernel
  have a4 : ∀ t, t < 1 → (qD (gAll 1) (9 + 5 * t) 12 = 0 ∧ qD (gAll 1) (9 + 5 * t) 13 = 4636033603912859648 ∧ qD (gAll 1) (9 + 5 * t) 14 = 0 ∧ qD (gAll 1) (9 + 5 * t) 15 = 0 ∧ qD (gAll 1) (9 + 5 * t) 16 = 0 ∧ qD (gAll 1) (9 + 5 * t) 17 = 4652007308841189376) := by decide +kernel
  have a5 : ∀ t, t < 1 → (qD (gAll 1) (raI 1 73) t = 0 ∧ qD (gAll 1) (raI 1 67) t = 4636033603912859648 ∧ qD (gAll 1) (raI 1 68) t = 0 ∧ qD (gAll 1) (raI 1 69) t = 0 ∧ qD (gAll 1) (raI 1 70) t = 0 ∧ qD (gAll 1) (raI 1 71) t = 4652007308841189376) := by decide +kernel
  have a6 : ∀ t, t < 1 → (∀ s, s < 3 → qL (gAll 1) (11 + 5 * t) s = 9221120237041090560 ∧ qD (gAll 1) (raI 1 63) (3 * t + s) = 9221120237041090560 ∧ qL (gAll 1) (12 + 5 * t) s = 0 ∧ qL (gAll 1) (13 + 5 * t) s = 0 ∧ qL (gAll 1) (raI 1 64) (3 * t + s) = 0 ∧ qL (gAll 1) (raI 1 65) (3 * t + s) = 0) := by decide +kernel
  have a7 : ∀ t, t < 1 → (∀ s, s < 5 → qI (gAll 1) (raI 1 57) (5 * t + s) = -1 ∧ qR (gAll 1) (10 + 5 * t) s = none) := by decide +kernel
  have a8 : ∀ t, t < 1 → (qR (gAll 1) 7 t = some (9 + 5 * t) ∧ (qT (gAll 1) (9 + 5 * t)).1 = 8 ∧ qT (gAll 1) (10 + 5 * t) = (26, 5) ∧ qT (gAll 1) (11 + 5 * t) = (21, 3) ∧ qT (gAll 1) (12 + 5 * t) = (21, 3) ∧ qT (gAll 1) (13 + 5 * t) = (21, 3)) := by decide +kernel
  have a9 : ∀ t, t < 1 → (qR (gAll 1) (9 + 5 * t) 5 = some (10 + 5 * t) ∧ qR (gAll 1) (9 + 5 * t) 6 = some (11 + 5 * t) ∧ qR (gAll 1) (9 + 5 * t) 7 = some (12 + 5 * t) ∧ qR (gAll 1) (9 + 5 * t) 8 = some (13 + 5 * t)) := by decide +kernel
  exact ⟨⟨by decide +kernel, by decide +kernel⟩, by decide +kernel, ⟨by decide +kernel, by decide +kernel⟩, by decide +kernel, fun t ht => ⟨(a8 t ht).1, (a8 t ht).2.1, (a8 t ht).2.2.1, (a8 t ht).2.2.2.1, (a8 t ht).2.2.2.2.1, (a8 t ht).2.2.2.2.2, a9 t ht⟩, by decide +kernel, by decide +kernel, by decide +kernel, by decide +kernel, fun t ht => ⟨a1 t ht, a2 t ht, a3 t ht, a4 t ht, a5 t ht, a6 t ht, a7 t ht⟩⟩
theorem ck_2 : CK 2 (gAll 2) := by
  have a1 : ∀ t, t < 2 → (qI (gAll 2) (9 + 5 * t) 0 = nI t ∧ qI (gAll 2) (9 + 5 * t) 1 = 0 ∧ qI (gAll 2) (9 + 5 * t) 2 = 0 ∧ qI (gAll 2) (9 + 5 * t) 9 = 0 ∧ qI (gAll 2) (9 + 5 * t) 10 = 0) := by decide +kernel
  have a2 : ∀ t, t < 2 → (qI (gAll 2) (raI 2 61) t = 0 ∧ qI (gAll 2) (raI 2 62) t = 0 ∧ qI (gAll 2) (raI 2 56) t = 0 ∧ qI (gAll 2) (raI 2 66) t = 0) := by decide +kernel
  have a3 : ∀ t, t < 2 → (qL (gAll 2) (9 + 5 * t) 11 = 0 ∧ qD (gAll 2) (raI 2 72) t = 0) := by decide +kernel
  have a4 : ∀ t, t < 2 → (qD (gAll 2) (9 + 5 * t) 12 = 0 ∧ qD (gAll 2) (9 + 5 * t) 13 = 4636033603912859648 ∧ qD (gAll 2) (9 + 5 * t) 14 = 0 ∧ qD (gAll 2) (9 + 5 * t) 15 = 0 ∧ qD (gAll 2) (9 + 5 * t) 16 = 0 ∧ qD (gAll 2) (9 + 5 * t) 17 = 4652007308841189376) := by decide +kernel
  have a5 : ∀ t, t < 2 → (qD (gAll 2) (raI 2 73) t = 0 ∧ qD (gAll 2) (raI 2 67) t = 4636033603912859648 ∧ qD (gAll 2) (raI 2 68) t = 0 ∧ qD (gAll 2) (raI 2 69) t = 0 ∧ qD (gAll 2) (raI 2 70) t = 0 ∧ qD (gAll 2) (raI 2 71) t = 4652007308841189376) := by decide +kernel
  have a6 : ∀ t, t < 2 → (∀ s, s < 3 → qL (gAll 2) (11 + 5 * t) s = 9221120237041090560 ∧ qD (gAll 2) (raI 2 63) (3 * t + s) = 9221120237041090560 ∧ qL (gAll 2) (12 + 5 * t) s = 0 ∧ qL (gAll 2) (13 + 5 * t) s = 0 ∧ qL (gAll 2) (raI 2 64) (3 * t + s) = 0 ∧ qL (gAll 2) (raI 2 65) (3 * t + s) = 0) := by decide +kernel
  have a7 : ∀ t, t < 2 → (∀ s, s < 5 → qI (gAll 2) (raI 2 57) (5 * t + s) = -1 ∧ qR (gAll 2) (10 + 5 * t) s = none) := by decide +kernel
  have a8 : ∀ t, t < 2 → (qR (gAll 2) 7 t = some (9 + 5 * t) ∧ (qT (gAll 2) (9 + 5 * t)).1 = 8 ∧ qT (gAll 2) (10 + 5 * t) = (26, 5) ∧ qT (gAll 2) (11 + 5 * t) = (21, 3) ∧ qT (gAll 2) (12 + 5 * t) = (21, 3) ∧ qT (gAll 2) (13 + 5 * t) = (21, 3)) := by decide +kernel
  have a9 : ∀ t, t < 2 → (qR (gAll 2) (9 + 5 * t) 5 = some (10 + 5 * t) ∧ qR (gAll 2) (9 + 5 * t) 6 = some (11 + 5 * t) ∧ qR (gAll 2) (9 + 5 * t) 7 = some (12 + 5 * t) ∧ qR (gAll 2) (9 + 5 * t) 8 = some (13 + 5 * t)) := by decide +kernel
  exact ⟨⟨by decide +kernel, by decide +kernel⟩, by decide +kernel, ⟨by decide +kernel, by decide +kernel⟩, by decide +kernel, fun t ht => ⟨(a8 t ht).1, (a8 t ht).2.1, (a8 t ht).2.2.1, (a8 t ht).2.2.2.1, (a8 t ht).2.2.2.2.1, (a8 t ht).2.2.2.2.2, a9 t ht⟩, by decide +kernel, by decide +kernel, by decide +kernel, by decide +kernel, fun t ht => ⟨a1 t ht, a2 t ht, a3 t ht, a4 t ht, a5 t ht, a6 t ht, a7 t ht⟩⟩
theorem ck_3 : CK 3 (gAll 3) := by
  have a1 : ∀ t, t < 3 → (qI (gAll 3) (9 + 5 * t) 0 = nI t ∧ qI (gAll 3) (9 + 5 * t) 1 = 0 ∧ qI (gAll 3) (9 + 5 * t) 2 = 0 ∧ qI (gAll 3) (9 + 5 * t) 9 = 0 ∧ qI (gAll 3) (9 + 5 * t) 10 = 0) := by decide +kernel
  have a2 : ∀ t, t < 3 → (qI (gAll 3) (raI 3 61) t = 0 ∧ qI (gAll 3) (raI 3 62) t = 0 ∧ qI (gAll 3) (raI 3 56) t = 0 ∧ qI (gAll 3) (raI 3 66) t = 0) := by decide +kernel
  have a3 : ∀ t, t < 3 → (qL (gAll 3) (9 + 5 * t) 11 = 0 ∧ qD (gAll 3) (raI 3 72) t = 0) := by decide +kernel
  have a4 : ∀ t, t < 3 → (qD (gAll 3) (9 + 5 * t) 12 = 0 ∧ qD (gAll 3) (9 + 5 * t) 13 = 4636033603912859648 ∧ qD (gAll 3) (9 + 5 * t) 14 = 0 ∧ qD (gAll 3) (9 + 5 * t) 15 = 0 ∧ qD (gAll 3) (9 + 5 * t) 16 = 0 ∧ qD (gAll 3) (9 + 5 * t) 17 = 4652007308841189376) := by decide +kernel
  have a5 : ∀ t, t < 3 → (qD (gAll 3) (raI 3 73) t = 0 ∧ qD (gAll 3) (raI 3 67) t = 4636033603912859648 ∧ qD (gAll 3) (raI 3 68) t = 0 ∧ qD (gAll 3) (raI 3 69) t = 0 ∧ qD (gAll 3) (raI 3 70) t = 0 ∧ qD (gAll 3) (raI 3 71) t = 4652007308841189376) := by decide +kernel
  have a6 : ∀ t, t < 3 → (∀ s, s < 3 → qL (gAll 3) (11 + 5 * t) s = 9221120237041090560 ∧ qD (gAll 3) (raI 3 63) (3 * t + s) = 9221120237041090560 ∧ qL (gAll 3) (12 + 5 * t) s = 0 ∧ qL (gAll 3) (13 + 5 * t) s = 0 ∧ qL (gAll 3) (raI 3 64) (3 * t + s) = 0 ∧ qL (gAll 3) (raI 3 65) (3 * t + s) = 0) := by decide +kernel
  have a7 : ∀ t, t < 3 → (∀ s, s < 5 → qI (gAll 3) (raI 3 57) (5 * t + s) = -1 ∧ qR (gAll 3) (10 + 5 * t) s = none) := by decide +kernel
  have a8 : ∀ t, t < 3 → (qR (gAll 3) 7 t = some (9 + 5 * t) ∧ (qT (gAll 3) (9 + 5 * t)).1 = 8 ∧ qT (gAll 3) (10 + 5 * t) = (26, 5) ∧ qT (gAll 3) (11 + 5 * t) = (21, 3) ∧ qT (gAll 3) (12 + 5 * t) = (21, 3) ∧ qT (gAll 3) (13 + 5 * t) = (21, 3)) := by decide +kernel
  have a9 : ∀ t, t < 3 → (qR (gAll 3) (9 + 5 * t) 5 = some (10 + 5 * t) ∧ qR (gAll 3) (9 + 5 * t) 6 = some (11 + 5 * t) ∧ qR (gAll 3) (9 + 5 * t) 7 = some (12 + 5 * t) ∧ qR (gAll 3) (9 + 5 * t) 8 = some (13 + 5 * t)) := by decide +kernel
  exact ⟨⟨by decide +kernel, by decide +kernel⟩, by decide +kernel, ⟨by decide +kernel, by decide +kernel⟩, by decide +kernel, fun t ht => ⟨(a8 t ht).1, (a8 t ht).2.1, (a8 t ht).2.2.1, (a8 t ht).2.2.2.1, (a8 t ht).2.2.2.2.1, (a8 t ht).2.2.2.2.2, a9 t ht⟩, by decide +kernel, by decide +kernel, by decide +kernel, by decide +kernel, fun t ht => ⟨a1 t ht, a2 t ht, a3 t ht, a4 t ht, a5 t ht, a6 t ht, a7 t ht⟩⟩
theorem ck_4 : CK 4 (gAll 4) := by
  have a1 : ∀ t, t < 4 → (qI (gAll 4) (9 + 5 * t) 0 = nI t ∧ qI (gAll 4) (9 + 5 * t) 1 = 0 ∧ qI (gAll 4) (9 + 5 * t) 2 = 0 ∧ qI (gAll 4) (9 + 5 * t) 9 = 0 ∧ qI (gAll 4) (9 + 5 * t) 10 = 0) := by decide +kernel
  have a2 : ∀ t, t < 4 → (qI (gAll 4) (raI 4 61) t = 0 ∧ qI (gAll 4) (raI 4 62) t = 0 ∧ qI (gAll 4) (raI 4 56) t = 0 ∧ qI (gAll 4) (raI 4 66) t = 0) := by decide +kernel
  have a3 : ∀ t, t < 4 → (qL (gAll 4) (9 + 5 * t) 11 = 0 ∧ qD (gAll 4) (raI 4 72) t = 0) := by decide +kernel
  have a4 : ∀ t, t < 4 → (qD (gAll 4) (9 + 5 * t) 12 = 0 ∧ qD (gAll 4) (9 + 5 * t) 13 = 4636033603912859648 ∧ qD (gAll 4) (9 + 5 * t) 14 = 0 ∧ qD (gAll 4) (9 + 5 * t) 15 = 0 ∧ qD (gAll 4) (9 + 5 * t) 16 = 0 ∧ qD (gAll 4) (9 + 5 * t) 17 = 4652007308841189376) := by decide +kernel
  have a5 : ∀ t, t < 4 → (qD (gAll 4) (raI 4 73) t = 0 ∧ qD (gAll 4) (raI 4 67) t = 4636033603912859648 ∧ qD (gAll 4) (raI 4 68) t = 0 ∧ qD (gAll 4) (raI 4 69) t = 0 ∧ qD (gAll 4) (raI 4 70) t = 0 ∧ qD (gAll 4) (raI 4 71) t = 4652007308841189376) := by decide +kernel
  have a6 : ∀ t, t < 4 → (∀ s, s < 3 → qL (gAll 4) (11 + 5 * t) s = 9221120237041090560 ∧ qD (gAll 4) (raI 4 63) (3 * t + s) = 9221120237041090560 ∧ qL (gAll 4) (12 + 5 * t) s = 0 ∧ qL (gAll 4) (13 + 5 * t) s = 0 ∧ qL (gAll 4) (raI 4 64) (3 * t + s) = 0 ∧ qL (gAll 4) (raI 4 65) (3 * t + s) = 0) := by decide +kernel
  have a7 : ∀ t, t < 4 → (∀ s, s < 5 → qI (gAll 4) (raI 4 57) (5 * t + s) = -1 ∧ qR (gAll 4) (10 + 5 * t) s = none) := by decide +kernel
  have a8 : ∀ t, t < 4 → (qR (gAll 4) 7 t = some (9 + 5 * t) ∧ (qT (gAll 4) (9 + 5 * t)).1 = 8 ∧ qT (gAll 4) (10 + 5 * t) = (26, 5) ∧ qT (gAll 4) (11 + 5 * t) = (21, 3) ∧ qT (gAll 4) (12 + 5 * t) = (21, 3) ∧ qT (gAll 4) (13 + 5 * t) = (21, 3)) := by decide +kernel
  have a9 : ∀ t, t < 4 → (qR (gAll 4) (9 + 5 * t) 5 = some (10 + 5 * t) ∧ qR (gAll 4) (9 + 5 * t) 6 = some (11 + 5 * t) ∧ qR (gAll 4) (9 + 5 * t) 7 = some (12 + 5 * t) ∧ qR (gAll 4) (9 + 5 * t) 8 = some (13 + 5 * t)) := by decide +kernel
  exact ⟨⟨by decide +kernel, by decide +kernel⟩, by decide +kernel, ⟨by decide +kernel, by decide +kernel⟩, by decide +kernel, fun t ht => ⟨(a8 t ht).1, (a8 t ht).2.1, (a8 t ht).2.2.1, (a8 t ht).2.2.2.1, (a8 t ht).2.2.2.2.1, (a8 t ht).2.2.2.2.2, a9 t ht⟩, by decide +kernel, by decide +kernel, by decide +kernel, by decide +kernel, fun t ht => ⟨a1 t ht, a2 t ht, a3 t ht, a4 t ht, a5 t ht, a6 t ht, a7 t ht⟩⟩
theorem ck_5 : CK 5 (gAll 5) := by
  have a1 : ∀ t, t < 5 → (qI (gAll 5) (9 + 5 * t) 0 = nI t ∧ qI (gAll 5) (9 + 5 * t) 1 = 0 ∧ qI (gAll 5) (9 + 5 * t) 2 = 0 ∧ qI (gAll 5) (9 + 5 * t) 9 = 0 ∧ qI (gAll 5) (9 + 5 * t) 10 = 0) := by decide +kernel
  have a2 : ∀ t, t < 5 → (qI (gAll 5) (raI 5 61) t = 0 ∧ qI (gAll 5) (raI 5 62) t = 0 ∧ qI (gAll 5) (raI 5 56) t = 0 ∧ qI (gAll 5) (raI 5 66) t = 0) := by decide +kernel
  have a3 : ∀ t, t < 5 → (qL (gAll 5) (9 + 5 * t) 11 = 0 ∧ qD (gAll 5) (raI 5 72) t = 0) := by decide +kernel
  have a4 : ∀ t, t < 5 → (qD (gAll 5) (9 + 5 * t) 12 = 0 ∧ qD (gAll 5) (9 + 5 * t) 13 = 4636033603912859648 ∧ qD (gAll 5) (9 + 5 * t) 14 = 0 ∧ qD (gAll 5) (9 + 5 * t) 15 = 0 ∧ qD (gAll 5) (9 + 5 * t) 16 = 0 ∧ qD (gAll 5) (9 + 5 * t) 17 = 4652007308841189376) := by decide +kernel
  have a5 : ∀ t, t < 5 → (qD (gAll 5) (raI 5 73) t = 0 ∧ qD (gAll 5) (raI 5 67) t = 4636033603912859648 ∧ qD (gAll 5) (raI 5 68) t = 0 ∧ qD (gAll 5) (raI 5 69) t = 0 ∧ qD (gAll 5) (raI 5 70) t = 0 ∧ qD (gAll 5) (raI 5 71) t = 4652007308841189376) := by decide +kernel
  have a6 : ∀ t, t < 5 → (∀ s, s < 3 → qL (gAll 5) (11 + 5 * t) s = 9221120237041090560 ∧ qD (gAll 5) (raI 5 63) (3 * t + s) = 9221120237041090560 ∧ qL (gAll 5) (12 + 5 * t) s = 0 ∧ qL (gAll 5) (13 + 5 * t) s = 0 ∧ qL (gAll 5) (raI 5 64) (3 * t + s) = 0 ∧ qL (gAll 5) (raI 5 65) (3 * t + s) = 0) := by decide +kernel
  have a7 : ∀ t, t < 5 → (∀ s, s < 5 → qI (gAll 5) (raI 5 57) (5 * t + s) = -1 ∧ qR (gAll 5) (10 + 5 * t) s = none) := by decide +kernel
  have a8 : ∀ t, t < 5 → (qR (gAll 5) 7 t = some (9 + 5 * t) ∧ (qT (gAll 5) (9 + 5 * t)).1 = 8 ∧ qT (gAll 5) (10 + 5 * t) = (26, 5) ∧ qT (gAll 5) (11 + 5 * t) = (21, 3) ∧ qT (gAll 5) (12 + 5 * t) = (21, 3) ∧ qT (gAll 5) (13 + 5 * t) = (21, 3)) := by decide +kernel
  have a9 : ∀ t, t < 5 → (qR (gAll 5) (9 + 5 * t) 5 = some (10 + 5 * t) ∧ qR (gAll 5) (9 + 5 * t) 6 = some (11 + 5 * t) ∧ qR (gAll 5) (9 + 5 * t) 7 = some (12 + 5 * t) ∧ qR (gAll 5) (9 + 5 * t) 8 = some (13 + 5 * t)) := by decide +kernel
  exact ⟨⟨by decide +kernel, by decide +kernel⟩, by decide +kernel, ⟨by decide +kernel, by decide +kernel⟩, by decide +kernel, fun t ht => ⟨(a8 t ht).1, (a8 t ht).2.1, (a8 t ht).2.2.1, (a8 t ht).2.2.2.1, (a8 t ht).2.2.2.2.1, (a8 t ht).2.2.2.2.2, a9 t ht⟩, by decide +kernel, by decide +kernel, by decide +kernel, by decide +kernel, fun t ht => ⟨a1 t ht, a2 t ht, a3 t ht, a4 t ht, a5 t ht, a6 t ht, a7 t ht⟩⟩
theorem ck_6 : CK 6 (gAll 6) := by
  have a1 : ∀ t, t < 6 → (qI (gAll 6) (9 + 5 * t) 0 = nI t ∧ qI (gAll 6) (9 + 5 * t) 1 = 0 ∧ qI (gAll 6) (9 + 5 * t) 2 = 0 ∧ qI (gAll 6) (9 + 5 * t) 9 = 0 ∧ qI (gAll 6) (9 + 5 * t) 10 = 0) := by decide +kernel
  have a2 : ∀ t, t < 6 → (qI (gAll 6) (raI 6 61) t = 0 ∧ qI (gAll 6) (raI 6 62) t = 0 ∧ qI (gAll 6) (raI 6 56) t = 0 ∧ qI (gAll 6) (raI 6 66) t = 0) := by decide +kernel
  have a3 : ∀ t, t < 6 → (qL (gAll 6) (9 + 5 * t) 11 = 0 ∧ qD (gAll 6) (raI 6 72) t = 0) := by decide +kernel
  have a4 : ∀ t, t < 6 → (qD (gAll 6) (9 + 5 * t) 12 = 0 ∧ qD (gAll 6) (9 + 5 * t) 13 = 4636033603912859648 ∧ qD (gAll 6) (9 + 5 * t) 14 = 0 ∧ qD (gAll 6) (9 + 5 * t) 15 = 0 ∧ qD (gAll 6) (9 + 5 * t) 16 = 0 ∧ qD (gAll 6) (9 + 5 * t) 17 = 4652007308841189376) := by decide +kernel
  have a5 : ∀ t, t < 6 → (qD (gAll 6) (raI 6 73) t = 0 ∧ qD (gAll 6) (raI 6 67) t = 4636033603912859648 ∧ qD (gAll 6) (raI 6 68) t = 0 ∧ qD (gAll 6) (raI 6 69) t = 0 ∧ qD (gAll 6) (raI 6 70) t = 0 ∧ qD (gAll 6) (raI 6 71) t = 4652007308841189376) := by decide +kernel
  have a6 : ∀ t, t < 6 → (∀ s, s < 3 → qL (gAll 6) (11 + 5 * t) s = 9221120237041090560 ∧ qD (gAll 6) (raI 6 63) (3 * t + s) = 9221120237041090560 ∧ qL (gAll 6) (12 + 5 * t) s = 0 ∧ qL (gAll 6) (13 + 5 * t) s = 0 ∧ qL (gAll 6) (raI 6 64) (3 * t + s) = 0 ∧ qL (gAll 6) (raI 6 65) (3 * t + s) = 0) := by decide +kernel
  have a7 : ∀ t, t < 6 → (∀ s, s < 5 → qI (gAll 6) (raI 6 57) (5 * t + s) = -1 ∧ qR (gAll 6) (10 + 5 * t) s = none) := by decide +kernel
  have a8 : ∀ t, t < 6 → (qR (gAll 6) 7 t = some (9 + 5 * t) ∧ (qT (gAll 6) (9 + 5 * t)).1 = 8 ∧ qT (gAll 6) (10 + 5 * t) = (26, 5) ∧ qT (gAll 6) (11 + 5 * t) = (21, 3) ∧ qT (gAll 6) (12 + 5 * t) = (21, 3) ∧ qT (gAll 6) (13 + 5 * t) = (21, 3)) := by decide +kernel
  have a9 : ∀ t, t < 6 → (qR (gAll 6) (9 + 5 * t) 5 = some (10 + 5 * t) ∧ qR (gAll 6) (9 + 5 * t) 6 = some (11 + 5 * t) ∧ qR (gAll 6) (9 + 5 * t) 7 = some (12 + 5 * t) ∧ qR (gAll 6) (9 + 5 * t) 8 = some (13 + 5 * t)) := by decide +kernel
  exact ⟨⟨by decide +kernel, by decide +kernel⟩, by decide +kernel, ⟨by decide +kernel, by decide +kernel⟩, by decide +kernel, fun t ht => ⟨(a8 t ht).1, (a8 t ht).2.1, (a8 t ht).2.2.1, (a8 t ht).2.2.2.1, (a8 t ht).2.2.2.2.1, (a8 t ht).2.2.2.2.2, a9 t ht⟩, by decide +kernel, by decide +kernel, by decide +kernel, by decide +kernel, fun t ht => ⟨a1 t ht, a2 t ht, a3 t ht, a4 t ht, a5 t ht, a6 t ht, a7 t ht⟩⟩
theorem ck_n {n : Nat} (h1 : 1 ≤ n) (h6 : n ≤ 6) : CK n (gAll n) := by
  have c : n = 1 ∨ n = 2 ∨ n = 3 ∨ n = 4 ∨ n = 5 ∨ n = 6 := by omega
  rcases c with rfl | rfl | rfl | rfl | rfl | rfl
  · exact ck_1
  · exact ck_2
  · exact ck_3
  · exact ck_4
  · exact ck_5
  · exact ck_6
theorem wp_n {n : Nat} (h1 : 1 ≤ n) (h6 : n ≤ 6) : qc (gWP (qn q0 10 7 7) 0 n) = raI n 30 := by
  have c : n = 1 ∨ n = 2 ∨ n = 3 ∨ n = 4 ∨ n = 5 ∨ n = 6 := by omega
  rcases c with rfl | rfl | rfl | rfl | rfl | rfl <;> decide +kernel
section R0
variable {n z b L : Nat} {xs : Nat → Int32} {sa : Nat → Nat} {h0 h : mH} {G : qG}
theorem adz_in (n6 : n ≤ 6) {i j : Nat} (e : adz n z i = adz n z j) : i = j := by
  unfold adz raI at e
  (repeat' split at e) <;> omega
theorem adz_d {i : Nat} (hd : dom n i) : adz n z i = z + raI n i ∧ raI n i < 69 + 5 * n := by
  have e : adz n z i = z + raI n i := if_pos hd
  refine ⟨e, ?_⟩
  unfold dom at hd
  unfold raI
  (repeat' split) <;> omega
theorem raI_T {t k : Nat} : raI n (100 + k + 5 * t) = 9 + k + 5 * t := by
  unfold raI
  rw [if_neg (by omega), if_neg (by omega), if_neg (by omega)]; omega
theorem rel0 (n1 : 1 ≤ n) (n6 : n ≤ 6) (ok : h0ok h0 b L xs sa) (x : CE h0 h (hZ h0) G) (ck : CK n G) : Rel n (adz n (hZ h0)) sa (hZ h0 + (69 + 5 * n)) h ∧ hI h (adz n (hZ h0) 30) 63 = nI 0 := by
  obtain ⟨⟨b1, b2, b3⟩, bz, st, zp, top⟩ := ok
  obtain ⟨⟨k1, k2⟩, k3, k4, k5, k6, k7, k8, k9, k10, k11⟩ := ck
  obtain ⟨⟨x1, x2⟩, x3, x4, x5, x6⟩ := x
  have aT : ∀ i, dom n i → hT h (adz n (hZ h0) i) = (qT G (raI n i)).1 ∧ hN h (adz n (hZ h0) i) = (qT G (raI n i)).2 := fun i hd => by
    obtain ⟨e, l⟩ := adz_d (z := hZ h0) hd
    rw [e]; exact (x3 _ (by omega)).1
  have aI : ∀ i j, dom n i → hI h (adz n (hZ h0) i) j = qI G (raI n i) j := fun i j hd => by
    obtain ⟨e, l⟩ := adz_d (z := hZ h0) hd
    rw [e]; exact (x3 _ (by omega)).2.1 j
  have aL : ∀ i j, dom n i → hL h (adz n (hZ h0) i) j = qL G (raI n i) j := fun i j hd => by
    obtain ⟨e, l⟩ := adz_d (z := hZ h0) hd
    rw [e]; exact (x3 _ (by omega)).2.2.1 j
  have aD : ∀ i j, dom n i → hD h (adz n (hZ h0) i) j = qD G (raI n i) j := fun i j hd => by
    obtain ⟨e, l⟩ := adz_d (z := hZ h0) hd
    rw [e]; exact (x3 _ (by omega)).2.2.2.1 j
  have aR : ∀ i j, dom n i → hR h (adz n (hZ h0) i) j = (qR G (raI n i) j).map (hZ h0 + ·) := fun i j hd => by
    obtain ⟨e, l⟩ := adz_d (z := hZ h0) hd
    rw [e]; exact (x3 _ (by omega)).2.2.2.2 j
  have dl : ∀ i, ((i < 23 ∨ 30 ≤ i) ∧ i < 76) → dom n i := fun i q => .inl q
  have dt : ∀ t k, t < n → k < 5 → dom n (100 + k + 5 * t) := fun t k ht hk => .inr ⟨by omega, by omega⟩
  have at' : ∀ t k, t < n → k < 5 → adz n (hZ h0) (100 + k + 5 * t) = hZ h0 + (9 + k + 5 * t) := fun t k ht hk => by rw [(adz_d (dt t k ht hk)).1, raI_T]
  have zr : ∀ p ∈ zIs, hI h (adz n (hZ h0) p.1) p.2 = 0 := fun p hp => by
    have q : ∀ p ∈ zIs, (p.1 < 23 ∨ 30 ≤ p.1) ∧ p.1 < 76 := by decide
    rw [aI _ _ (dl _ (q p hp))]; exact k7 p hp
  have z0 : ∀ i j, (i, j) ∈ zIs → hI h (adz n (hZ h0) i) j = 0 := fun i j hp => zr (i, j) hp
  have n0 : nI 0 = (0 : Int32) := rfl
  have fx : FX n (adz n (hZ h0)) sa (hZ h0 + (69 + 5 * n)) h := by
    refine ⟨fun r hr => ?_, ?_, fun r hr => ?_, fun t ht => ?_, fun j hj => ?_, fun i j e => adz_in n6 e, fun i hd => ⟨?_, ?_, fun j hj => ?_⟩, ⟨n1, n6⟩, by rw [x1, k1]; omega⟩
    · have q : ∀ r ∈ fxL, (r.1 < 23 ∨ 30 ≤ r.1) ∧ r.1 < 76 := by decide
      obtain ⟨u, v⟩ := aT r.1 (dl _ (q r hr))
      rw [u, v, k3 r hr]; exact ⟨rfl, rfl⟩
    · obtain ⟨u, v⟩ := aT 7 (dl 7 (by decide))
      obtain ⟨u', v'⟩ := aT 8 (dl 8 (by decide))
      have e7 : raI n 7 = 7 := rfl
      have e8 : raI n 8 = 8 := rfl
      rw [e7, k4.1] at u v
      rw [e8, k4.2] at u' v'
      exact ⟨u, v, u', v'⟩
    · have q : ∀ r ∈ fxR, ((r.1 < 23 ∨ 30 ≤ r.1) ∧ r.1 < 76) ∧ (r.2.2 < 23 ∨ 30 ≤ r.2.2) ∧ r.2.2 < 76 := by decide
      rw [aR _ _ (dl _ (q r hr).1), k5 r hr, (adz_d (dl _ (q r hr).2)).1]; rfl
    · obtain ⟨c1, c2, c3, c4, c5, c6, c7, c8, c9, c10⟩ := k6 t ht
      have T : ∀ k, k < 5 → hT h (adz n (hZ h0) (100 + k + 5 * t)) = (qT G (9 + k + 5 * t)).1 ∧ hN h (adz n (hZ h0) (100 + k + 5 * t)) = (qT G (9 + k + 5 * t)).2 := fun k hk => by
        have q := aT _ (dt t k ht hk)
        rw [raI_T] at q; exact q
      have R : ∀ j, hR h (adz n (hZ h0) (100 + 5 * t)) j = (qR G (9 + 5 * t) j).map (hZ h0 + ·) := fun j => by
        have q := aR (100 + 0 + 5 * t) j (dt t 0 ht (by decide))
        rw [raI_T] at q; exact q
      refine ⟨?_, (T 0 (by decide)).1.trans c2, ?_, ?_, ?_, ?_, ?_, ?_, ?_, ?_⟩
      · rw [aR 7 t (dl 7 (by decide))]
        have e7 : raI n 7 = 7 := rfl
        rw [e7, c1]
        exact (congrArg some (at' t 0 ht (by decide))).symm
      · have q : hT h (adz n (hZ h0) (101 + 5 * t)) = (qT G (10 + 5 * t)).1 ∧ hN h (adz n (hZ h0) (101 + 5 * t)) = (qT G (10 + 5 * t)).2 := T 1 (by decide)
        rw [c3] at q; exact q
      · have q : hT h (adz n (hZ h0) (102 + 5 * t)) = (qT G (11 + 5 * t)).1 ∧ hN h (adz n (hZ h0) (102 + 5 * t)) = (qT G (11 + 5 * t)).2 := T 2 (by decide)
        rw [c4] at q; exact q
      · have q : hT h (adz n (hZ h0) (103 + 5 * t)) = (qT G (12 + 5 * t)).1 ∧ hN h (adz n (hZ h0) (103 + 5 * t)) = (qT G (12 + 5 * t)).2 := T 3 (by decide)
        rw [c5] at q; exact q
      · have q : hT h (adz n (hZ h0) (104 + 5 * t)) = (qT G (13 + 5 * t)).1 ∧ hN h (adz n (hZ h0) (104 + 5 * t)) = (qT G (13 + 5 * t)).2 := T 4 (by decide)
        rw [c6] at q; exact q
      · rw [R, c7]; exact (congrArg some (at' t 1 ht (by decide))).symm
      · rw [R, c8]; exact (congrArg some (at' t 2 ht (by decide))).symm
      · rw [R, c9]; exact (congrArg some (at' t 3 ht (by decide))).symm
      · rw [R, c10]; exact (congrArg some (at' t 4 ht (by decide))).symm
    · obtain ⟨s1, s2, s3, -, s5⟩ := st j hj
      obtain ⟨-, -, -, u4⟩ := x5 0 zp
      obtain ⟨w1, w2, -, -⟩ := x5 (sa j) s5
      rw [u4, w1, w2]; exact ⟨s1, s2, s3⟩
    · obtain ⟨e, l⟩ := adz_d (z := hZ h0) hd
      rw [e]; omega
    · obtain ⟨e, l⟩ := adz_d (z := hZ h0) hd
      rw [e]; omega
    · obtain ⟨e, l⟩ := adz_d (z := hZ h0) hd
      have := (st j hj).2.2.2.2
      rw [e]; omega
  have c31 : ∀ c, c < 24 → hI h (adz n (hZ h0) 31) c = -1 ∧ hR h (adz n (hZ h0) 1) c = none := fun c hc => by
    rw [aI 31 c (dl 31 (by decide)), aR 1 c (dl 1 (by decide)), (k10 c hc).1, (k10 c hc).2]; exact ⟨rfl, rfl⟩
  have nolive : ∀ t, t < 250 → ¬ live (adz n (hZ h0)) h t := fun t ht q => by
    rcases q with ⟨c, hc, e⟩ | ⟨c, g, i, sz, hc, hg, e, -⟩
    · rw [(c31 c hc).1] at e; exact absurd e.symm (nI_nm1 (by omega))
    · rw [(c31 c hc).1] at e; exact absurd e.symm (nI_nm1 (by omega))
  refine ⟨⟨fun _ => 0, fun _ => 0, 0, fx, ?_, ⟨0, by decide, ?_, ?_, fun i hi => absurd hi (by omega)⟩, ⟨?_, ?_, ?_, ?_, ?_, 0, by decide, ?_, ?_, fun i hi => absurd hi (by omega)⟩, fun p hp => ⟨0, by decide, ?_, ?_, fun s hs => absurd hs (by omega)⟩, ⟨⟨0, by decide, ?_, ?_, fun i hi => absurd hi (by omega)⟩, ?_, ⟨?_, 0, by decide, ?_⟩, ⟨?_, .inl ?_⟩⟩, fun j hj i hi => ?_, ⟨?_, fun t ht => ?_⟩, ⟨⟨by decide, ?_, ?_, fun q hq => absurd hq (by omega), fun q r hq => absurd hq (by omega)⟩, fun c hc => .inl (c31 c hc), fun t u ht hu l1 => absurd l1 (nolive t ht), fun a ha => x6 a (by rw [x1] at ha; exact ha)⟩⟩, ?_⟩
  · unfold Ry
    rw [z0 0 6 (by decide), z0 30 11 (by decide)]
  · exact z0 2 1 (by decide)
  · exact z0 30 9 (by decide)
  · rw [z0 9 8 (by decide), z0 30 42 (by decide)]
  · rw [z0 9 9 (by decide), z0 30 31 (by decide)]
  · rw [z0 9 10 (by decide), z0 30 32 (by decide)]
  · rw [z0 9 12 (by decide), z0 30 34 (by decide)]
  · rw [z0 9 13 (by decide), z0 30 43 (by decide)]
  · exact z0 9 11 (by decide)
  · exact z0 30 35 (by decide)
  · rw [aI 11 p (dl 11 (by decide))]; exact (k9 p hp).1
  · rw [aI 43 p (dl 43 (by decide))]; exact (k9 p hp).2
  · exact z0 4 2 (by decide)
  · exact z0 30 64 (by decide)
  · rw [z0 4 3 (by decide), z0 30 63 (by decide)]
  · rw [z0 4 4 (by decide), z0 30 61 (by decide)]
  · exact z0 4 4 (by decide)
  · rw [z0 4 5 (by decide), z0 30 62 (by decide)]
  · exact z0 4 5 (by decide)
  · obtain ⟨-, -, s3, s4, s5⟩ := st j hj
    rw [(x5 (sa j) s5).2.2.1]
    exact s4 i hi
  · rw [aI 30 12 (dl 30 (by decide))]; exact k8
  · obtain ⟨⟨d0, d1, d2, d9, d10⟩, ⟨e61, e62, e56, e66⟩, ⟨l11, d72⟩, ⟨f12, f13, f14, f15, f16, f17⟩, ⟨g73, g67, g68, g69, g70, g71⟩, rd, sl⟩ := k11 t ht
    have I : ∀ j, hI h (adz n (hZ h0) (100 + 5 * t)) j = qI G (9 + 5 * t) j := fun j => by
      have q := aI (100 + 0 + 5 * t) j (dt t 0 ht (by decide))
      rw [raI_T] at q; exact q
    have D : ∀ j, hD h (adz n (hZ h0) (100 + 5 * t)) j = qD G (9 + 5 * t) j := fun j => by
      have q := aD (100 + 0 + 5 * t) j (dt t 0 ht (by decide))
      rw [raI_T] at q; exact q
    have L' : ∀ k j, k < 5 → hL h (adz n (hZ h0) (100 + k + 5 * t)) j = qL G (9 + k + 5 * t) j := fun k j hk => by
      have q := aL (100 + k + 5 * t) j (dt t k ht hk)
      rw [raI_T] at q; exact q
    have b61 := (aI 61 t (dl 61 (by decide))).trans e61
    have b62 := (aI 62 t (dl 62 (by decide))).trans e62
    have b66 := (aI 66 t (dl 66 (by decide))).trans e66
    have b72 := (aD 72 t (dl 72 (by decide))).trans d72
    have b73 := (aD 73 t (dl 73 (by decide))).trans g73
    have b67 := (aD 67 t (dl 67 (by decide))).trans g67
    have b68 := (aD 68 t (dl 68 (by decide))).trans g68
    have b69 := (aD 69 t (dl 69 (by decide))).trans g69
    have b70 := (aD 70 t (dl 70 (by decide))).trans g70
    have b71 := (aD 71 t (dl 71 (by decide))).trans g71
    refine ⟨⟨(I 0).trans d0, ?_, ?_, ?_⟩, ⟨(I 9).trans d9, (aI 56 t (dl 56 (by decide))).trans e56⟩, ⟨?_, 0, by decide, b66⟩, ⟨?_, ?_⟩, ⟨?_, ?_, ?_, ?_, ?_, ?_, 0, z0 30 63 (by decide), by decide, ?_⟩, fun s hs => ?_, fun s hs => .inl ?_⟩
    · rw [I, d1, b61]
    · rw [I, d2, b62]
    · rw [b61, b62]; decide
    · rw [I, d10, b66]
    · rw [b72]
      exact (L' 0 11 (by decide)).trans l11
    · rw [b72]; exact .inr (isF_nn (kn_0 0).1.1)
    · rw [D, f12, b73]
    · rw [D, f13, b67]
    · rw [D, f14, b68]
    · rw [D, f15, b69]
    · rw [D, f16, b70]
    · rw [D, f17, b71]
    · rw [b73, b67, b68, b69, b70, b71]
      refine NB_bd.mpr ⟨(kn_0 _).1, kn_90.1, (kn_0 _).1, ⟨(kn_0 _).1, by rw [(kn_0 0).2]; exact Int.le_refl _⟩, (kn_0 _).1, .inr ?_⟩
      have f : isF 4652007308841189376 := (isF_bits _).mpr (by decide)
      exact nn_of f (FP.Core.zval_nonneg (isF_nn f) (by decide))
    · obtain ⟨q1, q2, q3, q4, q5, q6⟩ := rd s hs
      have b63 := (aD 63 (3 * t + s) (dl 63 (by decide))).trans q2
      rw [b63, (aL 64 (3 * t + s) (dl 64 (by decide))).trans q5, (aL 65 (3 * t + s) (dl 65 (by decide))).trans q6]
      exact ⟨(L' 2 s (by decide)).trans q1, .inl rfl, (L' 3 s (by decide)).trans q3, (L' 4 s (by decide)).trans q4⟩
    · obtain ⟨q1, q2⟩ := sl s hs
      refine ⟨(aI 57 _ (dl 57 (by decide))).trans q1, ?_⟩
      have q : hR h (adz n (hZ h0) (101 + 5 * t)) s = (qR G (10 + 5 * t) s).map (hZ h0 + ·) := by
        have q := aR (100 + 1 + 5 * t) s (dt t 1 ht (by decide))
        rw [raI_T] at q; exact q
      rw [q2] at q; exact q
  · exact z0 0 5 (by decide)
  · exact z0 30 6 (by decide)
  · exact z0 30 63 (by decide)
end R0

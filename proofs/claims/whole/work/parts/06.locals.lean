/-! ===== the small machine's locals, and the machine's own ===== -/
def lvl (lv : mL) : List (Nat × Value) := (List.range lv.length).filterMap fun i => match lv[i]? with
  | some (some v) => some (i, v)
  | _ => none
theorem lvl_mem {lv : mL} {q : Nat × Value} : q ∈ lvl lv ↔ lv[q.1]? = some (some q.2) := by
  unfold lvl
  rw [List.mem_filterMap]
  constructor
  · rintro ⟨i, _, h⟩
    split at h
    · rename_i v hv
      cases h
      exact hv
    · cases h
  · intro h
    refine ⟨q.1, List.mem_range.mpr (List.getElem?_eq_some_iff.mp h).1, ?_⟩
    rw [h]
def lvR (ls : Array Slot) (lv : mL) : Prop := lv_has ls lv.length (lvl lv)
theorem lvR.at {ls : Array Slot} {lv : mL} (h : lvR ls lv) {i : Nat} {v : Value} (hv : lv[i]? = some (some v)) : ls[i]? = some (.val v) := h.2.2 (i, v) (lvl_mem.mpr hv)
theorem lvR.of {ls : Array Slot} {n : Nat} {l : List (Nat × Value)} {lv : mL} (h : lv_has ls n l) (hn : lv.length = n) (hs : ∀ i v, lv[i]? = some (some v) → (i, v) ∈ l) : lvR ls lv := by
  refine ⟨by rw [hn]; exact h.1, h.2.1, fun q hq => ?_⟩
  exact h.2.2 q (hs q.1 q.2 (lvl_mem.mp hq))
theorem kl_len (lv : mL) (i : Nat) : (kl lv i).length = lv.length := by
  unfold kl
  split
  · rfl
  · split <;> simp
theorem kl_get {lv : mL} {i j : Nat} {w : Value} (h : (kl lv i)[j]? = some (some w)) : lv[j]? = some (some w) ∧ ¬ (j + 1 = i ∧ w.category = 2) := by
  unfold kl at h
  split at h
  · exact ⟨h, fun q => absurd q.1 (by omega)⟩
  · rename_i k
    split at h
    · rename_i x hx
      rw [List.getElem?_set] at h
      split at h
      · split at h <;> cases h
      · rename_i hne
        exact ⟨h, fun q => hne (by omega)⟩
    · rename_i x hx
      rw [List.getElem?_set] at h
      split at h
      · split at h <;> cases h
      · rename_i hne
        exact ⟨h, fun q => hne (by omega)⟩
    · rename_i h1 h2
      refine ⟨h, fun q => ?_⟩
      have e : j = k := by omega
      subst e
      cases w with
      | long x => exact h1 x h
      | double x => exact h2 x h
      | int x => exact absurd q.2 (by show ¬ (1 : Nat) = 2; decide)
      | float x => exact absurd q.2 (by show ¬ (1 : Nat) = 2; decide)
      | null => exact absurd q.2 (by decide)
      | ref x => exact absurd q.2 (by show ¬ (1 : Nat) = 2; decide)
      | retAddr x => exact absurd q.2 (by show ¬ (1 : Nat) = 2; decide)
theorem t1_len (lv : mL) (i : Nat) (v : Value) : (t1 lv i v).length = lv.length := by
  unfold t1; simp [kl_len]
theorem t2_len (lv : mL) (i : Nat) (v : Value) : (t2 lv i v).length = lv.length := by
  unfold t2; simp [kl_len]
theorem t1_get {lv : mL} {i j : Nat} {v w : Value} (h : (t1 lv i v)[j]? = some (some w)) : (j = i ∧ w = v) ∨ (j ≠ i ∧ lv[j]? = some (some w) ∧ ¬ (j + 1 = i ∧ w.category = 2)) := by
  unfold t1 at h
  rw [List.getElem?_set] at h
  split at h
  · rename_i e
    split at h
    · cases h; exact .inl ⟨e.symm, rfl⟩
    · cases h
  · rename_i e
    exact .inr ⟨fun q => e q.symm, kl_get h⟩
theorem t2_get {lv : mL} {i j : Nat} {v w : Value} (h : (t2 lv i v)[j]? = some (some w)) : (j = i ∧ w = v) ∨ (j ≠ i ∧ j ≠ i + 1 ∧ lv[j]? = some (some w) ∧ ¬ (j + 1 = i ∧ w.category = 2)) := by
  unfold t2 at h
  rw [List.getElem?_set] at h
  split at h
  · rename_i e
    split at h
    · cases h; exact .inl ⟨e.symm, rfl⟩
    · cases h
  · rename_i e
    rw [List.getElem?_set] at h
    split at h
    · split at h <;> cases h
    · rename_i e2
      exact .inr ⟨fun q => e q.symm, fun q => e2 q.symm, kl_get h⟩
theorem lvR.t1 {ls ls' : Array Slot} {lv : mL} {i : Nat} {v : Value} (h : lv_has ls' lv.length ((i, v) :: (lvl lv).filter (fun q => !(q.1 == i) && !(q.1 + 1 == i && q.2.category == 2)))) : lvR ls' (t1 lv i v) := by
  refine lvR.of h (t1_len _ _ _) fun j w hw => ?_
  rcases t1_get hw with ⟨rfl, rfl⟩ | ⟨a, b, c⟩
  · exact List.mem_cons_self
  · refine List.mem_cons_of_mem _ (List.mem_filter.mpr ⟨lvl_mem.mpr b, ?_⟩)
    simp only [Bool.and_eq_true, Bool.not_eq_true', beq_eq_false_iff_ne, Bool.and_eq_false_iff]
    refine ⟨a, ?_⟩
    by_cases e : j + 1 = i
    · exact .inr fun q => c ⟨e, q⟩
    · exact .inl e
theorem lvR.t2 {ls ls' : Array Slot} {lv : mL} {i : Nat} {v : Value} (h : lv_has ls' lv.length ((i, v) :: (lvl lv).filter (fun q => !(q.1 == i) && (!(q.1 == i + 1) && !(q.1 + 1 == i && q.2.category == 2))))) : lvR ls' (t2 lv i v) := by
  refine lvR.of h (t2_len _ _ _) fun j w hw => ?_
  rcases t2_get hw with ⟨rfl, rfl⟩ | ⟨a, a2, b, c⟩
  · exact List.mem_cons_self
  · refine List.mem_cons_of_mem _ (List.mem_filter.mpr ⟨lvl_mem.mpr b, ?_⟩)
    simp only [Bool.and_eq_true, Bool.not_eq_true', beq_eq_false_iff_ne, Bool.and_eq_false_iff]
    refine ⟨a, a2, ?_⟩
    by_cases e : j + 1 = i
    · exact .inr fun q => c ⟨e, q⟩
    · exact .inl e
theorem wtv_sl (vs : List Value) : (lg_sl vs).length = wtv vs := by
  induction vs with
  | nil => rfl
  | cons v r ih =>
    have e : lg_sl (v :: r) = (if v.category = 2 then [.val v, .second] else [.val v]) ++ lg_sl r := rfl
    rw [e, List.length_append, ih]
    cases v <;> rfl
theorem wtv_cons (v : Value) (r : List Value) : wtv (v :: r) = v.category + wtv r := rfl
theorem en_len : ∀ (vs : List Value) (n : Nat), wtv vs ≤ n → (en vs n).length = n := by
  intro vs
  induction vs with
  | nil => intro n _; cases n <;> simp [en]
  | cons v r ih =>
    intro n h
    rw [wtv_cons] at h
    cases v with
    | long x =>
      have : Value.category (.long x) = 2 := rfl
      match n, h with
      | 0, h => omega
      | n + 1, h =>
        show (some (Value.long x) :: none :: en r (n - 1)).length = n + 1
        simp only [List.length_cons]
        rw [ih (n - 1) (by omega)]
        omega
    | double x =>
      have : Value.category (.double x) = 2 := rfl
      match n, h with
      | 0, h => omega
      | n + 1, h =>
        show (some (Value.double x) :: none :: en r (n - 1)).length = n + 1
        simp only [List.length_cons]
        rw [ih (n - 1) (by omega)]
        omega
    | int x =>
      have : Value.category (.int x) = 1 := rfl
      match n, h with
      | 0, h => omega
      | n + 1, h => show (some (Value.int x) :: en r n).length = n + 1; simp only [List.length_cons]; rw [ih n (by omega)]
    | float x =>
      have : Value.category (.float x) = 1 := rfl
      match n, h with
      | 0, h => omega
      | n + 1, h => show (some (Value.float x) :: en r n).length = n + 1; simp only [List.length_cons]; rw [ih n (by omega)]
    | null =>
      have : Value.category .null = 1 := rfl
      match n, h with
      | 0, h => omega
      | n + 1, h => show (some Value.null :: en r n).length = n + 1; simp only [List.length_cons]; rw [ih n (by omega)]
    | ref x =>
      have : Value.category (.ref x) = 1 := rfl
      match n, h with
      | 0, h => omega
      | n + 1, h => show (some (Value.ref x) :: en r n).length = n + 1; simp only [List.length_cons]; rw [ih n (by omega)]
    | retAddr x =>
      have : Value.category (.retAddr x) = 1 := rfl
      match n, h with
      | 0, h => omega
      | n + 1, h => show (some (Value.retAddr x) :: en r n).length = n + 1; simp only [List.length_cons]; rw [ih n (by omega)]
theorem en_get1 {r : List Value} {n k j : Nat} {u w : Value} (ih : ∀ (n k : Nat) (j : Nat) (w : Value), (en r n)[j]? = some (some w) → (k + j, w) ∈ lv_args k r) (h : (some u :: en r n)[j]? = some (some w)) (hu : u.category = 1) : (k + j, w) ∈ lv_args k (u :: r) := by
  show (k + j, w) ∈ (k, u) :: lv_args (if u.category = 2 then k + 2 else k + 1) r
  rw [if_neg (by rw [hu]; decide)]
  cases j with
  | zero =>
    simp at h
    rw [h]
    exact List.mem_cons_self
  | succ j =>
    simp at h
    have := ih n (k + 1) j w h
    rw [show k + (j + 1) = k + 1 + j by omega]
    exact List.mem_cons_of_mem _ this
theorem en_get2 {r : List Value} {n k j : Nat} {u w : Value} (ih : ∀ (n k : Nat) (j : Nat) (w : Value), (en r n)[j]? = some (some w) → (k + j, w) ∈ lv_args k r) (h : (some u :: none :: en r n)[j]? = some (some w)) (hu : u.category = 2) : (k + j, w) ∈ lv_args k (u :: r) := by
  show (k + j, w) ∈ (k, u) :: lv_args (if u.category = 2 then k + 2 else k + 1) r
  rw [if_pos hu]
  match j, h with
  | 0, h =>
    simp at h
    rw [h]
    exact List.mem_cons_self
  | 1, h => simp at h
  | j + 2, h =>
    simp at h
    have := ih n (k + 2) j w h
    rw [show k + (j + 2) = k + 2 + j by omega]
    exact List.mem_cons_of_mem _ this
theorem en_get : ∀ (vs : List Value) (n k j : Nat) (w : Value), (en vs n)[j]? = some (some w) → (k + j, w) ∈ lv_args k vs := by
  intro vs
  induction vs with
  | nil =>
    intro n k j w h
    have e : en [] n = List.replicate n none := by cases n <;> rfl
    rw [e, List.getElem?_replicate] at h
    split at h <;> cases h
  | cons v r ih =>
    intro n k j w h
    match n, h with
    | 0, h => simp [en] at h
    | n + 1, h =>
      cases v with
      | long x => exact en_get2 ih h rfl
      | double x => exact en_get2 ih h rfl
      | int x => exact en_get1 ih h rfl
      | float x => exact en_get1 ih h rfl
      | null => exact en_get1 ih h rfl
      | ref x => exact en_get1 ih h rfl
      | retAddr x => exact en_get1 ih h rfl
/-- a method's entry: its frame, and its locals here -/
theorem en_R (m : MethodId) (vs : List Value) (n : Nat) (h : wtv vs ≤ n) : ∃ ls, entryFrame m vs.toArray n = F0 m 0 ls [] ∧ lvR ls (en vs n) := by
  rw [lg_entry_eq]
  refine ⟨_, rfl, lvR.of (lv_entry vs (n := n) (by rw [wtv_sl]; exact h)) (en_len vs n h) fun i v hv => ?_⟩
  have := en_get vs n 0 i v hv
  rwa [Nat.zero_add] at this

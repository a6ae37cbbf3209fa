/-! ===== an act, pure: what both sides do ===== -/
/-- counts (0 hand, 1 begun, 2 said, 3 deepest); ints by the reference's rows; items -/
abbrev aS : Type := (Nat → Nat) × (Nat → Nat → Int32) × (Nat → Int64)
def uN (S : aS) (k v : Nat) : aS := (u1 S.1 k v, S.2.1, S.2.2)
def uI (S : aS) (i j : Nat) (v : Int32) : aS := (S.1, u2 S.2.1 i j v, S.2.2)
def uL (S : aS) (j : Nat) (v : Int64) : aS := (S.1, S.2.1, u1 S.2.2 j v)
/-- the plans: operation, three ints, lengths; kinds of parts, sorts and sizes of things -/
abbrev aP : Type := (Nat → Nat) × (Nat → Int32) × (Nat → Int32) × (Nat → Int32) × (Nat → Nat) × (Nat → Nat) × (Nat → Nat) × (Nat → Nat)
def aP.op (P : aP) : Nat → Nat := P.1
def aP.a (P : aP) : Nat → Int32 := P.2.1
def aP.b (P : aP) : Nat → Int32 := P.2.2.1
def aP.c (P : aP) : Nat → Int32 := P.2.2.2.1
def aP.len (P : aP) : Nat → Nat := P.2.2.2.2.1
def aP.kd (P : aP) : Nat → Nat := P.2.2.2.2.2.1
def aP.so (P : aP) : Nat → Nat := P.2.2.2.2.2.2.1
def aP.sz (P : aP) : Nat → Nat := P.2.2.2.2.2.2.2
def gSay (S : aS) (v : Int32) : aS := if S.1 2 < 60 then uN (uI S 53 (S.1 2) v) 2 (S.1 2 + 1) else uN S 2 (S.1 2 + 1)
def gPush (S : aS) (v o : Int32) : aS := uN (uI (uI S 54 (S.1 0) v) 55 (S.1 0) o) 0 (S.1 0 + 1)
def gTake (S : aS) (a : Nat) : Int32 × aS := if S.2.1 31 a = -1 then (1, S) else (0, uI (gPush S (S.2.1 31 a) (nI a)) 31 a (-1))
def gLay (S : aS) (a : Nat) : Int32 × aS := if S.1 0 = 0 then (1, S) else if S.2.1 31 a = -1 then (0, uI (uN S 0 (S.1 0 - 1)) 31 a (S.2.1 54 (S.1 0 - 1))) else (5, S)
def gWrite (P : aP) (S : aS) (a : Nat) (b c : Int32) : Int32 × aS :=
  if S.2.1 31 a = -1 then (1, S) else if 1000 ≤ S.2.1 31 a then (4, S) else if P.so (S.2.1 31 a).toNatClampNeg = 3 then
    (if 0 ≤ b.toInt ∧ b.toInt < (P.sz (S.2.1 31 a).toNatClampNeg : Nat) then (0, uL S (30 * (S.2.1 31 a).toNatClampNeg + b.toNatClampNeg) c.toInt64) else (2, S)) else (4, S)
def gWake (S : aS) (a : Nat) : Int32 × aS := if S.2.1 56 a = 0 then (7, S) else (0, gSay S (S.2.1 56 a))
def gKind (b : Nat) : Nat := if b < 3 then 7 else if b = 3 then 3 else 5
def gFit (P : aP) (S : aS) (a b : Nat) : Int32 × aS :=
  if S.2.1 56 a = 0 ∧ 2 < b then (7, S) else if S.1 0 = 0 then (1, S) else if 1000 ≤ S.2.1 54 (S.1 0 - 1) ∧ ofK (P.kd ((S.2.1 54 (S.1 0 - 1)).toNatClampNeg - 1000)) (gKind b) = true then
    (if S.2.1 57 (5 * a + b) = -1 then (0, uI (uN S 0 (S.1 0 - 1)) 57 (5 * a + b) (nI ((S.2.1 54 (S.1 0 - 1)).toNatClampNeg - 1000)))
     else (0, gPush (uI (uN S 0 (S.1 0 - 1)) 57 (5 * a + b) (nI ((S.2.1 54 (S.1 0 - 1)).toNatClampNeg - 1000))) (nI (1000 + (S.2.1 57 (5 * a + b)).toNatClampNeg)) 23)) else (4, S)
def gStrip (S : aS) (a b : Nat) : Int32 × aS :=
  if S.2.1 56 a = 0 ∧ 2 < b then (7, S) else if S.2.1 57 (5 * a + b) = -1 then (1, S) else (0, uI (gPush S (nI (1000 + (S.2.1 57 (5 * a + b)).toNatClampNeg)) 23) 57 (5 * a + b) (-1))
/-- a step that does no plan: its failure, or 0 -/
def gDo (P : aP) (k : Nat) (S : aS) : Int32 × aS := match P.op k with
  | 0 => gTake S (P.a k).toNatClampNeg
  | 1 => gLay S (P.a k).toNatClampNeg
  | 2 => gWrite P S (P.a k).toNatClampNeg (P.b k) (P.c k)
  | 3 => (0, gSay S (P.a k))
  | 5 => (0, gSay S (S.2.1 33 0))
  | 6 => (P.a k, S)
  | 11 => gWake S (P.a k).toNatClampNeg
  | 12 => gFit P S (P.a k).toNatClampNeg (P.b k).toNatClampNeg
  | _ => gStrip S (P.a k).toNatClampNeg (P.b k).toNatClampNeg
/-- how a plan ends: 0, 1 with an answer, or -10 less a failure -/
abbrev aR : Type := Int32 × Int32 × aS
def gStp (G : Nat → aS → aR) (P : aP) (k : Nat) (S : aS) : aR :=
  if P.op k = 4 then (1, P.a k, S)
  else if P.op k = 7 then (if (G (P.a k).toNatClampNeg S).1 = 1 then (0, 0, uI (G (P.a k).toNatClampNeg S).2.2 33 0 (G (P.a k).toNatClampNeg S).2.1) else G (P.a k).toNatClampNeg S)
  else if P.op k = 8 then (if (G (P.a k).toNatClampNeg S).1 < 0 ∧ (G (P.a k).toNatClampNeg S).1 ≠ -19 ∧ (P.b k = 0 ∨ (G (P.a k).toNatClampNeg S).1 = -10 - P.b k) then G (P.c k).toNatClampNeg (G (P.a k).toNatClampNeg S).2.2 else G (P.a k).toNatClampNeg S)
  else if P.op k = 9 then (if (G (P.a k).toNatClampNeg S).1 = -19 then G (P.a k).toNatClampNeg S else
      if (G (P.b k).toNatClampNeg (G (P.a k).toNatClampNeg S).2.2).1 = 0 then ((G (P.a k).toNatClampNeg S).1, (G (P.a k).toNatClampNeg S).2.1, (G (P.b k).toNatClampNeg (G (P.a k).toNatClampNeg S).2.2).2.2)
      else if (G (P.a k).toNatClampNeg S).1 < 0 then ((G (P.b k).toNatClampNeg (G (P.a k).toNatClampNeg S).2.2).1, (G (P.b k).toNatClampNeg (G (P.a k).toNatClampNeg S).2.2).2.1, uI (G (P.b k).toNatClampNeg (G (P.a k).toNatClampNeg S).2.2).2.2 34 0 (-10 - (G (P.a k).toNatClampNeg S).1))
      else G (P.b k).toNatClampNeg (G (P.a k).toNatClampNeg S).2.2)
  else if P.op k = 10 then ((G (P.b k).toNatClampNeg (uI S 56 (P.a k).toNatClampNeg (S.2.1 56 (P.a k).toNatClampNeg + 1))).1, (G (P.b k).toNatClampNeg (uI S 56 (P.a k).toNatClampNeg (S.2.1 56 (P.a k).toNatClampNeg + 1))).2.1,
      uI (G (P.b k).toNatClampNeg (uI S 56 (P.a k).toNatClampNeg (S.2.1 56 (P.a k).toNatClampNeg + 1))).2.2 56 (P.a k).toNatClampNeg ((G (P.b k).toNatClampNeg (uI S 56 (P.a k).toNatClampNeg (S.2.1 56 (P.a k).toNatClampNeg + 1))).2.2.2.1 56 (P.a k).toNatClampNeg - 1))
  else if (gDo P k S).1 = 0 then (0, 0, (gDo P k S).2) else (-10 - (gDo P k S).1, 0, (gDo P k S).2)
def gLop (G : Nat → aS → aR) (P : aP) (p : Nat) : Nat → Nat → aS → aR
  | 0, _, S => (0, 0, S)
  | r + 1, i, S => if 100 ≤ S.1 1 then (-19, 0, S) else
    if (gStp G P (16 * p + i) (uN S 1 (S.1 1 + 1))).1 = 0 then gLop G P p r (i + 1) (gStp G P (16 * p + i) (uN S 1 (S.1 1 + 1))).2.2 else gStp G P (16 * p + i) (uN S 1 (S.1 1 + 1))
/-- plan p where m plans more may lie in each other -/
def gPln (P : aP) : Nat → Nat → aS → aR
  | 0, _, S => (-18, 0, S)
  | m + 1, p, S => gLop (gPln P m) P p (P.len p) 0 (uN S 3 (if S.1 3 < 8 - m then 8 - m else S.1 3))
/-- what a case or the hand may hold -/
def okV (np : Nat) (LV : Nat → Prop) (v : Int32) : Prop := (∃ q, q < np ∧ v = nI (1000 + q)) ∨ ∃ t, t < 250 ∧ LV t ∧ v = nI t
def okW (np : Nat) (v : Int32) : Prop := v = -1 ∨ ∃ q, q < np ∧ v = nI q
/-- the state of an act is sound; w: how many steps have been begun that have not been done yet -/
def VS (n np : Nat) (LV : Nat → Prop) (w : Nat) (S : aS) : Prop := S.1 1 ≤ 100 ∧ S.1 0 + w ≤ S.1 1 ∧ S.1 2 + w ≤ S.1 1 ∧ S.1 3 ≤ 8 ∧ (∀ c, c < 24 → S.2.1 31 c = -1 ∨ okV np LV (S.2.1 31 c)) ∧ (∀ i, i < S.1 0 → okV np LV (S.2.1 54 i) ∧ ∃ o, o < 24 ∧ S.2.1 55 i = nI o) ∧ ∀ s, s < 5 * n → okW np (S.2.1 57 s)
/-- the plans are such as the call step lets in -/
def VP (n np : Nat) (LV : Nat → Prop) (P : aP) : Prop := np ≤ 60 ∧ n ≤ 6 ∧ (∀ p, p < 10 → P.len p ≤ 16 ∧ ∀ i, i < P.len p → P.op (16 * p + i) ≤ 13 ∧ okS n (nI (P.op (16 * p + i))) (P.a (16 * p + i)) (P.b (16 * p + i)) (P.c (16 * p + i))) ∧ (∀ q, q < np → P.kd q < 7) ∧ ∀ t, t < 250 → LV t → P.so t ≤ 9 ∧ P.sz t ≤ 30

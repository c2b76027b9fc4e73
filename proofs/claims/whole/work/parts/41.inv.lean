/-! THE ABSTRACT STATE. T: what is told (106 places), R: ties, games, what is closed (415 places), as natural numbers. -/
def tC (T : Nat → Nat) (c w : Nat) : Nat := T (38 + 17 * c + w)
def tB (T : Nat → Nat) (c w : Nat) : Nat := T (2 + 3 * c + w)
def rT (R : Nat → Nat) (t w : Nat) : Nat := R (1 + 13 * t + w)
def ga (R : Nat → Nat) (t g : Nat) : Nat := rT R t (5 + 2 * g)
def wo (R : Nat → Nat) (t g : Nat) : Nat := rT R t (5 + 2 * g + 1)
def cd (R : Nat → Nat) (c r : Nat) : Nat := R (391 + 6 * c + r)
/-- decided -/
def de (R : Nat → Nat) (t : Nat) : Prop := 0 < rT R t 4 ∧ wo R t (rT R t 4 - 1) ≠ 2
def isO (R : Nat → Nat) (t c r : Nat) : Prop := rT R t 0 = c ∧ rT R t 1 = r
def cupOk (T : Nat → Nat) (c : Nat) : Prop := tC T c 0 + tC T c 1 + tC T c 2 = 100 ∧ tC T c 6 + tC T c 7 + tC T c 8 = 100 ∧ tC T c 3 ≤ 2 ∧ tC T c 4 ≤ 99999 ∧ tC T c 5 ≤ 3 ∧ 1 ≤ tC T c 9 ∧ tC T c 9 ≤ 6 ∧ tC T c 10 ≤ 2 ∧ ∀ r, r < 6 → tC T c (11 + r) ≤ 3
def toldOk (T : Nat → Nat) : Prop := T 0 ≤ 12 ∧ T 1 ≤ 4 ∧ (∀ k, T k < 100000) ∧ (∀ c, c < T 0 → tB T c 0 ≤ 9999 ∧ tB T c 1 ≤ 9999 ∧ tB T c 2 ≤ 99999) ∧ ∀ c, c < T 1 → cupOk T c
def tieOk (T R : Nat → Nat) (t : Nat) : Prop := rT R t 0 < T 1 ∧ rT R t 1 < 6 ∧ rT R t 2 < T 0 ∧ rT R t 3 < T 0 ∧ rT R t 2 ≠ rT R t 3 ∧ rT R t 4 ≤ 4 ∧ (∀ g, g < rT R t 4 → wo R t g ≤ 2) ∧ (¬ de R t → rT R t 4 ≤ tC T (rT R t 0) 5) ∧ (cd R (rT R t 0) (rT R t 1) = 1 → de R t)
def rowOk (T R : Nat → Nat) : Prop := R 0 ≤ 30 ∧ (∀ k, R k < 100000) ∧ (∀ t, t < R 0 → tieOk T R t) ∧ ∀ k, k < 24 → R (391 + k) ≤ 1
/-- the bits of a number -/
def bt (x : Int32) (i : Nat) : Bool := x.toBitVec.getLsbD i
/-- a Season, object s and its arrays, holds the row R -/
def sea (σ : Sg) (s : Nat) (R : Nat → Nat) : Prop :=
  σ s 0 = nI (R 0) ∧ (∀ j, j < 32 → bt (σ s 1) j = (decide (j < 24) && decide (R (391 + j) = 1))) ∧
  ∀ t, t < R 0 → σ (s + 1) t = nI (rT R t 0) ∧ σ (s + 2) t = nI (rT R t 1) ∧ σ (s + 3) t = nI (rT R t 2) ∧ σ (s + 4) t = nI (rT R t 3) ∧ σ (s + 5) t = nI (rT R t 4) ∧ ∀ g, g < rT R t 4 → σ (s + 6) (4 * t + g) = nI (ga R t g) ∧ σ (s + 7) (4 * t + g) = nI (wo R t g)
/-! how a gate is split: T's cup, the round, the game's number, host and guest, the gate -/
def sNeu (T : Nat → Nat) (c r : Nat) : Prop := tC T c 9 ≤ r
def sDh (T : Nat → Nat) (c r h : Nat) : Nat := if tC T c 9 ≤ r then tB T h 1 else tB T h 0
def sEh (T : Nat → Nat) (c r h u v : Nat) : Nat :=
  if tC T c 3 = 0 then min (sDh T c r h) v else if tC T c 3 = 1 then min (sDh T c r h) (v - min (tB T u 1) v)
  else if v < sDh T c r h + tB T u 1 then v - v * tB T u 1 / (sDh T c r h + tB T u 1) else sDh T c r h
def sEg (T : Nat → Nat) (c r h u v : Nat) : Nat :=
  if tC T c 3 = 0 then min (tB T u 1) (v - min (sDh T c r h) v) else if tC T c 3 = 1 then min (tB T u 1) v
  else if v < sDh T c r h + tB T u 1 then v * tB T u 1 / (sDh T c r h + tB T u 1) else tB T u 1
def sRe (T : Nat → Nat) (c r h u v : Nat) : Nat := v - sEh T c r h u v - sEg T c r h u v
def sP (g : Nat) : Nat := if g = 0 then 0 else 6
def sOh (T : Nat → Nat) (c r g : Nat) : Nat := if tC T c 9 ≤ r then (tC T c (sP g) + tC T c (sP g + 1)) / 2 else tC T c (sP g)
def sOg (T : Nat → Nat) (c r g : Nat) : Nat := if tC T c 9 ≤ r then (tC T c (sP g) + tC T c (sP g + 1)) / 2 else tC T c (sP g + 1)
def sOp (T : Nat → Nat) (c r g : Nat) : Nat := 100 - sOh T c r g - sOg T c r g
def sLe (T : Nat → Nat) (c r g x : Nat) : Nat := x - x * sOh T c r g / 100 - x * sOg T c r g / 100 - x * sOp T c r g / 100
/-- the shares of a rest x, ahead of the guarantee -/
def sH1 (T : Nat → Nat) (c r g x : Nat) : Nat := x * sOh T c r g / 100 + (if tC T c 10 = 0 then sLe T c r g x else 0)
def sG1 (T : Nat → Nat) (c r g x : Nat) : Nat := x * sOg T c r g / 100 + (if tC T c 10 = 1 then sLe T c r g x else 0)
def sP1 (T : Nat → Nat) (c r g x : Nat) : Nat := x * sOp T c r g / 100 + (if tC T c 10 = 2 then sLe T c r g x else 0)
def sLk (T : Nat → Nat) (c r g x : Nat) : Nat := (if 0 < g ∨ tC T c 9 ≤ r then 0 else min (tC T c 4) x) - sG1 T c r g x
def sFh (T : Nat → Nat) (c r g x : Nat) : Nat := min (sLk T c r g x) (sH1 T c r g x)
def sSh (T : Nat → Nat) (c r g x : Nat) : Nat := sH1 T c r g x - sFh T c r g x
def sSg (T : Nat → Nat) (c r g x : Nat) : Nat := sG1 T c r g x + sLk T c r g x
def sSp (T : Nat → Nat) (c r g x : Nat) : Nat := sP1 T c r g x - (sLk T c r g x - sFh T c r g x)
/-! a game of a tie by a cup's rule -/
def gH (R : Nat → Nat) (t g : Nat) : Nat := rT R t (2 + g % 2)
def gU (R : Nat → Nat) (t g : Nat) : Nat := rT R t (3 - g % 2)
def qEh (T R : Nat → Nat) (c t g v : Nat) : Nat := sEh T c (rT R t 1) (gH R t g) (gU R t g) v
def qEg (T R : Nat → Nat) (c t g v : Nat) : Nat := sEg T c (rT R t 1) (gH R t g) (gU R t g) v
def qRe (T R : Nat → Nat) (c t g v : Nat) : Nat := sRe T c (rT R t 1) (gH R t g) (gU R t g) v
def qSh (T R : Nat → Nat) (c t g v : Nat) : Nat := sSh T c (rT R t 1) g (qRe T R c t g v)
def qSg (T R : Nat → Nat) (c t g v : Nat) : Nat := sSg T c (rT R t 1) g (qRe T R c t g v)
def qSp (T R : Nat → Nat) (c t g v : Nat) : Nat := sSp T c (rT R t 1) g (qRe T R c t g v)
def qLk (T R : Nat → Nat) (c t g v : Nat) : Nat := sLk T c (rT R t 1) g (qRe T R c t g v)
/-- what the first (0), the second (1), the pool (2) has of it -/
def qHas (T R : Nat → Nat) (c t g v w : Nat) : Nat := if w = 2 then qSp T R c t g v else if w = g % 2 then qEh T R c t g v + qSh T R c t g v else qEg T R c t g v + qSg T R c t g v
def qHad (T R : Nat → Nat) (c t w n : Nat) : Nat := su (fun g => qHas T R c t g (ga R t g) w) n
/-! sums over all games so far: t ties, and g games of the next -/
def ac (R : Nat → Nat) (f : Nat → Nat → Nat) (t g : Nat) : Nat := su (fun i => su (f i) (rT R i 4)) t + su (f t) g
def fEx (T R : Nat → Nat) (c t g : Nat) : Nat := (if gH R t g = c then qEh T R (rT R t 0) t g (ga R t g) else 0) + (if gU R t g = c then qEg T R (rT R t 0) t g (ga R t g) else 0)
def fAh (T R : Nat → Nat) (c t g : Nat) : Nat := if gH R t g = c then qSh T R (rT R t 0) t g (ga R t g) else 0
def fAg (T R : Nat → Nat) (c t g : Nat) : Nat := if gU R t g = c then qSg T R (rT R t 0) t g (ga R t g) else 0
def fGa (R : Nat → Nat) (c t g : Nat) : Nat := if gH R t g = c then ga R t g else 0
def fPl (R : Nat → Nat) (c t g : Nat) : Nat := (if gH R t g = c then 1 else 0) + (if gU R t g = c then 1 else 0)
def fPo (T R : Nat → Nat) (k t g : Nat) : Nat := if 6 * rT R t 0 + rT R t 1 = k then qSp T R (rT R t 0) t g (ga R t g) else 0
def fAP (T R : Nat → Nat) (t g : Nat) : Nat := qSp T R (rT R t 0) t g (ga R t g)
def fAG (R : Nat → Nat) (t g : Nat) : Nat := ga R t g
def fAE (T R : Nat → Nat) (t g : Nat) : Nat := qEh T R (rT R t 0) t g (ga R t g) + qEg T R (rT R t 0) t g (ga R t g)
def fAS (T R : Nat → Nat) (t g : Nat) : Nat := qSh T R (rT R t 0) t g (ga R t g) + qSg T R (rT R t 0) t g (ga R t g)
def fCG (R : Nat → Nat) (c t g : Nat) : Nat := if rT R t 0 = c then ga R t g else 0
/-! pools -/
def nOf (R : Nat → Nat) (c r n : Nat) : Nat := su (fun t => if rT R t 0 = c ∧ rT R t 1 = r then 1 else 0) n
def pMany (T R : Nat → Nat) (c r : Nat) : Nat := if tC T c (11 + r) = 3 then 0 else if tC T c (11 + r) = 1 then 2 * nOf R c r (R 0) else nOf R c r (R 0)
def pEach (T R : Nat → Nat) (c r x : Nat) : Nat := if pMany T R c r = 0 then 0 else x / pMany T R c r
def pOwn (T R : Nat → Nat) (c r : Nat) : Nat := ac R (fPo T R (6 * c + r)) (R 0) 0
/-- what is carried into a round -/
def pOn (T R : Nat → Nat) (c : Nat) : Nat → Nat
  | 0 => 0
  | r + 1 => if cd R c r = 1 then pOwn T R c r + pOn T R c r - pEach T R c r (pOwn T R c r + pOn T R c r) * pMany T R c r else 0
def pTot (T R : Nat → Nat) (c r : Nat) : Nat := pOwn T R c r + pOn T R c r
def pE (T R : Nat → Nat) (c r : Nat) : Nat := if cd R c r = 1 then pEach T R c r (pTot T R c r) else 0
def pM (T R : Nat → Nat) (c r : Nat) : Nat := if cd R c r = 1 then pMany T R c r else 0
def wnr (R : Nat → Nat) (t : Nat) : Nat := rT R t (2 + wo R t (rT R t 4 - 1))
def lsr (R : Nat → Nat) (t : Nat) : Nat := rT R t (3 - wo R t (rT R t 4 - 1))
/-- what a club gets of a round's pool by tie t -/
def gG (T R : Nat → Nat) (b c r t : Nat) : Nat := if rT R t 0 = c ∧ rT R t 1 = r then (if wnr R t = b ∧ tC T c (11 + r) < 2 then pE T R c r else 0) + (if lsr R t = b ∧ (tC T c (11 + r) = 1 ∨ tC T c (11 + r) = 2) then pE T R c r else 0) else 0
def gR (T R : Nat → Nat) (b c r n : Nat) : Nat := if cd R c r = 1 then su (gG T R b c r) n else 0
def gC (T R : Nat → Nat) (b c n : Nat) : Nat := su (fun r => gR T R b c r (R 0)) n
def aGot (T R : Nat → Nat) (b : Nat) : Nat := su (fun c => gC T R b c 6) (T 1)
/-! clubs -/
def aEx (T R : Nat → Nat) (b : Nat) : Nat := ac R (fEx T R b) (R 0) 0
def aAh (T R : Nat → Nat) (b : Nat) : Nat := ac R (fAh T R b) (R 0) 0
def aAg (T R : Nat → Nat) (b : Nat) : Nat := ac R (fAg T R b) (R 0) 0
def aGa (R : Nat → Nat) (b : Nat) : Nat := ac R (fGa R b) (R 0) 0
def aPl (R : Nat → Nat) (b : Nat) : Nat := ac R (fPl R b) (R 0) 0
def aAP (T R : Nat → Nat) : Nat := ac R (fAP T R) (R 0) 0
def aHas (T R : Nat → Nat) (b : Nat) : Nat := aEx T R b + aAh T R b + aAg T R b + aGot T R b
def aLa (T R : Nat → Nat) (b : Nat) : Nat := tB T b 2 - aHas T R b
def aWi (R : Nat → Nat) (b n : Nat) : Nat := su (fun t => if (0 < rT R t 4 ∧ wo R t (rT R t 4 - 1) ≠ 2) ∧ wnr R t = b then 1 else 0) n
def aKe (T R : Nat → Nat) : Nat := su (fun c => pOn T R c 6) (T 1)
/-- the least lacking club that isn't topped yet, among the first n, plus 1; 0: none -/
def tPick (T R P : Nat → Nat) : Nat → Nat
  | 0 => 0
  | n + 1 => if (0 < aLa T R n ∧ P n = 0) ∧ (tPick T R P n = 0 ∨ aLa T R n < aLa T R (tPick T R P n - 1)) then n + 1 else tPick T R P n
def tUp (P : Nat → Nat) (k v : Nat) : Nat → Nat := fun i => if i = k then v else P i
def tStep (T R : Nat → Nat) (q : Nat × (Nat → Nat)) : Nat × (Nat → Nat) :=
  if q.1 = 0 ∨ tPick T R q.2 (T 0) = 0 then q
  else (q.1 - min q.1 (aLa T R (tPick T R q.2 (T 0) - 1)), tUp q.2 (tPick T R q.2 (T 0) - 1) (min q.1 (aLa T R (tPick T R q.2 (T 0) - 1))))
def tRun (T R : Nat → Nat) : Nat → Nat × (Nat → Nat)
  | 0 => (aKe T R, fun _ => 0)
  | n + 1 => tStep T R (tRun T R n)
def aTop (T R : Nat → Nat) (b : Nat) : Nat := (tRun T R (T 0)).2 b
/-! THE LEDGER holds the sums -/
def ledC (σ : Sg) (T R : Nat → Nat) (b : Nat) : Prop := σ (182 + b) 3 = nI (aHas T R b) ∧ σ (182 + b) 4 = nI (aEx T R b) ∧ σ (182 + b) 5 = nI (aAh T R b) ∧ σ (182 + b) 6 = nI (aAg T R b) ∧ σ (182 + b) 7 = nI (aGot T R b) ∧ σ (182 + b) 8 = nI (aLa T R b) ∧ σ (182 + b) 9 = nI (aTop T R b) ∧ σ (182 + b) 10 = nI (aPl R b) ∧ σ (182 + b) 11 = nI (aWi R b (R 0)) ∧ σ 225 b = nI (aHas T R b) - nI (aGa R b)
def ledP (σ : Sg) (T R : Nat → Nat) (c r : Nat) : Prop := σ (200 + (6 * c + r)) 0 = nI (pTot T R c r) ∧ σ (200 + (6 * c + r)) 1 = nI (pOn T R c r) ∧ σ (200 + (6 * c + r)) 2 = nI (pE T R c r) ∧ σ (200 + (6 * c + r)) 3 = nI (pM T R c r) ∧ σ (200 + (6 * c + r)) 4 = nI (cd R c r) ∧ σ (200 + (6 * c + r)) 5 = nI (tC T c (11 + r)) ∧ σ (200 + (6 * c + r)) 6 = nI (nOf R c r (R 0))
def ledU (σ : Sg) (T R : Nat → Nat) (c : Nat) : Prop := σ (195 + c) 0 = nI (pOn T R c 6) ∧ σ (195 + c) 1 = nI (ac R (fCG R c) (R 0) 0) ∧ σ (195 + c) 2 = nI (su (fun t => if rT R t 0 = c then 1 else 0) (R 0))
def ledT (σ : Sg) (T R : Nat → Nat) : Prop := σ 226 0 = nI (ac R (fAG R) (R 0) 0) ∧ σ 226 1 = nI (ac R (fAE T R) (R 0) 0) ∧ σ 226 2 = nI (ac R (fAS T R) (R 0) 0) ∧ σ 226 3 = nI (aAP T R) ∧ σ 226 4 = nI (su (fun c => su (fun r => pE T R c r * pM T R c r) 6) (T 1)) ∧ σ 226 5 = nI (aKe T R) ∧ σ 225 (T 0) = nI (aAP T R) - nI (su (fun c => su (fun r => pE T R c r * pM T R c r) 6) (T 1))
def led (σ : Sg) (T R : Nat → Nat) : Prop := (∀ b, b < T 0 → ledC σ T R b) ∧ (∀ c, c < T 1 → ∀ r, r < 6 → ledP σ T R c r) ∧ (∀ c, c < T 1 → ledU σ T R c) ∧ ledT σ T R
/-! THE RELATION between the class's part of the store and the reference's -/
def tapeR (σ : Sg) (n : Nat) (B : Nat → Nat) : Prop := n ≤ 600 ∧ σ 1 1 = nI n ∧ σ 233 9 = nI n ∧ ∀ i, i < n → B i < 256 ∧ σ 2 i = nI (B i) ∧ σ 240 i = sb_b (B i)
def bookR (σ : Sg) (T : Nat → Nat) : Prop := (∀ k, k < 106 → σ 234 k = nI (T k)) ∧ σ 3 0 = nI (T 0) ∧ σ 3 1 = nI (T 1) ∧ (∀ c, c < T 0 → ∀ j, j < 3 → σ (5 + c) j = nI (tB T c j)) ∧ (∀ c, c < T 1 → (∀ j, j < 11 → σ (18 + c) j = nI (tC T c j)) ∧ ∀ j, j < 6 → σ (23 + c) j = nI (tC T c (11 + j)))
def rowR (f : Nat → Int32) (R : Nat → Nat) : Prop := ∀ k, k < 415 → f k = nI (R k)
def histR (σ : Sg) (T : Nat → Nat) (m nx : Nat) (U : Nat → Nat → Nat) : Prop := nx < 12 ∧ m ≤ 12 ∧ σ 63 1 = nI nx ∧ σ 63 2 = nI m ∧ σ 233 5 = nI m ∧ ∀ i, i < m → rowR (fun k => σ 237 (415 * i + k)) (U i) ∧ rowOk T (U i) ∧ sea σ (65 + 8 * ((nx + 12 - m + i) % 12)) (U i)
def keptR (σ : Sg) (T : Nat → Nat) (kb : Nat → Nat) (V : Nat → Nat → Nat) : Prop := ∀ k, k < 2 → kb k ≤ 1 ∧ σ 178 k = nI (kb k) ∧ σ 239 k = nI (kb k) ∧ (kb k = 1 → rowR (fun j => σ 238 (415 * k + j)) (V k) ∧ rowOk T (V k) ∧ sea σ (162 + 8 * k) (V k))
def core (σ : Sg) (T R : Nat → Nat) : Prop := toldOk T ∧ rowOk T R ∧ bookR σ T ∧ rowR (σ 236) R ∧ sea σ 55 R
def Inv (σ : Sg) : Prop := ∃ (n : Nat) (B T R : Nat → Nat) (m nx : Nat) (U : Nat → Nat → Nat) (kb : Nat → Nat) (V : Nat → Nat → Nat),
  tapeR σ n B ∧ (σ 1 5 = σ 233 11 ∧ σ 1 6 = σ 233 12) ∧ core σ T R ∧ histR σ T m nx U ∧ keptR σ T kb V ∧ ((T 0 = 0 → m = 0 ∧ kb 0 = 0 ∧ kb 1 = 0 ∧ R 0 = 0) ∧ isZ (σ 180 6) ∧ (σ 180 6 = 1 → led σ T R)) ∧ σ 229 0 = 0 ∧ σ 229 0 = 0

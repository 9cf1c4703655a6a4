def kTest (σ : MS) (k : Int32) : Int32 := if isWld σ k then if σ.2 19 k.toNatClampNeg = 0 ∧ ¬ iScr σ k then 0 else 2 else 1
def mTest (σ : MS) (k : Int32) : Int32 × MS := if kTest σ k = 0 then (if ¬ σ.2 20 k.toNatClampNeg = 0 then 2 else 1, upA (upS σ 34 0) 19 k.toNatClampNeg (if ¬ σ.2 20 k.toNatClampNeg = 0 then 2 else 1)) else (0, upS σ 34 (kTest σ k))
def kRep (σ : MS) (k y : Int32) : Int32 := if isWld σ k ∧ isWdr y then if σ.2 19 k.toNatClampNeg = 2 ∧ ¬ iScr σ k ∧ ¬ σ.2 21 k.toNatClampNeg = 2 ∧ σ.1 6 = 0 then 0 else 2 else 1
def sRep (σ : MS) (k : Int32) (y : Nat) : MS := sDrw (upS (upA σ 21 k.toNatClampNeg (σ.2 21 k.toNatClampNeg + 1)) 7 (σ.1 7 - 30)) k.toNatClampNeg y
def sRep3 (σ : MS) (k : Int32) (y : Nat) : MS := if iSta (sRep σ k y) k then sSpo (sRep σ k y) ((sRep σ k y).2 22 k.toNatClampNeg) ((sRep σ k y).2 23 k.toNatClampNeg) else sRep σ k y
def mRep (σ : MS) (k y : Int32) : Int32 × MS := if kRep σ k y = 0 then ((sRep3 (upS σ 34 0) k y.toNatClampNeg).2 21 k.toNatClampNeg, sRep3 (upS σ 34 0) k y.toNatClampNeg) else (0, upS σ 34 (kRep σ k y))
def kFit (σ : MS) (c t : Int32) : Int32 := if isRm σ c then if 1 ≤ t ∧ t ≤ 100 then if ¬ σ.2 26 c.toNatClampNeg = 0 ∧ σ.2 27 c.toNatClampNeg + t ≤ 300 then 0 else 3 else 2 else 1
def mFit (σ : MS) (c t : Int32) : Int32 × MS := if kFit σ c t = 0 then (σ.2 27 c.toNatClampNeg + t, upA (upS σ 34 0) 27 c.toNatClampNeg (σ.2 27 c.toNatClampNeg + t)) else (0, upS σ 34 (kFit σ c t))
def oth (c u : Int32) : Int32 := c + (if ¬ u = 0 then 12 else 1)
def bitU (u : Int32) : Int32 := if ¬ u = 0 then 8 else 2
abbrev hR (σ : MS) (c u : Int32) : Prop := isRm σ c ∧ (¬ u = 0 ∨ c - c / 12 * 12 < 11) ∧ isRm σ (oth c u)
def kHole (σ : MS) (c u : Int32) : Int32 := if hR σ c u then if σ.2 29 c.toNatClampNeg &&& bitU u = 0 ∧ σ.1 6 = 0 then 0 else 2 else 1
def sHole (σ : MS) (c u : Int32) : MS := upA (upA (upA (upA σ 29 c.toNatClampNeg (σ.2 29 c.toNatClampNeg ||| bitU u)) 29 (oth c u).toNatClampNeg ((upA σ 29 c.toNatClampNeg (σ.2 29 c.toNatClampNeg ||| bitU u)).2 29 (oth c u).toNatClampNeg ||| bitU u / 2)) 26 c.toNatClampNeg 0) 26 (oth c u).toNatClampNeg 0
def nP (σ : MS) (c : Int32) : Int32 := if ¬ σ.2 26 c.toNatClampNeg = 0 then 1 else 0
def mHole (σ : MS) (c u : Int32) : Int32 × MS := if kHole σ c u = 0 then (nP σ c + nP σ (oth c u), sHole (upS σ 34 0) c u) else (0, upS σ 34 (kHole σ c u))
def kBlk (σ : MS) (b what : Int32) (c : Int32) : Int32 := if isBlk σ b then if 0 ≤ what ∧ what ≤ c then 0 else 2 else 1
def tBlk (σ : MS) (b what : Int32) : Int32 := if what = 0 then σ.2 9 b.toNatClampNeg else if what = 1 then σ.2 10 b.toNatClampNeg else if what = 2 then σ.2 11 b.toNatClampNeg else if what = 3 then σ.2 12 b.toNatClampNeg else if what = 4 then σ.2 13 b.toNatClampNeg else if what = 5 then σ.2 14 b.toNatClampNeg else if what = 6 then σ.2 15 b.toNatClampNeg else if σ.2 9 b.toNatClampNeg = 2 then σ.2 16 b.toNatClampNeg else -1
def mTold (σ : MS) (b what : Int32) : Int32 × MS := if kBlk σ b what 7 = 0 then (tBlk σ b what, upS σ 34 0) else (0, upS σ 34 (kBlk σ b what 7))
def kWld (σ : MS) (k what : Int32) : Int32 := if isWld σ k then if 0 ≤ what ∧ what ≤ 3 then 0 else 2 else 1
def tWld (σ : MS) (k what : Int32) : Int32 := if what = 0 then σ.2 19 k.toNatClampNeg else if what = 1 then σ.2 21 k.toNatClampNeg else if what = 2 then σ.2 22 k.toNatClampNeg else σ.2 23 k.toNatClampNeg
def mWeld (σ : MS) (k what : Int32) : Int32 × MS := if kWld σ k what = 0 then (tWld σ k what, upS σ 34 0) else (0, upS σ 34 (kWld σ k what))
def kCell (c what : Int32) : Int32 := if 0 ≤ c ∧ c ≤ 35 then if 0 ≤ what ∧ what ≤ 4 then 0 else 2 else 1
def tCell (σ : MS) (c what : Int32) : Int32 := if what = 0 then σ.2 25 c.toNatClampNeg else if what = 1 then (if ¬ σ.2 26 c.toNatClampNeg = 0 then 1 else 0) else if what = 2 then σ.2 27 c.toNatClampNeg else if what = 3 then σ.2 28 c.toNatClampNeg else σ.2 29 c.toNatClampNeg
def mCell (σ : MS) (c what : Int32) : Int32 × MS := if kCell c what = 0 then (tCell σ c what, upS σ 34 0) else (0, upS σ 34 (kCell c what))
def kRat (σ : MS) (p q : Int32) : Int32 := if (0 ≤ p ∧ p ≤ σ.1 30 - 1) ∧ 0 ≤ q then 0 else 1
def mRat (σ : MS) (p q : Int32) : Int32 × MS := if kRat σ p q = 0 then (if q < σ.2 31 p.toNatClampNeg then σ.2 32 (36 * p + q).toNatClampNeg else -1, upS σ 34 0) else (0, upS σ 34 (kRat σ p q))

/-- is some cell of a level, of n frames from lo on, filled; or not -/
def anyF (σ : MS) (v : Int32) (lo n : Nat) : Bool := (List.range n).any fun j => decide (¬ bAt σ (nI (lo + j)) v = -1)
def anyB (σ : MS) (v : Int32) (lo n : Nat) : Bool := (List.range n).any fun j => decide (bAt σ (nI (lo + j)) v = -1)
theorem anyF_succ (σ : MS) (v : Int32) (lo n : Nat) : anyF σ v lo (n + 1) = (anyF σ v lo n || decide (¬ bAt σ (nI (lo + n)) v = -1)) := by simp [anyF, List.range_succ]
theorem anyB_succ (σ : MS) (v : Int32) (lo n : Nat) : anyB σ v lo (n + 1) = (anyB σ v lo n || decide (bAt σ (nI (lo + n)) v = -1)) := by simp [anyB, List.range_succ]
def dif (a c : Int32) : Int32 := if c < a then a - c else c - a
def mxx (a b : Int32) : Int32 := if b < a then a else b
def rsn2 (σ : MS) (i : Nat) : Int32 := if σ.1 3 - 5 * mxx (dif (σ.2 10 i) (σ.1 2)) (dif (σ.2 11 i) (σ.1 2)) < σ.2 13 i then 4 else if 60 * σ.2 15 i < 5 * σ.2 13 i then 5 else
  if bAt σ (σ.2 10 i - 1) (σ.2 12 i) = -1 ∨ bAt σ (σ.2 11 i + 1) (σ.2 12 i) = -1 then 0 else
  if 60 < σ.2 14 i - spc σ (bAt σ (σ.2 10 i - 1) (σ.2 12 i)) (bAt σ (σ.2 11 i + 1) (σ.2 12 i)) ∨ σ.2 14 i - spc σ (bAt σ (σ.2 10 i - 1) (σ.2 12 i)) (bAt σ (σ.2 11 i + 1) (σ.2 12 i)) < -12 then 6 else 0
def flN (σ : MS) (i : Nat) : Bool := anyF σ (σ.2 12 i) (σ.2 10 i).toNatClampNeg ((σ.2 11 i).toNatClampNeg + 1 - (σ.2 10 i).toNatClampNeg)
def brN (σ : MS) (i : Nat) : Bool := decide (0 < σ.2 12 i) && anyB σ (σ.2 12 i - 1) (σ.2 10 i).toNatClampNeg ((σ.2 11 i).toNatClampNeg + 1 - (σ.2 10 i).toNatClampNeg)
def rsn (σ : MS) (i : Nat) : Int32 := if ¬ σ.2 9 i = 0 ∨ ¬ σ.1 6 = 0 then 1 else if flN σ i = true then 2 else if brN σ i = true then 3 else rsn2 σ i

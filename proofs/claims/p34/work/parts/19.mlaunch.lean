/-! THE MODEL'S CONTRACTS, 7: the launch, paint, scrap -/
def allF (σ : MS) (n : Nat) : Bool := (List.range n).all fun c => decide (¬ σ.2 25 c = -1)
def allW (σ : MS) (n : Nat) : Bool := (List.range n).all fun k => decide (¬ iSta σ (nI k)) || decide (σ.2 19 k = 1)
theorem allF_succ (σ : MS) (n : Nat) : allF σ (n + 1) = (allF σ n && decide (¬ σ.2 25 n = -1)) := by simp [allF, List.range_succ]
theorem allW_succ (σ : MS) (n : Nat) : allW σ (n + 1) = (allW σ n && (decide (¬ iSta σ (nI n)) || decide (σ.2 19 n = 1))) := by simp [allW, List.range_succ]
def whlP (σ : MS) (nw : Nat) : Bool := (decide (σ.1 6 = 0) && allF σ 36) && allW σ nw
abbrev canL (σ : MS) (nb nw : Nat) (h : Int32) : Prop := whlP σ nw = true ∧ greN σ nb + 20 ≤ wIn h
def kLau (σ : MS) (nb nw : Nat) (t : Int32) : Int32 := if 0 ≤ t ∧ t ≤ 1000 then if canL σ nb nw t then 0 else 2 else 1
def sLau (σ : MS) : MS := upS (upS σ 6 1) 7 (σ.1 7 + 5000)
def mLau (σ : MS) (nb nw : Nat) (t : Int32) : Int32 × MS := if kLau σ nb nw t = 0 then (wIn t - greN σ nb, sLau (upS σ 34 0)) else (0, upS σ 34 (kLau σ nb nw t))
/-- the lowest of the last n hours (of 12) in which it can be -/
def fhr (σ : MS) (nb nw : Nat) : Nat → Int32
  | 0 => -1
  | n + 1 => if canL σ nb nw (nI (11 - n)) then nI (11 - n) else fhr σ nb nw n
abbrev rsOK (σ : MS) (i : Nat) : Prop := (0 ≤ σ.2 10 i ∧ σ.2 10 i ≤ 11) ∧ (0 ≤ σ.2 11 i ∧ σ.2 11 i ≤ 11) ∧ (σ.2 10 i).toNatClampNeg ≤ (σ.2 11 i).toNatClampNeg ∧ (0 ≤ σ.2 12 i ∧ σ.2 12 i ≤ 2)
abbrev flOK (σ : MS) : Prop := ∀ c, c < 36 → σ.2 25 c = -1 ∨ vp_in (σ.2 25 c) 60
def kWhy (σ : MS) (b : Int32) : Int32 := if isBlk σ b then 0 else 1
def mWhy (σ : MS) (b : Int32) : Int32 × MS := if kWhy σ b = 0 then (rsn σ b.toNatClampNeg, upS σ 34 0) else (0, upS σ 34 (kWhy σ b))
def kPai (σ : MS) (c : Int32) : Int32 := if isRm σ c then if σ.2 26 c.toNatClampNeg = 0 then 0 else 2 else 1
def fPt (σ : MS) (c : Nat) : Int32 := if ¬ σ.2 26 c = 0 then 1 else 0
def sPai (σ : MS) (c : Nat) : MS := upA σ 26 c 1
def mPai (σ : MS) (c : Int32) : Int32 × MS := if kPai σ c = 0 then (sm (fPt (sPai (upS σ 34 0) c.toNatClampNeg)) 36, sPai (upS σ 34 0) c.toNatClampNeg) else (0, upS σ 34 (kPai σ c))

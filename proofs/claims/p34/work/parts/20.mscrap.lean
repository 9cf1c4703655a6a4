/-! THE MODEL'S CONTRACTS, 8: scrap -/
def kScr (σ : MS) (b : Int32) : Int32 := if isBlk σ b then if σ.2 9 b.toNatClampNeg = 0 then 0 else 2 else 1
def scS (σ : MS) (b : Int32) (n : Nat) : MS := (σ.1, fun j i => if j = 9 ∧ i < n ∧ whl σ (nI i) = b then 3 else σ.2 j i)
def fSc (σ : MS) (b : Int32) (i : Nat) : Int32 := if whl σ (nI i) = b then 1 else 0
def mScr (σ : MS) (nb : Nat) (b : Int32) : Int32 × MS := if kScr σ b = 0 then (sm (fSc σ b) nb, scS (upS σ 34 0) b nb) else (0, upS σ 34 (kScr σ b))
theorem fSc_hit {σ : MS} {b : Int32} {n : Nat} (h : whl σ (nI n) = b) : fSc σ b n = 1 := if_pos h
theorem fSc_miss {σ : MS} {b : Int32} {n : Nat} (h : ¬ whl σ (nI n) = b) : fSc σ b n = 0 := if_neg h

/-! THE MODEL'S CONTRACTS, 2: blocks and welds are made -/
def sAdds (σ : MS) (f l v t e g : Int32) : MS := upS (upA (upA (upA (upA (upA (upA (upA (upA (upA σ 9 (σ.1 8).toNatClampNeg 0) 10 (σ.1 8).toNatClampNeg f) 11 (σ.1 8).toNatClampNeg l) 12 (σ.1 8).toNatClampNeg v) 13 (σ.1 8).toNatClampNeg t) 14 (σ.1 8).toNatClampNeg e) 15 (σ.1 8).toNatClampNeg g) 16 (σ.1 8).toNatClampNeg (-1)) 17 (σ.1 8).toNatClampNeg (-1)) 8 (σ.1 8 + 1)
abbrev okB1 (f l v : Int32) : Prop := (0 ≤ f ∧ f ≤ 11) ∧ (0 ≤ l ∧ l ≤ 11) ∧ (0 ≤ v ∧ v ≤ 2)
abbrev okB2 (f l t e g : Int32) : Prop := f ≤ l ∧ (1 ≤ t ∧ t ≤ 200) ∧ (0 ≤ e ∧ e ≤ 60) ∧ (1 ≤ g ∧ g ≤ 8)
abbrev okB3 (σ : MS) : Prop := ¬ σ.1 8 = 60 ∧ σ.1 6 = 0
def cBlock (σ : MS) (f l v t e g : Int32) : Int32 := if okB1 f l v then if okB2 f l t e g then if okB3 σ then 0 else 3 else 2 else 1
def mBlock (σ : MS) (f l v t e g : Int32) : Int32 × MS := if cBlock σ f l v t e g = 0 then (σ.1 8, sAdds (upS σ 34 0) f l v t (1000 * (l - f + 1) + e) g) else (0, upS σ 34 (cBlock σ f l v t e g))
/-- a draw: x goes on; the weld is flawed, and untested -/
def sDrw (σ : MS) (k : Nat) (by' : Nat) : MS := upA (upA (upS σ 4 (σ.1 4 * 1103515245 + 12345)) 20 k (if ((σ.1 4 * 1103515245 + 12345).toUInt32 >>> ((16 : Int32).toUInt32 &&& Int32.toUInt32 31)).toInt32 - ((σ.1 4 * 1103515245 + 12345).toUInt32 >>> ((16 : Int32).toUInt32 &&& Int32.toUInt32 31)).toInt32 / 100 * 100 < σ.2 5 by' then 1 else 0)) 19 k 0
def sMak (σ : MS) (b f v : Int32) (by' : Nat) : MS := sDrw (upS (upS (upA (upA (upA (upA σ 21 (σ.1 18).toNatClampNeg 0) 22 (σ.1 18).toNatClampNeg f) 23 (σ.1 18).toNatClampNeg v) 24 (σ.1 18).toNatClampNeg b) 18 (σ.1 18 + 1)) 7 (σ.1 7 - 20)) (σ.1 18).toNatClampNeg by'
theorem in_of {x : Int32} {n : Nat} (h0 : 0 ≤ x) (h1 : x.toInt < n) : vp_in x n := by
  rw [vp_in_iff]
  have h2 := Int32.le_iff_toInt_le.mp h0
  rw [Int32.toInt_zero] at h2
  exact ⟨h2, h1⟩
theorem in_n {x : Int32} {n : Nat} (h : vp_in x n) : x = nI x.toNatClampNeg := by
  rw [vp_in_iff] at h
  apply Int32.toInt_inj.mp
  have h3 := Int32.toInt_lt x
  have e : (x.toNatClampNeg : Int) = x.toInt := by
    have : x.toNatClampNeg = x.toInt.toNat := rfl
    omega
  rw [nI_toInt (by omega)]
  exact e.symm
theorem lt_of_in {x : Int32} {n : Nat} (h : vp_in x n) : x.toNatClampNeg < n := Nat.not_le.mp fun q => h (Or.inr q)

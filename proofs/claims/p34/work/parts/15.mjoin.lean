abbrev isBlk (σ : MS) (b : Int32) : Prop := 0 ≤ b ∧ b ≤ σ.1 8 - 1
abbrev isWld (σ : MS) (k : Int32) : Prop := 0 ≤ k ∧ k ≤ σ.1 18 - 1
abbrev isWdr (y : Int32) : Prop := 0 ≤ y ∧ y ≤ 3
abbrev cJoin (σ : MS) (a b : Int32) : Prop := (σ.2 9 a.toNatClampNeg = 0 ∧ σ.2 9 b.toNatClampNeg = 0 ∧ σ.2 12 a.toNatClampNeg = σ.2 12 b.toNatClampNeg ∧ σ.2 10 b.toNatClampNeg = σ.2 11 a.toNatClampNeg + 1) ∧ σ.2 11 b.toNatClampNeg - σ.2 10 a.toNatClampNeg + 1 ≤ σ.1 0 ∧ σ.2 13 a.toNatClampNeg + σ.2 13 b.toNatClampNeg + 1 ≤ σ.1 1
def kJoin (σ : MS) (a b y : Int32) : Int32 := if isBlk σ a ∧ isBlk σ b ∧ isWdr y then if cJoin σ a b ∧ ¬ σ.1 8 = 60 ∧ ¬ σ.1 18 = 100 then 0 else 2 else 1
def sJoin2 (σ : MS) (a b : Int32) : MS := upA (upA (upA (upA (sAdds σ (σ.2 10 a.toNatClampNeg) (σ.2 11 b.toNatClampNeg) (σ.2 12 a.toNatClampNeg) (σ.2 13 a.toNatClampNeg + σ.2 13 b.toNatClampNeg + 1) (σ.2 14 a.toNatClampNeg + σ.2 14 b.toNatClampNeg - 3 + σ.2 12 a.toNatClampNeg) (σ.2 15 a.toNatClampNeg + σ.2 15 b.toNatClampNeg)) 9 a.toNatClampNeg 1) 9 b.toNatClampNeg 1) 17 a.toNatClampNeg (σ.1 8)) 17 b.toNatClampNeg (σ.1 8)
def mJoin (σ : MS) (a b y : Int32) : Int32 × MS := if kJoin σ a b y = 0 then (σ.1 8, sMak (sJoin2 (upS σ 34 0) a b) (σ.1 8) ((sJoin2 (upS σ 34 0) a b).2 10 b.toNatClampNeg) ((sJoin2 (upS σ 34 0) a b).2 12 a.toNatClampNeg) y.toNatClampNeg) else (0, upS σ 34 (kJoin σ a b y))
def bAt (σ : MS) (f v : Int32) : Int32 := if 0 ≤ f ∧ f ≤ 11 then σ.2 25 (12 * v + f).toNatClampNeg else -1
def eOf (σ : MS) (b : Int32) : Int32 := σ.2 16 b.toNatClampNeg + σ.2 14 b.toNatClampNeg
def spc (σ : MS) (a b : Int32) : Int32 := σ.2 16 b.toNatClampNeg - 4 - eOf σ a - 4
def sSpo (σ : MS) (f v : Int32) : MS := upA (upA σ 26 (12 * v + f - 1).toNatClampNeg 0) 26 (12 * v + f).toNatClampNeg 0
theorem cell_in {f v : Int32} (hf : 0 ≤ f ∧ f ≤ 11) (hv : 0 ≤ v ∧ v ≤ 2) : vp_in (12 * v + f) 36 := by
  obtain ⟨i, hi, rfl⟩ := vp_in_of (in_c (c := 11) (n := 12) (by decide) hf) (by decide)
  obtain ⟨j, hj, rfl⟩ := vp_in_of (in_c (c := 2) (n := 3) (by decide) hv) (by decide)
  have e : (12 : Int32) * nI j + nI i = nI (12 * j + i) := by
    rw [show (12 : Int32) = nI 12 from rfl, pk_mul, nI_add]
  rw [e]
  exact vp_in_nI (by omega) (by decide)
/-- the block in which one is by now: at most n joins up -/
def whN (σ : MS) : Nat → Int32 → Int32
  | 0, b => b
  | n + 1, b => if σ.2 17 b.toNatClampNeg = -1 then b else whN σ n (σ.2 17 b.toNatClampNeg)
def whl (σ : MS) (b : Int32) : Int32 := whN σ 60 b
/-- joins lead on to later blocks -/
def chn (σ : MS) (nb : Nat) : Prop := nb ≤ 60 ∧ ∀ i, i < nb → σ.2 17 i = -1 ∨ ∃ j, i < j ∧ j < nb ∧ σ.2 17 i = nI j
theorem whN_in {σ : MS} {nb : Nat} (hc : chn σ nb) : ∀ (n j : Nat), j < nb → ∃ k, j ≤ k ∧ k < nb ∧ whN σ n (nI j) = nI k
  | 0, j, hj => ⟨j, Nat.le_refl _, hj, rfl⟩
  | n + 1, j, hj => by
    have e : (nI j).toNatClampNeg = j := nI_clamp (by have := hc.1; omega)
    unfold whN
    rw [e]
    rcases hc.2 j hj with h1 | ⟨k, h1, h2, h3⟩
    · rw [if_pos h1]; exact ⟨j, Nat.le_refl _, hj, rfl⟩
    · have hne : ¬ nI k = -1 := fun z => by
        have z1 := congrArg Int32.toInt z
        rw [nI_toInt (by have := hc.1; omega)] at z1
        have : (-1 : Int32).toInt = -1 := by decide
        omega
      rw [h3, if_neg hne]
      obtain ⟨q, g1, g2, g3⟩ := whN_in hc n k h2
      exact ⟨q, by omega, g2, g3⟩
abbrev iScr (σ : MS) (k : Int32) : Prop := ¬ σ.2 24 k.toNatClampNeg = -1 ∧ σ.2 9 (σ.2 24 k.toNatClampNeg).toNatClampNeg = 3
abbrev iSta (σ : MS) (k : Int32) : Prop := σ.2 24 k.toNatClampNeg = -1 ∨ σ.2 9 (whl σ (σ.2 24 k.toNatClampNeg)).toNatClampNeg = 2


theorem b01_eq {P : Prop} [Decidable P] : ((if P then (1 : Int32) else 0) = 0) = ¬ P := by
  by_cases h : P <;> simp [h]
theorem b01_ne {P : Prop} [Decidable P] : (¬ ((if P then (1 : Int32) else 0) = 0)) = P := by
  by_cases h : P <;> simp [h]
def wIn (x : Int32) : Int32 := 600 + 30 * (if 6 < x - x / 12 * 12 then 12 - (x - x / 12 * 12) else x - x / 12 * 12)
theorem in_c {x c : Int32} {n : Nat} (hn : c.toInt = (n : Int) - 1) (h : 0 ≤ x ∧ x ≤ c) : vp_in x n := by
  rw [vp_in_iff]
  have h1 := Int32.le_iff_toInt_le.mp h.1
  have h2 := Int32.le_iff_toInt_le.mp h.2
  rw [Int32.toInt_zero] at h1
  omega
abbrev isRm (σ : MS) (c : Int32) : Prop := (0 ≤ c ∧ c ≤ 35) ∧ ¬ σ.2 25 c.toNatClampNeg = -1
def mHall (σ : MS) (f t : Int32) : Int32 × MS := if (1 ≤ f ∧ f ≤ 12) ∧ (1 ≤ t ∧ t ≤ 1000) then (σ.1 0, upS (upS (upS σ 34 0) 0 f) 1 t) else (0, upS σ 34 1)
def mCrane (σ : MS) (f t : Int32) : Int32 × MS := if ¬ (0 ≤ f ∧ f ≤ 11) then (0, upS σ 34 1) else if ¬ (1 ≤ t ∧ t ≤ 1000) then (0, upS σ 34 2) else (σ.1 3, upS (upS (upS σ 34 0) 2 f) 3 t)
def mWelder (σ : MS) (a f : Int32) : Int32 × MS := if ¬ (0 ≤ a ∧ a ≤ 3) then (0, upS σ 34 1) else if ¬ (0 ≤ f ∧ f ≤ 100) then (0, upS σ 34 2) else (σ.2 5 a.toNatClampNeg, upA (upS σ 34 0) 5 a.toNatClampNeg f)
def mDraw (σ : MS) (x : Int32) : Int32 × MS := (σ.1 4, upS (upS σ 34 0) 4 x)
theorem eP {α β : Type} {a : α} {b : β} {p : α × β} (h : p = (a, b)) : some a = some p.1 ∧ b = p.2 := by subst h; exact ⟨rfl, rfl⟩
def mWater (σ : MS) (x : Int32) : Int32 × MS := if 0 ≤ x ∧ x ≤ 1000 then (wIn x, upS σ 34 0) else (0, upS σ 34 1)


/-! THE MODEL'S CONTRACTS, 2: blocks and welds are made -/
def sAdds (σ : MS) (f l v t e g : Int32) : MS := upS (upA (upA (upA (upA (upA (upA (upA (upA (upA σ 9 (σ.1 8).toNatClampNeg 0) 10 (σ.1 8).toNatClampNeg f) 11 (σ.1 8).toNatClampNeg l) 12 (σ.1 8).toNatClampNeg v) 13 (σ.1 8).toNatClampNeg t) 14 (σ.1 8).toNatClampNeg e) 15 (σ.1 8).toNatClampNeg g) 16 (σ.1 8).toNatClampNeg (-1)) 17 (σ.1 8).toNatClampNeg (-1)) 8 (σ.1 8 + 1)
abbrev okB1 (f l v : Int32) : Prop := (0 ≤ f ∧ f ≤ 11) ∧ (0 ≤ l ∧ l ≤ 11) ∧ (0 ≤ v ∧ v ≤ 2)
abbrev okB2 (f l t e g : Int32) : Prop := f ≤ l ∧ (1 ≤ t ∧ t ≤ 200) ∧ (0 ≤ e ∧ e ≤ 60) ∧ (1 ≤ g ∧ g ≤ 8)
abbrev okB3 (σ : MS) : Prop := ¬ σ.1 8 = 60 ∧ σ.1 6 = 0
def cBlock (σ : MS) (f l v t e g : Int32) : Int32 := if okB1 f l v then if okB2 f l t e g then if okB3 σ then 0 else 3 else 2 else 1
def mBlock (σ : MS) (f l v t e g : Int32) : Int32 × MS := if cBlock σ f l v t e g = 0 then (σ.1 8, sAdds (upS σ 34 0) f l v t (1000 * (l - f + 1) + e) g) else (0, upS σ 34 (cBlock σ f l v t e g))
/-- a draw: x goes on; the weld is flawed, and untested -/
def sDrw (σ : MS) (k : Nat) (by' : Nat) : MS := upA (upA (upS σ 4 (σ.1 4 * 1103515245 + 12345)) 20 k (if ((σ.1 4 * 1103515245 + 12345).toUInt32 >>> ((16 : Int32).toUInt32 &&& Int32.toUInt32 31)).toInt32 - ((σ.1 4 * 1103515245 + 12345).toUInt32 >>> ((16 : Int32).toUInt32 &&& Int32.toUInt32 31)).toInt32 / 100 * 100 < σ.2 5 by' then 1 else 0)) 19 k 0
def sMak (σ : MS) (b f v : Int32) (by' : Nat) : MS := sDrw (upS (upS (upA (upA (upA (upA σ 21 (σ.1 18).toNatClampNeg 0) 22 (σ.1 18).toNatClampNeg f) 23 (σ.1 18).toNatClampNeg v) 24 (σ.1 18).toNatClampNeg b) 18 (σ.1 18 + 1)) 7 (σ.1 7 - 20)) (σ.1 18).toNatClampNeg by'
theorem in_of {x : Int32} {n : Nat} (h0 : 0 ≤ x) (h1 : x.toInt < n) : vp_in x n := by
  rw [vp_in_iff]
  have h2 := Int32.le_iff_toInt_le.mp h0
  rw [Int32.toInt_zero] at h2
  exact ⟨h2, h1⟩
theorem in_n {x : Int32} {n : Nat} (h : vp_in x n) : x = nI x.toNatClampNeg := by
  rw [vp_in_iff] at h
  apply Int32.toInt_inj.mp
  have h3 := Int32.toInt_lt x
  have e : (x.toNatClampNeg : Int) = x.toInt := by
    have : x.toNatClampNeg = x.toInt.toNat := rfl
    omega
  rw [nI_toInt (by omega)]
  exact e.symm
theorem lt_of_in {x : Int32} {n : Nat} (h : vp_in x n) : x.toNatClampNeg < n := Nat.not_le.mp fun q => h (Or.inr q)
theorem ne_lt {x c : Int32} {n : Nat} (hc : c.toInt = n) (h0 : 0 ≤ x) (h1 : x ≤ c) (hne : ¬ x = c) : vp_in x n := by
  refine in_of h0 ?_
  have h2 := Int32.le_iff_toInt_le.mp h1
  have h3 : x.toInt ≠ c.toInt := fun z => hne (Int32.toInt_inj.mp z)
  omega
set_option maxRecDepth 20000 in
theorem c_X9_adds {w : W0} {m : Nat} {iv : Nat → Nat} {h : AH} {σ : MS} {f l v t e g : Int32} (hm : MOK m iv h) (hb : vp_in (σ.1 8) 60) : CM w yX9_adds mX9_adds m iv h [f, l, v, t, e, g] σ (fun r σ' => r = some (σ.1 8) ∧ σ' = sAdds σ f l v t e g) := by
  refine CM_of mcX9_adds (Nat.le_of_ble_eq_true rfl) ?_
  refine runM_ok rkX9_adds hm noCut 200 _ _ _ _ ?_
  refine And.intro hb ?_
  refine And.intro hb ?_
  refine And.intro hb ?_
  refine And.intro hb ?_
  refine And.intro hb ?_
  refine And.intro hb ?_
  refine And.intro hb ?_
  refine And.intro hb ?_
  refine And.intro hb ?_
  exact ⟨rfl, rfl⟩
set_option maxRecDepth 20000 in
theorem c_X9_draws {w : W0} {m : Nat} {iv : Nat → Nat} {h : AH} {σ : MS} {k y : Int32} (hm : MOK m iv h) (hk : vp_in k 100) (hy : vp_in y 4) : CM w yX9_draws mX9_draws m iv h [k, y] σ (fun r σ' => r = none ∧ σ' = sDrw σ k.toNatClampNeg y.toNatClampNeg) := by
  refine CM_of mcX9_draws (Nat.le_of_ble_eq_true rfl) ?_
  refine runM_ok rkX9_draws hm noCut 200 _ _ _ _ ?_
  refine qX9_draws_5 ?_
  refine runM_ok rkX9_draws hm noCut 200 _ _ _ _ ?_
  refine And.intro (by decide) ?_
  refine And.intro hy ?_
  refine And.intro (fun c1 => ?_) (fun c1 => ?_)
  · try simp only [b01_eq, b01_ne, Classical.not_not, upS_row] at c1
    refine And.intro ⟨hk, by first | exact Or.inl rfl | exact Or.inr rfl⟩ ?_
    refine And.intro hk ?_
    refine ⟨rfl, ?_⟩
    unfold sDrw
    first | rw [if_pos (Int32.not_le.mp ‹_›)] | rw [if_neg (Int32.not_lt.mpr ‹_›)]
  · try simp only [b01_eq, b01_ne, Classical.not_not, upS_row] at c1
    refine And.intro ⟨hk, by first | exact Or.inl rfl | exact Or.inr rfl⟩ ?_
    refine And.intro hk ?_
    refine ⟨rfl, ?_⟩
    unfold sDrw
    first | rw [if_pos (Int32.not_le.mp ‹_›)] | rw [if_neg (Int32.not_lt.mpr ‹_›)]
set_option maxRecDepth 20000 in
theorem c_X9_makes {w : W0} {m : Nat} {iv : Nat → Nat} {h : AH} {σ : MS} {b f v y : Int32} (hm : MOK m iv h) (hk : vp_in (σ.1 18) 100) (hy : vp_in y 4) : CM w yX9_makes mX9_makes m iv h [b, f, v, y] σ (fun r σ' => r = none ∧ σ' = sMak σ b f v y.toNatClampNeg) := by
  refine CM_of mcX9_makes (Nat.le_of_ble_eq_true rfl) ?_
  refine runM_ok rkX9_makes hm noCut 200 _ _ _ _ ?_
  refine And.intro hk ?_
  refine And.intro hk ?_
  refine And.intro hk ?_
  refine And.intro hk ?_
  refine qX9_makes_64 hm rfl (c_X9_draws hm hk hy) (fun r σ1 hq => ?_)
  obtain ⟨rfl, rfl⟩ := hq
  refine runM_ok rkX9_makes hm noCut 200 _ _ _ _ ?_
  exact ⟨rfl, rfl⟩
set_option maxRecDepth 20000 in
theorem c_X9_block {w : W0} {m : Nat} {iv : Nat → Nat} {h : AH} {σ : MS} {f l v t e g : Int32} (hm : MOK m iv h) (hb0 : 0 ≤ σ.1 8) (hb1 : σ.1 8 ≤ 60) : CM w yX9_block mX9_block m iv h [f, l, v, t, e, g] σ (fun r σ' => r = some (mBlock σ f l v t e g).1 ∧ σ' = (mBlock σ f l v t e g).2) := by
  refine CM_of mcX9_block (Nat.le_of_ble_eq_true rfl) ?_
  have K114 : ∀ x1 x2 x : Int32, x = cBlock σ f l v t e g → XM w mX9_block m iv h (fun r σ' => r = some (mBlock σ f l v t e g).1 ∧ σ' = (mBlock σ f l v t e g).2) 114 [some (.inr 0), some (.inl f), some (.inl l), some (.inl v), some (.inl t), some (.inl e), some (.inl g), some (.inl x1), some (.inl x2)] [.inl x, .inr 0] σ := by
    intro x1 x2 x hx
    refine qX9_block_114 hm rfl (c_X9_fails hm) (fun r σ1 hq => ?_)
    obtain ⟨rfl, rfl⟩ := hq
    refine runM_ok rkX9_block hm (fun p => Nat.beq p 26 || Nat.beq p 72 || Nat.beq p 114) 200 _ _ _ _ ?_
    refine And.intro (fun c1 => ?_) (fun c1 => ?_)
    · try simp only [b01_eq, b01_ne, Classical.not_not, upS_row] at c1
      refine qX9_block_142 hm rfl (c_X9_adds hm (by show vp_in (σ.1 8) 60; refine ne_lt (c := 60) (by decide) hb0 hb1 ?_; unfold cBlock at hx; grind)) (fun r σ1 hq => ?_)
      obtain ⟨rfl, rfl⟩ := hq
      refine runM_ok rkX9_block hm (fun p => Nat.beq p 26 || Nat.beq p 72 || Nat.beq p 114) 200 _ _ _ _ ?_
      first | (refine eP ?_; unfold mBlock; rw [if_neg (by grind), ← hx]) | (refine eP ?_; unfold mBlock; rw [if_pos (by unfold cBlock at hx ⊢; grind)]; have h0 : x = 0 := (by unfold cBlock at hx; grind); rw [h0]; rfl)
    · try simp only [b01_eq, b01_ne, Classical.not_not, upS_row] at c1
      first | (refine eP ?_; unfold mBlock; rw [if_neg (by grind), ← hx]) | (refine eP ?_; unfold mBlock; rw [if_pos (by unfold cBlock at hx ⊢; grind)]; have h0 : x = 0 := (by unfold cBlock at hx; grind); rw [h0]; rfl)
  have K72 : ∀ x1 x : Int32, x1 = (if okB1 f l v then 1 else 0) → x = (if okB2 f l t e g then 1 else 0) → XM w mX9_block m iv h (fun r σ' => r = some (mBlock σ f l v t e g).1 ∧ σ' = (mBlock σ f l v t e g).2) 72 [some (.inr 0), some (.inl f), some (.inl l), some (.inl v), some (.inl t), some (.inl e), some (.inl g), some (.inl x1), none] [.inl x] σ := by
    intro x1 x hx1 hx
    refine runM_go rkX9_block hm (fun p => Nat.beq p 26 || Nat.beq p 72 || Nat.beq p 114) 200 ?_
    refine And.intro (fun c2 => ?_) (fun c2 => ?_)
    · try simp only [b01_eq, b01_ne, Classical.not_not, upS_row] at c2
      refine And.intro (fun c3 => ?_) (fun c3 => ?_)
      · try simp only [b01_eq, b01_ne, Classical.not_not, upS_row] at c3
        refine And.intro (fun c4 => ?_) (fun c4 => ?_)
        · try simp only [b01_eq, b01_ne, Classical.not_not, upS_row] at c4
          exact K114 _ _ _ (by unfold cBlock; grind)
        · try simp only [b01_eq, b01_ne, Classical.not_not, upS_row] at c4
          refine And.intro (fun c5 => ?_) (fun c5 => ?_)
          · try simp only [b01_eq, b01_ne, Classical.not_not, upS_row] at c5
            exact K114 _ _ _ (by unfold cBlock; grind)
          · try simp only [b01_eq, b01_ne, Classical.not_not, upS_row] at c5
            exact K114 _ _ _ (by unfold cBlock; grind)
      · try simp only [b01_eq, b01_ne, Classical.not_not, upS_row] at c3
        exact K114 _ _ _ (by unfold cBlock; grind)
    · try simp only [b01_eq, b01_ne, Classical.not_not, upS_row] at c2
      exact K114 _ _ _ (by unfold cBlock; grind)
  have K26 : ∀ x : Int32, x = (if okB1 f l v then 1 else 0) → XM w mX9_block m iv h (fun r σ' => r = some (mBlock σ f l v t e g).1 ∧ σ' = (mBlock σ f l v t e g).2) 26 [some (.inr 0), some (.inl f), some (.inl l), some (.inl v), some (.inl t), some (.inl e), some (.inl g), none, none] [.inl x] σ := by
    intro x hx
    refine runM_go rkX9_block hm (fun p => Nat.beq p 26 || Nat.beq p 72 || Nat.beq p 114) 200 ?_
    refine And.intro (fun c6 => ?_) (fun c6 => ?_)
    · try simp only [b01_eq, b01_ne, Classical.not_not, upS_row] at c6
      exact K72 _ _ hx (by grind)
    · try simp only [b01_eq, b01_ne, Classical.not_not, upS_row] at c6
      refine qX9_block_39 rfl c_X9_isIn ?_
      refine runM_ok rkX9_block hm (fun p => Nat.beq p 26 || Nat.beq p 72 || Nat.beq p 114) 200 _ _ _ _ ?_
      refine And.intro (fun c7 => ?_) (fun c7 => ?_)
      · try simp only [b01_eq, b01_ne, Classical.not_not, upS_row] at c7
        exact K72 _ _ hx (by grind)
      · try simp only [b01_eq, b01_ne, Classical.not_not, upS_row] at c7
        refine qX9_block_50 rfl c_X9_isIn ?_
        refine runM_ok rkX9_block hm (fun p => Nat.beq p 26 || Nat.beq p 72 || Nat.beq p 114) 200 _ _ _ _ ?_
        refine And.intro (fun c8 => ?_) (fun c8 => ?_)
        · try simp only [b01_eq, b01_ne, Classical.not_not, upS_row] at c8
          exact K72 _ _ hx (by grind)
        · try simp only [b01_eq, b01_ne, Classical.not_not, upS_row] at c8
          refine qX9_block_61 rfl c_X9_isIn ?_
          refine runM_ok rkX9_block hm (fun p => Nat.beq p 26 || Nat.beq p 72 || Nat.beq p 114) 200 _ _ _ _ ?_
          refine And.intro (fun c9 => ?_) (fun c9 => ?_)
          · try simp only [b01_eq, b01_ne, Classical.not_not, upS_row] at c9
            exact K72 _ _ hx (by grind)
          · try simp only [b01_eq, b01_ne, Classical.not_not, upS_row] at c9
            exact K72 _ _ hx (by grind)
  refine runM_ok rkX9_block hm (fun p => Nat.beq p 26 || Nat.beq p 72 || Nat.beq p 114) 200 _ _ _ _ ?_
  refine qX9_block_1 rfl c_X9_isFrame ?_
  refine runM_ok rkX9_block hm (fun p => Nat.beq p 26 || Nat.beq p 72 || Nat.beq p 114) 200 _ _ _ _ ?_
  refine And.intro (fun c10 => ?_) (fun c10 => ?_)
  · try simp only [b01_eq, b01_ne, Classical.not_not, upS_row] at c10
    exact K26 _ (by grind)
  · try simp only [b01_eq, b01_ne, Classical.not_not, upS_row] at c10
    refine qX9_block_8 rfl c_X9_isFrame ?_
    refine runM_ok rkX9_block hm (fun p => Nat.beq p 26 || Nat.beq p 72 || Nat.beq p 114) 200 _ _ _ _ ?_
    refine And.intro (fun c11 => ?_) (fun c11 => ?_)
    · try simp only [b01_eq, b01_ne, Classical.not_not, upS_row] at c11
      exact K26 _ (by grind)
    · try simp only [b01_eq, b01_ne, Classical.not_not, upS_row] at c11
      refine qX9_block_15 rfl c_X9_isLevel ?_
      refine runM_ok rkX9_block hm (fun p => Nat.beq p 26 || Nat.beq p 72 || Nat.beq p 114) 200 _ _ _ _ ?_
      refine And.intro (fun c12 => ?_) (fun c12 => ?_)
      · try simp only [b01_eq, b01_ne, Classical.not_not, upS_row] at c12
        exact K26 _ (by grind)
      · try simp only [b01_eq, b01_ne, Classical.not_not, upS_row] at c12
        exact K26 _ (by grind)

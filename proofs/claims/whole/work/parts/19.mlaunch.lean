
/-! THE MODEL'S CONTRACTS, 7: the launch, paint, scrap -/
def allF (σ : MS) (n : Nat) : Bool := (List.range n).all fun c => decide (¬ σ.2 25 c = -1)
def allW (σ : MS) (n : Nat) : Bool := (List.range n).all fun k => decide (¬ iSta σ (nI k)) || decide (σ.2 19 k = 1)
theorem allF_succ (σ : MS) (n : Nat) : allF σ (n + 1) = (allF σ n && decide (¬ σ.2 25 n = -1)) := by simp [allF, List.range_succ]
theorem allW_succ (σ : MS) (n : Nat) : allW σ (n + 1) = (allW σ n && (decide (¬ iSta σ (nI n)) || decide (σ.2 19 n = 1))) := by simp [allW, List.range_succ]
def whlP (σ : MS) (nw : Nat) : Bool := (decide (σ.1 6 = 0) && allF σ 36) && allW σ nw
abbrev canL (σ : MS) (nb nw : Nat) (h : Int32) : Prop := whlP σ nw = true ∧ greN σ nb + 20 ≤ wIn h
set_option maxRecDepth 20000 in
theorem c_X9_isWhole {w : W0} {m : Nat} {iv : Nat → Nat} {h : AH} {σ : MS} (hm : MOK m iv h) {nb nw : Nat} (hc : chn σ nb) (eb : σ.1 8 = nI nb) (hnw : nw ≤ 100) (ew : σ.1 18 = nI nw) (hwb : ∀ k, k < nw → σ.2 24 k = -1 ∨ ∃ j, j < nb ∧ σ.2 24 k = nI j) : CM w yX9_isWhole mX9_isWhole m iv h [] σ (fun r σ' => r = some (if whlP σ nw = true then 1 else 0) ∧ σ' = σ) := by
  refine CM_of mcX9_isWhole (Nat.le_of_ble_eq_true rfl) ?_
  have K91 : ∀ x1 x2 : Int32, x1 = (if whlP σ nw = true then 1 else 0) → XM w mX9_isWhole m iv h (fun r σ' => r = some (if whlP σ nw = true then 1 else 0) ∧ σ' = σ) 91 [some (.inr 0), some (.inl x1), some (.inl x2)] [] σ := by
    intro x1 x2 hx1
    refine runM_go rkX9_isWhole hm (fun p => Nat.beq p 12 || Nat.beq p 15 || Nat.beq p 40 || Nat.beq p 47 || Nat.beq p 49 || Nat.beq p 84 || Nat.beq p 91) 200 ?_
    refine And.intro (by rw [hx1]; split <;> simp) ?_
    exact ⟨by rw [hx1], rfl⟩
  have loop49 : ∀ (n k : Nat) (x1 : Int32), k ≤ nw → nw ≤ n + k → (x1 = (if ((decide (σ.1 6 = 0) && allF σ 36) && allW σ k) = true then 1 else 0)) → XM w mX9_isWhole m iv h (fun r σ' => r = some (if whlP σ nw = true then 1 else 0) ∧ σ' = σ) 49 [some (.inr 0), some (.inl x1), some (.inl (nI k))] [] σ := by
    intro n
    induction n with
    | zero =>
      intro k x1 hk1 hk2 hx1
      have hex : σ.1 18 ≤ nI k → k = nw := by intro z; rw [ew] at z; have := (nI_leI (by omega) (by omega)).mp z; omega
      have hlt : ¬ σ.1 18 ≤ nI k → k < nw := by intro z; rw [ew] at z; exact Nat.lt_of_not_le (fun q => z (nI_le q (by omega)))
      refine runM_go rkX9_isWhole hm (fun p => Nat.beq p 12 || Nat.beq p 15 || Nat.beq p 40 || Nat.beq p 47 || Nat.beq p 49 || Nat.beq p 84 || Nat.beq p 91) 200 ?_
      refine And.intro (fun c0 => ?_) (fun c0 => ?_)
      · skip
        exact K91 _ _ (by rw [hx1, hex ‹_›]; rfl)
      · exact absurd (hlt c0) (by omega)
    | succ n ih =>
      intro k x1 hk1 hk2 hx1
      have hex : σ.1 18 ≤ nI k → k = nw := by intro z; rw [ew] at z; have := (nI_leI (by omega) (by omega)).mp z; omega
      have hlt : ¬ σ.1 18 ≤ nI k → k < nw := by intro z; rw [ew] at z; exact Nat.lt_of_not_le (fun q => z (nI_le q (by omega)))
      have K84 : ∀ x : Int32, k < nw → x = (if ((decide (σ.1 6 = 0) && allF σ 36) && allW σ (k + 1)) = true then 1 else 0) → XM w mX9_isWhole m iv h (fun r σ' => r = some (if whlP σ nw = true then 1 else 0) ∧ σ' = σ) 84 [some (.inr 0), some (.inl x1), some (.inl (nI k))] [.inl x] σ := by
        intro x hkl hx
        refine runM_go rkX9_isWhole hm (fun p => Nat.beq p 12 || Nat.beq p 15 || Nat.beq p 40 || Nat.beq p 47 || Nat.beq p 49 || Nat.beq p 84 || Nat.beq p 91) 200 ?_
        have e9 := ih (k + 1) _ (by omega) (by omega) hx
        rw [← nI_1 k] at e9
        exact e9
      refine runM_go rkX9_isWhole hm (fun p => Nat.beq p 12 || Nat.beq p 15 || Nat.beq p 40 || Nat.beq p 47 || Nat.beq p 49 || Nat.beq p 84 || Nat.beq p 91) 200 ?_
      refine And.intro (fun c1 => ?_) (fun c1 => ?_)
      · try simp only [b01_eq, b01_ne, Classical.not_not, upS_row] at c1
        exact K91 _ _ (by rw [hx1, hex ‹_›]; rfl)
      · try simp only [b01_eq, b01_ne, Classical.not_not, upS_row] at c1
        refine And.intro (fun c2 => ?_) (fun c2 => ?_)
        · try simp only [b01_eq, b01_ne, Classical.not_not, upS_row] at c2
          exact K84 _ (hlt ‹_›) (by have e : (nI k).toNatClampNeg = k := nI_clamp (by have := hlt ‹_›; omega); simp only [e] at *; rw [allW_succ]; grind)
        · try simp only [b01_eq, b01_ne, Classical.not_not, upS_row] at c2
          refine qX9_isWhole_63 hm rfl (c_X9_stands (nb := nb) hm hc (vp_in_nI (N := 100) (by have := hlt ‹_›; omega) (by decide)) (by have e : (nI k).toNatClampNeg = k := nI_clamp (by have := hlt ‹_›; omega); rw [e]; exact hwb k (hlt ‹_›))) (fun r σ1 hq => ?_)
          obtain ⟨rfl, rfl⟩ := hq
          refine runM_ok rkX9_isWhole hm (fun p => Nat.beq p 12 || Nat.beq p 15 || Nat.beq p 40 || Nat.beq p 47 || Nat.beq p 49 || Nat.beq p 84 || Nat.beq p 91) 200 _ _ _ _ ?_
          refine And.intro (fun c3 => ?_) (fun c3 => ?_)
          · try simp only [b01_eq, b01_ne, Classical.not_not, upS_row] at c3
            exact K84 _ (hlt ‹_›) (by have e : (nI k).toNatClampNeg = k := nI_clamp (by have := hlt ‹_›; omega); simp only [e] at *; rw [allW_succ]; grind)
          · try simp only [b01_eq, b01_ne, Classical.not_not, upS_row] at c3
            refine And.intro (vp_in_nI (N := 100) (by have := hlt ‹_›; omega) (by decide)) ?_
            refine And.intro (fun c4 => ?_) (fun c4 => ?_)
            · try simp only [b01_eq, b01_ne, Classical.not_not, upS_row] at c4
              exact K84 _ (hlt ‹_›) (by have e : (nI k).toNatClampNeg = k := nI_clamp (by have := hlt ‹_›; omega); simp only [e] at *; rw [allW_succ]; grind)
            · try simp only [b01_eq, b01_ne, Classical.not_not, upS_row] at c4
              exact K84 _ (hlt ‹_›) (by have e : (nI k).toNatClampNeg = k := nI_clamp (by have := hlt ‹_›; omega); simp only [e] at *; rw [allW_succ]; grind)
  have K47 : ∀ x1 x2 : Int32, x1 = (if (decide (σ.1 6 = 0) && allF σ 36) = true then 1 else 0) → XM w mX9_isWhole m iv h (fun r σ' => r = some (if whlP σ nw = true then 1 else 0) ∧ σ' = σ) 47 [some (.inr 0), some (.inl x1), some (.inl x2)] [] σ := by
    intro x1 x2 hx1
    refine runM_go rkX9_isWhole hm (fun p => Nat.beq p 12 || Nat.beq p 15 || Nat.beq p 40 || Nat.beq p 47 || Nat.beq p 49 || Nat.beq p 84 || Nat.beq p 91) 200 ?_
    have e9 := loop49 nw 0 x1 (by omega) (by omega) (by rw [show allW σ 0 = true from rfl, Bool.and_true]; exact hx1)
    exact e9
  have loop15 : ∀ (n k : Nat) (x1 : Int32), k ≤ 36 → 36 ≤ n + k → (x1 = (if (decide (σ.1 6 = 0) && allF σ k) = true then 1 else 0)) → XM w mX9_isWhole m iv h (fun r σ' => r = some (if whlP σ nw = true then 1 else 0) ∧ σ' = σ) 15 [some (.inr 0), some (.inl x1), some (.inl (nI k))] [] σ := by
    intro n
    induction n with
    | zero =>
      intro k x1 hk1 hk2 hx1
      have hex : 36 ≤ nI k → k = 36 := by intro z; rw [(show (36 : Int32) = nI 36 from rfl)] at z; have := (nI_leI (by omega) (by omega)).mp z; omega
      have hlt : ¬ 36 ≤ nI k → k < 36 := by intro z; rw [(show (36 : Int32) = nI 36 from rfl)] at z; exact Nat.lt_of_not_le (fun q => z (nI_le q (by omega)))
      refine runM_go rkX9_isWhole hm (fun p => Nat.beq p 12 || Nat.beq p 15 || Nat.beq p 40 || Nat.beq p 47 || Nat.beq p 49 || Nat.beq p 84 || Nat.beq p 91) 200 ?_
      refine And.intro (fun c0 => ?_) (fun c0 => ?_)
      · skip
        exact K47 _ _ (by rw [hx1, hex ‹_›])
      · exact absurd (hlt c0) (by omega)
    | succ n ih =>
      intro k x1 hk1 hk2 hx1
      have hex : 36 ≤ nI k → k = 36 := by intro z; rw [(show (36 : Int32) = nI 36 from rfl)] at z; have := (nI_leI (by omega) (by omega)).mp z; omega
      have hlt : ¬ 36 ≤ nI k → k < 36 := by intro z; rw [(show (36 : Int32) = nI 36 from rfl)] at z; exact Nat.lt_of_not_le (fun q => z (nI_le q (by omega)))
      have K40 : ∀ x : Int32, k < 36 → x = (if (decide (σ.1 6 = 0) && allF σ (k + 1)) = true then 1 else 0) → XM w mX9_isWhole m iv h (fun r σ' => r = some (if whlP σ nw = true then 1 else 0) ∧ σ' = σ) 40 [some (.inr 0), some (.inl x1), some (.inl (nI k))] [.inl x] σ := by
        intro x hkl hx
        refine runM_go rkX9_isWhole hm (fun p => Nat.beq p 12 || Nat.beq p 15 || Nat.beq p 40 || Nat.beq p 47 || Nat.beq p 49 || Nat.beq p 84 || Nat.beq p 91) 200 ?_
        have e9 := ih (k + 1) _ (by omega) (by omega) hx
        rw [← nI_1 k] at e9
        exact e9
      refine runM_go rkX9_isWhole hm (fun p => Nat.beq p 12 || Nat.beq p 15 || Nat.beq p 40 || Nat.beq p 47 || Nat.beq p 49 || Nat.beq p 84 || Nat.beq p 91) 200 ?_
      refine And.intro (fun c5 => ?_) (fun c5 => ?_)
      · try simp only [b01_eq, b01_ne, Classical.not_not, upS_row] at c5
        exact K47 _ _ (by rw [hx1, hex ‹_›])
      · try simp only [b01_eq, b01_ne, Classical.not_not, upS_row] at c5
        refine And.intro (fun c6 => ?_) (fun c6 => ?_)
        · try simp only [b01_eq, b01_ne, Classical.not_not, upS_row] at c6
          exact K40 _ (hlt ‹_›) (by have e : (nI k).toNatClampNeg = k := nI_clamp (by have := hlt ‹_›; omega); simp only [e] at *; rw [allF_succ]; grind)
        · try simp only [b01_eq, b01_ne, Classical.not_not, upS_row] at c6
          refine And.intro (vp_in_nI (N := 36) (by have := hlt ‹_›; omega) (by decide)) ?_
          refine And.intro (fun c7 => ?_) (fun c7 => ?_)
          · try simp only [b01_eq, b01_ne, Classical.not_not, upS_row] at c7
            exact K40 _ (hlt ‹_›) (by have e : (nI k).toNatClampNeg = k := nI_clamp (by have := hlt ‹_›; omega); simp only [e] at *; rw [allF_succ]; grind)
          · try simp only [b01_eq, b01_ne, Classical.not_not, upS_row] at c7
            exact K40 _ (hlt ‹_›) (by have e : (nI k).toNatClampNeg = k := nI_clamp (by have := hlt ‹_›; omega); simp only [e] at *; rw [allF_succ]; grind)
  have K12 : ∀ x : Int32, x = (if decide (σ.1 6 = 0) = true then 1 else 0) → XM w mX9_isWhole m iv h (fun r σ' => r = some (if whlP σ nw = true then 1 else 0) ∧ σ' = σ) 12 [some (.inr 0), none, none] [.inl x] σ := by
    intro x hx
    refine runM_go rkX9_isWhole hm (fun p => Nat.beq p 12 || Nat.beq p 15 || Nat.beq p 40 || Nat.beq p 47 || Nat.beq p 49 || Nat.beq p 84 || Nat.beq p 91) 200 ?_
    exact loop15 36 0 x (by omega) (by omega) (by rw [show allF σ 0 = true from rfl, Bool.and_true]; exact hx)
  refine runM_ok rkX9_isWhole hm (fun p => Nat.beq p 12 || Nat.beq p 15 || Nat.beq p 40 || Nat.beq p 47 || Nat.beq p 49 || Nat.beq p 84 || Nat.beq p 91) 200 _ _ _ _ ?_
  refine And.intro (fun c8 => ?_) (fun c8 => ?_)
  · try simp only [b01_eq, b01_ne, Classical.not_not, upS_row] at c8
    exact K12 _ (by grind)
  · try simp only [b01_eq, b01_ne, Classical.not_not, upS_row] at c8
    exact K12 _ (by grind)
set_option maxRecDepth 20000 in
theorem c_X9_canLaunch {w : W0} {m : Nat} {iv : Nat → Nat} {h : AH} {σ : MS} {t : Int32} (hm : MOK m iv h) {nb nw : Nat} (hc : chn σ nb) (eb : σ.1 8 = nI nb) (hnw : nw ≤ 100) (ew : σ.1 18 = nI nw) (hwb : ∀ k, k < nw → σ.2 24 k = -1 ∨ ∃ j, j < nb ∧ σ.2 24 k = nI j) : CM w yX9_canLaunch mX9_canLaunch m iv h [t] σ (fun r σ' => r = some (if canL σ nb nw t then 1 else 0) ∧ σ' = σ) := by
  refine CM_of mcX9_canLaunch (Nat.le_of_ble_eq_true rfl) ?_
  refine runM_ok rkX9_canLaunch hm noCut 200 _ _ _ _ ?_
  refine qX9_canLaunch_1 hm rfl (c_X9_isWhole hm hc eb hnw ew hwb) (fun r σ1 hq => ?_)
  obtain ⟨rfl, rfl⟩ := hq
  refine runM_ok rkX9_canLaunch hm noCut 200 _ _ _ _ ?_
  refine And.intro (fun c1 => ?_) (fun c1 => ?_)
  · try simp only [b01_eq, b01_ne, Classical.not_not, upS_row] at c1
    refine And.intro (by first | exact Or.inl rfl | exact Or.inr rfl) ?_
    first | exact ⟨by rw [if_pos (by grind)], rfl⟩ | exact ⟨by rw [if_neg (by grind)], rfl⟩
  · try simp only [b01_eq, b01_ne, Classical.not_not, upS_row] at c1
    refine qX9_canLaunch_8 hm rfl (c_X9_greater hm hc.1 eb) (fun r σ1 hq => ?_)
    obtain ⟨rfl, rfl⟩ := hq
    refine runM_ok rkX9_canLaunch hm noCut 200 _ _ _ _ ?_
    refine qX9_canLaunch_15 rfl c_X9_waterIn ?_
    refine runM_ok rkX9_canLaunch hm noCut 200 _ _ _ _ ?_
    refine And.intro (fun c2 => ?_) (fun c2 => ?_)
    · try simp only [b01_eq, b01_ne, Classical.not_not, upS_row] at c2
      refine And.intro (by first | exact Or.inl rfl | exact Or.inr rfl) ?_
      first | exact ⟨by rw [if_pos (by grind)], rfl⟩ | exact ⟨by rw [if_neg (by grind)], rfl⟩
    · try simp only [b01_eq, b01_ne, Classical.not_not, upS_row] at c2
      refine And.intro (by first | exact Or.inl rfl | exact Or.inr rfl) ?_
      first | exact ⟨by rw [if_pos (by grind)], rfl⟩ | exact ⟨by rw [if_neg (by grind)], rfl⟩

def kLau (σ : MS) (nb nw : Nat) (t : Int32) : Int32 := if 0 ≤ t ∧ t ≤ 1000 then if canL σ nb nw t then 0 else 2 else 1
def sLau (σ : MS) : MS := upS (upS σ 6 1) 7 (σ.1 7 + 5000)
def mLau (σ : MS) (nb nw : Nat) (t : Int32) : Int32 × MS := if kLau σ nb nw t = 0 then (wIn t - greN σ nb, sLau (upS σ 34 0)) else (0, upS σ 34 (kLau σ nb nw t))
set_option maxRecDepth 20000 in
theorem c_X9_launch {w : W0} {m : Nat} {iv : Nat → Nat} {h : AH} {σ : MS} {t : Int32} (hm : MOK m iv h) {nb nw : Nat} (hc : chn σ nb) (eb : σ.1 8 = nI nb) (hnw : nw ≤ 100) (ew : σ.1 18 = nI nw) (hwb : ∀ k, k < nw → σ.2 24 k = -1 ∨ ∃ j, j < nb ∧ σ.2 24 k = nI j) : CM w yX9_launch mX9_launch m iv h [t] σ (fun r σ' => r = some (mLau σ nb nw t).1 ∧ σ' = (mLau σ nb nw t).2) := by
  refine CM_of mcX9_launch (Nat.le_of_ble_eq_true rfl) ?_
  have K29 : ∀ x : Int32, x = kLau σ nb nw t → XM w mX9_launch m iv h (fun r σ' => r = some (mLau σ nb nw t).1 ∧ σ' = (mLau σ nb nw t).2) 29 [some (.inr 0), some (.inl t)] [.inl x, .inr 0] σ := by
    intro x hx
    have h01 : x = 0 ∨ 0 < x := by unfold kLau at hx; grind
    refine qX9_launch_29 hm rfl (c_X9_fails hm) (fun r σ1 hq => ?_)
    obtain ⟨rfl, rfl⟩ := hq
    refine runM_ok rkX9_launch hm (fun p => Nat.beq p 29) 200 _ _ _ _ ?_
    refine And.intro (fun c1 => ?_) (fun c1 => ?_)
    · try simp only [b01_eq, b01_ne, Classical.not_not, upS_row] at c1
      refine And.intro (Or.inr rfl) ?_
      refine qX9_launch_55 rfl c_X9_waterIn ?_
      refine runM_ok rkX9_launch hm (fun p => Nat.beq p 29) 200 _ _ _ _ ?_
      refine qX9_launch_59 hm rfl (c_X9_greater hm hc.1 eb) (fun r σ1 hq => ?_)
      obtain ⟨rfl, rfl⟩ := hq
      refine runM_ok rkX9_launch hm (fun p => Nat.beq p 29) 200 _ _ _ _ ?_
      first | (refine eP ?_; unfold mLau; rw [if_neg (by grind), ← hx]) | (have h0 : x = 0 := (by grind); subst h0; refine eP ?_; unfold mLau; rw [if_pos hx.symm]; rfl)
    · try simp only [b01_eq, b01_ne, Classical.not_not, upS_row] at c1
      first | (refine eP ?_; unfold mLau; rw [if_neg (by grind), ← hx]) | (have h0 : x = 0 := (by grind); subst h0; refine eP ?_; unfold mLau; rw [if_pos hx.symm]; rfl)
  refine runM_ok rkX9_launch hm (fun p => Nat.beq p 29) 200 _ _ _ _ ?_
  refine qX9_launch_6 rfl c_X9_isIn ?_
  refine runM_ok rkX9_launch hm (fun p => Nat.beq p 29) 200 _ _ _ _ ?_
  refine And.intro (fun c2 => ?_) (fun c2 => ?_)
  · try simp only [b01_eq, b01_ne, Classical.not_not, upS_row] at c2
    refine qX9_launch_18 hm rfl (c_X9_canLaunch hm hc eb hnw ew hwb) (fun r σ1 hq => ?_)
    obtain ⟨rfl, rfl⟩ := hq
    refine runM_ok rkX9_launch hm (fun p => Nat.beq p 29) 200 _ _ _ _ ?_
    refine And.intro (fun c3 => ?_) (fun c3 => ?_)
    · try simp only [b01_eq, b01_ne, Classical.not_not, upS_row] at c3
      exact K29 _ (by unfold kLau; grind)
    · try simp only [b01_eq, b01_ne, Classical.not_not, upS_row] at c3
      exact K29 _ (by unfold kLau; grind)
  · try simp only [b01_eq, b01_ne, Classical.not_not, upS_row] at c2
    exact K29 _ (by unfold kLau; grind)

/-- the lowest of the last n hours (of 12) in which it can be -/
def fhr (σ : MS) (nb nw : Nat) : Nat → Int32
  | 0 => -1
  | n + 1 => if canL σ nb nw (nI (11 - n)) then nI (11 - n) else fhr σ nb nw n
set_option maxRecDepth 20000 in
theorem c_X9_firstHour {w : W0} {m : Nat} {iv : Nat → Nat} {h : AH} {σ : MS} (hm : MOK m iv h) {nb nw : Nat} (hc : chn σ nb) (eb : σ.1 8 = nI nb) (hnw : nw ≤ 100) (ew : σ.1 18 = nI nw) (hwb : ∀ k, k < nw → σ.2 24 k = -1 ∨ ∃ j, j < nb ∧ σ.2 24 k = nI j) : CM w yX9_firstHour mX9_firstHour m iv h [] σ (fun r σ' => r = some (fhr σ nb nw 12) ∧ σ' = upS σ 34 0) := by
  refine CM_of mcX9_firstHour (Nat.le_of_ble_eq_true rfl) ?_
  have loop : ∀ (k : Nat) (x : Int32), k ≤ 12 → x = fhr σ nb nw (12 - k) → XM w mX9_firstHour m iv h (fun r σ' => r = some (fhr σ nb nw 12) ∧ σ' = upS σ 34 0) 5 [some (.inr 0), some (.inl x), some (.inl (nI k - 1))] [] σ := by
    intro k
    induction k with
    | zero =>
      intro x _ hx
      refine runM_go rkX9_firstHour hm (fun p => Nat.beq p 5) 50 ?_
      refine And.intro (fun c1 => ?_) (fun c1 => ?_)
      · refine qX9_firstHour_31 hm rfl (c_X9_tells hm) (fun r σ1 hq => ?_)
        obtain ⟨rfl, rfl⟩ := hq
        refine runM_ok rkX9_firstHour hm (fun p => Nat.beq p 5) 50 _ _ _ _ ?_
        exact ⟨by rw [hx], rfl⟩
      · exact absurd (by decide) c1
    | succ k ih =>
      intro x hk hx
      rw [nI_pred]
      have hf : fhr σ nb nw (12 - k) = if canL σ nb nw (nI k) then nI k else x := by
        rw [show 12 - k = (12 - (k + 1)) + 1 by omega]
        unfold fhr
        rw [← hx, show 11 - (12 - (k + 1)) = k by omega]
      refine runM_go rkX9_firstHour hm (fun p => Nat.beq p 5) 50 ?_
      refine And.intro (fun c1 => absurd c1 (nI_pos (by omega))) (fun c1 => ?_)
      refine qX9_firstHour_11 hm rfl (c_X9_canLaunch hm hc eb hnw ew hwb) (fun r σ1 hq => ?_)
      obtain ⟨rfl, rfl⟩ := hq
      refine runM_ok rkX9_firstHour hm (fun p => Nat.beq p 5) 50 _ _ _ _ ?_
      refine And.intro (fun c2 => ?_) (fun c2 => ?_)
      · simp only [b01_eq] at c2
        have e9 := ih x (by omega) (by rw [hf, if_neg c2])
        rw [Int32.sub_eq_add_neg] at e9
        exact e9
      · simp only [b01_eq, Classical.not_not] at c2
        have e9 := ih (nI k) (by omega) (by rw [hf, if_pos c2])
        rw [Int32.sub_eq_add_neg] at e9
        exact e9
  refine runM_ok rkX9_firstHour hm (fun p => Nat.beq p 5) 50 _ _ _ _ ?_
  exact loop 12 (-1) (Nat.le_refl _) rfl

abbrev rsOK (σ : MS) (i : Nat) : Prop := (0 ≤ σ.2 10 i ∧ σ.2 10 i ≤ 11) ∧ (0 ≤ σ.2 11 i ∧ σ.2 11 i ≤ 11) ∧ (σ.2 10 i).toNatClampNeg ≤ (σ.2 11 i).toNatClampNeg ∧ (0 ≤ σ.2 12 i ∧ σ.2 12 i ≤ 2)
abbrev flOK (σ : MS) : Prop := ∀ c, c < 36 → σ.2 25 c = -1 ∨ vp_in (σ.2 25 c) 60
def kWhy (σ : MS) (b : Int32) : Int32 := if isBlk σ b then 0 else 1
def mWhy (σ : MS) (b : Int32) : Int32 × MS := if kWhy σ b = 0 then (rsn σ b.toNatClampNeg, upS σ 34 0) else (0, upS σ 34 (kWhy σ b))
set_option maxRecDepth 20000 in
theorem c_X9_whyNot {w : W0} {m : Nat} {iv : Nat → Nat} {h : AH} {σ : MS} {b : Int32} (hm : MOK m iv h) (hb0 : 0 ≤ σ.1 8) (hb1 : σ.1 8 ≤ 60) (hrs : isBlk σ b → rsOK σ b.toNatClampNeg) (hf : flOK σ) : CM w yX9_whyNot mX9_whyNot m iv h [b] σ (fun r σ' => r = some (mWhy σ b).1 ∧ σ' = (mWhy σ b).2) := by
  refine CM_of mcX9_whyNot (Nat.le_of_ble_eq_true rfl) ?_
  have K14 : ∀ x : Int32, x = kWhy σ b → XM w mX9_whyNot m iv h (fun r σ' => r = some (mWhy σ b).1 ∧ σ' = (mWhy σ b).2) 14 [some (.inr 0), some (.inl b)] [.inl x, .inr 0] σ := by
    intro x hx
    have hA : x = 0 → isBlk σ b := by intro z; unfold kWhy at hx; grind
    have h01 : x = 0 ∨ 0 < x := by unfold kWhy at hx; grind
    refine qX9_whyNot_14 hm rfl (c_X9_fails hm) (fun r σ1 hq => ?_)
    obtain ⟨rfl, rfl⟩ := hq
    refine runM_ok rkX9_whyNot hm (fun p => Nat.beq p 14) 200 _ _ _ _ ?_
    refine And.intro (fun c1 => ?_) (fun c1 => ?_)
    · try simp only [b01_eq, b01_ne, Classical.not_not, upS_row] at c1
      refine qX9_whyNot_26 hm rfl (c_X9_reason hm (blk_in (N := 60) hb0 (Int32.le_iff_toInt_le.mp hb1) (by decide) (hA (by grind))) (hrs (hA (by grind))).1 (hrs (hA (by grind))).2.1 (hrs (hA (by grind))).2.2.1 (hrs (hA (by grind))).2.2.2 hf) (fun r σ1 hq => ?_)
      obtain ⟨rfl, rfl⟩ := hq
      refine runM_ok rkX9_whyNot hm (fun p => Nat.beq p 14) 200 _ _ _ _ ?_
      first | (refine eP ?_; unfold mWhy; rw [if_neg (by grind), ← hx]) | (have h0 : x = 0 := (by grind); subst h0; refine eP ?_; unfold mWhy; rw [if_pos hx.symm]; rfl)
    · try simp only [b01_eq, b01_ne, Classical.not_not, upS_row] at c1
      first | (refine eP ?_; unfold mWhy; rw [if_neg (by grind), ← hx]) | (have h0 : x = 0 := (by grind); subst h0; refine eP ?_; unfold mWhy; rw [if_pos hx.symm]; rfl)
  refine runM_ok rkX9_whyNot hm (fun p => Nat.beq p 14) 200 _ _ _ _ ?_
  refine qX9_whyNot_3 hm rfl (c_X9_isBlock hm) (fun r σ1 hq => ?_)
  obtain ⟨rfl, rfl⟩ := hq
  refine runM_ok rkX9_whyNot hm (fun p => Nat.beq p 14) 200 _ _ _ _ ?_
  refine And.intro (fun c2 => ?_) (fun c2 => ?_)
  · try simp only [b01_eq, b01_ne, Classical.not_not, upS_row] at c2
    exact K14 _ (by unfold kWhy; grind)
  · try simp only [b01_eq, b01_ne, Classical.not_not, upS_row] at c2
    exact K14 _ (by unfold kWhy; grind)

def kPai (σ : MS) (c : Int32) : Int32 := if isRm σ c then if σ.2 26 c.toNatClampNeg = 0 then 0 else 2 else 1
def fPt (σ : MS) (c : Nat) : Int32 := if ¬ σ.2 26 c = 0 then 1 else 0
def sPai (σ : MS) (c : Nat) : MS := upA σ 26 c 1
def mPai (σ : MS) (c : Int32) : Int32 × MS := if kPai σ c = 0 then (sm (fPt (sPai (upS σ 34 0) c.toNatClampNeg)) 36, sPai (upS σ 34 0) c.toNatClampNeg) else (0, upS σ 34 (kPai σ c))
set_option maxRecDepth 20000 in
theorem c_X9_paint {w : W0} {m : Nat} {iv : Nat → Nat} {h : AH} {σ : MS} {c : Int32} (hm : MOK m iv h) : CM w yX9_paint mX9_paint m iv h [c] σ (fun r σ' => r = some (mPai σ c).1 ∧ σ' = (mPai σ c).2) := by
  refine CM_of mcX9_paint (Nat.le_of_ble_eq_true rfl) ?_
  have K75 : ∀ x1 x2 : Int32, kPai σ c = 0 → x1 = sm (fPt (sPai (upS σ 34 0) c.toNatClampNeg)) 36 → XM w mX9_paint m iv h (fun r σ' => r = some (mPai σ c).1 ∧ σ' = (mPai σ c).2) 75 [some (.inr 0), some (.inl c), some (.inl x1), some (.inl x2)] [] (sPai (upS σ 34 0) c.toNatClampNeg) := by
    intro x1 x2 hk0 hx1
    refine runM_go rkX9_paint hm (fun p => Nat.beq p 27 || Nat.beq p 46 || Nat.beq p 67 || Nat.beq p 75) 200 ?_
    refine eP ?_; unfold mPai; rw [if_pos hk0, hx1]
  have loop46 : ∀ (n k : Nat) (x1 : Int32), k ≤ 36 → 36 ≤ n + k → (kPai σ c = 0) → (x1 = sm (fPt (sPai (upS σ 34 0) c.toNatClampNeg)) k) → XM w mX9_paint m iv h (fun r σ' => r = some (mPai σ c).1 ∧ σ' = (mPai σ c).2) 46 [some (.inr 0), some (.inl c), some (.inl x1), some (.inl (nI k))] [] (sPai (upS σ 34 0) c.toNatClampNeg) := by
    intro n
    induction n with
    | zero =>
      intro k x1 hk1 hk2 hk0 hx1
      have hex : 36 ≤ nI k → k = 36 := by intro z; rw [(show (36 : Int32) = nI 36 from rfl)] at z; have := (nI_leI (by omega) (by omega)).mp z; omega
      have hlt : ¬ 36 ≤ nI k → k < 36 := by intro z; rw [(show (36 : Int32) = nI 36 from rfl)] at z; exact Nat.lt_of_not_le (fun q => z (nI_le q (by omega)))
      refine runM_go rkX9_paint hm (fun p => Nat.beq p 27 || Nat.beq p 46 || Nat.beq p 67 || Nat.beq p 75) 200 ?_
      refine And.intro (fun c0 => ?_) (fun c0 => ?_)
      · skip
        exact K75 _ _ hk0 (by rw [hx1, hex ‹_›])
      · exact absurd (hlt c0) (by omega)
    | succ n ih =>
      intro k x1 hk1 hk2 hk0 hx1
      have hex : 36 ≤ nI k → k = 36 := by intro z; rw [(show (36 : Int32) = nI 36 from rfl)] at z; have := (nI_leI (by omega) (by omega)).mp z; omega
      have hlt : ¬ 36 ≤ nI k → k < 36 := by intro z; rw [(show (36 : Int32) = nI 36 from rfl)] at z; exact Nat.lt_of_not_le (fun q => z (nI_le q (by omega)))
      have K67 : ∀ x : Int32, k < 36 → x = fPt (sPai (upS σ 34 0) c.toNatClampNeg) k → XM w mX9_paint m iv h (fun r σ' => r = some (mPai σ c).1 ∧ σ' = (mPai σ c).2) 67 [some (.inr 0), some (.inl c), some (.inl x1), some (.inl (nI k))] [.inl x, .inl x1] (sPai (upS σ 34 0) c.toNatClampNeg) := by
        intro x hkl hx
        refine runM_go rkX9_paint hm (fun p => Nat.beq p 27 || Nat.beq p 46 || Nat.beq p 67 || Nat.beq p 75) 200 ?_
        have e9 := ih (k + 1) _ (by omega) (by omega) hk0 (by show _ = sm (fPt (sPai (upS σ 34 0) c.toNatClampNeg)) k + fPt (sPai (upS σ 34 0) c.toNatClampNeg) k; rw [← hx1, ← hx])
        rw [← nI_1 k] at e9
        exact e9
      refine runM_go rkX9_paint hm (fun p => Nat.beq p 27 || Nat.beq p 46 || Nat.beq p 67 || Nat.beq p 75) 200 ?_
      refine And.intro (fun c1 => ?_) (fun c1 => ?_)
      · try simp only [b01_eq, b01_ne, Classical.not_not, upS_row] at c1
        exact K75 _ _ hk0 (by rw [hx1, hex ‹_›])
      · try simp only [b01_eq, b01_ne, Classical.not_not, upS_row] at c1
        refine And.intro (vp_in_nI (N := 36) (by have := hlt ‹_›; omega) (by decide)) ?_
        refine And.intro (fun c2 => ?_) (fun c2 => ?_)
        · try simp only [b01_eq, b01_ne, Classical.not_not, upS_row] at c2
          exact K67 _ (hlt ‹_›) (by have e : (nI k).toNatClampNeg = k := nI_clamp (by have := hlt ‹_›; omega); simp only [e] at *; unfold fPt; grind)
        · try simp only [b01_eq, b01_ne, Classical.not_not, upS_row] at c2
          exact K67 _ (hlt ‹_›) (by have e : (nI k).toNatClampNeg = k := nI_clamp (by have := hlt ‹_›; omega); simp only [e] at *; unfold fPt; grind)
  have K27 : ∀ x : Int32, x = kPai σ c → XM w mX9_paint m iv h (fun r σ' => r = some (mPai σ c).1 ∧ σ' = (mPai σ c).2) 27 [some (.inr 0), some (.inl c), none, none] [.inl x, .inr 0] σ := by
    intro x hx
    have hA : x = 0 → isRm σ c := by intro z; unfold kPai at hx; grind
    have h01 : x = 0 ∨ 0 < x := by unfold kPai at hx; grind
    refine qX9_paint_27 hm rfl (c_X9_fails hm) (fun r σ1 hq => ?_)
    obtain ⟨rfl, rfl⟩ := hq
    refine runM_ok rkX9_paint hm (fun p => Nat.beq p 27 || Nat.beq p 46 || Nat.beq p 67 || Nat.beq p 75) 200 _ _ _ _ ?_
    refine And.intro (fun c3 => ?_) (fun c3 => ?_)
    · try simp only [b01_eq, b01_ne, Classical.not_not, upS_row] at c3
      refine And.intro ⟨(in_c (c := 35) (by decide) (hA (by grind)).1), Or.inr rfl⟩ ?_
      have h0 : x = 0 := by grind
      subst h0
      exact loop46 36 0 0 (by omega) (by omega) hx.symm rfl
    · try simp only [b01_eq, b01_ne, Classical.not_not, upS_row] at c3
      refine eP ?_; unfold mPai; rw [if_neg (by grind), ← hx]
  refine runM_ok rkX9_paint hm (fun p => Nat.beq p 27 || Nat.beq p 46 || Nat.beq p 67 || Nat.beq p 75) 200 _ _ _ _ ?_
  refine qX9_paint_3 hm rfl (c_X9_isRoom hm) (fun r σ1 hq => ?_)
  obtain ⟨rfl, rfl⟩ := hq
  refine runM_ok rkX9_paint hm (fun p => Nat.beq p 27 || Nat.beq p 46 || Nat.beq p 67 || Nat.beq p 75) 200 _ _ _ _ ?_
  refine And.intro (fun c4 => ?_) (fun c4 => ?_)
  · try simp only [b01_eq, b01_ne, Classical.not_not, upS_row] at c4
    refine And.intro (in_c (c := 35) (by decide) (by grind)) ?_
    refine And.intro (fun c5 => ?_) (fun c5 => ?_)
    · try simp only [b01_eq, b01_ne, Classical.not_not, upS_row] at c5
      exact K27 _ (by unfold kPai; grind)
    · try simp only [b01_eq, b01_ne, Classical.not_not, upS_row] at c5
      exact K27 _ (by unfold kPai; grind)
  · try simp only [b01_eq, b01_ne, Classical.not_not, upS_row] at c4
    exact K27 _ (by unfold kPai; grind)

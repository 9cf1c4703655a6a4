
/-! THE MODEL'S CONTRACTS, 4: tests, repairs, holes, things, tells -/
theorem in_chn {σ : MS} {nb : Nat} (hc : chn σ nb) {x : Int32} (h : ∃ j, j < nb ∧ x = nI j) : vp_in x 60 := by
  obtain ⟨j, h1, rfl⟩ := h
  exact vp_in_nI (by have := hc.1; omega) (by decide)
theorem upA_hit (σ : MS) (k i : Nat) (v : Int32) : (upA σ k i v).2 k i = v := by simp [upA]
set_option maxRecDepth 20000 in
theorem c_X9_isScrapped {w : W0} {m : Nat} {iv : Nat → Nat} {h : AH} {σ : MS} {k : Int32} (hm : MOK m iv h) (hk : vp_in k 100) (hw : σ.2 24 k.toNatClampNeg = -1 ∨ vp_in (σ.2 24 k.toNatClampNeg) 60) : CM w yX9_isScrapped mX9_isScrapped m iv h [k] σ (fun r σ' => r = some (if iScr σ k then 1 else 0) ∧ σ' = σ) := by
  refine CM_of mcX9_isScrapped (Nat.le_of_ble_eq_true rfl) ?_
  refine runM_ok rkX9_isScrapped hm noCut 200 _ _ _ _ ?_
  refine And.intro hk ?_
  refine And.intro (fun c1 => ?_) (fun c1 => ?_)
  · try simp only [b01_eq, b01_ne, Classical.not_not, upS_row] at c1
    refine And.intro (by first | exact Or.inl rfl | exact Or.inr rfl) ?_
    first | exact ⟨by rw [if_pos (by grind)], rfl⟩ | exact ⟨by rw [if_neg (by grind)], rfl⟩
  · try simp only [b01_eq, b01_ne, Classical.not_not, upS_row] at c1
    refine And.intro hk ?_
    refine And.intro (hw.resolve_left ‹_›) ?_
    refine And.intro (fun c2 => ?_) (fun c2 => ?_)
    · try simp only [b01_eq, b01_ne, Classical.not_not, upS_row] at c2
      refine And.intro (by first | exact Or.inl rfl | exact Or.inr rfl) ?_
      first | exact ⟨by rw [if_pos (by grind)], rfl⟩ | exact ⟨by rw [if_neg (by grind)], rfl⟩
    · try simp only [b01_eq, b01_ne, Classical.not_not, upS_row] at c2
      refine And.intro (by first | exact Or.inl rfl | exact Or.inr rfl) ?_
      first | exact ⟨by rw [if_pos (by grind)], rfl⟩ | exact ⟨by rw [if_neg (by grind)], rfl⟩
set_option maxRecDepth 20000 in
theorem c_X9_stands {w : W0} {m : Nat} {iv : Nat → Nat} {h : AH} {σ : MS} {k : Int32} {nb : Nat} (hm : MOK m iv h) (hc : chn σ nb) (hk : vp_in k 100) (hw : σ.2 24 k.toNatClampNeg = -1 ∨ ∃ j, j < nb ∧ σ.2 24 k.toNatClampNeg = nI j) : CM w yX9_stands mX9_stands m iv h [k] σ (fun r σ' => r = some (if iSta σ k then 1 else 0) ∧ σ' = σ) := by
  refine CM_of mcX9_stands (Nat.le_of_ble_eq_true rfl) ?_
  refine runM_ok rkX9_stands hm noCut 200 _ _ _ _ ?_
  refine And.intro hk ?_
  refine And.intro (fun c1 => ?_) (fun c1 => ?_)
  · refine And.intro (Or.inr rfl) ?_
    exact ⟨by rw [if_pos (Or.inl c1)], rfl⟩
  · refine And.intro hk ?_
    obtain ⟨j, hj, e⟩ := hw.resolve_left c1
    refine qX9_stands_21 hm rfl (Q' := fun r σ' => r = some (whl σ (nI j)) ∧ σ' = σ) (by rw [e]; exact c_X9_whole hm hc hj) (fun r σ1 hq => ?_)
    obtain ⟨rfl, rfl⟩ := hq
    refine runM_ok rkX9_stands hm noCut 200 _ _ _ _ ?_
    obtain ⟨q, g1, g2, g3⟩ := whN_in hc 60 j hj
    refine And.intro (by show vp_in (whN σ1 60 (nI j)) 60; rw [g3]; exact vp_in_nI (by have := hc.1; omega) (by decide)) ?_
    refine And.intro (fun c2 => ?_) (fun c2 => ?_)
    · refine And.intro (Or.inl rfl) ?_
      exact ⟨by rw [if_neg (by unfold iSta; rw [e]; rw [e] at c1; grind)], rfl⟩
    · refine And.intro (Or.inr rfl) ?_
      exact ⟨by rw [if_pos (Or.inr (by rw [e]; exact c2))], rfl⟩

def kTest (σ : MS) (k : Int32) : Int32 := if isWld σ k then if σ.2 19 k.toNatClampNeg = 0 ∧ ¬ iScr σ k then 0 else 2 else 1
def mTest (σ : MS) (k : Int32) : Int32 × MS := if kTest σ k = 0 then (if ¬ σ.2 20 k.toNatClampNeg = 0 then 2 else 1, upA (upS σ 34 0) 19 k.toNatClampNeg (if ¬ σ.2 20 k.toNatClampNeg = 0 then 2 else 1)) else (0, upS σ 34 (kTest σ k))
set_option maxRecDepth 20000 in
theorem c_X9_test {w : W0} {m : Nat} {iv : Nat → Nat} {h : AH} {σ : MS} {k : Int32} (hm : MOK m iv h) (hw0 : 0 ≤ σ.1 18) (hw1 : σ.1 18 ≤ 100) (hwb : isWld σ k → (σ.2 24 k.toNatClampNeg = -1 ∨ vp_in (σ.2 24 k.toNatClampNeg) 60)) : CM w yX9_test mX9_test m iv h [k] σ (fun r σ' => r = some (mTest σ k).1 ∧ σ' = (mTest σ k).2) := by
  refine CM_of mcX9_test (Nat.le_of_ble_eq_true rfl) ?_
  have K35 : ∀ x : Int32, x = kTest σ k → XM w mX9_test m iv h (fun r σ' => r = some (mTest σ k).1 ∧ σ' = (mTest σ k).2) 35 [some (.inr 0), some (.inl k)] [.inl x, .inr 0] σ := by
    intro x hx
    have hA : x = 0 → isWld σ k := by intro z; unfold kTest at hx; grind
    have h01 : x = 0 ∨ 0 < x := by unfold kTest at hx; grind
    refine qX9_test_35 hm rfl (c_X9_fails hm) (fun r σ1 hq => ?_)
    obtain ⟨rfl, rfl⟩ := hq
    refine runM_ok rkX9_test hm (fun p => Nat.beq p 35) 200 _ _ _ _ ?_
    refine And.intro (fun c1 => ?_) (fun c1 => ?_)
    · try simp only [b01_eq, b01_ne, Classical.not_not, upS_row] at c1
      refine And.intro (blk_in (N := 100) hw0 (Int32.le_iff_toInt_le.mp hw1) (by decide) (hA (by grind))) ?_
      refine And.intro (fun c2 => ?_) (fun c2 => ?_)
      · try simp only [b01_eq, b01_ne, Classical.not_not, upS_row] at c2
        refine And.intro (blk_in (N := 100) hw0 (Int32.le_iff_toInt_le.mp hw1) (by decide) (hA (by grind))) ?_
        refine And.intro (blk_in (N := 100) hw0 (Int32.le_iff_toInt_le.mp hw1) (by decide) (hA (by grind))) ?_
        first | (refine eP ?_; unfold mTest; rw [if_neg (by grind), ← hx]) | (have h0 : x = 0 := (by grind); subst h0; refine eP ?_; unfold mTest; rw [if_pos hx.symm, upA_hit]; first | rw [if_pos ‹_›] | rw [if_neg (fun z => z ‹_›)])
      · try simp only [b01_eq, b01_ne, Classical.not_not, upS_row] at c2
        refine And.intro (blk_in (N := 100) hw0 (Int32.le_iff_toInt_le.mp hw1) (by decide) (hA (by grind))) ?_
        refine And.intro (blk_in (N := 100) hw0 (Int32.le_iff_toInt_le.mp hw1) (by decide) (hA (by grind))) ?_
        first | (refine eP ?_; unfold mTest; rw [if_neg (by grind), ← hx]) | (have h0 : x = 0 := (by grind); subst h0; refine eP ?_; unfold mTest; rw [if_pos hx.symm, upA_hit]; first | rw [if_pos ‹_›] | rw [if_neg (fun z => z ‹_›)])
    · try simp only [b01_eq, b01_ne, Classical.not_not, upS_row] at c1
      first | (refine eP ?_; unfold mTest; rw [if_neg (by grind), ← hx]) | (have h0 : x = 0 := (by grind); subst h0; refine eP ?_; unfold mTest; rw [if_pos hx.symm, upA_hit]; first | rw [if_pos ‹_›] | rw [if_neg (fun z => z ‹_›)])
  refine runM_ok rkX9_test hm (fun p => Nat.beq p 35) 200 _ _ _ _ ?_
  refine qX9_test_3 hm rfl (c_X9_isWeld hm) (fun r σ1 hq => ?_)
  obtain ⟨rfl, rfl⟩ := hq
  refine runM_ok rkX9_test hm (fun p => Nat.beq p 35) 200 _ _ _ _ ?_
  refine And.intro (fun c3 => ?_) (fun c3 => ?_)
  · try simp only [b01_eq, b01_ne, Classical.not_not, upS_row] at c3
    refine And.intro (blk_in (N := 100) hw0 (Int32.le_iff_toInt_le.mp hw1) (by decide) (by grind)) ?_
    refine And.intro (fun c4 => ?_) (fun c4 => ?_)
    · try simp only [b01_eq, b01_ne, Classical.not_not, upS_row] at c4
      exact K35 _ (by unfold kTest; grind)
    · try simp only [b01_eq, b01_ne, Classical.not_not, upS_row] at c4
      refine qX9_test_24 hm rfl (c_X9_isScrapped hm (blk_in (N := 100) hw0 (Int32.le_iff_toInt_le.mp hw1) (by decide) (by grind)) (hwb (by grind))) (fun r σ1 hq => ?_)
      obtain ⟨rfl, rfl⟩ := hq
      refine runM_ok rkX9_test hm (fun p => Nat.beq p 35) 200 _ _ _ _ ?_
      refine And.intro (fun c5 => ?_) (fun c5 => ?_)
      · try simp only [b01_eq, b01_ne, Classical.not_not, upS_row] at c5
        exact K35 _ (by unfold kTest; grind)
      · try simp only [b01_eq, b01_ne, Classical.not_not, upS_row] at c5
        exact K35 _ (by unfold kTest; grind)
  · try simp only [b01_eq, b01_ne, Classical.not_not, upS_row] at c3
    exact K35 _ (by unfold kTest; grind)

def kRep (σ : MS) (k y : Int32) : Int32 := if isWld σ k ∧ isWdr y then if σ.2 19 k.toNatClampNeg = 2 ∧ ¬ iScr σ k ∧ ¬ σ.2 21 k.toNatClampNeg = 2 ∧ σ.1 6 = 0 then 0 else 2 else 1
def sRep (σ : MS) (k : Int32) (y : Nat) : MS := sDrw (upS (upA σ 21 k.toNatClampNeg (σ.2 21 k.toNatClampNeg + 1)) 7 (σ.1 7 - 30)) k.toNatClampNeg y
def sRep3 (σ : MS) (k : Int32) (y : Nat) : MS := if iSta (sRep σ k y) k then sSpo (sRep σ k y) ((sRep σ k y).2 22 k.toNatClampNeg) ((sRep σ k y).2 23 k.toNatClampNeg) else sRep σ k y
def mRep (σ : MS) (k y : Int32) : Int32 × MS := if kRep σ k y = 0 then ((sRep3 (upS σ 34 0) k y.toNatClampNeg).2 21 k.toNatClampNeg, sRep3 (upS σ 34 0) k y.toNatClampNeg) else (0, upS σ 34 (kRep σ k y))
set_option maxRecDepth 20000 in
theorem c_X9_repair {w : W0} {m : Nat} {iv : Nat → Nat} {h : AH} {σ : MS} {k y : Int32} (hm : MOK m iv h) (hw0 : 0 ≤ σ.1 18) (hw1 : σ.1 18 ≤ 100) {nb : Nat} (hc : chn σ nb) (hwj : isWld σ k → (σ.2 24 k.toNatClampNeg = -1 ∨ ∃ j, j < nb ∧ σ.2 24 k.toNatClampNeg = nI j)) (hwf : isWld σ k → (1 ≤ σ.2 22 k.toNatClampNeg ∧ σ.2 22 k.toNatClampNeg ≤ 11) ∧ (0 ≤ σ.2 23 k.toNatClampNeg ∧ σ.2 23 k.toNatClampNeg ≤ 2)) (hwb : isWld σ k → (σ.2 24 k.toNatClampNeg = -1 ∨ vp_in (σ.2 24 k.toNatClampNeg) 60)) : CM w yX9_repair mX9_repair m iv h [k, y] σ (fun r σ' => r = some (mRep σ k y).1 ∧ σ' = (mRep σ k y).2) := by
  refine CM_of mcX9_repair (Nat.le_of_ble_eq_true rfl) ?_
  have K70 : ∀ x1 x : Int32, x = kRep σ k y → XM w mX9_repair m iv h (fun r σ' => r = some (mRep σ k y).1 ∧ σ' = (mRep σ k y).2) 70 [some (.inr 0), some (.inl k), some (.inl y), some (.inl x1)] [.inl x, .inr 0] σ := by
    intro x1 x hx
    have hA : x = 0 → isWld σ k := by intro z; unfold kRep at hx; grind
    have hY : x = 0 → isWdr y := by intro z; unfold kRep at hx; grind
    have h01 : x = 0 ∨ 0 < x := by unfold kRep at hx; grind
    refine qX9_repair_70 hm rfl (c_X9_fails hm) (fun r σ1 hq => ?_)
    obtain ⟨rfl, rfl⟩ := hq
    refine runM_ok rkX9_repair hm (fun p => Nat.beq p 20 || Nat.beq p 70) 200 _ _ _ _ ?_
    refine And.intro (fun c1 => ?_) (fun c1 => ?_)
    · try simp only [b01_eq, b01_ne, Classical.not_not, upS_row] at c1
      refine And.intro (blk_in (N := 100) hw0 (Int32.le_iff_toInt_le.mp hw1) (by decide) (hA (by grind))) ?_
      refine And.intro (blk_in (N := 100) hw0 (Int32.le_iff_toInt_le.mp hw1) (by decide) (hA (by grind))) ?_
      refine qX9_repair_102 hm rfl (c_X9_draws hm (blk_in (N := 100) hw0 (Int32.le_iff_toInt_le.mp hw1) (by decide) (hA (by grind))) (in_c (c := 3) (by decide) (hY (by grind)))) (fun r σ1 hq => ?_)
      obtain ⟨rfl, rfl⟩ := hq
      refine runM_ok rkX9_repair hm (fun p => Nat.beq p 20 || Nat.beq p 70) 200 _ _ _ _ ?_
      refine qX9_repair_107 hm rfl (c_X9_stands (nb := nb) hm hc (blk_in (N := 100) hw0 (Int32.le_iff_toInt_le.mp hw1) (by decide) (hA (by grind))) (hwj (hA (by grind)))) (fun r σ1 hq => ?_)
      obtain ⟨rfl, rfl⟩ := hq
      refine runM_ok rkX9_repair hm (fun p => Nat.beq p 20 || Nat.beq p 70) 200 _ _ _ _ ?_
      refine And.intro (fun c2 => ?_) (fun c2 => ?_)
      · try simp only [b01_eq, b01_ne, Classical.not_not] at c2
        refine And.intro (blk_in (N := 100) hw0 (Int32.le_iff_toInt_le.mp hw1) (by decide) (hA (by grind))) ?_
        first | (refine eP ?_; unfold mRep; rw [if_neg (by grind), ← hx]) | (have h0 : x = 0 := (by grind); subst h0; refine eP ?_; unfold mRep sRep3; rw [if_pos hx.symm]; first | (rw [if_pos ‹_›]; rfl) | (rw [if_neg ‹_›]; rfl))
      · try simp only [b01_eq, b01_ne, Classical.not_not] at c2
        refine And.intro (blk_in (N := 100) hw0 (Int32.le_iff_toInt_le.mp hw1) (by decide) (hA (by grind))) ?_
        refine And.intro (blk_in (N := 100) hw0 (Int32.le_iff_toInt_le.mp hw1) (by decide) (hA (by grind))) ?_
        refine qX9_repair_126 hm rfl (c_X9_spoils hm (hwf (hA (by grind))).1 (hwf (hA (by grind))).2) (fun r σ1 hq => ?_)
        obtain ⟨rfl, rfl⟩ := hq
        refine runM_ok rkX9_repair hm (fun p => Nat.beq p 20 || Nat.beq p 70) 200 _ _ _ _ ?_
        refine And.intro (blk_in (N := 100) hw0 (Int32.le_iff_toInt_le.mp hw1) (by decide) (hA (by grind))) ?_
        first | (refine eP ?_; unfold mRep; rw [if_neg (by grind), ← hx]) | (have h0 : x = 0 := (by grind); subst h0; refine eP ?_; unfold mRep sRep3; rw [if_pos hx.symm]; first | (rw [if_pos ‹_›]; rfl) | (rw [if_neg ‹_›]; rfl))
    · try simp only [b01_eq, b01_ne, Classical.not_not, upS_row] at c1
      first | (refine eP ?_; unfold mRep; rw [if_neg (by grind), ← hx]) | (have h0 : x = 0 := (by grind); subst h0; refine eP ?_; unfold mRep sRep3; rw [if_pos hx.symm]; first | (rw [if_pos ‹_›]; rfl) | (rw [if_neg ‹_›]; rfl))
  have K20 : ∀ x : Int32, x = (if isWld σ k ∧ isWdr y then 1 else 0) → XM w mX9_repair m iv h (fun r σ' => r = some (mRep σ k y).1 ∧ σ' = (mRep σ k y).2) 20 [some (.inr 0), some (.inl k), some (.inl y), none] [.inl x] σ := by
    intro x hx
    refine runM_go rkX9_repair hm (fun p => Nat.beq p 20 || Nat.beq p 70) 200 ?_
    refine And.intro (fun c3 => ?_) (fun c3 => ?_)
    · try simp only [b01_eq, b01_ne, Classical.not_not, upS_row] at c3
      refine And.intro (blk_in (N := 100) hw0 (Int32.le_iff_toInt_le.mp hw1) (by decide) (by grind)) ?_
      refine And.intro (fun c4 => ?_) (fun c4 => ?_)
      · try simp only [b01_eq, b01_ne, Classical.not_not, upS_row] at c4
        exact K70 _ _ (by unfold kRep; grind)
      · try simp only [b01_eq, b01_ne, Classical.not_not, upS_row] at c4
        refine qX9_repair_42 hm rfl (c_X9_isScrapped hm (blk_in (N := 100) hw0 (Int32.le_iff_toInt_le.mp hw1) (by decide) (by grind)) (hwb (by grind))) (fun r σ1 hq => ?_)
        obtain ⟨rfl, rfl⟩ := hq
        refine runM_ok rkX9_repair hm (fun p => Nat.beq p 20 || Nat.beq p 70) 200 _ _ _ _ ?_
        refine And.intro (fun c5 => ?_) (fun c5 => ?_)
        · try simp only [b01_eq, b01_ne, Classical.not_not, upS_row] at c5
          exact K70 _ _ (by unfold kRep; grind)
        · try simp only [b01_eq, b01_ne, Classical.not_not, upS_row] at c5
          refine And.intro (blk_in (N := 100) hw0 (Int32.le_iff_toInt_le.mp hw1) (by decide) (by grind)) ?_
          refine And.intro (fun c6 => ?_) (fun c6 => ?_)
          · try simp only [b01_eq, b01_ne, Classical.not_not, upS_row] at c6
            exact K70 _ _ (by unfold kRep; grind)
          · try simp only [b01_eq, b01_ne, Classical.not_not, upS_row] at c6
            refine And.intro (fun c7 => ?_) (fun c7 => ?_)
            · try simp only [b01_eq, b01_ne, Classical.not_not, upS_row] at c7
              exact K70 _ _ (by unfold kRep; grind)
            · try simp only [b01_eq, b01_ne, Classical.not_not, upS_row] at c7
              exact K70 _ _ (by unfold kRep; grind)
    · try simp only [b01_eq, b01_ne, Classical.not_not, upS_row] at c3
      exact K70 _ _ (by unfold kRep; grind)
  refine runM_ok rkX9_repair hm (fun p => Nat.beq p 20 || Nat.beq p 70) 200 _ _ _ _ ?_
  refine qX9_repair_2 hm rfl (c_X9_isWeld hm) (fun r σ1 hq => ?_)
  obtain ⟨rfl, rfl⟩ := hq
  refine runM_ok rkX9_repair hm (fun p => Nat.beq p 20 || Nat.beq p 70) 200 _ _ _ _ ?_
  refine And.intro (fun c8 => ?_) (fun c8 => ?_)
  · try simp only [b01_eq, b01_ne, Classical.not_not, upS_row] at c8
    exact K20 _ (by grind)
  · try simp only [b01_eq, b01_ne, Classical.not_not, upS_row] at c8
    refine qX9_repair_9 rfl c_X9_isWelder ?_
    refine runM_ok rkX9_repair hm (fun p => Nat.beq p 20 || Nat.beq p 70) 200 _ _ _ _ ?_
    refine And.intro (fun c9 => ?_) (fun c9 => ?_)
    · try simp only [b01_eq, b01_ne, Classical.not_not, upS_row] at c9
      exact K20 _ (by grind)
    · try simp only [b01_eq, b01_ne, Classical.not_not, upS_row] at c9
      exact K20 _ (by grind)

def kFit (σ : MS) (c t : Int32) : Int32 := if isRm σ c then if 1 ≤ t ∧ t ≤ 100 then if ¬ σ.2 26 c.toNatClampNeg = 0 ∧ σ.2 27 c.toNatClampNeg + t ≤ 300 then 0 else 3 else 2 else 1
def mFit (σ : MS) (c t : Int32) : Int32 × MS := if kFit σ c t = 0 then (σ.2 27 c.toNatClampNeg + t, upA (upS σ 34 0) 27 c.toNatClampNeg (σ.2 27 c.toNatClampNeg + t)) else (0, upS σ 34 (kFit σ c t))
set_option maxRecDepth 20000 in
theorem c_X9_fit {w : W0} {m : Nat} {iv : Nat → Nat} {h : AH} {σ : MS} {c t : Int32} (hm : MOK m iv h) : CM w yX9_fit mX9_fit m iv h [c, t] σ (fun r σ' => r = some (mFit σ c t).1 ∧ σ' = (mFit σ c t).2) := by
  refine CM_of mcX9_fit (Nat.le_of_ble_eq_true rfl) ?_
  have K61 : ∀ x1 x2 x : Int32, x = kFit σ c t → XM w mX9_fit m iv h (fun r σ' => r = some (mFit σ c t).1 ∧ σ' = (mFit σ c t).2) 61 [some (.inr 0), some (.inl c), some (.inl t), some (.inl x1), some (.inl x2)] [.inl x, .inr 0] σ := by
    intro x1 x2 x hx
    have hA : x = 0 → isRm σ c := by intro z; unfold kFit at hx; grind
    have h01 : x = 0 ∨ 0 < x := by unfold kFit at hx; grind
    refine qX9_fit_61 hm rfl (c_X9_fails hm) (fun r σ1 hq => ?_)
    obtain ⟨rfl, rfl⟩ := hq
    refine runM_ok rkX9_fit hm (fun p => Nat.beq p 61) 200 _ _ _ _ ?_
    refine And.intro (fun c1 => ?_) (fun c1 => ?_)
    · try simp only [b01_eq, b01_ne, Classical.not_not, upS_row] at c1
      refine And.intro (in_c (c := 35) (by decide) (hA (by grind)).1) ?_
      refine And.intro (in_c (c := 35) (by decide) (hA (by grind)).1) ?_
      refine And.intro (in_c (c := 35) (by decide) (hA (by grind)).1) ?_
      first | (refine eP ?_; unfold mFit; rw [if_neg (by grind), ← hx]) | (have h0 : x = 0 := (by grind); subst h0; refine eP ?_; unfold mFit; rw [if_pos hx.symm, upA_hit]; rfl)
    · try simp only [b01_eq, b01_ne, Classical.not_not, upS_row] at c1
      first | (refine eP ?_; unfold mFit; rw [if_neg (by grind), ← hx]) | (have h0 : x = 0 := (by grind); subst h0; refine eP ?_; unfold mFit; rw [if_pos hx.symm, upA_hit]; rfl)
  refine runM_ok rkX9_fit hm (fun p => Nat.beq p 61) 200 _ _ _ _ ?_
  refine qX9_fit_2 hm rfl (c_X9_isRoom hm) (fun r σ1 hq => ?_)
  obtain ⟨rfl, rfl⟩ := hq
  refine runM_ok rkX9_fit hm (fun p => Nat.beq p 61) 200 _ _ _ _ ?_
  refine qX9_fit_10 rfl c_X9_isIn ?_
  refine runM_ok rkX9_fit hm (fun p => Nat.beq p 61) 200 _ _ _ _ ?_
  refine And.intro (fun c2 => ?_) (fun c2 => ?_)
  · try simp only [b01_eq, b01_ne, Classical.not_not, upS_row] at c2
    refine And.intro (fun c3 => ?_) (fun c3 => ?_)
    · try simp only [b01_eq, b01_ne, Classical.not_not, upS_row] at c3
      refine And.intro (in_c (c := 35) (by decide) (by grind)) ?_
      refine And.intro (fun c4 => ?_) (fun c4 => ?_)
      · try simp only [b01_eq, b01_ne, Classical.not_not, upS_row] at c4
        exact K61 _ _ _ (by unfold kFit; grind)
      · try simp only [b01_eq, b01_ne, Classical.not_not, upS_row] at c4
        refine And.intro (in_c (c := 35) (by decide) (by grind)) ?_
        refine And.intro (fun c5 => ?_) (fun c5 => ?_)
        · try simp only [b01_eq, b01_ne, Classical.not_not, upS_row] at c5
          exact K61 _ _ _ (by unfold kFit; grind)
        · try simp only [b01_eq, b01_ne, Classical.not_not, upS_row] at c5
          exact K61 _ _ _ (by unfold kFit; grind)
    · try simp only [b01_eq, b01_ne, Classical.not_not, upS_row] at c3
      exact K61 _ _ _ (by unfold kFit; grind)
  · try simp only [b01_eq, b01_ne, Classical.not_not, upS_row] at c2
    exact K61 _ _ _ (by unfold kFit; grind)

def oth (c u : Int32) : Int32 := c + (if ¬ u = 0 then 12 else 1)
def bitU (u : Int32) : Int32 := if ¬ u = 0 then 8 else 2
abbrev hR (σ : MS) (c u : Int32) : Prop := isRm σ c ∧ (¬ u = 0 ∨ c - c / 12 * 12 < 11) ∧ isRm σ (oth c u)
def kHole (σ : MS) (c u : Int32) : Int32 := if hR σ c u then if σ.2 29 c.toNatClampNeg &&& bitU u = 0 ∧ σ.1 6 = 0 then 0 else 2 else 1
def sHole (σ : MS) (c u : Int32) : MS := upA (upA (upA (upA σ 29 c.toNatClampNeg (σ.2 29 c.toNatClampNeg ||| bitU u)) 29 (oth c u).toNatClampNeg ((upA σ 29 c.toNatClampNeg (σ.2 29 c.toNatClampNeg ||| bitU u)).2 29 (oth c u).toNatClampNeg ||| bitU u / 2)) 26 c.toNatClampNeg 0) 26 (oth c u).toNatClampNeg 0
def nP (σ : MS) (c : Int32) : Int32 := if ¬ σ.2 26 c.toNatClampNeg = 0 then 1 else 0
def mHole (σ : MS) (c u : Int32) : Int32 × MS := if kHole σ c u = 0 then (nP σ c + nP σ (oth c u), sHole (upS σ 34 0) c u) else (0, upS σ 34 (kHole σ c u))
set_option maxRecDepth 20000 in
theorem c_X9_hole {w : W0} {m : Nat} {iv : Nat → Nat} {h : AH} {σ : MS} {c u : Int32} (hm : MOK m iv h) : CM w yX9_hole mX9_hole m iv h [c, u] σ (fun r σ' => r = some (mHole σ c u).1 ∧ σ' = (mHole σ c u).2) := by
  refine CM_of mcX9_hole (Nat.le_of_ble_eq_true rfl) ?_
  have K131 : ∀ x1 x2 x : Int32, hR σ c u → kHole σ c u = 0 → x2 = nP σ c → x = nP σ (oth c u) → XM w mX9_hole m iv h (fun r σ' => r = some (mHole σ c u).1 ∧ σ' = (mHole σ c u).2) 131 [some (.inr 0), some (.inl c), some (.inl u), some (.inl (oth c u)), some (.inl x1), some (.inl (bitU u)), none] [.inl x, .inl x2] (upS σ 34 0) := by
    intro x1 x2 x hA h0 hx2 hx
    refine runM_go rkX9_hole hm (fun p => Nat.beq p 11 || Nat.beq p 12 || Nat.beq p 47 || Nat.beq p 59 || Nat.beq p 95 || Nat.beq p 117 || Nat.beq p 131) 200 ?_
    refine And.intro (in_c (c := 35) (by decide) (hA).1.1) ?_
    refine And.intro (in_c (c := 35) (by decide) (hA).1.1) ?_
    refine And.intro (in_c (c := 35) (by decide) (hA).2.2.1) ?_
    refine And.intro (by decide) ?_
    refine And.intro (in_c (c := 35) (by decide) (hA).2.2.1) ?_
    refine And.intro ⟨(in_c (c := 35) (by decide) (hA).1.1), Or.inl rfl⟩ ?_
    refine And.intro ⟨(in_c (c := 35) (by decide) (hA).2.2.1), Or.inl rfl⟩ ?_
    first | (refine eP ?_; unfold mHole; rw [if_neg (by grind), ← hx]) | (refine eP ?_; unfold mHole; rw [if_pos h0, hx, hx2]; rfl)
  have K117 : ∀ x0 x1 x : Int32, x0 = 0 → hR σ c u → kHole σ c u = 0 → x = nP σ c → XM w mX9_hole m iv h (fun r σ' => r = some (mHole σ c u).1 ∧ σ' = (mHole σ c u).2) 117 [some (.inr 0), some (.inl c), some (.inl u), some (.inl (oth c u)), some (.inl x1), some (.inl (bitU u)), none] [.inl x] (upS σ 34 x0) := by
    intro x0 x1 x hx0 hA h0 hx
    subst hx0
    refine runM_go rkX9_hole hm (fun p => Nat.beq p 11 || Nat.beq p 12 || Nat.beq p 47 || Nat.beq p 59 || Nat.beq p 95 || Nat.beq p 117 || Nat.beq p 131) 200 ?_
    refine And.intro (in_c (c := 35) (by decide) (hA).2.2.1) ?_
    refine And.intro (fun c1 => ?_) (fun c1 => ?_)
    · try simp only [b01_eq, b01_ne, Classical.not_not, upS_row] at c1
      exact K131 _ _ _ hA h0 hx (by unfold nP; grind)
    · try simp only [b01_eq, b01_ne, Classical.not_not, upS_row] at c1
      exact K131 _ _ _ hA h0 hx (by unfold nP; grind)
  have K95 : ∀ x1 x : Int32, x = kHole σ c u → XM w mX9_hole m iv h (fun r σ' => r = some (mHole σ c u).1 ∧ σ' = (mHole σ c u).2) 95 [some (.inr 0), some (.inl c), some (.inl u), some (.inl (oth c u)), some (.inl x1), some (.inl (bitU u)), none] [.inl x, .inr 0] σ := by
    intro x1 x hx
    have hA9 : x = 0 → hR σ c u := by intro z; unfold kHole at hx; grind
    have h01 : x = 0 ∨ 0 < x := by unfold kHole at hx; grind
    refine qX9_hole_95 hm rfl (c_X9_fails hm) (fun r σ1 hq => ?_)
    obtain ⟨rfl, rfl⟩ := hq
    refine runM_ok rkX9_hole hm (fun p => Nat.beq p 11 || Nat.beq p 12 || Nat.beq p 47 || Nat.beq p 59 || Nat.beq p 95 || Nat.beq p 117 || Nat.beq p 131) 200 _ _ _ _ ?_
    refine And.intro (fun c2 => ?_) (fun c2 => ?_)
    · try simp only [b01_eq, b01_ne, Classical.not_not, upS_row] at c2
      refine And.intro (in_c (c := 35) (by decide) (hA9 (by grind)).1.1) ?_
      refine And.intro (fun c3 => ?_) (fun c3 => ?_)
      · try simp only [b01_eq, b01_ne, Classical.not_not, upS_row] at c3
        exact K117 _ _ _ (by grind) (hA9 (by grind)) (by grind) (by unfold nP; grind)
      · try simp only [b01_eq, b01_ne, Classical.not_not, upS_row] at c3
        exact K117 _ _ _ (by grind) (hA9 (by grind)) (by grind) (by unfold nP; grind)
    · try simp only [b01_eq, b01_ne, Classical.not_not, upS_row] at c2
      first | (refine eP ?_; unfold mHole; rw [if_neg (by grind), ← hx]) | (refine eP ?_; unfold mHole; rw [if_pos h0, hx, hx2]; rfl)
  have K59 : ∀ x1 x : Int32, x1 = (if hR σ c u then 1 else 0) → x = bitU u → XM w mX9_hole m iv h (fun r σ' => r = some (mHole σ c u).1 ∧ σ' = (mHole σ c u).2) 59 [some (.inr 0), some (.inl c), some (.inl u), some (.inl (oth c u)), some (.inl x1), none, none] [.inl x] σ := by
    intro x1 x hx1 hx
    subst hx
    refine runM_go rkX9_hole hm (fun p => Nat.beq p 11 || Nat.beq p 12 || Nat.beq p 47 || Nat.beq p 59 || Nat.beq p 95 || Nat.beq p 117 || Nat.beq p 131) 200 ?_
    refine And.intro (fun c4 => ?_) (fun c4 => ?_)
    · try simp only [b01_eq, b01_ne, Classical.not_not, upS_row] at c4
      refine And.intro (in_c (c := 35) (by decide) (by grind)) ?_
      refine And.intro (fun c5 => ?_) (fun c5 => ?_)
      · try simp only [b01_eq, b01_ne, Classical.not_not, upS_row] at c5
        exact K95 _ _ (by unfold kHole; grind)
      · try simp only [b01_eq, b01_ne, Classical.not_not, upS_row] at c5
        refine And.intro (fun c6 => ?_) (fun c6 => ?_)
        · try simp only [b01_eq, b01_ne, Classical.not_not, upS_row] at c6
          exact K95 _ _ (by unfold kHole; grind)
        · try simp only [b01_eq, b01_ne, Classical.not_not, upS_row] at c6
          exact K95 _ _ (by unfold kHole; grind)
    · try simp only [b01_eq, b01_ne, Classical.not_not, upS_row] at c4
      exact K95 _ _ (by unfold kHole; grind)
  have K47 : ∀ x : Int32, x = (if hR σ c u then 1 else 0) → XM w mX9_hole m iv h (fun r σ' => r = some (mHole σ c u).1 ∧ σ' = (mHole σ c u).2) 47 [some (.inr 0), some (.inl c), some (.inl u), some (.inl (oth c u)), none, none, none] [.inl x] σ := by
    intro x hx
    refine runM_go rkX9_hole hm (fun p => Nat.beq p 11 || Nat.beq p 12 || Nat.beq p 47 || Nat.beq p 59 || Nat.beq p 95 || Nat.beq p 117 || Nat.beq p 131) 200 ?_
    refine And.intro (fun c7 => ?_) (fun c7 => ?_)
    · try simp only [b01_eq, b01_ne, Classical.not_not, upS_row] at c7
      exact K59 _ _ hx (by unfold bitU; grind)
    · try simp only [b01_eq, b01_ne, Classical.not_not, upS_row] at c7
      exact K59 _ _ hx (by unfold bitU; grind)
  have K12 : XM w mX9_hole m iv h (fun r σ' => r = some (mHole σ c u).1 ∧ σ' = (mHole σ c u).2) 12 [some (.inr 0), some (.inl c), some (.inl u), none, none, none, none] [.inl (oth c u)] σ := by
    refine runM_go rkX9_hole hm (fun p => Nat.beq p 11 || Nat.beq p 12 || Nat.beq p 47 || Nat.beq p 59 || Nat.beq p 95 || Nat.beq p 117 || Nat.beq p 131) 200 ?_
    refine qX9_hole_15 hm rfl (c_X9_isRoom hm) (fun r σ1 hq => ?_)
    obtain ⟨rfl, rfl⟩ := hq
    refine runM_ok rkX9_hole hm (fun p => Nat.beq p 11 || Nat.beq p 12 || Nat.beq p 47 || Nat.beq p 59 || Nat.beq p 95 || Nat.beq p 117 || Nat.beq p 131) 200 _ _ _ _ ?_
    refine And.intro (fun c8 => ?_) (fun c8 => ?_)
    · try simp only [b01_eq, b01_ne, Classical.not_not, upS_row] at c8
      exact K47 _ (by grind)
    · try simp only [b01_eq, b01_ne, Classical.not_not, upS_row] at c8
      refine And.intro (fun c9 => ?_) (fun c9 => ?_)
      · try simp only [b01_eq, b01_ne, Classical.not_not, upS_row] at c9
        refine qX9_hole_36 hm rfl (c_X9_isRoom hm) (fun r σ1 hq => ?_)
        obtain ⟨rfl, rfl⟩ := hq
        refine runM_ok rkX9_hole hm (fun p => Nat.beq p 11 || Nat.beq p 12 || Nat.beq p 47 || Nat.beq p 59 || Nat.beq p 95 || Nat.beq p 117 || Nat.beq p 131) 200 _ _ _ _ ?_
        refine And.intro (fun c10 => ?_) (fun c10 => ?_)
        · try simp only [b01_eq, b01_ne, Classical.not_not, upS_row] at c10
          exact K47 _ (by grind)
        · try simp only [b01_eq, b01_ne, Classical.not_not, upS_row] at c10
          exact K47 _ (by grind)
      · try simp only [b01_eq, b01_ne, Classical.not_not, upS_row] at c9
        refine And.intro (by decide) ?_
        refine And.intro (fun c11 => ?_) (fun c11 => ?_)
        · try simp only [b01_eq, b01_ne, Classical.not_not, upS_row] at c11
          exact K47 _ (by grind)
        · try simp only [b01_eq, b01_ne, Classical.not_not, upS_row] at c11
          refine qX9_hole_36 hm rfl (c_X9_isRoom hm) (fun r σ1 hq => ?_)
          obtain ⟨rfl, rfl⟩ := hq
          refine runM_ok rkX9_hole hm (fun p => Nat.beq p 11 || Nat.beq p 12 || Nat.beq p 47 || Nat.beq p 59 || Nat.beq p 95 || Nat.beq p 117 || Nat.beq p 131) 200 _ _ _ _ ?_
          refine And.intro (fun c12 => ?_) (fun c12 => ?_)
          · try simp only [b01_eq, b01_ne, Classical.not_not, upS_row] at c12
            exact K47 _ (by grind)
          · try simp only [b01_eq, b01_ne, Classical.not_not, upS_row] at c12
            exact K47 _ (by grind)
  have K11 : ∀ x : Int32, x = (if ¬ u = 0 then 12 else 1) → XM w mX9_hole m iv h (fun r σ' => r = some (mHole σ c u).1 ∧ σ' = (mHole σ c u).2) 11 [some (.inr 0), some (.inl c), some (.inl u), none, none, none, none] [.inl x, .inl c] σ := by
    intro x hx
    have ho : c + x = oth c u := by unfold oth; rw [hx]
    have k12 := K12
    rw [← ho] at k12
    exact runM_go rkX9_hole hm (fun p => Nat.beq p 12) 2 k12
  refine runM_ok rkX9_hole hm (fun p => Nat.beq p 11 || Nat.beq p 12 || Nat.beq p 47 || Nat.beq p 59 || Nat.beq p 95 || Nat.beq p 117 || Nat.beq p 131) 200 _ _ _ _ ?_
  refine And.intro (fun c13 => ?_) (fun c13 => ?_)
  · try simp only [b01_eq, b01_ne, Classical.not_not, upS_row] at c13
    exact K11 _ (by grind)
  · try simp only [b01_eq, b01_ne, Classical.not_not, upS_row] at c13
    exact K11 _ (by grind)

def kBlk (σ : MS) (b what : Int32) (c : Int32) : Int32 := if isBlk σ b then if 0 ≤ what ∧ what ≤ c then 0 else 2 else 1
def tBlk (σ : MS) (b what : Int32) : Int32 := if what = 0 then σ.2 9 b.toNatClampNeg else if what = 1 then σ.2 10 b.toNatClampNeg else if what = 2 then σ.2 11 b.toNatClampNeg else if what = 3 then σ.2 12 b.toNatClampNeg else if what = 4 then σ.2 13 b.toNatClampNeg else if what = 5 then σ.2 14 b.toNatClampNeg else if what = 6 then σ.2 15 b.toNatClampNeg else if σ.2 9 b.toNatClampNeg = 2 then σ.2 16 b.toNatClampNeg else -1
def mTold (σ : MS) (b what : Int32) : Int32 × MS := if kBlk σ b what 7 = 0 then (tBlk σ b what, upS σ 34 0) else (0, upS σ 34 (kBlk σ b what 7))
def kWld (σ : MS) (k what : Int32) : Int32 := if isWld σ k then if 0 ≤ what ∧ what ≤ 3 then 0 else 2 else 1
def tWld (σ : MS) (k what : Int32) : Int32 := if what = 0 then σ.2 19 k.toNatClampNeg else if what = 1 then σ.2 21 k.toNatClampNeg else if what = 2 then σ.2 22 k.toNatClampNeg else σ.2 23 k.toNatClampNeg
def mWeld (σ : MS) (k what : Int32) : Int32 × MS := if kWld σ k what = 0 then (tWld σ k what, upS σ 34 0) else (0, upS σ 34 (kWld σ k what))
def kCell (c what : Int32) : Int32 := if 0 ≤ c ∧ c ≤ 35 then if 0 ≤ what ∧ what ≤ 4 then 0 else 2 else 1
def tCell (σ : MS) (c what : Int32) : Int32 := if what = 0 then σ.2 25 c.toNatClampNeg else if what = 1 then (if ¬ σ.2 26 c.toNatClampNeg = 0 then 1 else 0) else if what = 2 then σ.2 27 c.toNatClampNeg else if what = 3 then σ.2 28 c.toNatClampNeg else σ.2 29 c.toNatClampNeg
def mCell (σ : MS) (c what : Int32) : Int32 × MS := if kCell c what = 0 then (tCell σ c what, upS σ 34 0) else (0, upS σ 34 (kCell c what))
def kRat (σ : MS) (p q : Int32) : Int32 := if (0 ≤ p ∧ p ≤ σ.1 30 - 1) ∧ 0 ≤ q then 0 else 1
def mRat (σ : MS) (p q : Int32) : Int32 × MS := if kRat σ p q = 0 then (if q < σ.2 31 p.toNatClampNeg then σ.2 32 (36 * p + q).toNatClampNeg else -1, upS σ 34 0) else (0, upS σ 34 (kRat σ p q))
set_option maxRecDepth 20000 in
theorem c_X9_weld {w : W0} {m : Nat} {iv : Nat → Nat} {h : AH} {σ : MS} {k q : Int32} (hm : MOK m iv h) (hw0 : 0 ≤ σ.1 18) (hw1 : σ.1 18 ≤ 100) : CM w yX9_weld mX9_weld m iv h [k, q] σ (fun r σ' => r = some (mWeld σ k q).1 ∧ σ' = (mWeld σ k q).2) := by
  refine CM_of mcX9_weld (Nat.le_of_ble_eq_true rfl) ?_
  have K27 : ∀ x : Int32, x = kWld σ k q → XM w mX9_weld m iv h (fun r σ' => r = some (mWeld σ k q).1 ∧ σ' = (mWeld σ k q).2) 27 [some (.inr 0), some (.inl k), some (.inl q)] [.inl x, .inr 0] σ := by
    intro x hx
    have hA : x = 0 → isWld σ k := by intro z; unfold kWld at hx; grind
    have h01 : x = 0 ∨ 0 < x := by unfold kWld at hx; grind
    refine qX9_weld_27 hm rfl (c_X9_fails hm) (fun r σ1 hq => ?_)
    obtain ⟨rfl, rfl⟩ := hq
    refine runM_ok rkX9_weld hm (fun p => Nat.beq p 27) 200 _ _ _ _ ?_
    refine And.intro (fun c1 => ?_) (fun c1 => ?_)
    · try simp only [b01_eq, b01_ne, Classical.not_not, upS_row] at c1
      refine And.intro (fun c2 => ?_) (fun c2 => ?_)
      · try simp only [b01_eq, b01_ne, Classical.not_not, upS_row] at c2
        refine And.intro (fun c3 => ?_) (fun c3 => ?_)
        · try simp only [b01_eq, b01_ne, Classical.not_not, upS_row] at c3
          refine And.intro (fun c4 => ?_) (fun c4 => ?_)
          · try simp only [b01_eq, b01_ne, Classical.not_not, upS_row] at c4
            refine And.intro (blk_in (N := 100) hw0 (Int32.le_iff_toInt_le.mp hw1) (by decide) (hA (by grind))) ?_
            first | (refine eP ?_; unfold mWeld; rw [if_neg (by grind), ← hx]) | (have h0 : x = 0 := (by grind); subst h0; refine eP ?_; unfold mWeld tWld; rw [if_pos hx.symm]; (repeat' split) <;> first | rfl | (exfalso; grind))
          · try simp only [b01_eq, b01_ne, Classical.not_not, upS_row] at c4
            refine And.intro (blk_in (N := 100) hw0 (Int32.le_iff_toInt_le.mp hw1) (by decide) (hA (by grind))) ?_
            first | (refine eP ?_; unfold mWeld; rw [if_neg (by grind), ← hx]) | (have h0 : x = 0 := (by grind); subst h0; refine eP ?_; unfold mWeld tWld; rw [if_pos hx.symm]; (repeat' split) <;> first | rfl | (exfalso; grind))
        · try simp only [b01_eq, b01_ne, Classical.not_not, upS_row] at c3
          refine And.intro (blk_in (N := 100) hw0 (Int32.le_iff_toInt_le.mp hw1) (by decide) (hA (by grind))) ?_
          first | (refine eP ?_; unfold mWeld; rw [if_neg (by grind), ← hx]) | (have h0 : x = 0 := (by grind); subst h0; refine eP ?_; unfold mWeld tWld; rw [if_pos hx.symm]; (repeat' split) <;> first | rfl | (exfalso; grind))
      · try simp only [b01_eq, b01_ne, Classical.not_not, upS_row] at c2
        refine And.intro (blk_in (N := 100) hw0 (Int32.le_iff_toInt_le.mp hw1) (by decide) (hA (by grind))) ?_
        first | (refine eP ?_; unfold mWeld; rw [if_neg (by grind), ← hx]) | (have h0 : x = 0 := (by grind); subst h0; refine eP ?_; unfold mWeld tWld; rw [if_pos hx.symm]; (repeat' split) <;> first | rfl | (exfalso; grind))
    · try simp only [b01_eq, b01_ne, Classical.not_not, upS_row] at c1
      first | (refine eP ?_; unfold mWeld; rw [if_neg (by grind), ← hx]) | (have h0 : x = 0 := (by grind); subst h0; refine eP ?_; unfold mWeld tWld; rw [if_pos hx.symm]; (repeat' split) <;> first | rfl | (exfalso; grind))
  refine runM_ok rkX9_weld hm (fun p => Nat.beq p 27) 200 _ _ _ _ ?_
  refine qX9_weld_3 hm rfl (c_X9_isWeld hm) (fun r σ1 hq => ?_)
  obtain ⟨rfl, rfl⟩ := hq
  refine runM_ok rkX9_weld hm (fun p => Nat.beq p 27) 200 _ _ _ _ ?_
  refine And.intro (fun c5 => ?_) (fun c5 => ?_)
  · try simp only [b01_eq, b01_ne, Classical.not_not, upS_row] at c5
    refine qX9_weld_16 rfl c_X9_isIn ?_
    refine runM_ok rkX9_weld hm (fun p => Nat.beq p 27) 200 _ _ _ _ ?_
    refine And.intro (fun c6 => ?_) (fun c6 => ?_)
    · try simp only [b01_eq, b01_ne, Classical.not_not, upS_row] at c6
      exact K27 _ (by unfold kWld; grind)
    · try simp only [b01_eq, b01_ne, Classical.not_not, upS_row] at c6
      exact K27 _ (by unfold kWld; grind)
  · try simp only [b01_eq, b01_ne, Classical.not_not, upS_row] at c5
    exact K27 _ (by unfold kWld; grind)
set_option maxRecDepth 20000 in
theorem c_X9_cell {w : W0} {m : Nat} {iv : Nat → Nat} {h : AH} {σ : MS} {c q : Int32} (hm : MOK m iv h) : CM w yX9_cell mX9_cell m iv h [c, q] σ (fun r σ' => r = some (mCell σ c q).1 ∧ σ' = (mCell σ c q).2) := by
  refine CM_of mcX9_cell (Nat.le_of_ble_eq_true rfl) ?_
  have K29 : ∀ x : Int32, x = kCell c q → XM w mX9_cell m iv h (fun r σ' => r = some (mCell σ c q).1 ∧ σ' = (mCell σ c q).2) 29 [some (.inr 0), some (.inl c), some (.inl q)] [.inl x, .inr 0] σ := by
    intro x hx
    have hA : x = 0 → 0 ≤ c ∧ c ≤ 35 := by intro z; unfold kCell at hx; grind
    have h01 : x = 0 ∨ 0 < x := by unfold kCell at hx; grind
    refine qX9_cell_29 hm rfl (c_X9_fails hm) (fun r σ1 hq => ?_)
    obtain ⟨rfl, rfl⟩ := hq
    refine runM_ok rkX9_cell hm (fun p => Nat.beq p 29) 200 _ _ _ _ ?_
    refine And.intro (fun c1 => ?_) (fun c1 => ?_)
    · try simp only [b01_eq, b01_ne, Classical.not_not, upS_row] at c1
      refine And.intro (fun c2 => ?_) (fun c2 => ?_)
      · try simp only [b01_eq, b01_ne, Classical.not_not, upS_row] at c2
        refine And.intro (fun c3 => ?_) (fun c3 => ?_)
        · try simp only [b01_eq, b01_ne, Classical.not_not, upS_row] at c3
          refine And.intro (fun c4 => ?_) (fun c4 => ?_)
          · try simp only [b01_eq, b01_ne, Classical.not_not, upS_row] at c4
            refine And.intro (fun c5 => ?_) (fun c5 => ?_)
            · try simp only [b01_eq, b01_ne, Classical.not_not, upS_row] at c5
              refine And.intro (in_c (c := 35) (by decide) (hA (by grind))) ?_
              first | (refine eP ?_; unfold mCell; rw [if_neg (by grind), ← hx]) | (have h0 : x = 0 := (by grind); subst h0; refine eP ?_; unfold mCell tCell; rw [if_pos hx.symm]; (repeat' split) <;> first | rfl | (exfalso; grind))
            · try simp only [b01_eq, b01_ne, Classical.not_not, upS_row] at c5
              refine And.intro (in_c (c := 35) (by decide) (hA (by grind))) ?_
              first | (refine eP ?_; unfold mCell; rw [if_neg (by grind), ← hx]) | (have h0 : x = 0 := (by grind); subst h0; refine eP ?_; unfold mCell tCell; rw [if_pos hx.symm]; (repeat' split) <;> first | rfl | (exfalso; grind))
          · try simp only [b01_eq, b01_ne, Classical.not_not, upS_row] at c4
            refine And.intro (in_c (c := 35) (by decide) (hA (by grind))) ?_
            first | (refine eP ?_; unfold mCell; rw [if_neg (by grind), ← hx]) | (have h0 : x = 0 := (by grind); subst h0; refine eP ?_; unfold mCell tCell; rw [if_pos hx.symm]; (repeat' split) <;> first | rfl | (exfalso; grind))
        · try simp only [b01_eq, b01_ne, Classical.not_not, upS_row] at c3
          refine And.intro (in_c (c := 35) (by decide) (hA (by grind))) ?_
          refine And.intro (fun c6 => ?_) (fun c6 => ?_)
          · try simp only [b01_eq, b01_ne, Classical.not_not, upS_row] at c6
            first | (refine eP ?_; unfold mCell; rw [if_neg (by grind), ← hx]) | (have h0 : x = 0 := (by grind); subst h0; refine eP ?_; unfold mCell tCell; rw [if_pos hx.symm]; (repeat' split) <;> first | rfl | (exfalso; grind))
          · try simp only [b01_eq, b01_ne, Classical.not_not, upS_row] at c6
            first | (refine eP ?_; unfold mCell; rw [if_neg (by grind), ← hx]) | (have h0 : x = 0 := (by grind); subst h0; refine eP ?_; unfold mCell tCell; rw [if_pos hx.symm]; (repeat' split) <;> first | rfl | (exfalso; grind))
      · try simp only [b01_eq, b01_ne, Classical.not_not, upS_row] at c2
        refine And.intro (in_c (c := 35) (by decide) (hA (by grind))) ?_
        first | (refine eP ?_; unfold mCell; rw [if_neg (by grind), ← hx]) | (have h0 : x = 0 := (by grind); subst h0; refine eP ?_; unfold mCell tCell; rw [if_pos hx.symm]; (repeat' split) <;> first | rfl | (exfalso; grind))
    · try simp only [b01_eq, b01_ne, Classical.not_not, upS_row] at c1
      first | (refine eP ?_; unfold mCell; rw [if_neg (by grind), ← hx]) | (have h0 : x = 0 := (by grind); subst h0; refine eP ?_; unfold mCell tCell; rw [if_pos hx.symm]; (repeat' split) <;> first | rfl | (exfalso; grind))
  refine runM_ok rkX9_cell hm (fun p => Nat.beq p 29) 200 _ _ _ _ ?_
  refine qX9_cell_5 rfl c_X9_isIn ?_
  refine runM_ok rkX9_cell hm (fun p => Nat.beq p 29) 200 _ _ _ _ ?_
  refine And.intro (fun c7 => ?_) (fun c7 => ?_)
  · try simp only [b01_eq, b01_ne, Classical.not_not, upS_row] at c7
    refine qX9_cell_18 rfl c_X9_isIn ?_
    refine runM_ok rkX9_cell hm (fun p => Nat.beq p 29) 200 _ _ _ _ ?_
    refine And.intro (fun c8 => ?_) (fun c8 => ?_)
    · try simp only [b01_eq, b01_ne, Classical.not_not, upS_row] at c8
      exact K29 _ (by unfold kCell; grind)
    · try simp only [b01_eq, b01_ne, Classical.not_not, upS_row] at c8
      exact K29 _ (by unfold kCell; grind)
  · try simp only [b01_eq, b01_ne, Classical.not_not, upS_row] at c7
    exact K29 _ (by unfold kCell; grind)
set_option maxRecDepth 20000 in
theorem c_X9_roomAt {w : W0} {m : Nat} {iv : Nat → Nat} {h : AH} {σ : MS} {p q : Int32} (hm : MOK m iv h) (hp0 : 0 ≤ σ.1 30) (hp1 : σ.1 30 ≤ 30) (hpr : kRat σ p q = 0 → q < σ.2 31 p.toNatClampNeg → vp_in (36 * p + q) 1080) : CM w yX9_roomAt mX9_roomAt m iv h [p, q] σ (fun r σ' => r = some (mRat σ p q).1 ∧ σ' = (mRat σ p q).2) := by
  refine CM_of mcX9_roomAt (Nat.le_of_ble_eq_true rfl) ?_
  have K24 : ∀ x : Int32, x = kRat σ p q → XM w mX9_roomAt m iv h (fun r σ' => r = some (mRat σ p q).1 ∧ σ' = (mRat σ p q).2) 24 [some (.inr 0), some (.inl p), some (.inl q)] [.inl x, .inr 0] σ := by
    intro x hx
    have hA : x = 0 → 0 ≤ p ∧ p ≤ σ.1 30 - 1 := by intro z; unfold kRat at hx; grind
    have h01 : x = 0 ∨ 0 < x := by unfold kRat at hx; grind
    refine qX9_roomAt_24 hm rfl (c_X9_fails hm) (fun r σ1 hq => ?_)
    obtain ⟨rfl, rfl⟩ := hq
    refine runM_ok rkX9_roomAt hm (fun p => Nat.beq p 24) 200 _ _ _ _ ?_
    refine And.intro (fun c1 => ?_) (fun c1 => ?_)
    · try simp only [b01_eq, b01_ne, Classical.not_not, upS_row] at c1
      refine And.intro (blk_in (N := 30) hp0 (Int32.le_iff_toInt_le.mp hp1) (by decide) (hA (by grind))) ?_
      refine And.intro (fun c2 => ?_) (fun c2 => ?_)
      · try simp only [b01_eq, b01_ne, Classical.not_not, upS_row] at c2
        first | (refine eP ?_; unfold mRat; rw [if_neg (by grind), ← hx]) | (have h0 : x = 0 := (by grind); subst h0; refine eP ?_; unfold mRat; rw [if_pos hx.symm]; first | rw [if_pos (Int32.not_le.mp ‹_›)]; rfl | rw [if_neg (Int32.not_lt.mpr ‹_›)])
      · try simp only [b01_eq, b01_ne, Classical.not_not, upS_row] at c2
        refine And.intro (hpr (by grind) (Int32.not_le.mp ‹_›)) ?_
        first | (refine eP ?_; unfold mRat; rw [if_neg (by grind), ← hx]) | (have h0 : x = 0 := (by grind); subst h0; refine eP ?_; unfold mRat; rw [if_pos hx.symm]; first | rw [if_pos (Int32.not_le.mp ‹_›)]; rfl | rw [if_neg (Int32.not_lt.mpr ‹_›)])
    · try simp only [b01_eq, b01_ne, Classical.not_not, upS_row] at c1
      first | (refine eP ?_; unfold mRat; rw [if_neg (by grind), ← hx]) | (have h0 : x = 0 := (by grind); subst h0; refine eP ?_; unfold mRat; rw [if_pos hx.symm]; first | rw [if_pos (Int32.not_le.mp ‹_›)]; rfl | rw [if_neg (Int32.not_lt.mpr ‹_›)])
  refine runM_ok rkX9_roomAt hm (fun p => Nat.beq p 24) 200 _ _ _ _ ?_
  refine qX9_roomAt_9 rfl c_X9_isIn ?_
  refine runM_ok rkX9_roomAt hm (fun p => Nat.beq p 24) 200 _ _ _ _ ?_
  refine And.intro (fun c3 => ?_) (fun c3 => ?_)
  · try simp only [b01_eq, b01_ne, Classical.not_not, upS_row] at c3
    exact K24 _ (by unfold kRat; grind)
  · try simp only [b01_eq, b01_ne, Classical.not_not, upS_row] at c3
    refine And.intro (fun c4 => ?_) (fun c4 => ?_)
    · try simp only [b01_eq, b01_ne, Classical.not_not, upS_row] at c4
      exact K24 _ (by unfold kRat; grind)
    · try simp only [b01_eq, b01_ne, Classical.not_not, upS_row] at c4
      exact K24 _ (by unfold kRat; grind)

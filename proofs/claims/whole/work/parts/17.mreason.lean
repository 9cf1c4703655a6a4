
/-! THE MODEL'S CONTRACTS, 5: why a block cannot stand -/
set_option maxRecDepth 20000 in
theorem c_X9_told {w : W0} {m : Nat} {iv : Nat → Nat} {h : AH} {σ : MS} {b q : Int32} (hm : MOK m iv h) (hb0 : 0 ≤ σ.1 8) (hb1 : σ.1 8 ≤ 60) : CM w yX9_told mX9_told m iv h [b, q] σ (fun r σ' => r = some (mTold σ b q).1 ∧ σ' = (mTold σ b q).2) := by
  refine CM_of mcX9_told (Nat.le_of_ble_eq_true rfl) ?_
  have K28 : ∀ x : Int32, x = kBlk σ b q 7 → XM w mX9_told m iv h (fun r σ' => r = some (mTold σ b q).1 ∧ σ' = (mTold σ b q).2) 28 [some (.inr 0), some (.inl b), some (.inl q)] [.inl x, .inr 0] σ := by
    intro x hx
    have hA : x = 0 → isBlk σ b := by intro z; unfold kBlk at hx; grind
    have h01 : x = 0 ∨ 0 < x := by unfold kBlk at hx; grind
    refine qX9_told_28 hm rfl (c_X9_fails hm) (fun r σ1 hq => ?_)
    obtain ⟨rfl, rfl⟩ := hq
    refine runM_ok rkX9_told hm (fun p => Nat.beq p 28) 200 _ _ _ _ ?_
    refine And.intro (fun c1 => ?_) (fun c1 => ?_)
    · try simp only [b01_eq, b01_ne, Classical.not_not, upS_row] at c1
      refine qX9_told_37 (fun e => ?_) (fun e => ?_) (fun e => ?_) (fun e => ?_) (fun e => ?_) (fun e => ?_) (fun e => ?_) (fun e => ?_)
      · skip
        refine runM_ok rkX9_told hm (fun p => Nat.beq p 28) 200 _ _ _ _ ?_
        refine And.intro (blk_in (N := 60) hb0 (Int32.le_iff_toInt_le.mp hb1) (by decide) (hA (by grind))) ?_
        first | (refine eP ?_; unfold mTold; rw [if_neg (by grind), ← hx]) | (have h0 : x = 0 := (by grind); subst h0; refine eP ?_; unfold mTold tBlk; rw [if_pos hx.symm]; (repeat' split) <;> first | rfl | (exfalso; grind))
      · skip
        refine runM_ok rkX9_told hm (fun p => Nat.beq p 28) 200 _ _ _ _ ?_
        refine And.intro (blk_in (N := 60) hb0 (Int32.le_iff_toInt_le.mp hb1) (by decide) (hA (by grind))) ?_
        first | (refine eP ?_; unfold mTold; rw [if_neg (by grind), ← hx]) | (have h0 : x = 0 := (by grind); subst h0; refine eP ?_; unfold mTold tBlk; rw [if_pos hx.symm]; (repeat' split) <;> first | rfl | (exfalso; grind))
      · skip
        refine runM_ok rkX9_told hm (fun p => Nat.beq p 28) 200 _ _ _ _ ?_
        refine And.intro (blk_in (N := 60) hb0 (Int32.le_iff_toInt_le.mp hb1) (by decide) (hA (by grind))) ?_
        first | (refine eP ?_; unfold mTold; rw [if_neg (by grind), ← hx]) | (have h0 : x = 0 := (by grind); subst h0; refine eP ?_; unfold mTold tBlk; rw [if_pos hx.symm]; (repeat' split) <;> first | rfl | (exfalso; grind))
      · skip
        refine runM_ok rkX9_told hm (fun p => Nat.beq p 28) 200 _ _ _ _ ?_
        refine And.intro (blk_in (N := 60) hb0 (Int32.le_iff_toInt_le.mp hb1) (by decide) (hA (by grind))) ?_
        first | (refine eP ?_; unfold mTold; rw [if_neg (by grind), ← hx]) | (have h0 : x = 0 := (by grind); subst h0; refine eP ?_; unfold mTold tBlk; rw [if_pos hx.symm]; (repeat' split) <;> first | rfl | (exfalso; grind))
      · skip
        refine runM_ok rkX9_told hm (fun p => Nat.beq p 28) 200 _ _ _ _ ?_
        refine And.intro (blk_in (N := 60) hb0 (Int32.le_iff_toInt_le.mp hb1) (by decide) (hA (by grind))) ?_
        first | (refine eP ?_; unfold mTold; rw [if_neg (by grind), ← hx]) | (have h0 : x = 0 := (by grind); subst h0; refine eP ?_; unfold mTold tBlk; rw [if_pos hx.symm]; (repeat' split) <;> first | rfl | (exfalso; grind))
      · skip
        refine runM_ok rkX9_told hm (fun p => Nat.beq p 28) 200 _ _ _ _ ?_
        refine And.intro (blk_in (N := 60) hb0 (Int32.le_iff_toInt_le.mp hb1) (by decide) (hA (by grind))) ?_
        first | (refine eP ?_; unfold mTold; rw [if_neg (by grind), ← hx]) | (have h0 : x = 0 := (by grind); subst h0; refine eP ?_; unfold mTold tBlk; rw [if_pos hx.symm]; (repeat' split) <;> first | rfl | (exfalso; grind))
      · skip
        refine runM_ok rkX9_told hm (fun p => Nat.beq p 28) 200 _ _ _ _ ?_
        refine And.intro (blk_in (N := 60) hb0 (Int32.le_iff_toInt_le.mp hb1) (by decide) (hA (by grind))) ?_
        first | (refine eP ?_; unfold mTold; rw [if_neg (by grind), ← hx]) | (have h0 : x = 0 := (by grind); subst h0; refine eP ?_; unfold mTold tBlk; rw [if_pos hx.symm]; (repeat' split) <;> first | rfl | (exfalso; grind))
      · skip
        refine runM_ok rkX9_told hm (fun p => Nat.beq p 28) 200 _ _ _ _ ?_
        refine And.intro (blk_in (N := 60) hb0 (Int32.le_iff_toInt_le.mp hb1) (by decide) (hA (by grind))) ?_
        refine And.intro (fun c2 => ?_) (fun c2 => ?_)
        · try simp only [b01_eq, b01_ne, Classical.not_not, upS_row] at c2
          first | (refine eP ?_; unfold mTold; rw [if_neg (by grind), ← hx]) | (have h0 : x = 0 := (by grind); subst h0; refine eP ?_; unfold mTold tBlk; rw [if_pos hx.symm]; (repeat' split) <;> first | rfl | (exfalso; grind))
        · try simp only [b01_eq, b01_ne, Classical.not_not, upS_row] at c2
          refine And.intro (blk_in (N := 60) hb0 (Int32.le_iff_toInt_le.mp hb1) (by decide) (hA (by grind))) ?_
          first | (refine eP ?_; unfold mTold; rw [if_neg (by grind), ← hx]) | (have h0 : x = 0 := (by grind); subst h0; refine eP ?_; unfold mTold tBlk; rw [if_pos hx.symm]; (repeat' split) <;> first | rfl | (exfalso; grind))
    · try simp only [b01_eq, b01_ne, Classical.not_not, upS_row] at c1
      first | (refine eP ?_; unfold mTold; rw [if_neg (by grind), ← hx]) | (have h0 : x = 0 := (by grind); subst h0; refine eP ?_; unfold mTold tBlk; rw [if_pos hx.symm]; (repeat' split) <;> first | rfl | (exfalso; grind))
  refine runM_ok rkX9_told hm (fun p => Nat.beq p 28) 200 _ _ _ _ ?_
  refine qX9_told_3 hm rfl (c_X9_isBlock hm) (fun r σ1 hq => ?_)
  obtain ⟨rfl, rfl⟩ := hq
  refine runM_ok rkX9_told hm (fun p => Nat.beq p 28) 200 _ _ _ _ ?_
  refine And.intro (fun c3 => ?_) (fun c3 => ?_)
  · try simp only [b01_eq, b01_ne, Classical.not_not, upS_row] at c3
    refine qX9_told_17 rfl c_X9_isIn ?_
    refine runM_ok rkX9_told hm (fun p => Nat.beq p 28) 200 _ _ _ _ ?_
    refine And.intro (fun c4 => ?_) (fun c4 => ?_)
    · try simp only [b01_eq, b01_ne, Classical.not_not, upS_row] at c4
      exact K28 _ (by unfold kBlk; grind)
    · try simp only [b01_eq, b01_ne, Classical.not_not, upS_row] at c4
      exact K28 _ (by unfold kBlk; grind)
  · try simp only [b01_eq, b01_ne, Classical.not_not, upS_row] at c3
    exact K28 _ (by unfold kBlk; grind)

/-- is some cell of a level, of n frames from lo on, filled; or not -/
def anyF (σ : MS) (v : Int32) (lo n : Nat) : Bool := (List.range n).any fun j => decide (¬ bAt σ (nI (lo + j)) v = -1)
def anyB (σ : MS) (v : Int32) (lo n : Nat) : Bool := (List.range n).any fun j => decide (bAt σ (nI (lo + j)) v = -1)
theorem anyF_succ (σ : MS) (v : Int32) (lo n : Nat) : anyF σ v lo (n + 1) = (anyF σ v lo n || decide (¬ bAt σ (nI (lo + n)) v = -1)) := by simp [anyF, List.range_succ]
theorem anyB_succ (σ : MS) (v : Int32) (lo n : Nat) : anyB σ v lo (n + 1) = (anyB σ v lo n || decide (bAt σ (nI (lo + n)) v = -1)) := by simp [anyB, List.range_succ]
def dif (a c : Int32) : Int32 := if c < a then a - c else c - a
def mxx (a b : Int32) : Int32 := if b < a then a else b
def rsn2 (σ : MS) (i : Nat) : Int32 := if σ.1 3 - 5 * mxx (dif (σ.2 10 i) (σ.1 2)) (dif (σ.2 11 i) (σ.1 2)) < σ.2 13 i then 4 else if 60 * σ.2 15 i < 5 * σ.2 13 i then 5 else
  if bAt σ (σ.2 10 i - 1) (σ.2 12 i) = -1 ∨ bAt σ (σ.2 11 i + 1) (σ.2 12 i) = -1 then 0 else
  if 60 < σ.2 14 i - spc σ (bAt σ (σ.2 10 i - 1) (σ.2 12 i)) (bAt σ (σ.2 11 i + 1) (σ.2 12 i)) ∨ σ.2 14 i - spc σ (bAt σ (σ.2 10 i - 1) (σ.2 12 i)) (bAt σ (σ.2 11 i + 1) (σ.2 12 i)) < -12 then 6 else 0
def flN (σ : MS) (i : Nat) : Bool := anyF σ (σ.2 12 i) (σ.2 10 i).toNatClampNeg ((σ.2 11 i).toNatClampNeg + 1 - (σ.2 10 i).toNatClampNeg)
def brN (σ : MS) (i : Nat) : Bool := decide (0 < σ.2 12 i) && anyB σ (σ.2 12 i - 1) (σ.2 10 i).toNatClampNeg ((σ.2 11 i).toNatClampNeg + 1 - (σ.2 10 i).toNatClampNeg)
def rsn (σ : MS) (i : Nat) : Int32 := if ¬ σ.2 9 i = 0 ∨ ¬ σ.1 6 = 0 then 1 else if flN σ i = true then 2 else if brN σ i = true then 3 else rsn2 σ i
theorem bAt_in {σ : MS} (hf : ∀ c, c < 36 → σ.2 25 c = -1 ∨ vp_in (σ.2 25 c) 60) {f v : Int32} (hv : 0 ≤ v ∧ v ≤ 2) (hne : ¬ bAt σ f v = -1) : vp_in (bAt σ f v) 60 := by
  unfold bAt at hne ⊢
  split
  · rename_i h1
    rw [if_pos h1] at hne
    exact (hf _ (lt_of_in (cell_in h1 hv))).resolve_left hne
  · rename_i h1
    rw [if_neg h1] at hne
    exact absurd rfl hne
set_option maxRecDepth 20000 in
theorem c_X9_reason {w : W0} {m : Nat} {iv : Nat → Nat} {h : AH} {σ : MS} {b : Int32} (hm : MOK m iv h) (hb : vp_in b 60) (hF : 0 ≤ σ.2 10 b.toNatClampNeg ∧ σ.2 10 b.toNatClampNeg ≤ 11) (hL : 0 ≤ σ.2 11 b.toNatClampNeg ∧ σ.2 11 b.toNatClampNeg ≤ 11) (hFL : (σ.2 10 b.toNatClampNeg).toNatClampNeg ≤ (σ.2 11 b.toNatClampNeg).toNatClampNeg) (hv : 0 ≤ σ.2 12 b.toNatClampNeg ∧ σ.2 12 b.toNatClampNeg ≤ 2) (hf : ∀ c, c < 36 → σ.2 25 c = -1 ∨ vp_in (σ.2 25 c) 60) : CM w yX9_reason mX9_reason m iv h [b] σ (fun r σ' => r = some (rsn σ b.toNatClampNeg) ∧ σ' = σ) := by
  refine CM_of mcX9_reason (Nat.le_of_ble_eq_true rfl) ?_
  obtain ⟨lo, hlo⟩ : ∃ lo, lo = (σ.2 10 b.toNatClampNeg).toNatClampNeg := ⟨_, rfl⟩
  obtain ⟨hi, hhi⟩ : ∃ hi, hi = (σ.2 11 b.toNatClampNeg).toNatClampNeg := ⟨_, rfl⟩
  have eF : σ.2 10 b.toNatClampNeg = nI lo := by rw [hlo]; exact in_n (in_c (c := 11) (n := 12) (by decide) hF)
  have eL : σ.2 11 b.toNatClampNeg = nI hi := by rw [hhi]; exact in_n (in_c (c := 11) (n := 12) (by decide) hL)
  have hi12 : hi < 12 := by rw [hhi]; exact lt_of_in (in_c (c := 11) (n := 12) (by decide) hL)
  rw [← hlo, ← hhi] at hFL
  have hv1 : ¬ σ.2 12 b.toNatClampNeg ≤ 0 → 0 ≤ σ.2 12 b.toNatClampNeg - 1 ∧ σ.2 12 b.toNatClampNeg - 1 ≤ 2 := by
    intro z
    obtain ⟨j, hj, e⟩ := vp_in_of (in_c (c := 2) (n := 3) (by decide) hv) (by decide)
    rw [e] at z ⊢
    rcases (show j = 0 ∨ j = 1 ∨ j = 2 by omega) with rfl | rfl | rfl
    · exact absurd (by decide) z
    · decide
    · decide
  have K233 : ∀ x2 x3 x : Int32, ¬ flN σ b.toNatClampNeg = true → ¬ brN σ b.toNatClampNeg = true → (¬ (¬ σ.2 9 b.toNatClampNeg = 0 ∨ ¬ σ.1 6 = 0)) → x = mxx (dif (σ.2 10 b.toNatClampNeg) (σ.1 2)) (dif (σ.2 11 b.toNatClampNeg) (σ.1 2)) → XM w mX9_reason m iv h (fun r σ' => r = some (rsn σ b.toNatClampNeg) ∧ σ' = σ) 233 [some (.inr 0), some (.inl b), some (.inl x2), some (.inl x3), some (.inl (dif (σ.2 10 b.toNatClampNeg) (σ.1 2))), some (.inl (dif (σ.2 11 b.toNatClampNeg) (σ.1 2))), none, none, none] [.inl x, .inl 5, .inl (σ.1 3), .inl (σ.2 13 b.toNatClampNeg)] σ := by
    intro x2 x3 x n1 n2 h1 hx
    subst hx
    refine runM_go rkX9_reason hm (fun p => Nat.beq p 30 || Nat.beq p 66 || Nat.beq p 103 || Nat.beq p 110 || Nat.beq p 166 || Nat.beq p 206 || Nat.beq p 233) 200 ?_
    refine And.intro (fun c1 => ?_) (fun c1 => ?_)
    · try simp only [b01_eq, b01_ne, Classical.not_not, upS_row] at c1
      refine And.intro hb ?_
      refine And.intro hb ?_
      refine And.intro (fun c2 => ?_) (fun c2 => ?_)
      · try simp only [b01_eq, b01_ne, Classical.not_not, upS_row] at c2
        refine And.intro hb ?_
        refine And.intro hb ?_
        refine qX9_reason_277 hm rfl (c_X9_blockAt hm hv) (fun r σ1 hq => ?_)
        obtain ⟨rfl, rfl⟩ := hq
        refine runM_ok rkX9_reason hm (fun p => Nat.beq p 30 || Nat.beq p 66 || Nat.beq p 103 || Nat.beq p 110 || Nat.beq p 166 || Nat.beq p 206 || Nat.beq p 233) 200 _ _ _ _ ?_
        refine And.intro hb ?_
        refine And.intro hb ?_
        refine qX9_reason_297 hm rfl (c_X9_blockAt hm hv) (fun r σ1 hq => ?_)
        obtain ⟨rfl, rfl⟩ := hq
        refine runM_ok rkX9_reason hm (fun p => Nat.beq p 30 || Nat.beq p 66 || Nat.beq p 103 || Nat.beq p 110 || Nat.beq p 166 || Nat.beq p 206 || Nat.beq p 233) 200 _ _ _ _ ?_
        refine And.intro (fun c3 => ?_) (fun c3 => ?_)
        · try simp only [b01_eq, b01_ne, Classical.not_not, upS_row] at c3
          refine ⟨congrArg some ?_, rfl⟩
          unfold rsn
          rw [if_neg h1, if_neg n1, if_neg n2]
          unfold rsn2
          (repeat' split) <;> first | rfl | (exfalso; grind)
        · try simp only [b01_eq, b01_ne, Classical.not_not, upS_row] at c3
          refine And.intro (fun c4 => ?_) (fun c4 => ?_)
          · try simp only [b01_eq, b01_ne, Classical.not_not, upS_row] at c4
            refine And.intro hb ?_
            refine qX9_reason_327 hm rfl (c_X9_space hm (bAt_in hf hv (by grind)) (bAt_in hf hv (by grind))) (fun r σ1 hq => ?_)
            obtain ⟨rfl, rfl⟩ := hq
            refine runM_ok rkX9_reason hm (fun p => Nat.beq p 30 || Nat.beq p 66 || Nat.beq p 103 || Nat.beq p 110 || Nat.beq p 166 || Nat.beq p 206 || Nat.beq p 233) 200 _ _ _ _ ?_
            refine And.intro (fun c5 => ?_) (fun c5 => ?_)
            · try simp only [b01_eq, b01_ne, Classical.not_not, upS_row] at c5
              refine ⟨congrArg some ?_, rfl⟩
              unfold rsn
              rw [if_neg h1, if_neg n1, if_neg n2]
              unfold rsn2
              (repeat' split) <;> first | rfl | (exfalso; grind)
            · try simp only [b01_eq, b01_ne, Classical.not_not, upS_row] at c5
              refine And.intro (fun c6 => ?_) (fun c6 => ?_)
              · try simp only [b01_eq, b01_ne, Classical.not_not, upS_row] at c6
                refine ⟨congrArg some ?_, rfl⟩
                unfold rsn
                rw [if_neg h1, if_neg n1, if_neg n2]
                unfold rsn2
                (repeat' split) <;> first | rfl | (exfalso; grind)
              · try simp only [b01_eq, b01_ne, Classical.not_not, upS_row] at c6
                refine ⟨congrArg some ?_, rfl⟩
                unfold rsn
                rw [if_neg h1, if_neg n1, if_neg n2]
                unfold rsn2
                (repeat' split) <;> first | rfl | (exfalso; grind)
          · try simp only [b01_eq, b01_ne, Classical.not_not, upS_row] at c4
            refine ⟨congrArg some ?_, rfl⟩
            unfold rsn
            rw [if_neg h1, if_neg n1, if_neg n2]
            unfold rsn2
            (repeat' split) <;> first | rfl | (exfalso; grind)
      · try simp only [b01_eq, b01_ne, Classical.not_not, upS_row] at c2
        refine ⟨congrArg some ?_, rfl⟩
        unfold rsn
        rw [if_neg h1, if_neg n1, if_neg n2]
        unfold rsn2
        (repeat' split) <;> first | rfl | (exfalso; grind)
    · try simp only [b01_eq, b01_ne, Classical.not_not, upS_row] at c1
      refine ⟨congrArg some ?_, rfl⟩
      unfold rsn
      rw [if_neg h1, if_neg n1, if_neg n2]
      unfold rsn2
      (repeat' split) <;> first | rfl | (exfalso; grind)
  have K206 : ∀ x2 x3 x : Int32, ¬ flN σ b.toNatClampNeg = true → ¬ brN σ b.toNatClampNeg = true → (¬ (¬ σ.2 9 b.toNatClampNeg = 0 ∨ ¬ σ.1 6 = 0)) → x = dif (σ.2 11 b.toNatClampNeg) (σ.1 2) → XM w mX9_reason m iv h (fun r σ' => r = some (rsn σ b.toNatClampNeg) ∧ σ' = σ) 206 [some (.inr 0), some (.inl b), some (.inl x2), some (.inl x3), some (.inl (dif (σ.2 10 b.toNatClampNeg) (σ.1 2))), none, none, none, none] [.inl x] σ := by
    intro x2 x3 x n1 n2 h1 hx
    subst hx
    refine runM_go rkX9_reason hm (fun p => Nat.beq p 30 || Nat.beq p 66 || Nat.beq p 103 || Nat.beq p 110 || Nat.beq p 166 || Nat.beq p 206 || Nat.beq p 233) 200 ?_
    refine And.intro hb ?_
    refine And.intro (fun c7 => ?_) (fun c7 => ?_)
    · try simp only [b01_eq, b01_ne, Classical.not_not, upS_row] at c7
      exact K233 _ _ _ n1 n2 h1 (by unfold mxx; grind)
    · try simp only [b01_eq, b01_ne, Classical.not_not, upS_row] at c7
      exact K233 _ _ _ n1 n2 h1 (by unfold mxx; grind)
  have K166 : ∀ x2 x3 x4 x : Int32, ¬ flN σ b.toNatClampNeg = true → ¬ brN σ b.toNatClampNeg = true → (¬ (¬ σ.2 9 b.toNatClampNeg = 0 ∨ ¬ σ.1 6 = 0)) → x = dif (σ.2 10 b.toNatClampNeg) (σ.1 2) → XM w mX9_reason m iv h (fun r σ' => r = some (rsn σ b.toNatClampNeg) ∧ σ' = σ) 166 [some (.inr 0), some (.inl b), some (.inl x2), some (.inl x3), some (.inl x4), none, none, none, none] [.inl x] σ := by
    intro x2 x3 x4 x n1 n2 h1 hx
    subst hx
    refine runM_go rkX9_reason hm (fun p => Nat.beq p 30 || Nat.beq p 66 || Nat.beq p 103 || Nat.beq p 110 || Nat.beq p 166 || Nat.beq p 206 || Nat.beq p 233) 200 ?_
    refine And.intro hb ?_
    refine And.intro (fun c8 => ?_) (fun c8 => ?_)
    · try simp only [b01_eq, b01_ne, Classical.not_not, upS_row] at c8
      refine And.intro hb ?_
      exact K206 _ _ _ n1 n2 h1 (by unfold dif; grind)
    · try simp only [b01_eq, b01_ne, Classical.not_not, upS_row] at c8
      refine And.intro hb ?_
      exact K206 _ _ _ n1 n2 h1 (by unfold dif; grind)
  have K110 : ∀ x2 x3 x4 : Int32, (¬ (¬ σ.2 9 b.toNatClampNeg = 0 ∨ ¬ σ.1 6 = 0)) → x2 = (if flN σ b.toNatClampNeg = true then 1 else 0) → x3 = (if brN σ b.toNatClampNeg = true then 1 else 0) → XM w mX9_reason m iv h (fun r σ' => r = some (rsn σ b.toNatClampNeg) ∧ σ' = σ) 110 [some (.inr 0), some (.inl b), some (.inl x2), some (.inl x3), some (.inl x4), none, none, none, none] [] σ := by
    intro x2 x3 x4 h1 hx2 hx3
    refine runM_go rkX9_reason hm (fun p => Nat.beq p 30 || Nat.beq p 66 || Nat.beq p 103 || Nat.beq p 110 || Nat.beq p 166 || Nat.beq p 206 || Nat.beq p 233) 200 ?_
    refine And.intro (fun c9 => ?_) (fun c9 => ?_)
    · try simp only [b01_eq, b01_ne, Classical.not_not, upS_row] at c9
      refine And.intro (fun c10 => ?_) (fun c10 => ?_)
      · try simp only [b01_eq, b01_ne, Classical.not_not, upS_row] at c10
        first | (exfalso; grind) | exact ⟨by unfold rsn; rw [if_neg h1]; first | rw [if_pos (by grind)] | rw [if_neg (by grind), if_pos (by grind)], rfl⟩
      · try simp only [b01_eq, b01_ne, Classical.not_not, upS_row] at c10
        first | (exfalso; grind) | exact ⟨by unfold rsn; rw [if_neg h1]; first | rw [if_pos (by grind)] | rw [if_neg (by grind), if_pos (by grind)], rfl⟩
    · try simp only [b01_eq, b01_ne, Classical.not_not, upS_row] at c9
      refine And.intro (fun c11 => ?_) (fun c11 => ?_)
      · try simp only [b01_eq, b01_ne, Classical.not_not, upS_row] at c11
        refine And.intro hb ?_
        refine And.intro (fun c12 => ?_) (fun c12 => ?_)
        · try simp only [b01_eq, b01_ne, Classical.not_not, upS_row] at c12
          refine And.intro hb ?_
          exact K166 _ _ _ _ (by grind) (by grind) h1 (by unfold dif; grind)
        · try simp only [b01_eq, b01_ne, Classical.not_not, upS_row] at c12
          refine And.intro hb ?_
          exact K166 _ _ _ _ (by grind) (by grind) h1 (by unfold dif; grind)
      · try simp only [b01_eq, b01_ne, Classical.not_not, upS_row] at c11
        refine And.intro (fun c13 => ?_) (fun c13 => ?_)
        · try simp only [b01_eq, b01_ne, Classical.not_not, upS_row] at c13
          first | (exfalso; grind) | exact ⟨by unfold rsn; rw [if_neg h1]; first | rw [if_pos (by grind)] | rw [if_neg (by grind), if_pos (by grind)], rfl⟩
        · try simp only [b01_eq, b01_ne, Classical.not_not, upS_row] at c13
          first | (exfalso; grind) | exact ⟨by unfold rsn; rw [if_neg h1]; first | rw [if_pos (by grind)] | rw [if_neg (by grind), if_pos (by grind)], rfl⟩
  have loop : ∀ (n k : Nat) (x2 x3 : Int32), lo ≤ k → k ≤ hi + 1 → hi + 1 ≤ n + k → x2 = (if (anyF σ (σ.2 12 b.toNatClampNeg) lo (k - lo)) = true then 1 else 0) → x3 = (if (decide (0 < σ.2 12 b.toNatClampNeg) && anyB σ (σ.2 12 b.toNatClampNeg - 1) lo (k - lo)) = true then 1 else 0) → (¬ (¬ σ.2 9 b.toNatClampNeg = 0 ∨ ¬ σ.1 6 = 0)) → XM w mX9_reason m iv h (fun r σ' => r = some (rsn σ b.toNatClampNeg) ∧ σ' = σ) 30 [some (.inr 0), some (.inl b), some (.inl x2), some (.inl x3), some (.inl (nI k)), none, none, none, none] [] σ := by
    intro n
    induction n with
    | zero =>
      intro k x2 x3 k1 k2 k3 hx2 hx3 h1
      have hex : σ.2 11 b.toNatClampNeg < nI k → hi + 1 - lo = k - lo := by intro z; rw [eL] at z; have := (nI_ltI (by omega) (by omega)).mp z; omega
      refine runM_go rkX9_reason hm (fun p => Nat.beq p 30 || Nat.beq p 66 || Nat.beq p 103 || Nat.beq p 110 || Nat.beq p 166 || Nat.beq p 206 || Nat.beq p 233) 200 ?_
      refine And.intro hb ?_
      refine And.intro (fun c1 => ?_) (fun c1 => ?_)
      · exact K110 _ _ _ h1 (by have hk9 := hex ‹_›; rw [hx2]; unfold flN; rw [← hlo, ← hhi, hk9]) (by have hk9 := hex ‹_›; rw [hx3]; unfold brN; rw [← hlo, ← hhi, hk9])
      · exact absurd (by rw [eL]; exact nI_lt (by omega) (by omega)) c1
    | succ n ih =>
      intro k x2 x3 k1 k2 k3 hx2 hx3 h1
      have hex : σ.2 11 b.toNatClampNeg < nI k → hi + 1 - lo = k - lo := by intro z; rw [eL] at z; have := (nI_ltI (by omega) (by omega)).mp z; omega
      have hkl : ¬ σ.2 11 b.toNatClampNeg < nI k → k ≤ hi := by intro z; rw [eL] at z; exact Nat.le_of_not_lt (fun q => z (nI_lt q (by omega)))
      have hk1 : k + 1 - lo = (k - lo) + 1 := by omega
      have hk2 : lo + (k - lo) = k := by omega
      have K103 : ∀ x2 x : Int32, k ≤ hi → x2 = (if (anyF σ (σ.2 12 b.toNatClampNeg) lo (k + 1 - lo)) = true then 1 else 0) → x = (if (decide (0 < σ.2 12 b.toNatClampNeg) && anyB σ (σ.2 12 b.toNatClampNeg - 1) lo (k + 1 - lo)) = true then 1 else 0) → XM w mX9_reason m iv h (fun r σ' => r = some (rsn σ b.toNatClampNeg) ∧ σ' = σ) 103 [some (.inr 0), some (.inl b), some (.inl x2), some (.inl x3), some (.inl (nI k)), none, none, none, none] [.inl x] σ := by
        intro x2 x hki hx2 hx
        refine runM_go rkX9_reason hm (fun p => Nat.beq p 30 || Nat.beq p 66 || Nat.beq p 103 || Nat.beq p 110 || Nat.beq p 166 || Nat.beq p 206 || Nat.beq p 233) 200 ?_
        have e9 := ih (k + 1) _ _ (by omega) (by omega) (by omega) hx2 hx h1
        rw [← nI_1 k] at e9
        exact e9
      have K66 : ∀ x : Int32, k ≤ hi → x = (if (anyF σ (σ.2 12 b.toNatClampNeg) lo (k + 1 - lo)) = true then 1 else 0) → XM w mX9_reason m iv h (fun r σ' => r = some (rsn σ b.toNatClampNeg) ∧ σ' = σ) 66 [some (.inr 0), some (.inl b), some (.inl x2), some (.inl x3), some (.inl (nI k)), none, none, none, none] [.inl x] σ := by
        intro x hki hx
        refine runM_go rkX9_reason hm (fun p => Nat.beq p 30 || Nat.beq p 66 || Nat.beq p 103 || Nat.beq p 110 || Nat.beq p 166 || Nat.beq p 206 || Nat.beq p 233) 200 ?_
        refine And.intro (fun c14 => ?_) (fun c14 => ?_)
        · try simp only [b01_eq, b01_ne, Classical.not_not, upS_row] at c14
          exact K103 _ _ hki hx (by rw [hk1, anyB_succ, hk2]; grind)
        · try simp only [b01_eq, b01_ne, Classical.not_not, upS_row] at c14
          refine And.intro hb ?_
          refine And.intro (fun c15 => ?_) (fun c15 => ?_)
          · try simp only [b01_eq, b01_ne, Classical.not_not, upS_row] at c15
            exact K103 _ _ hki hx (by rw [hk1, anyB_succ, hk2]; grind)
          · try simp only [b01_eq, b01_ne, Classical.not_not, upS_row] at c15
            refine And.intro hb ?_
            refine qX9_reason_91 hm rfl (c_X9_blockAt hm (hv1 ‹_›)) (fun r σ1 hq => ?_)
            obtain ⟨rfl, rfl⟩ := hq
            refine runM_ok rkX9_reason hm (fun p => Nat.beq p 30 || Nat.beq p 66 || Nat.beq p 103 || Nat.beq p 110 || Nat.beq p 166 || Nat.beq p 206 || Nat.beq p 233) 200 _ _ _ _ ?_
            refine And.intro (fun c16 => ?_) (fun c16 => ?_)
            · try simp only [b01_eq, b01_ne, Classical.not_not, upS_row] at c16
              exact K103 _ _ hki hx (by rw [hk1, anyB_succ, hk2]; grind)
            · try simp only [b01_eq, b01_ne, Classical.not_not, upS_row] at c16
              exact K103 _ _ hki hx (by rw [hk1, anyB_succ, hk2]; grind)
      refine runM_go rkX9_reason hm (fun p => Nat.beq p 30 || Nat.beq p 66 || Nat.beq p 103 || Nat.beq p 110 || Nat.beq p 166 || Nat.beq p 206 || Nat.beq p 233) 200 ?_
      refine And.intro hb ?_
      refine And.intro (fun c17 => ?_) (fun c17 => ?_)
      · try simp only [b01_eq, b01_ne, Classical.not_not, upS_row] at c17
        exact K110 _ _ _ h1 (by have hk9 := hex ‹_›; rw [hx2]; unfold flN; rw [← hlo, ← hhi, hk9]) (by have hk9 := hex ‹_›; rw [hx3]; unfold brN; rw [← hlo, ← hhi, hk9])
      · try simp only [b01_eq, b01_ne, Classical.not_not, upS_row] at c17
        refine And.intro (fun c18 => ?_) (fun c18 => ?_)
        · try simp only [b01_eq, b01_ne, Classical.not_not, upS_row] at c18
          exact K66 _ (hkl ‹_›) (by rw [hk1, anyF_succ, hk2]; grind)
        · try simp only [b01_eq, b01_ne, Classical.not_not, upS_row] at c18
          refine And.intro hb ?_
          refine qX9_reason_54 hm rfl (c_X9_blockAt hm hv) (fun r σ1 hq => ?_)
          obtain ⟨rfl, rfl⟩ := hq
          refine runM_ok rkX9_reason hm (fun p => Nat.beq p 30 || Nat.beq p 66 || Nat.beq p 103 || Nat.beq p 110 || Nat.beq p 166 || Nat.beq p 206 || Nat.beq p 233) 200 _ _ _ _ ?_
          refine And.intro (fun c19 => ?_) (fun c19 => ?_)
          · try simp only [b01_eq, b01_ne, Classical.not_not, upS_row] at c19
            exact K66 _ (hkl ‹_›) (by rw [hk1, anyF_succ, hk2]; grind)
          · try simp only [b01_eq, b01_ne, Classical.not_not, upS_row] at c19
            exact K66 _ (hkl ‹_›) (by rw [hk1, anyF_succ, hk2]; grind)
  refine runM_ok rkX9_reason hm (fun p => Nat.beq p 30 || Nat.beq p 66 || Nat.beq p 103 || Nat.beq p 110 || Nat.beq p 166 || Nat.beq p 206 || Nat.beq p 233) 200 _ _ _ _ ?_
  refine And.intro hb ?_
  refine And.intro (fun c20 => ?_) (fun c20 => ?_)
  · try simp only [b01_eq, b01_ne, Classical.not_not, upS_row] at c20
    exact ⟨by unfold rsn; rw [if_pos (by grind)], rfl⟩
  · try simp only [b01_eq, b01_ne, Classical.not_not, upS_row] at c20
    refine And.intro (fun c21 => ?_) (fun c21 => ?_)
    · try simp only [b01_eq, b01_ne, Classical.not_not, upS_row] at c21
      refine And.intro hb ?_
      have e9 := loop (hi + 1) lo 0 0 (Nat.le_refl _) (by omega) (by omega) (by rw [Nat.sub_self]; rfl) (by rw [Nat.sub_self]; unfold anyB; simp) (by grind)
      rw [← eF] at e9
      exact e9
    · try simp only [b01_eq, b01_ne, Classical.not_not, upS_row] at c21
      exact ⟨by unfold rsn; rw [if_pos (by grind)], rfl⟩


/-! THE MODEL'S CONTRACTS, 3: joins, places, chains, tests -/
theorem blk_in {b n : Int32} {N : Nat} (h0 : 0 ≤ n) (h1 : n.toInt ≤ N) (hN : N < 2147483648) (h : 0 ≤ b ∧ b ≤ n - 1) : vp_in b N := by
  have g0 := Int32.le_iff_toInt_le.mp h0
  have g2 := Int32.le_iff_toInt_le.mp h.2
  rw [Int32.toInt_zero] at g0
  have e : (n - 1).toInt = n.toInt - 1 := by
    rw [Int32.toInt_sub]
    have : (1 : Int32).toInt = 1 := by decide
    rw [this]
    have g3 := Int32.toInt_lt n
    exact Int.bmod_eq_of_le (by omega) (by omega)
  rw [e] at g2
  exact in_of h.1 (by omega)
theorem in_mono {x : Int32} {a b : Nat} (h : a ≤ b) (H : vp_in x a) : vp_in x b := fun z => H (z.imp id (fun q => Nat.le_trans h q))
abbrev isBlk (σ : MS) (b : Int32) : Prop := 0 ≤ b ∧ b ≤ σ.1 8 - 1
abbrev isWld (σ : MS) (k : Int32) : Prop := 0 ≤ k ∧ k ≤ σ.1 18 - 1
abbrev isWdr (y : Int32) : Prop := 0 ≤ y ∧ y ≤ 3
abbrev cJoin (σ : MS) (a b : Int32) : Prop := (σ.2 9 a.toNatClampNeg = 0 ∧ σ.2 9 b.toNatClampNeg = 0 ∧ σ.2 12 a.toNatClampNeg = σ.2 12 b.toNatClampNeg ∧ σ.2 10 b.toNatClampNeg = σ.2 11 a.toNatClampNeg + 1) ∧ σ.2 11 b.toNatClampNeg - σ.2 10 a.toNatClampNeg + 1 ≤ σ.1 0 ∧ σ.2 13 a.toNatClampNeg + σ.2 13 b.toNatClampNeg + 1 ≤ σ.1 1
def kJoin (σ : MS) (a b y : Int32) : Int32 := if isBlk σ a ∧ isBlk σ b ∧ isWdr y then if cJoin σ a b ∧ ¬ σ.1 8 = 60 ∧ ¬ σ.1 18 = 100 then 0 else 2 else 1
def sJoin2 (σ : MS) (a b : Int32) : MS := upA (upA (upA (upA (sAdds σ (σ.2 10 a.toNatClampNeg) (σ.2 11 b.toNatClampNeg) (σ.2 12 a.toNatClampNeg) (σ.2 13 a.toNatClampNeg + σ.2 13 b.toNatClampNeg + 1) (σ.2 14 a.toNatClampNeg + σ.2 14 b.toNatClampNeg - 3 + σ.2 12 a.toNatClampNeg) (σ.2 15 a.toNatClampNeg + σ.2 15 b.toNatClampNeg)) 9 a.toNatClampNeg 1) 9 b.toNatClampNeg 1) 17 a.toNatClampNeg (σ.1 8)) 17 b.toNatClampNeg (σ.1 8)
def mJoin (σ : MS) (a b y : Int32) : Int32 × MS := if kJoin σ a b y = 0 then (σ.1 8, sMak (sJoin2 (upS σ 34 0) a b) (σ.1 8) ((sJoin2 (upS σ 34 0) a b).2 10 b.toNatClampNeg) ((sJoin2 (upS σ 34 0) a b).2 12 a.toNatClampNeg) y.toNatClampNeg) else (0, upS σ 34 (kJoin σ a b y))
def bAt (σ : MS) (f v : Int32) : Int32 := if 0 ≤ f ∧ f ≤ 11 then σ.2 25 (12 * v + f).toNatClampNeg else -1
def eOf (σ : MS) (b : Int32) : Int32 := σ.2 16 b.toNatClampNeg + σ.2 14 b.toNatClampNeg
def spc (σ : MS) (a b : Int32) : Int32 := σ.2 16 b.toNatClampNeg - 4 - eOf σ a - 4
def sSpo (σ : MS) (f v : Int32) : MS := upA (upA σ 26 (12 * v + f - 1).toNatClampNeg 0) 26 (12 * v + f).toNatClampNeg 0
theorem cell_in {f v : Int32} (hf : 0 ≤ f ∧ f ≤ 11) (hv : 0 ≤ v ∧ v ≤ 2) : vp_in (12 * v + f) 36 := by
  obtain ⟨i, hi, rfl⟩ := vp_in_of (in_c (c := 11) (n := 12) (by decide) hf) (by decide)
  obtain ⟨j, hj, rfl⟩ := vp_in_of (in_c (c := 2) (n := 3) (by decide) hv) (by decide)
  have e : (12 : Int32) * nI j + nI i = nI (12 * j + i) := by
    rw [show (12 : Int32) = nI 12 from rfl, pk_mul, nI_add]
  rw [e]
  exact vp_in_nI (by omega) (by decide)
theorem cell_in1 {f v : Int32} (hf : 1 ≤ f ∧ f ≤ 11) (hv : 0 ≤ v ∧ v ≤ 2) : vp_in (12 * v + f - 1) 36 := by
  obtain ⟨i, hi, rfl⟩ := vp_in_of (in_c (c := 11) (n := 12) (by decide) (⟨Int32.le_trans (by decide) hf.1, hf.2⟩ : 0 ≤ f ∧ f ≤ 11)) (by decide)
  obtain ⟨j, hj, rfl⟩ := vp_in_of (in_c (c := 2) (n := 3) (by decide) hv) (by decide)
  have h1 : 1 ≤ i := by
    have := (nI_leI (a := 1) (by decide) (by omega : i < 2 ^ 31)).mp hf.1
    exact this
  have e : (12 : Int32) * nI j + nI i - 1 = nI (12 * j + i - 1) := by
    rw [show (12 : Int32) = nI 12 from rfl, pk_mul, nI_add, show 12 * j + i = (12 * j + i - 1) + 1 by omega, nI_pred]
    congr 1
  rw [e]
  exact vp_in_nI (by omega) (by decide)
set_option maxRecDepth 20000 in
theorem c_X9_canJoin {w : W0} {m : Nat} {iv : Nat → Nat} {h : AH} {σ : MS} {a b : Int32} (hm : MOK m iv h) (ha : vp_in a 60) (hb : vp_in b 60) : CM w yX9_canJoin mX9_canJoin m iv h [a, b] σ (fun r σ' => r = some (if cJoin σ a b then 1 else 0) ∧ σ' = σ) := by
  refine CM_of mcX9_canJoin (Nat.le_of_ble_eq_true rfl) ?_
  have K55 : ∀ x : Int32, x = (if (σ.2 9 a.toNatClampNeg = 0 ∧ σ.2 9 b.toNatClampNeg = 0 ∧ σ.2 12 a.toNatClampNeg = σ.2 12 b.toNatClampNeg ∧ σ.2 10 b.toNatClampNeg = σ.2 11 a.toNatClampNeg + 1) then 1 else 0) → XM w mX9_canJoin m iv h (fun r σ' => r = some (if cJoin σ a b then 1 else 0) ∧ σ' = σ) 55 [some (.inr 0), some (.inl a), some (.inl b), none] [.inl x] σ := by
    intro x hx
    refine runM_go rkX9_canJoin hm (fun p => Nat.beq p 55) 200 ?_
    refine And.intro (fun c1 => ?_) (fun c1 => ?_)
    · try simp only [b01_eq, b01_ne, Classical.not_not, upS_row] at c1
      refine And.intro (by first | exact Or.inl rfl | exact Or.inr rfl) ?_
      first | exact ⟨by rw [if_pos (by grind)], rfl⟩ | exact ⟨by rw [if_neg (by grind)], rfl⟩
    · try simp only [b01_eq, b01_ne, Classical.not_not, upS_row] at c1
      refine And.intro hb ?_
      refine And.intro ha ?_
      refine And.intro (fun c2 => ?_) (fun c2 => ?_)
      · try simp only [b01_eq, b01_ne, Classical.not_not, upS_row] at c2
        refine And.intro (by first | exact Or.inl rfl | exact Or.inr rfl) ?_
        first | exact ⟨by rw [if_pos (by grind)], rfl⟩ | exact ⟨by rw [if_neg (by grind)], rfl⟩
      · try simp only [b01_eq, b01_ne, Classical.not_not, upS_row] at c2
        refine And.intro ha ?_
        refine And.intro hb ?_
        refine And.intro (fun c3 => ?_) (fun c3 => ?_)
        · try simp only [b01_eq, b01_ne, Classical.not_not, upS_row] at c3
          refine And.intro (by first | exact Or.inl rfl | exact Or.inr rfl) ?_
          first | exact ⟨by rw [if_pos (by grind)], rfl⟩ | exact ⟨by rw [if_neg (by grind)], rfl⟩
        · try simp only [b01_eq, b01_ne, Classical.not_not, upS_row] at c3
          refine And.intro (by first | exact Or.inl rfl | exact Or.inr rfl) ?_
          first | exact ⟨by rw [if_pos (by grind)], rfl⟩ | exact ⟨by rw [if_neg (by grind)], rfl⟩
  refine runM_ok rkX9_canJoin hm (fun p => Nat.beq p 55) 200 _ _ _ _ ?_
  refine And.intro ha ?_
  refine And.intro (fun c4 => ?_) (fun c4 => ?_)
  · try simp only [b01_eq, b01_ne, Classical.not_not, upS_row] at c4
    exact K55 _ (by grind)
  · try simp only [b01_eq, b01_ne, Classical.not_not, upS_row] at c4
    refine And.intro hb ?_
    refine And.intro (fun c5 => ?_) (fun c5 => ?_)
    · try simp only [b01_eq, b01_ne, Classical.not_not, upS_row] at c5
      exact K55 _ (by grind)
    · try simp only [b01_eq, b01_ne, Classical.not_not, upS_row] at c5
      refine And.intro ha ?_
      refine And.intro hb ?_
      refine And.intro (fun c6 => ?_) (fun c6 => ?_)
      · try simp only [b01_eq, b01_ne, Classical.not_not, upS_row] at c6
        exact K55 _ (by grind)
      · try simp only [b01_eq, b01_ne, Classical.not_not, upS_row] at c6
        refine And.intro hb ?_
        refine And.intro ha ?_
        refine And.intro (fun c7 => ?_) (fun c7 => ?_)
        · try simp only [b01_eq, b01_ne, Classical.not_not, upS_row] at c7
          exact K55 _ (by grind)
        · try simp only [b01_eq, b01_ne, Classical.not_not, upS_row] at c7
          exact K55 _ (by grind)
set_option maxRecDepth 20000 in
theorem c_X9_join {w : W0} {m : Nat} {iv : Nat → Nat} {h : AH} {σ : MS} {a b y : Int32} (hm : MOK m iv h) (hb0 : 0 ≤ σ.1 8) (hb1 : σ.1 8 ≤ 60) (hw0 : 0 ≤ σ.1 18) (hw1 : σ.1 18 ≤ 100) : CM w yX9_join mX9_join m iv h [a, b, y] σ (fun r σ' => r = some (mJoin σ a b y).1 ∧ σ' = (mJoin σ a b y).2) := by
  refine CM_of mcX9_join (Nat.le_of_ble_eq_true rfl) ?_
  have K72 : ∀ x1 x : Int32, x = kJoin σ a b y → XM w mX9_join m iv h (fun r σ' => r = some (mJoin σ a b y).1 ∧ σ' = (mJoin σ a b y).2) 72 [some (.inr 0), some (.inl a), some (.inl b), some (.inl y), some (.inl x1), none] [.inl x, .inr 0] σ := by
    intro x1 x hx
    have hA : x = 0 → isBlk σ a := by intro z; unfold kJoin at hx; grind
    have hB : x = 0 → isBlk σ b := by intro z; unfold kJoin at hx; grind
    have hY : x = 0 → isWdr y := by intro z; unfold kJoin at hx; grind
    have hN : x = 0 → ¬ σ.1 8 = 60 ∧ ¬ σ.1 18 = 100 := by intro z; unfold kJoin at hx; grind
    have h01 : x = 0 ∨ 0 < x := by unfold kJoin at hx; grind
    refine qX9_join_72 hm rfl (c_X9_fails hm) (fun r σ1 hq => ?_)
    obtain ⟨rfl, rfl⟩ := hq
    refine runM_ok rkX9_join hm (fun p => Nat.beq p 28 || Nat.beq p 72) 200 _ _ _ _ ?_
    refine And.intro (fun c1 => ?_) (fun c1 => ?_)
    · try simp only [b01_eq, b01_ne, Classical.not_not, upS_row] at c1
      refine And.intro (blk_in (N := 60) hb0 (Int32.le_iff_toInt_le.mp hb1) (by decide) (hA (by grind))) ?_
      refine And.intro (blk_in (N := 60) hb0 (Int32.le_iff_toInt_le.mp hb1) (by decide) (hB (by grind))) ?_
      refine And.intro (blk_in (N := 60) hb0 (Int32.le_iff_toInt_le.mp hb1) (by decide) (hA (by grind))) ?_
      refine And.intro (blk_in (N := 60) hb0 (Int32.le_iff_toInt_le.mp hb1) (by decide) (hA (by grind))) ?_
      refine And.intro (blk_in (N := 60) hb0 (Int32.le_iff_toInt_le.mp hb1) (by decide) (hB (by grind))) ?_
      refine And.intro (blk_in (N := 60) hb0 (Int32.le_iff_toInt_le.mp hb1) (by decide) (hA (by grind))) ?_
      refine And.intro (blk_in (N := 60) hb0 (Int32.le_iff_toInt_le.mp hb1) (by decide) (hB (by grind))) ?_
      refine And.intro (blk_in (N := 60) hb0 (Int32.le_iff_toInt_le.mp hb1) (by decide) (hA (by grind))) ?_
      refine And.intro (blk_in (N := 60) hb0 (Int32.le_iff_toInt_le.mp hb1) (by decide) (hA (by grind))) ?_
      refine And.intro (blk_in (N := 60) hb0 (Int32.le_iff_toInt_le.mp hb1) (by decide) (hB (by grind))) ?_
      refine qX9_join_149 hm rfl (c_X9_adds hm (ne_lt (c := 60) (by decide) hb0 hb1 (hN (by grind)).1)) (fun r σ1 hq => ?_)
      obtain ⟨rfl, rfl⟩ := hq
      refine runM_ok rkX9_join hm (fun p => Nat.beq p 28 || Nat.beq p 72) 200 _ _ _ _ ?_
      refine And.intro (blk_in (N := 60) hb0 (Int32.le_iff_toInt_le.mp hb1) (by decide) (hA (by grind))) ?_
      refine And.intro (blk_in (N := 60) hb0 (Int32.le_iff_toInt_le.mp hb1) (by decide) (hB (by grind))) ?_
      refine And.intro (blk_in (N := 60) hb0 (Int32.le_iff_toInt_le.mp hb1) (by decide) (hA (by grind))) ?_
      refine And.intro (blk_in (N := 60) hb0 (Int32.le_iff_toInt_le.mp hb1) (by decide) (hB (by grind))) ?_
      refine And.intro (blk_in (N := 60) hb0 (Int32.le_iff_toInt_le.mp hb1) (by decide) (hB (by grind))) ?_
      refine And.intro (blk_in (N := 60) hb0 (Int32.le_iff_toInt_le.mp hb1) (by decide) (hA (by grind))) ?_
      refine qX9_join_200 hm rfl (c_X9_makes hm (ne_lt (c := 100) (by decide) hw0 hw1 (hN (by grind)).2) (in_c (c := 3) (by decide) (hY (by grind)))) (fun r σ1 hq => ?_)
      obtain ⟨rfl, rfl⟩ := hq
      refine runM_ok rkX9_join hm (fun p => Nat.beq p 28 || Nat.beq p 72) 200 _ _ _ _ ?_
      first | (refine eP ?_; unfold mJoin; rw [if_neg (by grind), ← hx]) | (refine eP ?_; unfold mJoin; have h0 : x = 0 := (by grind); rw [if_pos (by rw [← hx]; exact h0)]; rw [h0]; rfl)
    · try simp only [b01_eq, b01_ne, Classical.not_not, upS_row] at c1
      first | (refine eP ?_; unfold mJoin; rw [if_neg (by grind), ← hx]) | (refine eP ?_; unfold mJoin; have h0 : x = 0 := (by grind); rw [if_pos (by rw [← hx]; exact h0)]; rw [h0]; rfl)
  have K28 : ∀ x : Int32, x = (if isBlk σ a ∧ isBlk σ b ∧ isWdr y then 1 else 0) → XM w mX9_join m iv h (fun r σ' => r = some (mJoin σ a b y).1 ∧ σ' = (mJoin σ a b y).2) 28 [some (.inr 0), some (.inl a), some (.inl b), some (.inl y), none, none] [.inl x] σ := by
    intro x hx
    refine runM_go rkX9_join hm (fun p => Nat.beq p 28 || Nat.beq p 72) 200 ?_
    refine And.intro (fun c2 => ?_) (fun c2 => ?_)
    · try simp only [b01_eq, b01_ne, Classical.not_not, upS_row] at c2
      refine qX9_join_43 hm rfl (c_X9_canJoin hm (blk_in (N := 60) hb0 (Int32.le_iff_toInt_le.mp hb1) (by decide) (by grind)) (blk_in (N := 60) hb0 (Int32.le_iff_toInt_le.mp hb1) (by decide) (by grind))) (fun r σ1 hq => ?_)
      obtain ⟨rfl, rfl⟩ := hq
      refine runM_ok rkX9_join hm (fun p => Nat.beq p 28 || Nat.beq p 72) 200 _ _ _ _ ?_
      refine And.intro (fun c3 => ?_) (fun c3 => ?_)
      · try simp only [b01_eq, b01_ne, Classical.not_not, upS_row] at c3
        exact K72 _ _ (by unfold kJoin; grind)
      · try simp only [b01_eq, b01_ne, Classical.not_not, upS_row] at c3
        refine And.intro (fun c4 => ?_) (fun c4 => ?_)
        · try simp only [b01_eq, b01_ne, Classical.not_not, upS_row] at c4
          exact K72 _ _ (by unfold kJoin; grind)
        · try simp only [b01_eq, b01_ne, Classical.not_not, upS_row] at c4
          refine And.intro (fun c5 => ?_) (fun c5 => ?_)
          · try simp only [b01_eq, b01_ne, Classical.not_not, upS_row] at c5
            exact K72 _ _ (by unfold kJoin; grind)
          · try simp only [b01_eq, b01_ne, Classical.not_not, upS_row] at c5
            exact K72 _ _ (by unfold kJoin; grind)
    · try simp only [b01_eq, b01_ne, Classical.not_not, upS_row] at c2
      exact K72 _ _ (by unfold kJoin; grind)
  refine runM_ok rkX9_join hm (fun p => Nat.beq p 28 || Nat.beq p 72) 200 _ _ _ _ ?_
  refine qX9_join_2 hm rfl (c_X9_isBlock hm) (fun r σ1 hq => ?_)
  obtain ⟨rfl, rfl⟩ := hq
  refine runM_ok rkX9_join hm (fun p => Nat.beq p 28 || Nat.beq p 72) 200 _ _ _ _ ?_
  refine And.intro (fun c6 => ?_) (fun c6 => ?_)
  · try simp only [b01_eq, b01_ne, Classical.not_not, upS_row] at c6
    exact K28 _ (by grind)
  · try simp only [b01_eq, b01_ne, Classical.not_not, upS_row] at c6
    refine qX9_join_10 hm rfl (c_X9_isBlock hm) (fun r σ1 hq => ?_)
    obtain ⟨rfl, rfl⟩ := hq
    refine runM_ok rkX9_join hm (fun p => Nat.beq p 28 || Nat.beq p 72) 200 _ _ _ _ ?_
    refine And.intro (fun c7 => ?_) (fun c7 => ?_)
    · try simp only [b01_eq, b01_ne, Classical.not_not, upS_row] at c7
      exact K28 _ (by grind)
    · try simp only [b01_eq, b01_ne, Classical.not_not, upS_row] at c7
      refine qX9_join_17 rfl c_X9_isWelder ?_
      refine runM_ok rkX9_join hm (fun p => Nat.beq p 28 || Nat.beq p 72) 200 _ _ _ _ ?_
      refine And.intro (fun c8 => ?_) (fun c8 => ?_)
      · try simp only [b01_eq, b01_ne, Classical.not_not, upS_row] at c8
        exact K28 _ (by grind)
      · try simp only [b01_eq, b01_ne, Classical.not_not, upS_row] at c8
        exact K28 _ (by grind)
set_option maxRecDepth 20000 in
theorem c_X9_blockAt {w : W0} {m : Nat} {iv : Nat → Nat} {h : AH} {σ : MS} {f v : Int32} (hm : MOK m iv h) (hv : 0 ≤ v ∧ v ≤ 2) : CM w yX9_blockAt mX9_blockAt m iv h [f, v] σ (fun r σ' => r = some (bAt σ f v) ∧ σ' = σ) := by
  refine CM_of mcX9_blockAt (Nat.le_of_ble_eq_true rfl) ?_
  refine runM_ok rkX9_blockAt hm noCut 200 _ _ _ _ ?_
  refine qX9_blockAt_1 rfl c_X9_isFrame ?_
  refine runM_ok rkX9_blockAt hm noCut 200 _ _ _ _ ?_
  refine And.intro (fun c1 => ?_) (fun c1 => ?_)
  · try simp only [b01_eq, b01_ne, Classical.not_not, upS_row] at c1
    first | exact ⟨by unfold bAt; rw [if_pos ‹_›], rfl⟩ | exact ⟨by unfold bAt; rw [if_neg ‹_›], rfl⟩
  · try simp only [b01_eq, b01_ne, Classical.not_not, upS_row] at c1
    refine And.intro (cell_in ‹_› hv) ?_
    first | exact ⟨by unfold bAt; rw [if_pos ‹_›], rfl⟩ | exact ⟨by unfold bAt; rw [if_neg ‹_›], rfl⟩
set_option maxRecDepth 20000 in
theorem c_X9_endOf {w : W0} {m : Nat} {iv : Nat → Nat} {h : AH} {σ : MS} {b : Int32} (hm : MOK m iv h) (hb : vp_in b 60) : CM w yX9_endOf mX9_endOf m iv h [b] σ (fun r σ' => r = some (eOf σ b) ∧ σ' = σ) := by
  refine CM_of mcX9_endOf (Nat.le_of_ble_eq_true rfl) ?_
  refine runM_ok rkX9_endOf hm noCut 200 _ _ _ _ ?_
  refine And.intro hb ?_
  refine And.intro hb ?_
  exact ⟨rfl, rfl⟩
set_option maxRecDepth 20000 in
theorem c_X9_space {w : W0} {m : Nat} {iv : Nat → Nat} {h : AH} {σ : MS} {a b : Int32} (hm : MOK m iv h) (ha : vp_in a 60) (hb : vp_in b 60) : CM w yX9_space mX9_space m iv h [a, b] σ (fun r σ' => r = some (spc σ a b) ∧ σ' = σ) := by
  refine CM_of mcX9_space (Nat.le_of_ble_eq_true rfl) ?_
  refine runM_ok rkX9_space hm noCut 200 _ _ _ _ ?_
  refine And.intro hb ?_
  refine qX9_space_10 hm rfl (c_X9_endOf hm ha) (fun r σ1 hq => ?_)
  obtain ⟨rfl, rfl⟩ := hq
  refine runM_ok rkX9_space hm noCut 200 _ _ _ _ ?_
  exact ⟨rfl, rfl⟩
set_option maxRecDepth 20000 in
theorem c_X9_spoils {w : W0} {m : Nat} {iv : Nat → Nat} {h : AH} {σ : MS} {f v : Int32} (hm : MOK m iv h) (hf : 1 ≤ f ∧ f ≤ 11) (hv : 0 ≤ v ∧ v ≤ 2) : CM w yX9_spoils mX9_spoils m iv h [f, v] σ (fun r σ' => r = none ∧ σ' = sSpo σ f v) := by
  refine CM_of mcX9_spoils (Nat.le_of_ble_eq_true rfl) ?_
  refine runM_ok rkX9_spoils hm noCut 200 _ _ _ _ ?_
  refine And.intro ⟨cell_in1 hf hv, Or.inl rfl⟩ ?_
  refine And.intro ⟨cell_in ⟨Int32.le_trans (by decide) hf.1, hf.2⟩ hv, Or.inl rfl⟩ ?_
  exact ⟨rfl, rfl⟩

/-- the block in which one is by now: at most n joins up -/
def whN (σ : MS) : Nat → Int32 → Int32
  | 0, b => b
  | n + 1, b => if σ.2 17 b.toNatClampNeg = -1 then b else whN σ n (σ.2 17 b.toNatClampNeg)
def whl (σ : MS) (b : Int32) : Int32 := whN σ 60 b
/-- joins lead on to later blocks -/
def chn (σ : MS) (nb : Nat) : Prop := nb ≤ 60 ∧ ∀ i, i < nb → σ.2 17 i = -1 ∨ ∃ j, i < j ∧ j < nb ∧ σ.2 17 i = nI j
theorem whN_in {σ : MS} {nb : Nat} (hc : chn σ nb) : ∀ (n j : Nat), j < nb → ∃ k, j ≤ k ∧ k < nb ∧ whN σ n (nI j) = nI k
  | 0, j, hj => ⟨j, Nat.le_refl _, hj, rfl⟩
  | n + 1, j, hj => by
    have e : (nI j).toNatClampNeg = j := nI_clamp (by have := hc.1; omega)
    unfold whN
    rw [e]
    rcases hc.2 j hj with h1 | ⟨k, h1, h2, h3⟩
    · rw [if_pos h1]; exact ⟨j, Nat.le_refl _, hj, rfl⟩
    · have hne : ¬ nI k = -1 := fun z => by
        have z1 := congrArg Int32.toInt z
        rw [nI_toInt (by have := hc.1; omega)] at z1
        have : (-1 : Int32).toInt = -1 := by decide
        omega
      rw [h3, if_neg hne]
      obtain ⟨q, g1, g2, g3⟩ := whN_in hc n k h2
      exact ⟨q, by omega, g2, g3⟩
set_option maxRecDepth 20000 in
theorem c_X9_whole {w : W0} {m : Nat} {iv : Nat → Nat} {h : AH} {σ : MS} {nb i : Nat} (hm : MOK m iv h) (hc : chn σ nb) (hi : i < nb) : CM w yX9_whole mX9_whole m iv h [nI i] σ (fun r σ' => r = some (whl σ (nI i)) ∧ σ' = σ) := by
  refine CM_of mcX9_whole (Nat.le_of_ble_eq_true rfl) ?_
  have loop : ∀ (n j : Nat), j < nb → nb ≤ n + j → whN σ n (nI j) = whl σ (nI i) → XM w mX9_whole m iv h (fun r σ' => r = some (whl σ (nI i)) ∧ σ' = σ) 2 [some (.inr 0), some (.inl (nI i)), some (.inl (nI j))] [] σ := by
    intro n
    induction n with
    | zero => intro j h1 h2; omega
    | succ n ih =>
      intro j h1 h2 h3
      have e : (nI j).toNatClampNeg = j := nI_clamp (by have := hc.1; omega)
      have hj : vp_in (nI j) 60 := vp_in_nI (by have := hc.1; omega) (by decide)
      unfold whN at h3
      rw [e] at h3
      refine runM_go rkX9_whole hm (fun p => Nat.beq p 2) 30 ?_
      refine And.intro hj ?_
      refine And.intro (fun c1 => ?_) (fun c1 => ?_)
      · rw [e] at c1
        rw [if_pos c1] at h3
        exact ⟨by rw [h3], rfl⟩
      · refine And.intro hj ?_
        rw [e] at c1 ⊢
        rw [if_neg c1] at h3
        rcases hc.2 j h1 with g1 | ⟨k, g1, g2, g3⟩
        · exact absurd g1 c1
        · rw [g3] at h3 ⊢
          exact ih k g2 (by omega) h3
  refine runM_ok rkX9_whole hm (fun p => Nat.beq p 2) 30 _ _ _ _ ?_
  exact loop 60 i hi (by have := hc.1; omega) rfl
/-- welds are of no block of their own (-1), or of a block that is -/
def wbk (σ : MS) (nb nw : Nat) : Prop := ∀ k, k < nw → σ.2 24 k = -1 ∨ ∃ j, j < nb ∧ σ.2 24 k = nI j
abbrev iScr (σ : MS) (k : Int32) : Prop := ¬ σ.2 24 k.toNatClampNeg = -1 ∧ σ.2 9 (σ.2 24 k.toNatClampNeg).toNatClampNeg = 3
abbrev iSta (σ : MS) (k : Int32) : Prop := σ.2 24 k.toNatClampNeg = -1 ∨ σ.2 9 (whl σ (σ.2 24 k.toNatClampNeg)).toNatClampNeg = 2


/-! THE MODEL'S CONTRACTS, 1: what it reads and tells -/
theorem upS_get (σ : MS) (k j : Nat) (v : Int32) : (upS σ k v).1 j = if j = k then v else σ.1 j := rfl
theorem upS_row (σ : MS) (k : Nat) (v : Int32) : (upS σ k v).2 = σ.2 := rfl
theorem b01_eq {P : Prop} [Decidable P] : ((if P then (1 : Int32) else 0) = 0) = ¬ P := by
  by_cases h : P <;> simp [h]
theorem b01_ne {P : Prop} [Decidable P] : (¬ ((if P then (1 : Int32) else 0) = 0)) = P := by
  by_cases h : P <;> simp [h]
set_option maxRecDepth 20000 in
theorem c_X9_isIn {w : W0} {h : AH} {x a b : Int32} : Cn w yX9_isIn mX9_isIn [.int x, .int a, .int b] h (fun v h' => v = some (.int (if a ≤ x ∧ x ≤ b then 1 else 0)) ∧ h' = h) := by
  refine Cn_of mcX9_isIn (Nat.le_of_ble_eq_true rfl) (cat1 rfl) ?_
  refine run_ok rkX9_isIn noCut 20 _ _ _ _ _ _ ?_
  refine And.intro (fun c1 => ?_) (fun c1 => ?_)
  · refine And.intro ⟨Nat.zero_le _, Nat.zero_le _⟩ (And.intro (Or.inl rfl) ?_)
    refine ⟨?_, rfl⟩
    rw [if_neg (fun z => Int32.not_le.mpr c1 z.1)]
  · refine And.intro (fun c2 => ?_) (fun c2 => ?_)
    · refine And.intro ⟨Nat.zero_le _, Nat.zero_le _⟩ (And.intro (Or.inl rfl) ?_)
      refine ⟨?_, rfl⟩
      rw [if_neg (fun z => Int32.not_le.mpr c2 z.2)]
    · refine And.intro ⟨Nat.zero_le _, Nat.zero_le _⟩ (And.intro (Or.inr rfl) ?_)
      refine ⟨?_, rfl⟩
      rw [if_pos ⟨Int32.not_lt.mp c1, Int32.not_lt.mp c2⟩]
set_option maxRecDepth 20000 in
theorem c_X9_isFrame {w : W0} {h : AH} {x : Int32} : Cn w yX9_isFrame mX9_isFrame [.int x] h (fun v h' => v = some (.int (if 0 ≤ x ∧ x ≤ 11 then 1 else 0)) ∧ h' = h) := by
  refine Cn_of mcX9_isFrame (Nat.le_of_ble_eq_true rfl) (cat1 rfl) ?_
  refine run_ok rkX9_isFrame noCut 20 _ _ _ _ _ _ ?_
  refine x_callS (as := [.int x, .int 0, .int 11]) (by decide +kernel : decode cX9_isFrame 4 = .ok (.invokestatic 99, 3)) lkX9_99 mcX9_isIn ⟨by decide, by decide⟩ rfl (by decide) (by decide) (by decide) c_X9_isIn (fun v h' hq => ?_)
  obtain ⟨rfl, rfl⟩ := hq
  refine run_ok rkX9_isFrame noCut 20 _ _ _ _ _ _ ?_
  refine And.intro ⟨Nat.zero_le _, Nat.zero_le _⟩ (And.intro ?_ ⟨rfl, rfl⟩)
  split
  · exact Or.inr rfl
  · exact Or.inl rfl
set_option maxRecDepth 20000 in
theorem c_X9_isLevel {w : W0} {h : AH} {x : Int32} : Cn w yX9_isLevel mX9_isLevel [.int x] h (fun v h' => v = some (.int (if 0 ≤ x ∧ x ≤ 2 then 1 else 0)) ∧ h' = h) := by
  refine Cn_of mcX9_isLevel (Nat.le_of_ble_eq_true rfl) (cat1 rfl) ?_
  refine run_ok rkX9_isLevel noCut 20 _ _ _ _ _ _ ?_
  refine x_callS (as := [.int x, .int 0, .int 2]) (by decide +kernel : decode cX9_isLevel 3 = .ok (.invokestatic 99, 3)) lkX9_99 mcX9_isIn ⟨by decide, by decide⟩ rfl (by decide) (by decide) (by decide) c_X9_isIn (fun v h' hq => ?_)
  obtain ⟨rfl, rfl⟩ := hq
  refine run_ok rkX9_isLevel noCut 20 _ _ _ _ _ _ ?_
  refine And.intro ⟨Nat.zero_le _, Nat.zero_le _⟩ (And.intro ?_ ⟨rfl, rfl⟩)
  split
  · exact Or.inr rfl
  · exact Or.inl rfl
set_option maxRecDepth 20000 in
theorem c_X9_isWelder {w : W0} {h : AH} {x : Int32} : Cn w yX9_isWelder mX9_isWelder [.int x] h (fun v h' => v = some (.int (if 0 ≤ x ∧ x ≤ 3 then 1 else 0)) ∧ h' = h) := by
  refine Cn_of mcX9_isWelder (Nat.le_of_ble_eq_true rfl) (cat1 rfl) ?_
  refine run_ok rkX9_isWelder noCut 20 _ _ _ _ _ _ ?_
  refine x_callS (as := [.int x, .int 0, .int 3]) (by decide +kernel : decode cX9_isWelder 3 = .ok (.invokestatic 99, 3)) lkX9_99 mcX9_isIn ⟨by decide, by decide⟩ rfl (by decide) (by decide) (by decide) c_X9_isIn (fun v h' hq => ?_)
  obtain ⟨rfl, rfl⟩ := hq
  refine run_ok rkX9_isWelder noCut 20 _ _ _ _ _ _ ?_
  refine And.intro ⟨Nat.zero_le _, Nat.zero_le _⟩ (And.intro ?_ ⟨rfl, rfl⟩)
  split
  · exact Or.inr rfl
  · exact Or.inl rfl

def wIn (x : Int32) : Int32 := 600 + 30 * (if 6 < x - x / 12 * 12 then 12 - (x - x / 12 * 12) else x - x / 12 * 12)
set_option maxRecDepth 20000 in
theorem c_X9_waterIn {w : W0} {h : AH} {x : Int32} : Cn w yX9_waterIn mX9_waterIn [.int x] h (fun v h' => v = some (.int (wIn x)) ∧ h' = h) := by
  refine Cn_of mcX9_waterIn (Nat.le_of_ble_eq_true rfl) (cat1 rfl) ?_
  refine run_ok rkX9_waterIn noCut 40 _ _ _ _ _ _ ?_
  refine And.intro (by decide) ?_
  refine And.intro (fun c1 => ?_) (fun c1 => ?_)
  · refine And.intro ⟨Nat.zero_le _, Nat.zero_le _⟩ ⟨?_, rfl⟩
    unfold wIn
    rw [if_neg (Int32.not_lt.mpr c1)]
  · refine And.intro ⟨Nat.zero_le _, Nat.zero_le _⟩ ⟨?_, rfl⟩
    unfold wIn
    rw [if_pos (Int32.not_le.mp c1)]
set_option maxRecDepth 20000 in
theorem c_X9_thrown {w : W0} {m : Nat} {iv : Nat → Nat} {h : AH} {σ : MS} (hm : MOK m iv h) : CM w yX9_thrown mX9_thrown m iv h [] σ (fun r σ' => r = some (σ.1 34) ∧ σ' = σ) := by
  refine CM_of mcX9_thrown (Nat.le_of_ble_eq_true rfl) ?_
  refine runM_ok rkX9_thrown hm noCut 200 _ _ _ _ ?_
  exact ⟨rfl, rfl⟩
set_option maxRecDepth 20000 in
theorem c_X9_fails {w : W0} {m : Nat} {iv : Nat → Nat} {h : AH} {σ : MS} {x : Int32} (hm : MOK m iv h) : CM w yX9_fails mX9_fails m iv h [x] σ (fun r σ' => r = some (if 0 < x then 1 else 0) ∧ σ' = upS σ 34 x) := by
  refine CM_of mcX9_fails (Nat.le_of_ble_eq_true rfl) ?_
  refine runM_ok rkX9_fails hm noCut 200 _ _ _ _ ?_
  refine And.intro (fun c1 => ?_) (fun c1 => ?_)
  · try simp only [b01_eq, b01_ne, Classical.not_not, upS_row] at c1
    refine And.intro (by first | exact Or.inl rfl | exact Or.inr rfl) ?_
    exact ⟨by grind, rfl⟩
  · try simp only [b01_eq, b01_ne, Classical.not_not, upS_row] at c1
    refine And.intro (by first | exact Or.inl rfl | exact Or.inr rfl) ?_
    exact ⟨by grind, rfl⟩
set_option maxRecDepth 20000 in
theorem c_X9_tells {w : W0} {m : Nat} {iv : Nat → Nat} {h : AH} {σ : MS} {x : Int32} (hm : MOK m iv h) : CM w yX9_tells mX9_tells m iv h [x] σ (fun r σ' => r = some x ∧ σ' = upS σ 34 0) := by
  refine CM_of mcX9_tells (Nat.le_of_ble_eq_true rfl) ?_
  refine runM_ok rkX9_tells hm noCut 200 _ _ _ _ ?_
  exact ⟨rfl, rfl⟩
set_option maxRecDepth 20000 in
theorem c_X9_isBlock {w : W0} {m : Nat} {iv : Nat → Nat} {h : AH} {σ : MS} {b : Int32} (hm : MOK m iv h) : CM w yX9_isBlock mX9_isBlock m iv h [b] σ (fun r σ' => r = some (if 0 ≤ b ∧ b ≤ σ.1 8 - 1 then 1 else 0) ∧ σ' = σ) := by
  refine CM_of mcX9_isBlock (Nat.le_of_ble_eq_true rfl) ?_
  refine runM_ok rkX9_isBlock hm noCut 200 _ _ _ _ ?_
  refine qX9_isBlock_8 rfl c_X9_isIn ?_
  refine runM_ok rkX9_isBlock hm noCut 200 _ _ _ _ ?_
  refine And.intro (by split <;> simp) ?_
  exact ⟨rfl, rfl⟩
set_option maxRecDepth 20000 in
theorem c_X9_isWeld {w : W0} {m : Nat} {iv : Nat → Nat} {h : AH} {σ : MS} {b : Int32} (hm : MOK m iv h) : CM w yX9_isWeld mX9_isWeld m iv h [b] σ (fun r σ' => r = some (if 0 ≤ b ∧ b ≤ σ.1 18 - 1 then 1 else 0) ∧ σ' = σ) := by
  refine CM_of mcX9_isWeld (Nat.le_of_ble_eq_true rfl) ?_
  refine runM_ok rkX9_isWeld hm noCut 200 _ _ _ _ ?_
  refine qX9_isWeld_8 rfl c_X9_isIn ?_
  refine runM_ok rkX9_isWeld hm noCut 200 _ _ _ _ ?_
  refine And.intro (by split <;> simp) ?_
  exact ⟨rfl, rfl⟩

theorem in_c {x c : Int32} {n : Nat} (hn : c.toInt = (n : Int) - 1) (h : 0 ≤ x ∧ x ≤ c) : vp_in x n := by
  rw [vp_in_iff]
  have h1 := Int32.le_iff_toInt_le.mp h.1
  have h2 := Int32.le_iff_toInt_le.mp h.2
  rw [Int32.toInt_zero] at h1
  omega
abbrev isRm (σ : MS) (c : Int32) : Prop := (0 ≤ c ∧ c ≤ 35) ∧ ¬ σ.2 25 c.toNatClampNeg = -1
set_option maxRecDepth 20000 in
theorem c_X9_isRoom {w : W0} {m : Nat} {iv : Nat → Nat} {h : AH} {σ : MS} {c : Int32} (hm : MOK m iv h) : CM w yX9_isRoom mX9_isRoom m iv h [c] σ (fun r σ' => r = some (if isRm σ c then 1 else 0) ∧ σ' = σ) := by
  refine CM_of mcX9_isRoom (Nat.le_of_ble_eq_true rfl) ?_
  refine runM_ok rkX9_isRoom hm noCut 200 _ _ _ _ ?_
  refine qX9_isRoom_4 rfl c_X9_isIn ?_
  refine runM_ok rkX9_isRoom hm noCut 200 _ _ _ _ ?_
  refine And.intro (fun c1 => ?_) (fun c1 => ?_)
  · try simp only [b01_eq, b01_ne, Classical.not_not, upS_row] at c1
    refine And.intro (by first | exact Or.inl rfl | exact Or.inr rfl) ?_
    first | exact ⟨by rw [if_pos (by grind)], rfl⟩ | exact ⟨by rw [if_neg (by grind)], rfl⟩
  · try simp only [b01_eq, b01_ne, Classical.not_not, upS_row] at c1
    refine And.intro (in_c (c := 35) (by decide) ‹_›) ?_
    refine And.intro (fun c2 => ?_) (fun c2 => ?_)
    · try simp only [b01_eq, b01_ne, Classical.not_not, upS_row] at c2
      refine And.intro (by first | exact Or.inl rfl | exact Or.inr rfl) ?_
      first | exact ⟨by rw [if_pos (by grind)], rfl⟩ | exact ⟨by rw [if_neg (by grind)], rfl⟩
    · try simp only [b01_eq, b01_ne, Classical.not_not, upS_row] at c2
      refine And.intro (by first | exact Or.inl rfl | exact Or.inr rfl) ?_
      first | exact ⟨by rw [if_pos (by grind)], rfl⟩ | exact ⟨by rw [if_neg (by grind)], rfl⟩

def mHall (σ : MS) (f t : Int32) : Int32 × MS := if (1 ≤ f ∧ f ≤ 12) ∧ (1 ≤ t ∧ t ≤ 1000) then (σ.1 0, upS (upS (upS σ 34 0) 0 f) 1 t) else (0, upS σ 34 1)
def mCrane (σ : MS) (f t : Int32) : Int32 × MS := if ¬ (0 ≤ f ∧ f ≤ 11) then (0, upS σ 34 1) else if ¬ (1 ≤ t ∧ t ≤ 1000) then (0, upS σ 34 2) else (σ.1 3, upS (upS (upS σ 34 0) 2 f) 3 t)
def mWelder (σ : MS) (a f : Int32) : Int32 × MS := if ¬ (0 ≤ a ∧ a ≤ 3) then (0, upS σ 34 1) else if ¬ (0 ≤ f ∧ f ≤ 100) then (0, upS σ 34 2) else (σ.2 5 a.toNatClampNeg, upA (upS σ 34 0) 5 a.toNatClampNeg f)
def mDraw (σ : MS) (x : Int32) : Int32 × MS := (σ.1 4, upS (upS σ 34 0) 4 x)
theorem upA_get (σ : MS) (k i : Nat) (v : Int32) : (upA σ k i v).1 = σ.1 := rfl
theorem upA_row (σ : MS) (k i j n : Nat) (v : Int32) : (upA σ k i v).2 j n = if j = k ∧ n = i then v else σ.2 j n := rfl
theorem eP {α β : Type} {a : α} {b : β} {p : α × β} (h : p = (a, b)) : some a = some p.1 ∧ b = p.2 := by subst h; exact ⟨rfl, rfl⟩
set_option maxRecDepth 20000 in
theorem c_X9_hall {w : W0} {m : Nat} {iv : Nat → Nat} {h : AH} {σ : MS} {f t : Int32} (hm : MOK m iv h) : CM w yX9_hall mX9_hall m iv h [f, t] σ (fun r σ' => r = some (mHall σ f t).1 ∧ σ' = (mHall σ f t).2) := by
  refine CM_of mcX9_hall (Nat.le_of_ble_eq_true rfl) ?_
  refine runM_ok rkX9_hall hm noCut 200 _ _ _ _ ?_
  refine qX9_hall_5 rfl c_X9_isIn ?_
  refine runM_ok rkX9_hall hm noCut 200 _ _ _ _ ?_
  refine And.intro (fun c1 => ?_) (fun c1 => ?_)
  · try simp only [b01_eq, b01_ne, Classical.not_not, upS_row] at c1
    refine qX9_hall_27 hm rfl (c_X9_fails hm) (fun r σ1 hq => ?_)
    obtain ⟨rfl, rfl⟩ := hq
    refine runM_ok rkX9_hall hm noCut 200 _ _ _ _ ?_
    refine And.intro (fun c2 => ?_) (fun c2 => ?_)
    · try simp only [b01_eq, b01_ne, Classical.not_not, upS_row] at c2
      first | (exfalso; revert c5; decide) | (exfalso; revert c4; decide) | (exfalso; revert c3; decide) | (refine eP ?_; unfold mHall; (repeat' split) <;> first | rfl | (exfalso; grind))
    · try simp only [b01_eq, b01_ne, Classical.not_not, upS_row] at c2
      first | (exfalso; revert c5; decide) | (exfalso; revert c4; decide) | (exfalso; revert c3; decide) | (refine eP ?_; unfold mHall; (repeat' split) <;> first | rfl | (exfalso; grind))
  · try simp only [b01_eq, b01_ne, Classical.not_not, upS_row] at c1
    refine qX9_hall_16 rfl c_X9_isIn ?_
    refine runM_ok rkX9_hall hm noCut 200 _ _ _ _ ?_
    refine And.intro (fun c3 => ?_) (fun c3 => ?_)
    · try simp only [b01_eq, b01_ne, Classical.not_not, upS_row] at c3
      refine qX9_hall_27 hm rfl (c_X9_fails hm) (fun r σ1 hq => ?_)
      obtain ⟨rfl, rfl⟩ := hq
      refine runM_ok rkX9_hall hm noCut 200 _ _ _ _ ?_
      refine And.intro (fun c4 => ?_) (fun c4 => ?_)
      · try simp only [b01_eq, b01_ne, Classical.not_not, upS_row] at c4
        first | (exfalso; revert c5; decide) | (exfalso; revert c4; decide) | (exfalso; revert c3; decide) | (refine eP ?_; unfold mHall; (repeat' split) <;> first | rfl | (exfalso; grind))
      · try simp only [b01_eq, b01_ne, Classical.not_not, upS_row] at c4
        first | (exfalso; revert c5; decide) | (exfalso; revert c4; decide) | (exfalso; revert c3; decide) | (refine eP ?_; unfold mHall; (repeat' split) <;> first | rfl | (exfalso; grind))
    · try simp only [b01_eq, b01_ne, Classical.not_not, upS_row] at c3
      refine qX9_hall_27 hm rfl (c_X9_fails hm) (fun r σ1 hq => ?_)
      obtain ⟨rfl, rfl⟩ := hq
      refine runM_ok rkX9_hall hm noCut 200 _ _ _ _ ?_
      refine And.intro (fun c5 => ?_) (fun c5 => ?_)
      · try simp only [b01_eq, b01_ne, Classical.not_not, upS_row] at c5
        first | (exfalso; revert c5; decide) | (exfalso; revert c4; decide) | (exfalso; revert c3; decide) | (refine eP ?_; unfold mHall; (repeat' split) <;> first | rfl | (exfalso; grind))
      · try simp only [b01_eq, b01_ne, Classical.not_not, upS_row] at c5
        first | (exfalso; revert c5; decide) | (exfalso; revert c4; decide) | (exfalso; revert c3; decide) | (refine eP ?_; unfold mHall; (repeat' split) <;> first | rfl | (exfalso; grind))
set_option maxRecDepth 20000 in
theorem c_X9_crane {w : W0} {m : Nat} {iv : Nat → Nat} {h : AH} {σ : MS} {f t : Int32} (hm : MOK m iv h) : CM w yX9_crane mX9_crane m iv h [f, t] σ (fun r σ' => r = some (mCrane σ f t).1 ∧ σ' = (mCrane σ f t).2) := by
  refine CM_of mcX9_crane (Nat.le_of_ble_eq_true rfl) ?_
  refine runM_ok rkX9_crane hm noCut 200 _ _ _ _ ?_
  refine qX9_crane_2 rfl c_X9_isFrame ?_
  refine runM_ok rkX9_crane hm noCut 200 _ _ _ _ ?_
  refine And.intro (fun c1 => ?_) (fun c1 => ?_)
  · try simp only [b01_eq, b01_ne, Classical.not_not, upS_row] at c1
    refine qX9_crane_17 rfl c_X9_isIn ?_
    refine runM_ok rkX9_crane hm noCut 200 _ _ _ _ ?_
    refine And.intro (fun c2 => ?_) (fun c2 => ?_)
    · try simp only [b01_eq, b01_ne, Classical.not_not, upS_row] at c2
      refine qX9_crane_28 hm rfl (c_X9_fails hm) (fun r σ1 hq => ?_)
      obtain ⟨rfl, rfl⟩ := hq
      refine runM_ok rkX9_crane hm noCut 200 _ _ _ _ ?_
      refine And.intro (fun c3 => ?_) (fun c3 => ?_)
      · try simp only [b01_eq, b01_ne, Classical.not_not, upS_row] at c3
        first | (exfalso; revert c5; decide) | (exfalso; revert c4; decide) | (exfalso; revert c3; decide) | (refine eP ?_; unfold mCrane; (repeat' split) <;> first | rfl | (exfalso; grind))
      · try simp only [b01_eq, b01_ne, Classical.not_not, upS_row] at c3
        first | (exfalso; revert c5; decide) | (exfalso; revert c4; decide) | (exfalso; revert c3; decide) | (refine eP ?_; unfold mCrane; (repeat' split) <;> first | rfl | (exfalso; grind))
    · try simp only [b01_eq, b01_ne, Classical.not_not, upS_row] at c2
      refine qX9_crane_28 hm rfl (c_X9_fails hm) (fun r σ1 hq => ?_)
      obtain ⟨rfl, rfl⟩ := hq
      refine runM_ok rkX9_crane hm noCut 200 _ _ _ _ ?_
      refine And.intro (fun c4 => ?_) (fun c4 => ?_)
      · try simp only [b01_eq, b01_ne, Classical.not_not, upS_row] at c4
        first | (exfalso; revert c5; decide) | (exfalso; revert c4; decide) | (exfalso; revert c3; decide) | (refine eP ?_; unfold mCrane; (repeat' split) <;> first | rfl | (exfalso; grind))
      · try simp only [b01_eq, b01_ne, Classical.not_not, upS_row] at c4
        first | (exfalso; revert c5; decide) | (exfalso; revert c4; decide) | (exfalso; revert c3; decide) | (refine eP ?_; unfold mCrane; (repeat' split) <;> first | rfl | (exfalso; grind))
  · try simp only [b01_eq, b01_ne, Classical.not_not, upS_row] at c1
    refine qX9_crane_28 hm rfl (c_X9_fails hm) (fun r σ1 hq => ?_)
    obtain ⟨rfl, rfl⟩ := hq
    refine runM_ok rkX9_crane hm noCut 200 _ _ _ _ ?_
    refine And.intro (fun c5 => ?_) (fun c5 => ?_)
    · try simp only [b01_eq, b01_ne, Classical.not_not, upS_row] at c5
      first | (exfalso; revert c5; decide) | (exfalso; revert c4; decide) | (exfalso; revert c3; decide) | (refine eP ?_; unfold mCrane; (repeat' split) <;> first | rfl | (exfalso; grind))
    · try simp only [b01_eq, b01_ne, Classical.not_not, upS_row] at c5
      first | (exfalso; revert c5; decide) | (exfalso; revert c4; decide) | (exfalso; revert c3; decide) | (refine eP ?_; unfold mCrane; (repeat' split) <;> first | rfl | (exfalso; grind))
set_option maxRecDepth 20000 in
theorem c_X9_welder {w : W0} {m : Nat} {iv : Nat → Nat} {h : AH} {σ : MS} {a f : Int32} (hm : MOK m iv h) : CM w yX9_welder mX9_welder m iv h [a, f] σ (fun r σ' => r = some (mWelder σ a f).1 ∧ σ' = (mWelder σ a f).2) := by
  refine CM_of mcX9_welder (Nat.le_of_ble_eq_true rfl) ?_
  refine runM_ok rkX9_welder hm noCut 200 _ _ _ _ ?_
  refine qX9_welder_2 rfl c_X9_isWelder ?_
  refine runM_ok rkX9_welder hm noCut 200 _ _ _ _ ?_
  refine And.intro (fun c1 => ?_) (fun c1 => ?_)
  · try simp only [b01_eq, b01_ne, Classical.not_not, upS_row] at c1
    refine qX9_welder_16 rfl c_X9_isIn ?_
    refine runM_ok rkX9_welder hm noCut 200 _ _ _ _ ?_
    refine And.intro (fun c2 => ?_) (fun c2 => ?_)
    · try simp only [b01_eq, b01_ne, Classical.not_not, upS_row] at c2
      refine qX9_welder_27 hm rfl (c_X9_fails hm) (fun r σ1 hq => ?_)
      obtain ⟨rfl, rfl⟩ := hq
      refine runM_ok rkX9_welder hm noCut 200 _ _ _ _ ?_
      refine And.intro (fun c3 => ?_) (fun c3 => ?_)
      · try simp only [b01_eq, b01_ne, Classical.not_not, upS_row] at c3
        refine And.intro (in_c (c := 3) (by decide) (by grind)) ?_
        refine And.intro (in_c (c := 3) (by decide) (by grind)) ?_
        first | (exfalso; revert c5; decide) | (exfalso; revert c4; decide) | (exfalso; revert c3; decide) | (refine eP ?_; unfold mWelder; (repeat' split) <;> first | rfl | (exfalso; grind))
      · try simp only [b01_eq, b01_ne, Classical.not_not, upS_row] at c3
        first | (exfalso; revert c5; decide) | (exfalso; revert c4; decide) | (exfalso; revert c3; decide) | (refine eP ?_; unfold mWelder; (repeat' split) <;> first | rfl | (exfalso; grind))
    · try simp only [b01_eq, b01_ne, Classical.not_not, upS_row] at c2
      refine qX9_welder_27 hm rfl (c_X9_fails hm) (fun r σ1 hq => ?_)
      obtain ⟨rfl, rfl⟩ := hq
      refine runM_ok rkX9_welder hm noCut 200 _ _ _ _ ?_
      refine And.intro (fun c4 => ?_) (fun c4 => ?_)
      · try simp only [b01_eq, b01_ne, Classical.not_not, upS_row] at c4
        refine And.intro (in_c (c := 3) (by decide) (by grind)) ?_
        refine And.intro (in_c (c := 3) (by decide) (by grind)) ?_
        first | (exfalso; revert c5; decide) | (exfalso; revert c4; decide) | (exfalso; revert c3; decide) | (refine eP ?_; unfold mWelder; (repeat' split) <;> first | rfl | (exfalso; grind))
      · try simp only [b01_eq, b01_ne, Classical.not_not, upS_row] at c4
        first | (exfalso; revert c5; decide) | (exfalso; revert c4; decide) | (exfalso; revert c3; decide) | (refine eP ?_; unfold mWelder; (repeat' split) <;> first | rfl | (exfalso; grind))
  · try simp only [b01_eq, b01_ne, Classical.not_not, upS_row] at c1
    refine qX9_welder_27 hm rfl (c_X9_fails hm) (fun r σ1 hq => ?_)
    obtain ⟨rfl, rfl⟩ := hq
    refine runM_ok rkX9_welder hm noCut 200 _ _ _ _ ?_
    refine And.intro (fun c5 => ?_) (fun c5 => ?_)
    · try simp only [b01_eq, b01_ne, Classical.not_not, upS_row] at c5
      refine And.intro (in_c (c := 3) (by decide) (by grind)) ?_
      refine And.intro (in_c (c := 3) (by decide) (by grind)) ?_
      first | (exfalso; revert c5; decide) | (exfalso; revert c4; decide) | (exfalso; revert c3; decide) | (refine eP ?_; unfold mWelder; (repeat' split) <;> first | rfl | (exfalso; grind))
    · try simp only [b01_eq, b01_ne, Classical.not_not, upS_row] at c5
      first | (exfalso; revert c5; decide) | (exfalso; revert c4; decide) | (exfalso; revert c3; decide) | (refine eP ?_; unfold mWelder; (repeat' split) <;> first | rfl | (exfalso; grind))
set_option maxRecDepth 20000 in
theorem c_X9_draw {w : W0} {m : Nat} {iv : Nat → Nat} {h : AH} {σ : MS} {x : Int32} (hm : MOK m iv h) : CM w yX9_draw mX9_draw m iv h [x] σ (fun r σ' => r = some (mDraw σ x).1 ∧ σ' = (mDraw σ x).2) := by
  refine CM_of mcX9_draw (Nat.le_of_ble_eq_true rfl) ?_
  refine runM_ok rkX9_draw hm noCut 200 _ _ _ _ ?_
  exact ⟨rfl, rfl⟩
set_option maxRecDepth 20000 in
theorem c_X9_blocks {w : W0} {m : Nat} {iv : Nat → Nat} {h : AH} {σ : MS} (hm : MOK m iv h) : CM w yX9_blocks mX9_blocks m iv h [] σ (fun r σ' => r = some (σ.1 8) ∧ σ' = upS σ 34 0) := by
  refine CM_of mcX9_blocks (Nat.le_of_ble_eq_true rfl) ?_
  refine runM_ok rkX9_blocks hm noCut 200 _ _ _ _ ?_
  refine qX9_blocks_5 hm rfl (c_X9_tells hm) (fun r σ1 hq => ?_)
  obtain ⟨rfl, rfl⟩ := hq
  refine runM_ok rkX9_blocks hm noCut 200 _ _ _ _ ?_
  exact ⟨rfl, rfl⟩
set_option maxRecDepth 20000 in
theorem c_X9_welds {w : W0} {m : Nat} {iv : Nat → Nat} {h : AH} {σ : MS} (hm : MOK m iv h) : CM w yX9_welds mX9_welds m iv h [] σ (fun r σ' => r = some (σ.1 18) ∧ σ' = upS σ 34 0) := by
  refine CM_of mcX9_welds (Nat.le_of_ble_eq_true rfl) ?_
  refine runM_ok rkX9_welds hm noCut 200 _ _ _ _ ?_
  refine qX9_welds_5 hm rfl (c_X9_tells hm) (fun r σ1 hq => ?_)
  obtain ⟨rfl, rfl⟩ := hq
  refine runM_ok rkX9_welds hm noCut 200 _ _ _ _ ?_
  exact ⟨rfl, rfl⟩
set_option maxRecDepth 20000 in
theorem c_X9_money {w : W0} {m : Nat} {iv : Nat → Nat} {h : AH} {σ : MS} (hm : MOK m iv h) : CM w yX9_money mX9_money m iv h [] σ (fun r σ' => r = some (σ.1 7) ∧ σ' = upS σ 34 0) := by
  refine CM_of mcX9_money (Nat.le_of_ble_eq_true rfl) ?_
  refine runM_ok rkX9_money hm noCut 200 _ _ _ _ ?_
  refine qX9_money_5 hm rfl (c_X9_tells hm) (fun r σ1 hq => ?_)
  obtain ⟨rfl, rfl⟩ := hq
  refine runM_ok rkX9_money hm noCut 200 _ _ _ _ ?_
  exact ⟨rfl, rfl⟩
set_option maxRecDepth 20000 in
theorem c_X9_moneyAnew {w : W0} {m : Nat} {iv : Nat → Nat} {h : AH} {σ : MS} (hm : MOK m iv h) : CM w yX9_moneyAnew mX9_moneyAnew m iv h [] σ (fun r σ' => r = some (σ.1 7) ∧ σ' = upS σ 34 0) := by
  refine CM_of mcX9_moneyAnew (Nat.le_of_ble_eq_true rfl) ?_
  refine runM_ok rkX9_moneyAnew hm noCut 200 _ _ _ _ ?_
  refine qX9_moneyAnew_5 hm rfl (c_X9_tells hm) (fun r σ1 hq => ?_)
  obtain ⟨rfl, rfl⟩ := hq
  refine runM_ok rkX9_moneyAnew hm noCut 200 _ _ _ _ ?_
  exact ⟨rfl, rfl⟩
set_option maxRecDepth 20000 in
theorem c_X9_isAfloat {w : W0} {m : Nat} {iv : Nat → Nat} {h : AH} {σ : MS} (hm : MOK m iv h) (h6 : σ.1 6 = 0 ∨ σ.1 6 = 1) : CM w yX9_isAfloat mX9_isAfloat m iv h [] σ (fun r σ' => r = some (σ.1 6) ∧ σ' = upS σ 34 0) := by
  refine CM_of mcX9_isAfloat (Nat.le_of_ble_eq_true rfl) ?_
  refine runM_ok rkX9_isAfloat hm noCut 200 _ _ _ _ ?_
  refine And.intro h6 ?_
  exact ⟨rfl, rfl⟩

def mWater (σ : MS) (x : Int32) : Int32 × MS := if 0 ≤ x ∧ x ≤ 1000 then (wIn x, upS σ 34 0) else (0, upS σ 34 1)
set_option maxRecDepth 20000 in
theorem c_X9_water {w : W0} {m : Nat} {iv : Nat → Nat} {h : AH} {σ : MS} {x : Int32} (hm : MOK m iv h) : CM w yX9_water mX9_water m iv h [x] σ (fun r σ' => r = some (mWater σ x).1 ∧ σ' = (mWater σ x).2) := by
  refine CM_of mcX9_water (Nat.le_of_ble_eq_true rfl) ?_
  refine runM_ok rkX9_water hm noCut 200 _ _ _ _ ?_
  refine qX9_water_6 rfl c_X9_isIn ?_
  refine runM_ok rkX9_water hm noCut 200 _ _ _ _ ?_
  refine And.intro (fun c1 => ?_) (fun c1 => ?_)
  · try simp only [b01_eq, b01_ne, Classical.not_not, upS_row] at c1
    refine qX9_water_17 hm rfl (c_X9_fails hm) (fun r σ1 hq => ?_)
    obtain ⟨rfl, rfl⟩ := hq
    refine runM_ok rkX9_water hm noCut 200 _ _ _ _ ?_
    refine And.intro (fun c2 => ?_) (fun c2 => ?_)
    · try simp only [b01_eq, b01_ne, Classical.not_not, upS_row] at c2
      refine qX9_water_28 rfl c_X9_waterIn ?_
      refine runM_ok rkX9_water hm noCut 200 _ _ _ _ ?_
      first | (exfalso; revert c5; decide) | (exfalso; revert c4; decide) | (exfalso; revert c3; decide) | (refine eP ?_; unfold mWater; (repeat' split) <;> first | rfl | (exfalso; grind))
    · try simp only [b01_eq, b01_ne, Classical.not_not, upS_row] at c2
      first | (exfalso; revert c5; decide) | (exfalso; revert c4; decide) | (exfalso; revert c3; decide) | (refine eP ?_; unfold mWater; (repeat' split) <;> first | rfl | (exfalso; grind))
  · try simp only [b01_eq, b01_ne, Classical.not_not, upS_row] at c1
    refine qX9_water_17 hm rfl (c_X9_fails hm) (fun r σ1 hq => ?_)
    obtain ⟨rfl, rfl⟩ := hq
    refine runM_ok rkX9_water hm noCut 200 _ _ _ _ ?_
    refine And.intro (fun c3 => ?_) (fun c3 => ?_)
    · try simp only [b01_eq, b01_ne, Classical.not_not, upS_row] at c3
      refine qX9_water_28 rfl c_X9_waterIn ?_
      refine runM_ok rkX9_water hm noCut 200 _ _ _ _ ?_
      first | (exfalso; revert c5; decide) | (exfalso; revert c4; decide) | (exfalso; revert c3; decide) | (refine eP ?_; unfold mWater; (repeat' split) <;> first | rfl | (exfalso; grind))
    · try simp only [b01_eq, b01_ne, Classical.not_not, upS_row] at c3
      first | (exfalso; revert c5; decide) | (exfalso; revert c4; decide) | (exfalso; revert c3; decide) | (refine eP ?_; unfold mWater; (repeat' split) <;> first | rfl | (exfalso; grind))

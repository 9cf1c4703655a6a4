/-! THE COMPONENT'S SMALL METHODS (any heap) -/
theorem ne0_1 {x : Int32} (h : 1 ≤ x) : ¬ x = 0 := by intro z; rw [z] at h; exact absurd h (by decide)
theorem ne0_0 {x : Int32} (h : 0 < x) : ¬ x = 0 := by intro z; rw [z] at h; exact absurd h (by decide)
set_option maxRecDepth 20000 in
theorem c_X0_frames {w : W0} {κ : AH} {b : Nat} (hb : gT κ b = 1) : CY w yX0_frames mX0_frames [.ref b] κ (fun v κ' => v = some (.int (gI κ b 2 - gI κ b 1 + 1)) ∧ κ' = κ) := by
  refine CY_of mcX0_frames (Nat.le_of_ble_eq_true rfl) (cat1 rfl) (fun θ0 => ?_)
  refine runY_ok rkX0_frames noCut 200 _ _ _ _ _ _ ?_
  refine And.intro (by assumption) ?_
  refine And.intro (by assumption) ?_
  refine And.intro ⟨Nat.le_of_ble_eq_true rfl, Nat.le_of_ble_eq_true rfl⟩ ?_
  exact ⟨rfl, rfl⟩
set_option maxRecDepth 20000 in
theorem c_X0_end {w : W0} {κ : AH} {b : Nat} (hb : gT κ b = 1) : CY w yX0_end mX0_end [.ref b] κ (fun v κ' => v = some (.int (gI κ b 7 + gI κ b 6)) ∧ κ' = κ) := by
  refine CY_of mcX0_end (Nat.le_of_ble_eq_true rfl) (cat1 rfl) (fun θ0 => ?_)
  refine runY_ok rkX0_end noCut 200 _ _ _ _ _ _ ?_
  refine And.intro (by assumption) ?_
  refine And.intro (by assumption) ?_
  refine And.intro ⟨Nat.le_of_ble_eq_true rfl, Nat.le_of_ble_eq_true rfl⟩ ?_
  exact ⟨rfl, rfl⟩
def tnA (n f l t x : Int32) : Int32 := if n < 1 then 0 else if x = f then t / n + (t - t / n * n) else t / n
set_option maxRecDepth 20000 in
theorem c_X0_tonsAt {w : W0} {κ : AH} {x : Int32} {b : Nat} (hb : gT κ b = 1) : CY w yX0_tonsAt mX0_tonsAt [.ref b, .int x] κ (fun v κ' => v = some (.int (tnA (gI κ b 2 - gI κ b 1 + 1) (gI κ b 1) (gI κ b 2) (gI κ b 4) x)) ∧ κ' = κ) := by
  refine CY_of mcX0_tonsAt (Nat.le_of_ble_eq_true rfl) (cat1 rfl) (fun θ0 => ?_)
  have K39 : ∀ x2 x3 r : Int32, r = tnA (gI κ b 2 - gI κ b 1 + 1) (gI κ b 1) (gI κ b 2) (gI κ b 4) x → Y w mX0_tonsAt θ0 κ (fun v κ' => v = some (.int (tnA (gI κ b 2 - gI κ b 1 + 1) (gI κ b 1) (gI κ b 2) (gI κ b 4) x)) ∧ κ' = κ) (fun _ _ => False) 0 0 39 [some (.ref b), some (.int x), some (.int x2), some (.int x3)] [.int r] κ := by
    intro x2 x3 r hr
    refine runY_go rkX0_tonsAt (fun p => Nat.beq p 39) 200 rfl ?_
    refine And.intro ⟨Nat.le_of_ble_eq_true rfl, Nat.le_of_ble_eq_true rfl⟩ ?_
    exact ⟨by rw [hr], rfl⟩
  refine runY_ok rkX0_tonsAt (fun p => Nat.beq p 39) 200 _ _ _ _ _ _ ?_
  refine pX0_tonsAt_1 rfl rfl rfl (by assumption) (c_X0_frames hb) (fun v κ1 hq1 ho1 hk1 => ?_)
  obtain ⟨rfl, ehq1⟩ := hq1
  rw [ehq1]
  refine runY_ok rkX0_tonsAt (fun p => Nat.beq p 39) 200 _ _ _ _ _ _ ?_
  refine And.intro (fun c2 => ?_) (fun c2 => ?_)
  · try simp only [b01_eq, b01_ne, Classical.not_not] at c2
    refine And.intro (by assumption) ?_
    refine And.intro (ne0_1 (by assumption)) ?_
    refine And.intro (by assumption) ?_
    refine And.intro (fun c3 => ?_) (fun c3 => ?_)
    · try simp only [b01_eq, b01_ne, Classical.not_not] at c3
      exact K39 _ _ _ (by unfold tnA; grind)
    · try simp only [b01_eq, b01_ne, Classical.not_not] at c3
      refine And.intro (by assumption) ?_
      refine And.intro (ne0_1 (by assumption)) ?_
      exact K39 _ _ _ (by unfold tnA; grind)
  · try simp only [b01_eq, b01_ne, Classical.not_not] at c2
    refine And.intro ⟨Nat.le_of_ble_eq_true rfl, Nat.le_of_ble_eq_true rfl⟩ ?_
    refine ⟨?_, rfl⟩; unfold tnA; rw [if_pos (by grind)]
def fcB (κ : AH) (b : Nat) (i : Int32) : Int32 := if i = 0 then gI κ b 8 else if i = 1 then gI κ b 1 else if i = 2 then gI κ b 2 else if i = 3 then gI κ b 3 else if i = 4 then gI κ b 4 else if i = 5 then gI κ b 6 else if i = 6 then gI κ b 5 else if gI κ b 8 = 2 then gI κ b 7 else -1
set_option maxRecDepth 20000 in
theorem c_X0_fact {w : W0} {κ : AH} {i : Int32} {b : Nat} (hb : gT κ b = 1) : CY w yX0_fact mX0_fact [.ref b, .int i] κ (fun v κ' => v = some (.int (fcB κ b i)) ∧ κ' = κ) := by
  refine CY_of mcX0_fact (Nat.le_of_ble_eq_true rfl) (cat1 rfl) (fun θ0 => ?_)
  have K95 : ∀ r : Int32, r = fcB κ b i → Y w mX0_fact θ0 κ (fun v κ' => v = some (.int (fcB κ b i)) ∧ κ' = κ) (fun _ _ => False) 0 0 95 [some (.ref b), some (.int i)] [.int r] κ := by
    intro r hr
    refine runY_go rkX0_fact (fun p => Nat.beq p 95) 200 rfl ?_
    refine And.intro ⟨Nat.le_of_ble_eq_true rfl, Nat.le_of_ble_eq_true rfl⟩ ?_
    first | exact ⟨by rw [hr], rfl⟩ | (subst e; exact ⟨rfl, rfl⟩)
  refine runY_ok rkX0_fact (fun p => Nat.beq p 95) 200 _ _ _ _ _ _ ?_
  refine pX0_fact_1 (fun e => ?_) (fun e => ?_) (fun e => ?_) (fun e => ?_) (fun e => ?_) (fun e => ?_) (fun e => ?_) (fun e => ?_)
  · skip
    refine runY_ok rkX0_fact (fun p => Nat.beq p 95) 200 _ _ _ _ _ _ ?_
    refine And.intro (by assumption) ?_
    refine And.intro ⟨Nat.le_of_ble_eq_true rfl, Nat.le_of_ble_eq_true rfl⟩ ?_
    first | exact ⟨by rw [hr], rfl⟩ | (subst e; exact ⟨rfl, rfl⟩)
  · skip
    refine runY_ok rkX0_fact (fun p => Nat.beq p 95) 200 _ _ _ _ _ _ ?_
    refine And.intro (by assumption) ?_
    refine And.intro ⟨Nat.le_of_ble_eq_true rfl, Nat.le_of_ble_eq_true rfl⟩ ?_
    first | exact ⟨by rw [hr], rfl⟩ | (subst e; exact ⟨rfl, rfl⟩)
  · skip
    refine runY_ok rkX0_fact (fun p => Nat.beq p 95) 200 _ _ _ _ _ _ ?_
    refine And.intro (by assumption) ?_
    refine And.intro ⟨Nat.le_of_ble_eq_true rfl, Nat.le_of_ble_eq_true rfl⟩ ?_
    first | exact ⟨by rw [hr], rfl⟩ | (subst e; exact ⟨rfl, rfl⟩)
  · skip
    refine runY_ok rkX0_fact (fun p => Nat.beq p 95) 200 _ _ _ _ _ _ ?_
    refine And.intro (by assumption) ?_
    refine And.intro ⟨Nat.le_of_ble_eq_true rfl, Nat.le_of_ble_eq_true rfl⟩ ?_
    first | exact ⟨by rw [hr], rfl⟩ | (subst e; exact ⟨rfl, rfl⟩)
  · skip
    refine runY_ok rkX0_fact (fun p => Nat.beq p 95) 200 _ _ _ _ _ _ ?_
    refine And.intro (by assumption) ?_
    refine And.intro ⟨Nat.le_of_ble_eq_true rfl, Nat.le_of_ble_eq_true rfl⟩ ?_
    first | exact ⟨by rw [hr], rfl⟩ | (subst e; exact ⟨rfl, rfl⟩)
  · skip
    refine runY_ok rkX0_fact (fun p => Nat.beq p 95) 200 _ _ _ _ _ _ ?_
    refine And.intro (by assumption) ?_
    refine And.intro ⟨Nat.le_of_ble_eq_true rfl, Nat.le_of_ble_eq_true rfl⟩ ?_
    first | exact ⟨by rw [hr], rfl⟩ | (subst e; exact ⟨rfl, rfl⟩)
  · skip
    refine runY_ok rkX0_fact (fun p => Nat.beq p 95) 200 _ _ _ _ _ _ ?_
    refine And.intro (by assumption) ?_
    refine And.intro ⟨Nat.le_of_ble_eq_true rfl, Nat.le_of_ble_eq_true rfl⟩ ?_
    first | exact ⟨by rw [hr], rfl⟩ | (subst e; exact ⟨rfl, rfl⟩)
  · skip
    refine runY_ok rkX0_fact (fun p => Nat.beq p 95) 200 _ _ _ _ _ _ ?_
    refine And.intro (by assumption) ?_
    refine And.intro (fun c1 => ?_) (fun c1 => ?_)
    · try simp only [b01_eq, b01_ne, Classical.not_not] at c1
      exact K95 _ (by unfold fcB; grind)
    · try simp only [b01_eq, b01_ne, Classical.not_not] at c1
      refine And.intro (by assumption) ?_
      exact K95 _ (by unfold fcB; grind)
set_option maxRecDepth 20000 in
theorem c_X4_frame {w : W0} {κ : AH} {b : Nat} (hb : gT κ b = 5) : CY w yX4_frame mX4_frame [.ref b] κ (fun v κ' => v = some (.int (gI κ b 0 - gI κ b 0 / 12 * 12)) ∧ κ' = κ) := by
  refine CY_of mcX4_frame (Nat.le_of_ble_eq_true rfl) (cat1 rfl) (fun θ0 => ?_)
  refine runY_ok rkX4_frame noCut 200 _ _ _ _ _ _ ?_
  refine And.intro (by assumption) ?_
  refine And.intro (by decide) ?_
  refine And.intro ⟨Nat.le_of_ble_eq_true rfl, Nat.le_of_ble_eq_true rfl⟩ ?_
  exact ⟨rfl, rfl⟩
set_option maxRecDepth 20000 in
theorem c_X4_hasAllPipes {w : W0} {κ : AH} {b : Nat} (hb : gT κ b = 5) : CY w yX4_hasAllPipes mX4_hasAllPipes [.ref b] κ (fun v κ' => v = some (.int (if 3 ≤ gI κ b 4 then 1 else 0)) ∧ κ' = κ) := by
  refine CY_of mcX4_hasAllPipes (Nat.le_of_ble_eq_true rfl) (cat1 rfl) (fun θ0 => ?_)
  have K13 : ∀ r : Int32, r = (if 3 ≤ gI κ b 4 then 1 else 0) → Y w mX4_hasAllPipes θ0 κ (fun v κ' => v = some (.int (if 3 ≤ gI κ b 4 then 1 else 0)) ∧ κ' = κ) (fun _ _ => False) 0 0 13 [some (.ref b)] [.int r] κ := by
    intro r hr
    refine runY_go rkX4_hasAllPipes (fun p => Nat.beq p 13) 200 rfl ?_
    refine And.intro ⟨Nat.le_of_ble_eq_true rfl, Nat.le_of_ble_eq_true rfl⟩ ?_
    refine And.intro (by rw [hr]; split <;> simp) ?_
    exact ⟨by rw [hr], rfl⟩
  refine runY_ok rkX4_hasAllPipes (fun p => Nat.beq p 13) 200 _ _ _ _ _ _ ?_
  refine And.intro (by assumption) ?_
  refine And.intro (fun c1 => ?_) (fun c1 => ?_)
  · try simp only [b01_eq, b01_ne, Classical.not_not] at c1
    exact K13 _ (by grind)
  · try simp only [b01_eq, b01_ne, Classical.not_not] at c1
    exact K13 _ (by grind)
set_option maxRecDepth 20000 in
theorem c_X4_spoil {w : W0} {κ : AH} {b : Nat} (hb : gT κ b = 5) : CY w yX4_spoil mX4_spoil [.ref b] κ (fun v κ' => v = some (.int (if gI κ b 2 = 0 then 0 else 1)) ∧ κ' = sI κ b 2 0) := by
  refine CY_of mcX4_spoil (Nat.le_of_ble_eq_true rfl) (cat1 rfl) (fun θ0 => ?_)
  have K12 : ∀ r : Int32, r = (if gI κ b 2 = 0 then 0 else 1) → Y w mX4_spoil θ0 κ (fun v κ' => v = some (.int (if gI κ b 2 = 0 then 0 else 1)) ∧ κ' = sI κ b 2 0) (fun _ _ => False) 0 0 12 [some (.ref b), none] [.int r] κ := by
    intro r hr
    refine runY_go rkX4_spoil (fun p => Nat.beq p 12) 200 rfl ?_
    refine And.intro ⟨(by assumption), (by decide)⟩ ?_
    refine And.intro ⟨Nat.le_of_ble_eq_true rfl, Nat.le_of_ble_eq_true rfl⟩ ?_
    exact ⟨by rw [hr], rfl⟩
  refine runY_ok rkX4_spoil (fun p => Nat.beq p 12) 200 _ _ _ _ _ _ ?_
  refine And.intro (by assumption) ?_
  refine And.intro (fun c1 => ?_) (fun c1 => ?_)
  · try simp only [b01_eq, b01_ne, Classical.not_not] at c1
    exact K12 _ (by grind)
  · try simp only [b01_eq, b01_ne, Classical.not_not] at c1
    exact K12 _ (by grind)
def fcR (κ : AH) (b bl : Nat) (i : Int32) : Int32 := if i = 0 then gI κ bl 0 else if i = 1 then (if gI κ b 2 = 0 then 0 else 1) else if i = 2 then gI κ b 3 else if i = 3 then gI κ b 4 else gI κ b 5
set_option maxRecDepth 20000 in
theorem c_X4_fact {w : W0} {κ : AH} {b bl : Nat} {i : Int32} (hb : gT κ b = 5) (hbl : gT κ bl = 1) (hr1 : gR κ b 1 = some bl) : CY w yX4_fact mX4_fact [.ref b, .int i] κ (fun v κ' => v = some (.int (fcR κ b bl i)) ∧ κ' = κ) := by
  refine CY_of mcX4_fact (Nat.le_of_ble_eq_true rfl) (cat1 rfl) (fun θ0 => ?_)
  have K52 : ∀ r : Int32, r = fcR κ b bl i → Y w mX4_fact θ0 κ (fun v κ' => v = some (.int (fcR κ b bl i)) ∧ κ' = κ) (fun _ _ => False) 0 0 52 [some (.ref b), some (.int i)] [.int r] κ := by
    intro r hr
    refine runY_go rkX4_fact (fun p => Nat.beq p 52) 200 rfl ?_
    refine And.intro ⟨Nat.le_of_ble_eq_true rfl, Nat.le_of_ble_eq_true rfl⟩ ?_
    first | exact ⟨by rw [hr], rfl⟩ | (subst e; exact ⟨rfl, rfl⟩) | (refine ⟨?_, rfl⟩; unfold fcR; grind)
  refine runY_ok rkX4_fact (fun p => Nat.beq p 52) 200 _ _ _ _ _ _ ?_
  refine pX4_fact_1 (fun e => ?_) (fun e => ?_) (fun e => ?_) (fun e => ?_) (fun e => ?_)
  · skip
    refine runY_ok rkX4_fact (fun p => Nat.beq p 52) 200 _ _ _ _ _ _ ?_
    refine And.intro (by assumption) ⟨some bl, hr1, ?_⟩
    refine And.intro (by assumption) ?_
    refine And.intro ⟨Nat.le_of_ble_eq_true rfl, Nat.le_of_ble_eq_true rfl⟩ ?_
    first | exact ⟨by rw [hr], rfl⟩ | (subst e; exact ⟨rfl, rfl⟩) | (refine ⟨?_, rfl⟩; unfold fcR; grind)
  · skip
    refine runY_ok rkX4_fact (fun p => Nat.beq p 52) 200 _ _ _ _ _ _ ?_
    refine And.intro (by assumption) ?_
    refine And.intro (fun c1 => ?_) (fun c1 => ?_)
    · try simp only [b01_eq, b01_ne, Classical.not_not] at c1
      exact K52 _ (by unfold fcR; grind)
    · try simp only [b01_eq, b01_ne, Classical.not_not] at c1
      exact K52 _ (by unfold fcR; grind)
  · skip
    refine runY_ok rkX4_fact (fun p => Nat.beq p 52) 200 _ _ _ _ _ _ ?_
    refine And.intro (by assumption) ?_
    refine And.intro ⟨Nat.le_of_ble_eq_true rfl, Nat.le_of_ble_eq_true rfl⟩ ?_
    first | exact ⟨by rw [hr], rfl⟩ | (subst e; exact ⟨rfl, rfl⟩) | (refine ⟨?_, rfl⟩; unfold fcR; grind)
  · skip
    refine runY_ok rkX4_fact (fun p => Nat.beq p 52) 200 _ _ _ _ _ _ ?_
    refine And.intro (by assumption) ?_
    refine And.intro ⟨Nat.le_of_ble_eq_true rfl, Nat.le_of_ble_eq_true rfl⟩ ?_
    first | exact ⟨by rw [hr], rfl⟩ | (subst e; exact ⟨rfl, rfl⟩) | (refine ⟨?_, rfl⟩; unfold fcR; grind)
  · skip
    refine runY_ok rkX4_fact (fun p => Nat.beq p 52) 200 _ _ _ _ _ _ ?_
    refine And.intro (by assumption) ?_
    refine And.intro ⟨Nat.le_of_ble_eq_true rfl, Nat.le_of_ble_eq_true rfl⟩ ?_
    first | exact ⟨by rw [hr], rfl⟩ | (subst e; exact ⟨rfl, rfl⟩) | (refine ⟨?_, rfl⟩; unfold fcR; grind)
def blc (t m : Int32) : Int32 := if 0 < t then 50 * m / t else 0
set_option maxRecDepth 20000 in
theorem c_X1_load {w : W0} {κ : AH} {x y : Int32} {b : Nat} (hb : gT κ b = 2) : CY w yX1_load mX1_load [.ref b, .int x, .int y] κ (fun v κ' => v = none ∧ κ' = sI (sI κ b 1 (gI κ b 1 + x)) b 2 (gI κ b 2 + x * y)) := by
  refine CY_of mcX1_load (Nat.le_of_ble_eq_true rfl) (cat1 rfl) (fun θ0 => ?_)
  refine runY_ok rkX1_load noCut 200 _ _ _ _ _ _ ?_
  refine And.intro (by assumption) ?_
  refine And.intro (by assumption) ?_
  refine And.intro (by assumption) ?_
  refine And.intro (by assumption) ?_
  refine And.intro ⟨Nat.le_of_ble_eq_true rfl, Nat.le_of_ble_eq_true rfl⟩ ?_
  exact ⟨rfl, by simp [gI_sI]⟩
set_option maxRecDepth 20000 in
theorem c_X1_balance {w : W0} {κ : AH} {b : Nat} (hb : gT κ b = 2) : CY w yX1_balance mX1_balance [.ref b] κ (fun v κ' => v = some (.int (blc (gI κ b 1) (gI κ b 2))) ∧ κ' = κ) := by
  refine CY_of mcX1_balance (Nat.le_of_ble_eq_true rfl) (cat1 rfl) (fun θ0 => ?_)
  have K23 : ∀ r : Int32, r = blc (gI κ b 1) (gI κ b 2) → Y w mX1_balance θ0 κ (fun v κ' => v = some (.int (blc (gI κ b 1) (gI κ b 2))) ∧ κ' = κ) (fun _ _ => False) 0 0 23 [some (.ref b)] [.int r] κ := by
    intro r hr
    refine runY_go rkX1_balance (fun p => Nat.beq p 23) 200 rfl ?_
    refine And.intro ⟨Nat.le_of_ble_eq_true rfl, Nat.le_of_ble_eq_true rfl⟩ ?_
    exact ⟨by rw [hr], rfl⟩
  refine runY_ok rkX1_balance (fun p => Nat.beq p 23) 200 _ _ _ _ _ _ ?_
  refine And.intro (by assumption) ?_
  refine And.intro (fun c1 => ?_) (fun c1 => ?_)
  · try simp only [b01_eq, b01_ne, Classical.not_not] at c1
    refine And.intro (by assumption) ?_
    refine And.intro (by assumption) ?_
    refine And.intro (ne0_0 (by assumption)) ?_
    exact K23 _ (by unfold blc; grind)
  · try simp only [b01_eq, b01_ne, Classical.not_not] at c1
    exact K23 _ (by unfold blc; grind)
def dpt (t m z : Int32) : Int32 := if z = 0 then t / 2 - (blc t m - 550) * t / 1000 else t / 2 + (blc t m - 550) * t / 1000
set_option maxRecDepth 20000 in
theorem c_X1_depth {w : W0} {κ : AH} {z : Int32} {b : Nat} (hb : gT κ b = 2) : CY w yX1_depth mX1_depth [.ref b, .int z] κ (fun v κ' => v = some (.int (dpt (gI κ b 1) (gI κ b 2) z)) ∧ κ' = κ) := by
  refine CY_of mcX1_depth (Nat.le_of_ble_eq_true rfl) (cat1 rfl) (fun θ0 => ?_)
  have K38 : ∀ x2 x3 r : Int32, r = dpt (gI κ b 1) (gI κ b 2) z → Y w mX1_depth θ0 κ (fun v κ' => v = some (.int (dpt (gI κ b 1) (gI κ b 2) z)) ∧ κ' = κ) (fun _ _ => False) 0 0 38 [some (.ref b), some (.int z), some (.int x2), some (.int x3)] [.int r] κ := by
    intro x2 x3 r hr
    refine runY_go rkX1_depth (fun p => Nat.beq p 38) 200 rfl ?_
    refine And.intro ⟨Nat.le_of_ble_eq_true rfl, Nat.le_of_ble_eq_true rfl⟩ ?_
    exact ⟨by rw [hr], rfl⟩
  refine runY_ok rkX1_depth (fun p => Nat.beq p 38) 200 _ _ _ _ _ _ ?_
  refine And.intro (by assumption) ?_
  refine And.intro (by decide) ?_
  refine pX1_depth_8 rfl rfl rfl (by assumption) (c_X1_balance hb) (fun v κ1 hq1 ho1 hk1 => ?_)
  obtain ⟨rfl, ehq1⟩ := hq1
  rw [ehq1]
  refine runY_ok rkX1_depth (fun p => Nat.beq p 38) 200 _ _ _ _ _ _ ?_
  refine And.intro (by assumption) ?_
  refine And.intro (by decide) ?_
  refine And.intro (fun c2 => ?_) (fun c2 => ?_)
  · try simp only [b01_eq, b01_ne, Classical.not_not] at c2
    exact K38 _ _ _ (by unfold dpt; grind)
  · try simp only [b01_eq, b01_ne, Classical.not_not] at c2
    exact K38 _ _ _ (by unfold dpt; grind)
def gdp (t m : Int32) : Int32 := if dpt t m 1 < dpt t m 0 then dpt t m 0 else dpt t m 1
set_option maxRecDepth 20000 in
theorem c_X1_greaterDepth {w : W0} {κ : AH} {b : Nat} (hb : gT κ b = 2) : CY w yX1_greaterDepth mX1_greaterDepth [.ref b] κ (fun v κ' => v = some (.int (gdp (gI κ b 1) (gI κ b 2))) ∧ κ' = κ) := by
  refine CY_of mcX1_greaterDepth (Nat.le_of_ble_eq_true rfl) (cat1 rfl) (fun θ0 => ?_)
  refine runY_ok rkX1_greaterDepth noCut 200 _ _ _ _ _ _ ?_
  refine pX1_greaterDepth_2 rfl rfl rfl (by assumption) (c_X1_depth hb) (fun v κ1 hq1 ho1 hk1 => ?_)
  obtain ⟨rfl, ehq1⟩ := hq1
  rw [ehq1]
  refine runY_ok rkX1_greaterDepth noCut 200 _ _ _ _ _ _ ?_
  refine pX1_greaterDepth_7 rfl rfl rfl (by assumption) (c_X1_depth hb) (fun v κ1 hq2 ho2 hk2 => ?_)
  obtain ⟨rfl, ehq2⟩ := hq2
  rw [ehq2]
  refine runY_ok rkX1_greaterDepth noCut 200 _ _ _ _ _ _ ?_
  refine pX1_greaterDepth_10 rfl rfl rfl ?_
  refine runY_ok rkX1_greaterDepth noCut 200 _ _ _ _ _ _ ?_
  refine And.intro ⟨Nat.le_of_ble_eq_true rfl, Nat.le_of_ble_eq_true rfl⟩ ?_
  exact ⟨rfl, rfl⟩
def clO (f l : Int32) : Int32 := if (0 ≤ f ∧ f < 12) ∧ (0 ≤ l ∧ l < 3) then 12 * l + f else -1
set_option maxRecDepth 20000 in
theorem c_X8_cellOf {w : W0} {κ : AH} {f l : Int32} : CY w yX8_cellOf mX8_cellOf [.int f, .int l] κ (fun v κ' => v = some (.int (clO f l)) ∧ κ' = κ) := by
  refine CY_of mcX8_cellOf (Nat.le_of_ble_eq_true rfl) (cat1 rfl) (fun θ0 => ?_)
  have K39 : ∀ x2 r : Int32, r = clO f l → Y w mX8_cellOf θ0 κ (fun v κ' => v = some (.int (clO f l)) ∧ κ' = κ) (fun _ _ => False) 0 0 39 [some (.int f), some (.int l), some (.int x2)] [.int r] κ := by
    intro x2 r hr
    refine runY_go rkX8_cellOf (fun p => Nat.beq p 24 || Nat.beq p 39) 200 rfl ?_
    refine And.intro ⟨Nat.le_of_ble_eq_true rfl, Nat.le_of_ble_eq_true rfl⟩ ?_
    exact ⟨by rw [hr], rfl⟩
  have K24 : ∀ r : Int32, r = (if (0 ≤ f ∧ f < 12) ∧ (0 ≤ l ∧ l < 3) then 1 else 0) → Y w mX8_cellOf θ0 κ (fun v κ' => v = some (.int (clO f l)) ∧ κ' = κ) (fun _ _ => False) 0 0 24 [some (.int f), some (.int l), none] [.int r] κ := by
    intro r hr
    refine runY_go rkX8_cellOf (fun p => Nat.beq p 24 || Nat.beq p 39) 200 rfl ?_
    refine And.intro (fun c1 => ?_) (fun c1 => ?_)
    · try simp only [b01_eq, b01_ne, Classical.not_not] at c1
      exact K39 _ _ (by unfold clO; grind)
    · try simp only [b01_eq, b01_ne, Classical.not_not] at c1
      exact K39 _ _ (by unfold clO; grind)
  refine runY_ok rkX8_cellOf (fun p => Nat.beq p 24 || Nat.beq p 39) 200 _ _ _ _ _ _ ?_
  refine And.intro (fun c2 => ?_) (fun c2 => ?_)
  · try simp only [b01_eq, b01_ne, Classical.not_not] at c2
    exact K24 _ (by grind)
  · try simp only [b01_eq, b01_ne, Classical.not_not] at c2
    refine And.intro (fun c3 => ?_) (fun c3 => ?_)
    · try simp only [b01_eq, b01_ne, Classical.not_not] at c3
      exact K24 _ (by grind)
    · try simp only [b01_eq, b01_ne, Classical.not_not] at c3
      refine And.intro (fun c4 => ?_) (fun c4 => ?_)
      · try simp only [b01_eq, b01_ne, Classical.not_not] at c4
        exact K24 _ (by grind)
      · try simp only [b01_eq, b01_ne, Classical.not_not] at c4
        refine And.intro (fun c5 => ?_) (fun c5 => ?_)
        · try simp only [b01_eq, b01_ne, Classical.not_not] at c5
          exact K24 _ (by grind)
        · try simp only [b01_eq, b01_ne, Classical.not_not] at c5
          exact K24 _ (by grind)
abbrev has4 (y : Int32) : Prop := 0 ≤ y ∧ y < 4
set_option maxRecDepth 20000 in
theorem c_X7_has {w : W0} {κ : AH} {b fl : Nat} {y : Int32} (hb : gT κ b = 8) (hfl : gT κ fl = 11) (hn : gN κ fl = 4) (hr0 : gR κ b 0 = some fl) : CY w yX7_has mX7_has [.ref b, .int y] κ (fun v κ' => v = some (.int (if has4 y then 1 else 0)) ∧ κ' = κ) := by
  refine CY_of mcX7_has (Nat.le_of_ble_eq_true rfl) (cat1 rfl) (fun θ0 => ?_)
  have K18 : ∀ r : Int32, r = (if has4 y then 1 else 0) → Y w mX7_has θ0 κ (fun v κ' => v = some (.int (if has4 y then 1 else 0)) ∧ κ' = κ) (fun _ _ => False) 0 0 18 [some (.ref b), some (.int y)] [.int r] κ := by
    intro r hr
    refine runY_go rkX7_has (fun p => Nat.beq p 17 || Nat.beq p 18) 200 rfl ?_
    refine And.intro ⟨Nat.le_of_ble_eq_true rfl, Nat.le_of_ble_eq_true rfl⟩ ?_
    refine And.intro (by rw [hr]; split <;> simp) ?_
    exact ⟨by rw [hr], rfl⟩
  have K17 : ¬ has4 y → Y w mX7_has θ0 κ (fun v κ' => v = some (.int (if has4 y then 1 else 0)) ∧ κ' = κ) (fun _ _ => False) 0 0 17 [some (.ref b), some (.int y)] [] κ := by
    intro hn4
    refine runY_go rkX7_has (fun p => Nat.beq p 17 || Nat.beq p 18) 200 rfl ?_
    exact K18 _ (by have e4 : Int32.ofNat 4 = 4 := rfl; grind)
  refine runY_ok rkX7_has (fun p => Nat.beq p 17 || Nat.beq p 18) 200 _ _ _ _ _ _ ?_
  refine And.intro (fun c1 => ?_) (fun c1 => ?_)
  · try simp only [b01_eq, b01_ne, Classical.not_not] at c1
    exact K17 (fun z => by have e4 : Int32.ofNat 4 = 4 := rfl; grind)
  · try simp only [b01_eq, b01_ne, Classical.not_not] at c1
    refine And.intro (by assumption) ⟨some fl, hr0, ?_⟩
    refine And.intro (by rw [hfl]; decide) ?_
    refine And.intro (fun c2 => ?_) (fun c2 => ?_)
    · rw [hn] at c2; try simp only [b01_eq, b01_ne, Classical.not_not] at c2
      exact K17 (fun z => by have e4 : Int32.ofNat 4 = 4 := rfl; grind)
    · rw [hn] at c2; try simp only [b01_eq, b01_ne, Classical.not_not] at c2
      exact K18 _ (by have e4 : Int32.ofNat 4 = 4 := rfl; grind)


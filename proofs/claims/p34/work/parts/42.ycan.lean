/-! THE COMPONENT'S PUBLIC METHODS, 11: canJoin -/
set_option maxRecDepth 20000 in
theorem c_X8_canJoin {w : W0} {κ : AH} {x y : Int32} {σ : MS} (hG : SG κ) (hN : hNm κ σ) (ha : pB κ σ x.toNatClampNeg) (hb : pB κ σ y.toNatClampNeg) : CY w yX8_canJoin mX8_canJoin [.ref (tS 4), .ref (tB x.toNatClampNeg), .ref (tB y.toNatClampNeg)] κ (fun v κ' => v = some (.int (if cJoin σ x y then 1 else 0)) ∧ κ' = κ) := by
  obtain ⟨p, p0, p1, p2, p3, p4, p5, p6, p7, p8, p9⟩ := ha
  obtain ⟨q, q0, q1, q2, q3, q4, q5, q6, q7, q8, q9⟩ := hb
  have n0 := hN.2.1.1
  have n1 := hN.2.1.2.1
  refine CY_of mcX8_canJoin (Nat.le_of_ble_eq_true rfl) (cat1 rfl) (fun θ0 => ?_)
  have K71 : ∀ r : Int32, r = (if cJoin σ x y then 1 else 0) → Y w mX8_canJoin θ0 κ (fun v κ' => v = some (.int (if cJoin σ x y then 1 else 0)) ∧ κ' = κ) (fun _ _ => False) 0 0 71 [some (.ref (tS 4)), some (.ref (tB x.toNatClampNeg)), some (.ref (tB y.toNatClampNeg))] [.int r] κ := by
    intro r hr
    refine runY_go rkX8_canJoin (fun p => Nat.beq p 70 || Nat.beq p 71) 200 rfl ?_
    refine And.intro ⟨Nat.le_of_ble_eq_true rfl, Nat.le_of_ble_eq_true rfl⟩ ?_
    refine And.intro (by rw [hr]; split <;> simp) ?_
    exact ⟨by rw [hr], rfl⟩
  have K70 : ¬ cJoin σ x y → Y w mX8_canJoin θ0 κ (fun v κ' => v = some (.int (if cJoin σ x y then 1 else 0)) ∧ κ' = κ) (fun _ _ => False) 0 0 70 [some (.ref (tS 4)), some (.ref (tB x.toNatClampNeg)), some (.ref (tB y.toNatClampNeg))] [] κ := by
    intro h0
    have hr : (0 : Int32) = if cJoin σ x y then 1 else 0 := by rw [if_neg h0]
    refine runY_go rkX8_canJoin (fun p => Nat.beq p 70 || Nat.beq p 71) 200 rfl ?_
    exact K71 _ (by first | exact hr | (rw [if_pos]; unfold cJoin; grind))
  refine runY_ok rkX8_canJoin (fun p => Nat.beq p 70 || Nat.beq p 71) 200 _ _ _ _ _ _ ?_
  refine And.intro p ?_
  refine And.intro (fun c1 => ?_) (fun c1 => ?_)
  · try simp only [p1, p2, p3, p4, p8, q1, q2, q3, q4, q8, n0, n1, b01_eq, b01_ne, Classical.not_not] at c1
    exact K70 (by unfold cJoin; grind)
  · try simp only [p1, p2, p3, p4, p8, q1, q2, q3, q4, q8, n0, n1, b01_eq, b01_ne, Classical.not_not] at c1
    refine And.intro q ?_
    refine And.intro (fun c2 => ?_) (fun c2 => ?_)
    · try simp only [p1, p2, p3, p4, p8, q1, q2, q3, q4, q8, n0, n1, b01_eq, b01_ne, Classical.not_not] at c2
      exact K70 (by unfold cJoin; grind)
    · try simp only [p1, p2, p3, p4, p8, q1, q2, q3, q4, q8, n0, n1, b01_eq, b01_ne, Classical.not_not] at c2
      refine And.intro p ?_
      refine And.intro q ?_
      refine And.intro (fun c3 => ?_) (fun c3 => ?_)
      · try simp only [p1, p2, p3, p4, p8, q1, q2, q3, q4, q8, n0, n1, b01_eq, b01_ne, Classical.not_not] at c3
        exact K70 (by unfold cJoin; grind)
      · try simp only [p1, p2, p3, p4, p8, q1, q2, q3, q4, q8, n0, n1, b01_eq, b01_ne, Classical.not_not] at c3
        refine And.intro q ?_
        refine And.intro p ?_
        refine And.intro (fun c4 => ?_) (fun c4 => ?_)
        · try simp only [p1, p2, p3, p4, p8, q1, q2, q3, q4, q8, n0, n1, b01_eq, b01_ne, Classical.not_not] at c4
          exact K70 (by unfold cJoin; grind)
        · try simp only [p1, p2, p3, p4, p8, q1, q2, q3, q4, q8, n0, n1, b01_eq, b01_ne, Classical.not_not] at c4
          refine pX8_canJoin_39 rfl rfl rfl p (show CY w yX0_frames mX0_frames [.ref (tB x.toNatClampNeg)] κ (fun v κ' => v = some (.int (σ.2 11 x.toNatClampNeg - σ.2 10 x.toNatClampNeg + 1)) ∧ κ' = κ) from by have h9 := c_X0_frames (w := w) p; rw [p1, p2] at h9; exact h9) (fun v κ1 hq5 ho5 hk5 => ?_)
          obtain ⟨rfl, ehq5⟩ := hq5
          rw [ehq5]
          refine runY_ok rkX8_canJoin (fun p => Nat.beq p 70 || Nat.beq p 71) 200 _ _ _ _ _ _ ?_
          refine pX8_canJoin_43 rfl rfl rfl q (show CY w yX0_frames mX0_frames [.ref (tB y.toNatClampNeg)] κ (fun v κ' => v = some (.int (σ.2 11 y.toNatClampNeg - σ.2 10 y.toNatClampNeg + 1)) ∧ κ' = κ) from by have h9 := c_X0_frames (w := w) q; rw [q1, q2] at h9; exact h9) (fun v κ1 hq6 ho6 hk6 => ?_)
          obtain ⟨rfl, ehq6⟩ := hq6
          rw [ehq6]
          refine runY_ok rkX8_canJoin (fun p => Nat.beq p 70 || Nat.beq p 71) 200 _ _ _ _ _ _ ?_
          refine And.intro hG.t4 ?_
          refine And.intro (fun c7 => ?_) (fun c7 => ?_)
          · try simp only [p1, p2, p3, p4, p8, q1, q2, q3, q4, q8, n0, n1, b01_eq, b01_ne, Classical.not_not] at c7
            exact K70 (by unfold cJoin; grind)
          · try simp only [p1, p2, p3, p4, p8, q1, q2, q3, q4, q8, n0, n1, b01_eq, b01_ne, Classical.not_not] at c7
            refine pX8_canJoin_56 rfl rfl rfl (show CY w yX8_tonsTogether mX8_tonsTogether [.ref (tB x.toNatClampNeg), .ref (tB y.toNatClampNeg)] κ (fun v κ' => v = some (.int (σ.2 13 x.toNatClampNeg + σ.2 13 y.toNatClampNeg + 1)) ∧ κ' = κ) from by have h9 := c_X8_tonsTogether (w := w) p q; rw [p4, q4] at h9; exact h9) (fun v κ1 hq8 ho8 hk8 => ?_)
            obtain ⟨rfl, ehq8⟩ := hq8
            rw [ehq8]
            refine runY_ok rkX8_canJoin (fun p => Nat.beq p 70 || Nat.beq p 71) 200 _ _ _ _ _ _ ?_
            refine And.intro hG.t4 ?_
            refine And.intro (fun c9 => ?_) (fun c9 => ?_)
            · try simp only [p1, p2, p3, p4, p8, q1, q2, q3, q4, q8, n0, n1, b01_eq, b01_ne, Classical.not_not] at c9
              exact K70 (by unfold cJoin; grind)
            · try simp only [p1, p2, p3, p4, p8, q1, q2, q3, q4, q8, n0, n1, b01_eq, b01_ne, Classical.not_not] at c9
              exact K71 _ (by first | exact hr | (rw [if_pos]; unfold cJoin; grind))

theorem sW_1 {nw : Nat} (hn : nw ≤ 100) : ¬ 100 < nI nw + 1 ↔ ¬ nI nw = 100 := by
  have h1 : (100 : Int32) < nI nw + 1 ↔ 100 < nw + 1 := by rw [nI_1]; exact nI_ltI (a := 100) (by decide) (by omega)
  have h2 : nI nw = 100 ↔ nw = 100 := nI_eq (b := 100) (by omega) (by decide)
  rw [h1, h2]; omega
set_option maxRecDepth 20000 in
theorem c_X8_hasSpaceForWelds {w : W0} {κ : AH} {x : Int32} {σ : MS} (hG : SG κ) (hN : hNm κ σ) : CY w yX8_hasSpaceForWelds mX8_hasSpaceForWelds [.ref (tS 4), .int x] κ (fun v κ' => v = some (.int (if 100 < σ.1 18 + x then 0 else 1)) ∧ κ' = κ) := by
  refine CY_of mcX8_hasSpaceForWelds (Nat.le_of_ble_eq_true rfl) (cat1 rfl) (fun θ0 => ?_)
  have K19 : ∀ r : Int32, r = (if 100 < σ.1 18 + x then 0 else 1) → Y w mX8_hasSpaceForWelds θ0 κ (fun v κ' => v = some (.int (if 100 < σ.1 18 + x then 0 else 1)) ∧ κ' = κ) (fun _ _ => False) 0 0 19 [some (.ref (tS 4)), some (.int x)] [.int r] κ := by
    intro r hr
    refine runY_go rkX8_hasSpaceForWelds (fun p => Nat.beq p 19) 200 rfl ?_
    refine And.intro ⟨Nat.le_of_ble_eq_true rfl, Nat.le_of_ble_eq_true rfl⟩ ?_
    refine And.intro (by rw [hr]; split <;> simp) ?_
    exact ⟨by rw [hr], rfl⟩
  refine runY_ok rkX8_hasSpaceForWelds (fun p => Nat.beq p 19) 200 _ _ _ _ _ _ ?_
  refine And.intro hG.t4 ?_
  refine And.intro hG.t4 ⟨some (tS 6), hG.r41, ?_⟩
  refine And.intro (by rw [hG.t6]; decide) ?_
  refine And.intro (fun c1 => ?_) (fun c1 => ?_)
  · rw [hN.1.2.1, hG.n6, show Int32.ofNat 100 = 100 from rfl] at c1
    exact K19 _ (by first | rw [if_pos (by assumption)] | rw [if_neg (by assumption)])
  · rw [hN.1.2.1, hG.n6, show Int32.ofNat 100 = 100 from rfl] at c1
    exact K19 _ (by first | rw [if_pos (by assumption)] | rw [if_neg (by assumption)])


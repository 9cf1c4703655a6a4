/-! THE COMPONENT'S STATE: RC κ σ -/
def nSt (σ : MS) : Nat → Nat
  | 0 => 0
  | i + 1 => nSt σ i + (if σ.2 9 i = 2 then 1 else 0)
def nRp (σ : MS) : Nat → Nat
  | 0 => 0
  | k + 1 => nRp σ k + (σ.2 21 k).toNatClampNeg
/-- how often was paid -/
def nEn (σ : MS) (nb nw : Nat) : Nat := nSt σ nb + nw + nRp σ nw + (if σ.1 6 = 0 then 0 else 1)
/-- hull and ledger -/
def hHu (κ : AH) (σ : MS) (nb : Nat) : Prop := gI κ (tS 0) 1 = tnsN σ nb ∧ gI κ (tS 0) 2 = momN σ nb
def hLe (κ : AH) (σ : MS) (nb nw : Nat) : Prop := gI κ (tS 1) 1 = nI (nEn σ nb nw) ∧ gI κ (tS 1) 2 = σ.1 7 ∧ sm (fun j => gI κ (tS 10) j) (nEn σ nb nw) = σ.1 7
def RC (κ : AH) (σ : MS) (nb nw np : Nat) (wb : Nat → Nat) : Prop := SG κ ∧ hNm κ σ ∧ hB κ σ nb ∧ hW κ σ nb nw wb ∧ hRm κ σ nb ∧ hPi κ σ np ∧ hHu κ σ nb ∧ hLe κ σ nb nw
set_option maxRecDepth 20000 in
theorem c_X8_blocks {w : W0} {κ : AH} {σ : MS} (hG : SG κ) : CY w yX8_blocks mX8_blocks [.ref (tS 4)] κ (fun v κ' => v = some (.int (gI κ (tS 4) 7)) ∧ κ' = κ) := by
  refine CY_of mcX8_blocks (Nat.le_of_ble_eq_true rfl) (cat1 rfl) (fun θ0 => ?_)
  refine runY_ok rkX8_blocks noCut 200 _ _ _ _ _ _ ?_
  refine And.intro hG.t4 ?_
  refine And.intro ⟨Nat.le_of_ble_eq_true rfl, Nat.le_of_ble_eq_true rfl⟩ ?_
  exact ⟨rfl, rfl⟩
set_option maxRecDepth 20000 in
theorem c_X8_welds {w : W0} {κ : AH} {σ : MS} (hG : SG κ) : CY w yX8_welds mX8_welds [.ref (tS 4)] κ (fun v κ' => v = some (.int (gI κ (tS 4) 8)) ∧ κ' = κ) := by
  refine CY_of mcX8_welds (Nat.le_of_ble_eq_true rfl) (cat1 rfl) (fun θ0 => ?_)
  refine runY_ok rkX8_welds noCut 200 _ _ _ _ _ _ ?_
  refine And.intro hG.t4 ?_
  refine And.intro ⟨Nat.le_of_ble_eq_true rfl, Nat.le_of_ble_eq_true rfl⟩ ?_
  exact ⟨rfl, rfl⟩
set_option maxRecDepth 20000 in
theorem c_X8_isAfloat {w : W0} {κ : AH} {σ : MS} (hG : SG κ) (hN : hNm κ σ) (h6 : σ.1 6 = 0 ∨ σ.1 6 = 1) : CY w yX8_isAfloat mX8_isAfloat [.ref (tS 4)] κ (fun v κ' => v = some (.int (σ.1 6)) ∧ κ' = κ) := by
  refine CY_of mcX8_isAfloat (Nat.le_of_ble_eq_true rfl) (cat1 rfl) (fun θ0 => ?_)
  refine runY_ok rkX8_isAfloat noCut 200 _ _ _ _ _ _ ?_
  refine And.intro hG.t4 ?_
  refine And.intro ⟨Nat.le_of_ble_eq_true rfl, Nat.le_of_ble_eq_true rfl⟩ ?_
  refine And.intro (by rw [hN.2.1.2.2.2.2]; exact h6) ?_
  exact ⟨by rw [hN.2.1.2.2.2.2], rfl⟩
set_option maxRecDepth 20000 in
theorem c_X8_tons {w : W0} {κ : AH} {σ : MS} (hG : SG κ) : CY w yX8_tons mX8_tons [.ref (tS 4)] κ (fun v κ' => v = some (.int (gI κ (tS 0) 1)) ∧ κ' = κ) := by
  refine CY_of mcX8_tons (Nat.le_of_ble_eq_true rfl) (cat1 rfl) (fun θ0 => ?_)
  refine runY_ok rkX8_tons noCut 200 _ _ _ _ _ _ ?_
  refine And.intro hG.t4 ⟨some (tS 0), hG.r43, ?_⟩
  refine And.intro hG.t0 ?_
  refine And.intro ⟨Nat.le_of_ble_eq_true rfl, Nat.le_of_ble_eq_true rfl⟩ ?_
  exact ⟨rfl, rfl⟩
set_option maxRecDepth 20000 in
theorem c_X8_centre {w : W0} {κ : AH} {σ : MS} (hG : SG κ) : CY w yX8_centre mX8_centre [.ref (tS 4)] κ (fun v κ' => v = some (.int (blc (gI κ (tS 0) 1) (gI κ (tS 0) 2))) ∧ κ' = κ) := by
  refine CY_of mcX8_centre (Nat.le_of_ble_eq_true rfl) (cat1 rfl) (fun θ0 => ?_)
  refine runY_ok rkX8_centre noCut 200 _ _ _ _ _ _ ?_
  refine And.intro hG.t4 ⟨some (tS 0), hG.r43, ?_⟩
  refine pX8_centre_4 rfl rfl rfl hG.t0 (c_X1_balance hG.t0) (fun v κ1 hq1 ho1 hk1 => ?_)
  obtain ⟨rfl, ehq1⟩ := hq1
  rw [ehq1]
  refine runY_ok rkX8_centre noCut 200 _ _ _ _ _ _ ?_
  refine And.intro ⟨Nat.le_of_ble_eq_true rfl, Nat.le_of_ble_eq_true rfl⟩ ?_
  exact ⟨rfl, rfl⟩
set_option maxRecDepth 20000 in
theorem c_X8_draught {w : W0} {κ : AH} {z : Int32} {σ : MS} (hG : SG κ) : CY w yX8_draught mX8_draught [.ref (tS 4), .int z] κ (fun v κ' => v = some (.int (dpt (gI κ (tS 0) 1) (gI κ (tS 0) 2) z)) ∧ κ' = κ) := by
  refine CY_of mcX8_draught (Nat.le_of_ble_eq_true rfl) (cat1 rfl) (fun θ0 => ?_)
  refine runY_ok rkX8_draught noCut 200 _ _ _ _ _ _ ?_
  refine And.intro hG.t4 ⟨some (tS 0), hG.r43, ?_⟩
  refine pX8_draught_5 rfl rfl rfl hG.t0 (c_X1_depth hG.t0) (fun v κ1 hq1 ho1 hk1 => ?_)
  obtain ⟨rfl, ehq1⟩ := hq1
  rw [ehq1]
  refine runY_ok rkX8_draught noCut 200 _ _ _ _ _ _ ?_
  refine And.intro ⟨Nat.le_of_ble_eq_true rfl, Nat.le_of_ble_eq_true rfl⟩ ?_
  exact ⟨rfl, rfl⟩
set_option maxRecDepth 20000 in
theorem c_X8_money {w : W0} {κ : AH} {σ : MS} (hG : SG κ) : CY w yX8_money mX8_money [.ref (tS 4)] κ (fun v κ' => v = some (.int (gI κ (tS 1) 2)) ∧ κ' = κ) := by
  refine CY_of mcX8_money (Nat.le_of_ble_eq_true rfl) (cat1 rfl) (fun θ0 => ?_)
  refine runY_ok rkX8_money noCut 200 _ _ _ _ _ _ ?_
  refine And.intro hG.t4 ⟨some (tS 1), hG.r46, ?_⟩
  refine And.intro hG.t1 ?_
  refine And.intro ⟨Nat.le_of_ble_eq_true rfl, Nat.le_of_ble_eq_true rfl⟩ ?_
  exact ⟨rfl, rfl⟩
set_option maxRecDepth 20000 in
theorem c_X8_draw {w : W0} {κ : AH} {x : Int32} {σ : MS} (hG : SG κ) : CY w yX8_draw mX8_draw [.ref (tS 4), .int x] κ (fun v κ' => v = some (.int (gI κ (tS 3) 1)) ∧ κ' = sI κ (tS 3) 1 x) := by
  refine CY_of mcX8_draw (Nat.le_of_ble_eq_true rfl) (cat1 rfl) (fun θ0 => ?_)
  refine runY_ok rkX8_draw noCut 200 _ _ _ _ _ _ ?_
  refine And.intro hG.t4 ⟨some (tS 3), hG.r45, ?_⟩
  refine And.intro hG.t3 ?_
  refine And.intro hG.t4 ⟨some (tS 3), hG.r45, ?_⟩
  refine And.intro hG.t3 ?_
  refine And.intro ⟨Nat.le_of_ble_eq_true rfl, Nat.le_of_ble_eq_true rfl⟩ ?_
  exact ⟨rfl, rfl⟩
set_option maxRecDepth 20000 in
theorem c_X8_hall {w : W0} {κ : AH} {f t : Int32} {σ : MS} (hG : SG κ) : CYV w yX8_hall mX8_hall [.ref (tS 4), .int f, .int t] κ (fun v κ' => ((1 ≤ f ∧ f ≤ 12) ∧ (1 ≤ t ∧ t ≤ 1000)) ∧ v = some (.int (gI κ (tS 4) 10)) ∧ κ' = sI (sI κ (tS 4) 10 f) (tS 4) 11 t) (fun E κ' => κ' = κ ∧ ¬ ((1 ≤ f ∧ f ≤ 12) ∧ (1 ≤ t ∧ t ≤ 1000)) ∧ E = "java/lang/IllegalArgumentException") := by
  refine CYV_of mcX8_hall (Nat.le_of_ble_eq_true rfl) (cat1 rfl) (fun θ0 => ?_)
  refine runY_ok rkX8_hall (fun p => Nat.beq p 21) 200 _ _ _ _ _ _ ?_
  refine pX8_hall_4 rfl rfl rfl d_X8_isWithin (fun v κ1 hq1 ho1 hk1 => ?_)
  obtain ⟨rfl, ehq1⟩ := hq1
  rw [ehq1]
  refine runY_ok rkX8_hall (fun p => Nat.beq p 21) 200 _ _ _ _ _ _ ?_
  refine And.intro (fun c2 => ?_) (fun c2 => ?_)
  · try simp only [b01_eq, b01_ne, Classical.not_not] at c2
    refine yX8_hall_21z (st := []) rfl rfl ?_
    exact ⟨rfl, by grind, rfl⟩
  · try simp only [b01_eq, b01_ne, Classical.not_not] at c2
    refine pX8_hall_15 rfl rfl rfl d_X8_isWithin (fun v κ1 hq3 ho3 hk3 => ?_)
    obtain ⟨rfl, ehq3⟩ := hq3
    rw [ehq3]
    refine runY_ok rkX8_hall (fun p => Nat.beq p 21) 200 _ _ _ _ _ _ ?_
    refine And.intro (fun c4 => ?_) (fun c4 => ?_)
    · try simp only [b01_eq, b01_ne, Classical.not_not] at c4
      refine And.intro hG.t4 ?_
      refine And.intro hG.t4 ?_
      refine And.intro hG.t4 ?_
      refine And.intro ⟨Nat.le_of_ble_eq_true rfl, Nat.le_of_ble_eq_true rfl⟩ ?_
      exact ⟨by grind, rfl, rfl⟩
    · try simp only [b01_eq, b01_ne, Classical.not_not] at c4
      refine yX8_hall_21z (st := []) rfl rfl ?_
      exact ⟨rfl, by grind, rfl⟩
set_option maxRecDepth 20000 in
theorem c_X8_crane {w : W0} {κ : AH} {f t : Int32} {σ : MS} (hG : SG κ) : CYV w yX8_crane mX8_crane [.ref (tS 4), .int f, .int t] κ (fun v κ' => ((0 ≤ f ∧ f ≤ 11) ∧ (1 ≤ t ∧ t ≤ 1000)) ∧ v = some (.int (gI κ (tS 4) 13)) ∧ κ' = sI (sI κ (tS 4) 12 f) (tS 4) 13 t) (fun E κ' => κ' = κ ∧ ((¬ (0 ≤ f ∧ f ≤ 11) ∧ E = "java/lang/IndexOutOfBoundsException") ∨ ((0 ≤ f ∧ f ≤ 11) ∧ ¬ (1 ≤ t ∧ t ≤ 1000)) ∧ E = "java/lang/IllegalArgumentException")) := by
  refine CYV_of mcX8_crane (Nat.le_of_ble_eq_true rfl) (cat1 rfl) (fun θ0 => ?_)
  refine runY_ok rkX8_crane noCut 200 _ _ _ _ _ _ ?_
  refine pX8_crane_1 rfl rfl rfl c_X8_isFrame (fun v κ1 hq1 ho1 hk1 => ?_)
  obtain ⟨rfl, ehq1⟩ := hq1
  rw [ehq1]
  refine runY_ok rkX8_crane noCut 200 _ _ _ _ _ _ ?_
  refine And.intro (fun c2 => ?_) (fun c2 => ?_)
  · try simp only [b01_eq, b01_ne, Classical.not_not] at c2
    refine pX8_crane_22 rfl rfl rfl d_X8_isWithin (fun v κ1 hq3 ho3 hk3 => ?_)
    obtain ⟨rfl, ehq3⟩ := hq3
    rw [ehq3]
    refine runY_ok rkX8_crane noCut 200 _ _ _ _ _ _ ?_
    refine And.intro (fun c4 => ?_) (fun c4 => ?_)
    · try simp only [b01_eq, b01_ne, Classical.not_not] at c4
      refine And.intro hG.t4 ?_
      refine And.intro hG.t4 ?_
      refine And.intro hG.t4 ?_
      refine And.intro ⟨Nat.le_of_ble_eq_true rfl, Nat.le_of_ble_eq_true rfl⟩ ?_
      exact ⟨by grind, rfl, rfl⟩
    · try simp only [b01_eq, b01_ne, Classical.not_not] at c4
      refine yX8_crane_28z (st := []) rfl rfl ?_
      exact ⟨rfl, Or.inr ⟨by grind, rfl⟩⟩
  · try simp only [b01_eq, b01_ne, Classical.not_not] at c2
    refine yX8_crane_7z (st := []) rfl rfl ?_
    exact ⟨rfl, Or.inl ⟨by grind, rfl⟩⟩

theorem y4_of {y : Int32} (h0 : ¬ y < 0) (h : y < 4) : (0 ≤ y ∧ y ≤ 3) := ⟨Int32.not_lt.mp h0, by
  have e : (4 : Int32).toInt = 4 := rfl
  have e2 : (3 : Int32).toInt = 3 := rfl
  have := Int32.lt_iff_toInt_lt.mp h
  rw [Int32.le_iff_toInt_le]; omega⟩
theorem y4_not {y : Int32} (h : y < 0 ∨ 4 ≤ y) : ¬ (0 ≤ y ∧ y ≤ 3) := fun z => by
  rcases h with h | h
  · exact Int32.not_le.mpr h z.1
  · have e : (4 : Int32).toInt = 4 := rfl
    have e2 : (3 : Int32).toInt = 3 := rfl
    have h1 := Int32.le_iff_toInt_le.mp h
    have h2 := Int32.le_iff_toInt_le.mp z.2
    omega
set_option maxRecDepth 20000 in
theorem c_X8_welder {w : W0} {κ : AH} {y f : Int32} {σ : MS} (hG : SG κ) : CYV w yX8_welder mX8_welder [.ref (tS 4), .int y, .int f] κ (fun v κ' => ((0 ≤ y ∧ y ≤ 3) ∧ (0 ≤ f ∧ f ≤ 100)) ∧ v = some (.int (gI κ (tS 9) y.toNatClampNeg)) ∧ κ' = sI κ (tS 9) y.toNatClampNeg f) (fun E κ' => κ' = κ ∧ ((¬ (0 ≤ y ∧ y ≤ 3) ∧ E = "java/lang/IndexOutOfBoundsException") ∨ ((0 ≤ y ∧ y ≤ 3) ∧ ¬ (0 ≤ f ∧ f ≤ 100)) ∧ E = "java/lang/IllegalArgumentException")) := by
  refine CYV_of mcX8_welder (Nat.le_of_ble_eq_true rfl) (cat1 rfl) (fun θ0 => ?_)
  have K16 : (y < 0 ∨ 4 ≤ y) → Y w mX8_welder θ0 κ (fun v κ' => ((0 ≤ y ∧ y ≤ 3) ∧ (0 ≤ f ∧ f ≤ 100)) ∧ v = some (.int (gI κ (tS 9) y.toNatClampNeg)) ∧ κ' = sI κ (tS 9) y.toNatClampNeg f) (fun E κ' => κ' = κ ∧ ((¬ (0 ≤ y ∧ y ≤ 3) ∧ E = "java/lang/IndexOutOfBoundsException") ∨ ((0 ≤ y ∧ y ≤ 3) ∧ ¬ (0 ≤ f ∧ f ≤ 100)) ∧ E = "java/lang/IllegalArgumentException")) 0 0 16 [some (.ref (tS 4)), some (.int y), some (.int f), none] [] κ := by
    intro h0
    refine yX8_welder_16z (st := []) rfl rfl ?_
    exact ⟨rfl, Or.inl ⟨y4_not h0, rfl⟩⟩
  refine runY_ok rkX8_welder (fun p => Nat.beq p 16) 200 _ _ _ _ _ _ ?_
  refine And.intro (fun c1 => ?_) (fun c1 => ?_)
  · skip
    exact K16 (by first | exact Or.inl ‹_› | exact Or.inr (Int32.not_lt.mp ‹_›))
  · skip
    refine And.intro hG.t4 ⟨some (tS 3), hG.r45, ?_⟩
    refine And.intro hG.t3 ⟨some (tS 9), hG.r30, ?_⟩
    refine And.intro (by rw [hG.t9]; decide) ?_
    refine And.intro (fun c2 => ?_) (fun c2 => ?_)
    · rw [hG.n9, show Int32.ofNat 4 = 4 from rfl] at c2
      refine pX8_welder_30 rfl rfl rfl d_X8_isWithin (fun v κ1 hq3 ho3 hk3 => ?_)
      obtain ⟨rfl, ehq3⟩ := hq3
      rw [ehq3]
      refine runY_ok rkX8_welder (fun p => Nat.beq p 16) 200 _ _ _ _ _ _ ?_
      refine And.intro (fun c4 => ?_) (fun c4 => ?_)
      · try simp only [b01_eq, b01_ne, Classical.not_not] at c4
        refine And.intro hG.t4 ⟨some (tS 3), hG.r45, ?_⟩
        refine And.intro hG.t3 ⟨some (tS 9), hG.r30, ?_⟩
        refine And.intro ⟨hG.t9, (by rw [hG.n9]; exact in_c (c := 3) (n := 4) (by decide) (y4_of (by assumption) (by assumption)))⟩ ?_
        refine And.intro hG.t4 ⟨some (tS 3), hG.r45, ?_⟩
        refine And.intro hG.t3 ⟨some (tS 9), hG.r30, ?_⟩
        refine And.intro ⟨hG.t9, (by rw [hG.n9]; exact in_c (c := 3) (n := 4) (by decide) (y4_of (by assumption) (by assumption)))⟩ ?_
        refine And.intro ⟨Nat.le_of_ble_eq_true rfl, Nat.le_of_ble_eq_true rfl⟩ ?_
        exact ⟨⟨y4_of (by assumption) (by assumption), by grind⟩, rfl, rfl⟩
      · try simp only [b01_eq, b01_ne, Classical.not_not] at c4
        refine yX8_welder_36z (st := []) rfl rfl ?_
        exact ⟨rfl, Or.inr ⟨⟨y4_of (by assumption) (by assumption), by grind⟩, rfl⟩⟩
    · rw [hG.n9, show Int32.ofNat 4 = 4 from rfl] at c2
      exact K16 (by first | exact Or.inl ‹_› | exact Or.inr (Int32.not_lt.mp ‹_›))


/-! THE COMPONENT'S PUBLIC METHODS, 1: what they read -/
theorem isB_blk {σ : MS} {nb : Nat} (hn : nb ≤ 60) (e : σ.1 8 = nI nb) {x : Int32} : isBlk σ x ↔ isB nb x := by
  unfold isBlk isB
  rw [e]
  cases nb with
  | zero => exact ⟨fun z => absurd (Int32.le_trans z.1 z.2) (by decide), fun z => absurd z.2 (Int32.not_lt.mpr z.1)⟩
  | succ m =>
    rw [nI_pred]
    have a1 : (nI m).toInt = m := nI_toInt (by omega)
    have a2 : (nI (m + 1)).toInt = (m + 1 : Nat) := nI_toInt (by omega)
    exact ⟨fun z => ⟨z.1, Int32.lt_iff_toInt_lt.mpr (by have := Int32.le_iff_toInt_le.mp z.2; omega)⟩, fun z => ⟨z.1, Int32.le_iff_toInt_le.mpr (by have := Int32.lt_iff_toInt_lt.mp z.2; omega)⟩⟩
theorem isB_wld {σ : MS} {nw : Nat} (hn : nw ≤ 100) (e : σ.1 18 = nI nw) {x : Int32} : isWld σ x ↔ isB nw x := by
  unfold isWld isB
  rw [e]
  cases nw with
  | zero => exact ⟨fun z => absurd (Int32.le_trans z.1 z.2) (by decide), fun z => absurd z.2 (Int32.not_lt.mpr z.1)⟩
  | succ m =>
    rw [nI_pred]
    have a1 : (nI m).toInt = m := nI_toInt (by omega)
    have a2 : (nI (m + 1)).toInt = (m + 1 : Nat) := nI_toInt (by omega)
    exact ⟨fun z => ⟨z.1, Int32.lt_iff_toInt_lt.mpr (by have := Int32.le_iff_toInt_le.mp z.2; omega)⟩, fun z => ⟨z.1, Int32.le_iff_toInt_le.mpr (by have := Int32.lt_iff_toInt_lt.mp z.2; omega)⟩⟩
theorem isB_cl {nb : Nat} (hn : nb ≤ 100) {x : Int32} (h : isB nb x) : x.toNatClampNeg < nb := by
  have h2 := Int32.lt_iff_toInt_lt.mp h.2
  rw [nI_toInt (by omega)] at h2
  exact lt_of_in (in_of h.1 h2)
set_option maxRecDepth 20000 in
theorem c_X8_whyNot {w : W0} {κ : AH} {b : Int32} {σ : MS} {nb : Nat} (hn : nb ≤ 60) (eb : σ.1 8 = nI nb) (hG : SG κ) (hR : hRm κ σ nb) (hBk : hB κ σ nb) (hrs : ∀ i, i < nb → rsOK σ i) (hs : stF σ) (hN : hNm κ σ) (hc : 0 ≤ σ.1 2 ∧ σ.1 2 ≤ 11) : CYV w yX8_whyNot mX8_whyNot [.ref (tS 4), .int b] κ (fun v κ' => kWhy σ b = 0 ∧ v = some (.int (rsn σ b.toNatClampNeg)) ∧ κ' = κ) (fun E κ' => κ' = κ ∧ ((kWhy σ b = 1 ∧ E = "java/lang/IndexOutOfBoundsException"))) := by
  have hbl := fun x => isB_blk (x := x) hn eb
  refine CYV_of mcX8_whyNot (Nat.le_of_ble_eq_true rfl) (cat1 rfl) (fun θ0 => ?_)
  refine runY_ok rkX8_whyNot noCut 200 _ _ _ _ _ _ ?_
  refine pX8_whyNot_2 rfl rfl rfl hG.t4 (c_X8_blockOf hn hG hBk.1) (fun v κ1 hq1 ho1 hk1 => ?_)
  by_cases hs1 : isB nb b
  · skip
    rw [blO_y hs1] at hq1
    obtain ⟨rfl, ehq1⟩ := hq1
    rw [ehq1]
    refine runY_ok rkX8_whyNot noCut 200 _ _ _ _ _ _ ?_
    refine pX8_whyNot_22 rfl rfl rfl hG.t4 (c_X8_reasonAgainst hG hR hBk (isB_cl (by omega) (by assumption)) (hrs _ (isB_cl (by omega) (by assumption))) hs hn hN hc) (fun v κ1 hq2 ho2 hk2 => ?_)
    obtain ⟨rfl, ehq2⟩ := hq2
    rw [ehq2]
    refine runY_ok rkX8_whyNot noCut 200 _ _ _ _ _ _ ?_
    refine And.intro ⟨Nat.le_of_ble_eq_true rfl, Nat.le_of_ble_eq_true rfl⟩ ?_
    exact ⟨if_pos ((hbl b).mpr (by assumption)), rfl, rfl⟩
  · skip
    rw [blO_n hs1] at hq1
    obtain ⟨rfl, ehq1⟩ := hq1
    rw [ehq1]
    refine runY_ok rkX8_whyNot noCut 200 _ _ _ _ _ _ ?_
    refine yX8_whyNot_10z (st := []) rfl rfl ?_
    refine ⟨rfl, ⟨?_, rfl⟩⟩
    exact if_neg (fun z => absurd ((hbl b).mp z) (by assumption))

theorem fcB_eq {κ : AH} {σ : MS} {i : Nat} (h : pB κ σ i) {b q : Int32} (e : b.toNatClampNeg = i) : fcB κ (tB i) q = tBlk σ b q := by
  obtain ⟨p, p0, p1, p2, p3, p4, p5, p6, p7, p8, p9⟩ := h
  unfold fcB tBlk
  rw [e, p1, p2, p3, p4, p5, p6, p8]
  by_cases h2 : σ.2 9 i = 2
  · rw [p7 h2]
  · grind
set_option maxRecDepth 20000 in
theorem c_X8_told {w : W0} {κ : AH} {b q : Int32} {σ : MS} {nb : Nat} (hn : nb ≤ 60) (eb : σ.1 8 = nI nb) (hG : SG κ) (hR : hRm κ σ nb) (hBk : hB κ σ nb) : CYV w yX8_told mX8_told [.ref (tS 4), .int b, .int q] κ (fun v κ' => kBlk σ b q 7 = 0 ∧ v = some (.int (tBlk σ b q)) ∧ κ' = κ) (fun E κ' => κ' = κ ∧ ((kBlk σ b q 7 = 1 ∧ E = "java/lang/IndexOutOfBoundsException") ∨ (kBlk σ b q 7 = 2 ∧ E = "java/lang/IllegalArgumentException"))) := by
  have hbl := fun x => isB_blk (x := x) hn eb
  refine CYV_of mcX8_told (Nat.le_of_ble_eq_true rfl) (cat1 rfl) (fun θ0 => ?_)
  refine runY_ok rkX8_told noCut 200 _ _ _ _ _ _ ?_
  refine pX8_told_2 rfl rfl rfl hG.t4 (c_X8_blockOf hn hG hBk.1) (fun v κ1 hq1 ho1 hk1 => ?_)
  by_cases hs1 : isB nb b
  · skip
    rw [blO_y hs1] at hq1
    obtain ⟨rfl, ehq1⟩ := hq1
    rw [ehq1]
    refine runY_ok rkX8_told noCut 200 _ _ _ _ _ _ ?_
    refine pX8_told_24 rfl rfl rfl d_X8_isWithin (fun v κ1 hq2 ho2 hk2 => ?_)
    obtain ⟨rfl, ehq2⟩ := hq2
    rw [ehq2]
    refine runY_ok rkX8_told noCut 200 _ _ _ _ _ _ ?_
    refine And.intro (fun c3 => ?_) (fun c3 => ?_)
    · try simp only [b01_eq, b01_ne, Classical.not_not] at c3
      refine pX8_told_43 rfl rfl rfl (hBk.2.1 _ (isB_cl (by omega) (by assumption : isB nb b))).1 (show CY w yX0_fact mX0_fact [.ref (tB b.toNatClampNeg), .int q] κ (fun v κ' => v = some (.int (tBlk σ b q)) ∧ κ' = κ) from fcB_eq (hBk.2.1 _ (isB_cl (by omega) (by assumption : isB nb b))) rfl ▸ c_X0_fact (hBk.2.1 _ (isB_cl (by omega) (by assumption : isB nb b))).1) (fun v κ1 hq4 ho4 hk4 => ?_)
      obtain ⟨rfl, ehq4⟩ := hq4
      rw [ehq4]
      refine runY_ok rkX8_told noCut 200 _ _ _ _ _ _ ?_
      refine And.intro ⟨Nat.le_of_ble_eq_true rfl, Nat.le_of_ble_eq_true rfl⟩ ?_
      refine ⟨?_, rfl, rfl⟩
      unfold kBlk; rw [if_pos ((hbl b).mpr (by assumption))]; grind
    · try simp only [b01_eq, b01_ne, Classical.not_not] at c3
      refine yX8_told_30z (st := []) rfl rfl ?_
      refine ⟨rfl, Or.inr (⟨?_, rfl⟩)⟩
      unfold kBlk; rw [if_pos ((hbl b).mpr (by assumption))]; grind
  · skip
    rw [blO_n hs1] at hq1
    obtain ⟨rfl, ehq1⟩ := hq1
    rw [ehq1]
    refine runY_ok rkX8_told noCut 200 _ _ _ _ _ _ ?_
    refine yX8_told_10z (st := []) rfl rfl ?_
    refine ⟨rfl, Or.inl ⟨?_, rfl⟩⟩
    unfold kBlk; rw [if_neg (fun z => absurd ((hbl b).mp z) (by assumption))]

theorem fcW_eq {κ : AH} {σ : MS} {nb i j : Nat} (h : pWl κ σ i j) (hw : wbK σ nb i j) (hj : pB κ σ j) {b q : Int32} (e : b.toNatClampNeg = i) (hq : 0 ≤ q ∧ q ≤ 3) : fcW κ (tW i) (tB j) q = tWld σ b q := by
  obtain ⟨-, -, p1, p2, p3, -⟩ := h
  obtain ⟨-, -, -, -, p4, -⟩ := hj
  unfold fcW tWld
  rw [e, p1, p2, p3, p4, hw.2.1]
set_option maxRecDepth 20000 in
theorem c_X8_weld {w : W0} {κ : AH} {b q : Int32} {σ : MS} {nb : Nat} (hn : nb ≤ 60) (eb : σ.1 8 = nI nb) (hG : SG κ) (hR : hRm κ σ nb) (hBk : hB κ σ nb) {nw : Nat} {wb : Nat → Nat} (hnw : nw ≤ 100) (ew : σ.1 18 = nI nw) (hWl : hW κ σ nb nw wb) : CYV w yX8_weld mX8_weld [.ref (tS 4), .int b, .int q] κ (fun v κ' => kWld σ b q = 0 ∧ v = some (.int (tWld σ b q)) ∧ κ' = κ) (fun E κ' => κ' = κ ∧ ((kWld σ b q = 1 ∧ E = "java/lang/IndexOutOfBoundsException") ∨ (kWld σ b q = 2 ∧ E = "java/lang/IllegalArgumentException"))) := by
  have hbl := fun x => isB_wld (x := x) hnw ew
  refine CYV_of mcX8_weld (Nat.le_of_ble_eq_true rfl) (cat1 rfl) (fun θ0 => ?_)
  refine runY_ok rkX8_weld noCut 200 _ _ _ _ _ _ ?_
  refine pX8_weld_2 rfl rfl rfl hG.t4 (c_X8_weldOf hnw hG hWl.1) (fun v κ1 hq1 ho1 hk1 => ?_)
  by_cases hs1 : isB nw b
  · skip
    rw [wlO_y hs1] at hq1
    obtain ⟨rfl, ehq1⟩ := hq1
    rw [ehq1]
    refine runY_ok rkX8_weld noCut 200 _ _ _ _ _ _ ?_
    refine pX8_weld_23 rfl rfl rfl d_X8_isWithin (fun v κ1 hq2 ho2 hk2 => ?_)
    obtain ⟨rfl, ehq2⟩ := hq2
    rw [ehq2]
    refine runY_ok rkX8_weld noCut 200 _ _ _ _ _ _ ?_
    refine And.intro (fun c3 => ?_) (fun c3 => ?_)
    · try simp only [b01_eq, b01_ne, Classical.not_not] at c3
      refine pX8_weld_42 rfl rfl rfl (hWl.2.1 _ (isB_cl (by omega) (by assumption : isB nw b))).1.1 (show CY w yX6_fact mX6_fact [.ref (tW b.toNatClampNeg), .int q] κ (fun v κ' => v = some (.int (tWld σ b q)) ∧ κ' = κ) from fcW_eq (hWl.2.1 _ (isB_cl (by omega) (by assumption : isB nw b))).1 (hWl.2.1 _ (isB_cl (by omega) (by assumption : isB nw b))).2 (hBk.2.1 _ (hWl.2.1 _ (isB_cl (by omega) (by assumption : isB nw b))).2.1) rfl (by assumption : 0 ≤ q ∧ q ≤ 3) ▸ c_X6_fact (hWl.2.1 _ (isB_cl (by omega) (by assumption : isB nw b))).1.1 (hBk.2.1 _ (hWl.2.1 _ (isB_cl (by omega) (by assumption : isB nw b))).2.1).1 (hWl.2.1 _ (isB_cl (by omega) (by assumption : isB nw b))).1.2.1) (fun v κ1 hq4 ho4 hk4 => ?_)
      obtain ⟨rfl, ehq4⟩ := hq4
      rw [ehq4]
      refine runY_ok rkX8_weld noCut 200 _ _ _ _ _ _ ?_
      refine And.intro ⟨Nat.le_of_ble_eq_true rfl, Nat.le_of_ble_eq_true rfl⟩ ?_
      refine ⟨?_, rfl, rfl⟩
      unfold kWld; rw [if_pos ((hbl b).mpr (by assumption))]; grind
    · try simp only [b01_eq, b01_ne, Classical.not_not] at c3
      refine yX8_weld_29z (st := []) rfl rfl ?_
      refine ⟨rfl, Or.inr (⟨?_, rfl⟩)⟩
      unfold kWld; rw [if_pos ((hbl b).mpr (by assumption))]; grind
  · skip
    rw [wlO_n hs1] at hq1
    obtain ⟨rfl, ehq1⟩ := hq1
    rw [ehq1]
    refine runY_ok rkX8_weld noCut 200 _ _ _ _ _ _ ?_
    refine yX8_weld_10z (st := []) rfl rfl ?_
    refine ⟨rfl, Or.inl ⟨?_, rfl⟩⟩
    unfold kWld; rw [if_neg (fun z => absurd ((hbl b).mp z) (by assumption))]

theorem pRm_bl {κ : AH} {σ : MS} {nb c : Nat} (hR : hRm κ σ nb) (hBk : hB κ σ nb) (hn : nb ≤ 60) (hc : c < 36) (h : ¬ σ.2 25 c = -1) : pRm κ σ c ∧ (σ.2 25 c).toNatClampNeg < nb ∧ σ.2 25 c = nI (σ.2 25 c).toNatClampNeg ∧ pB κ σ (σ.2 25 c).toNatClampNeg := by
  obtain ⟨h1, j, h2, h3⟩ := hR.2.1 c hc h
  have e : (σ.2 25 c).toNatClampNeg = j := by rw [h3]; exact nI_clamp (by omega)
  rw [e]
  exact ⟨h1, h2, h3, hBk.2.1 j h2⟩
theorem fcR_eq {κ : AH} {σ : MS} {c : Nat} (h : pRm κ σ c) (e : σ.2 25 c = nI (σ.2 25 c).toNatClampNeg) (hp : pB κ σ (σ.2 25 c).toNatClampNeg) {x q : Int32} (ex : x.toNatClampNeg = c) : fcR κ (tR c) (tB (σ.2 25 c).toNatClampNeg) q = tCell σ x q := by
  obtain ⟨-, -, -, p2, p3, p4, p5⟩ := h
  have q0 := hp.2.1
  unfold fcR tCell
  rw [ex, p2, p3, p4, p5, q0, ← e]
  grind
/-- cells that nothing fills hold nothing -/
def emp (σ : MS) : Prop := ∀ c, c < 36 → σ.2 25 c = -1 → σ.2 26 c = 0 ∧ σ.2 27 c = 0 ∧ σ.2 28 c = 0 ∧ σ.2 29 c = 0
theorem tCell_n {σ : MS} (he : emp σ) {x q : Int32} (hx : 0 ≤ x ∧ x ≤ 35) (h : ¬ isRm σ x) : tCell σ x q = if q = 0 then -1 else 0 := by
  have h1 : σ.2 25 x.toNatClampNeg = -1 := Classical.byContradiction fun z => h ⟨hx, z⟩
  obtain ⟨a, b, c, d⟩ := he _ (lt_of_in (in_c (c := 35) (by decide) hx)) h1
  unfold tCell
  rw [h1, a, b, c, d]
  grind
set_option maxRecDepth 20000 in
theorem c_X8_cell {w : W0} {κ : AH} {x q : Int32} {σ : MS} {nb : Nat} (hn : nb ≤ 60) (eb : σ.1 8 = nI nb) (hG : SG κ) (hR : hRm κ σ nb) (hBk : hB κ σ nb) (he : emp σ) : CYV w yX8_cell mX8_cell [.ref (tS 4), .int x, .int q] κ (fun v κ' => kCell x q = 0 ∧ v = some (.int (tCell σ x q)) ∧ κ' = κ) (fun E κ' => κ' = κ ∧ ((kCell x q = 1 ∧ E = "java/lang/IndexOutOfBoundsException") ∨ (kCell x q = 2 ∧ E = "java/lang/IllegalArgumentException"))) := by
  refine CYV_of mcX8_cell (Nat.le_of_ble_eq_true rfl) (cat1 rfl) (fun θ0 => ?_)
  have K63 : ∀ r : Int32, r = tCell σ x q → kCell x q = 0 → Y w mX8_cell θ0 κ (fun v κ' => kCell x q = 0 ∧ v = some (.int (tCell σ x q)) ∧ κ' = κ) (fun E κ' => κ' = κ ∧ ((kCell x q = 1 ∧ E = "java/lang/IndexOutOfBoundsException") ∨ (kCell x q = 2 ∧ E = "java/lang/IllegalArgumentException"))) 0 0 63 [some (.ref (tS 4)), some (.int x), some (.int q), some (.null)] [.int r] κ := by
    intro r hr hk
    refine runY_go rkX8_cell (fun p => Nat.beq p 63) 200 rfl ?_
    refine And.intro ⟨Nat.le_of_ble_eq_true rfl, Nat.le_of_ble_eq_true rfl⟩ ?_
    exact ⟨hk, by rw [hr], rfl⟩
  refine runY_ok rkX8_cell (fun p => Nat.beq p 63) 200 _ _ _ _ _ _ ?_
  refine pX8_cell_4 rfl rfl rfl d_X8_isWithin (fun v κ1 hq1 ho1 hk1 => ?_)
  obtain ⟨rfl, ehq1⟩ := hq1
  rw [ehq1]
  refine runY_ok rkX8_cell (fun p => Nat.beq p 63) 200 _ _ _ _ _ _ ?_
  refine And.intro (fun c2 => ?_) (fun c2 => ?_)
  · try simp only [b01_eq, b01_ne, Classical.not_not] at c2
    refine pX8_cell_24 rfl rfl rfl d_X8_isWithin (fun v κ1 hq3 ho3 hk3 => ?_)
    obtain ⟨rfl, ehq3⟩ := hq3
    rw [ehq3]
    refine runY_ok rkX8_cell (fun p => Nat.beq p 63) 200 _ _ _ _ _ _ ?_
    refine And.intro (fun c4 => ?_) (fun c4 => ?_)
    · try simp only [b01_eq, b01_ne, Classical.not_not] at c4
      refine And.intro hG.t4 ⟨some (tS 0), hG.r43, ?_⟩
      refine pX8_cell_46 rfl rfl rfl hG.t0 (c_X1_roomOf hG hR.1) (fun v κ1 hq5 ho5 hk5 => ?_)
      by_cases hs5 : isRm σ x
      · skip
        rw [rmO_y hs5] at hq5
        obtain ⟨rfl, ehq5⟩ := hq5
        rw [ehq5]
        refine runY_ok rkX8_cell (fun p => Nat.beq p 63) 200 _ _ _ _ _ _ ?_
        refine pX8_cell_66 rfl rfl rfl (pRm_bl hR hBk hn (isRm_lt (by assumption : isRm σ x)) (by assumption : isRm σ x).2).1.1 (show CY w yX4_fact mX4_fact [.ref (tR x.toNatClampNeg), .int q] κ (fun v κ' => v = some (.int (tCell σ x q)) ∧ κ' = κ) from fcR_eq (pRm_bl hR hBk hn (isRm_lt (by assumption : isRm σ x)) (by assumption : isRm σ x).2).1 (pRm_bl hR hBk hn (isRm_lt (by assumption : isRm σ x)) (by assumption : isRm σ x).2).2.2.1 (pRm_bl hR hBk hn (isRm_lt (by assumption : isRm σ x)) (by assumption : isRm σ x).2).2.2.2 rfl ▸ c_X4_fact (pRm_bl hR hBk hn (isRm_lt (by assumption : isRm σ x)) (by assumption : isRm σ x).2).1.1 (pRm_bl hR hBk hn (isRm_lt (by assumption : isRm σ x)) (by assumption : isRm σ x).2).2.2.2.1 (pRm_bl hR hBk hn (isRm_lt (by assumption : isRm σ x)) (by assumption : isRm σ x).2).1.2.2.1) (fun v κ1 hq6 ho6 hk6 => ?_)
        obtain ⟨rfl, ehq6⟩ := hq6
        rw [ehq6]
        refine runY_ok rkX8_cell (fun p => Nat.beq p 63) 200 _ _ _ _ _ _ ?_
        refine And.intro ⟨Nat.le_of_ble_eq_true rfl, Nat.le_of_ble_eq_true rfl⟩ ?_
        exact ⟨by unfold kCell; grind, rfl, rfl⟩
      · skip
        rw [rmO_n hs5] at hq5
        obtain ⟨rfl, ehq5⟩ := hq5
        rw [ehq5]
        refine runY_ok rkX8_cell (fun p => Nat.beq p 63) 200 _ _ _ _ _ _ ?_
        refine And.intro (fun c7 => ?_) (fun c7 => ?_)
        · try simp only [b01_eq, b01_ne, Classical.not_not] at c7
          exact K63 _ (by rw [tCell_n he (by assumption) (by assumption)]; grind) (by unfold kCell; grind)
        · try simp only [b01_eq, b01_ne, Classical.not_not] at c7
          exact K63 _ (by rw [tCell_n he (by assumption) (by assumption)]; grind) (by unfold kCell; grind)
    · try simp only [b01_eq, b01_ne, Classical.not_not] at c4
      refine yX8_cell_30z (st := []) rfl rfl ?_
      refine ⟨rfl, Or.inr (⟨?_, rfl⟩)⟩
      unfold kCell; grind
  · try simp only [b01_eq, b01_ne, Classical.not_not] at c2
    refine yX8_cell_10z (st := []) rfl rfl ?_
    refine ⟨rfl, Or.inl ⟨?_, rfl⟩⟩
    unfold kCell; grind

theorem isB_pip {σ : MS} {np : Nat} (hn : np ≤ 30) (e : σ.1 30 = nI np) {x : Int32} : (0 ≤ x ∧ x ≤ σ.1 30 - 1) ↔ isB np x := by
  unfold isB
  rw [e]
  cases np with
  | zero => exact ⟨fun z => absurd (Int32.le_trans z.1 z.2) (by decide), fun z => absurd z.2 (Int32.not_lt.mpr z.1)⟩
  | succ m =>
    rw [nI_pred]
    have a1 : (nI m).toInt = m := nI_toInt (by omega)
    have a2 : (nI (m + 1)).toInt = (m + 1 : Nat) := nI_toInt (by omega)
    exact ⟨fun z => ⟨z.1, Int32.lt_iff_toInt_lt.mpr (by have := Int32.le_iff_toInt_le.mp z.2; omega)⟩, fun z => ⟨z.1, Int32.le_iff_toInt_le.mpr (by have := Int32.lt_iff_toInt_lt.mp z.2; omega)⟩⟩
theorem isB_pout {np : Nat} {x : Int32} (hn : np ≤ 30) (z : isB np x) (h : 30 ≤ x) : False := by
  have h1 := Int32.le_iff_toInt_le.mp h
  have h2 := Int32.lt_iff_toInt_lt.mp z.2
  rw [nI_toInt (by omega)] at h2
  have e : (30 : Int32).toInt = 30 := rfl
  omega
/-- the pipes' lengths -/
def pLn (σ : MS) (np : Nat) : Prop := ∀ p, p < np → ∃ n, n ≤ 36 ∧ σ.2 31 p = nI n
theorem rat_y {κ : AH} {σ : MS} {np : Nat} (hP : hPi κ σ np) (hl : pLn σ np) (hn : np ≤ 30) {p q : Int32} (hp : isB np p) (hq : 0 ≤ q) (h : ¬ Int32.ofNat (gN κ (tC p.toNatClampNeg)) ≤ q) : vp_in q (gN κ (tC p.toNatClampNeg)) ∧ gI κ (tC p.toNatClampNeg) q.toNatClampNeg = (if q < σ.2 31 p.toNatClampNeg then σ.2 32 (36 * p + q).toNatClampNeg else -1) := by
  have hp2 := isB_cl (by omega) hp
  obtain ⟨n, h1, h2⟩ := hl _ hp2
  obtain ⟨-, -, -, g4, g5⟩ := hP.2.1 _ hp2
  have ep := in_n (in_of hp.1 (by have := Int32.lt_iff_toInt_lt.mp hp.2; rw [nI_toInt (by omega)] at this; exact this) : vp_in p np)
  rw [h2, nI_clamp (by omega)] at g4 g5
  rw [g4] at h ⊢
  have hqn : q < nI n := Int32.not_le.mp h
  have hv : vp_in q n := in_of hq (by have := Int32.lt_iff_toInt_lt.mp hqn; rw [nI_toInt (by omega)] at this; exact this)
  refine ⟨hv, ?_⟩
  obtain ⟨j, hj, rfl⟩ := vp_in_of hv (by omega)
  rw [nI_clamp (n := j) (by omega), g5 j hj, h2, if_pos (nI_lt hj (by omega))]
  have e2 : 36 * p + nI j = nI (36 * p.toNatClampNeg + j) := by rw [ep, nI_clamp (by omega)]; exact px
  rw [e2, nI_clamp (by omega)]
theorem rat_n {κ : AH} {σ : MS} {np : Nat} (hP : hPi κ σ np) (hl : pLn σ np) (hn : np ≤ 30) {p q : Int32} (hp : isB np p) (h : Int32.ofNat (gN κ (tC p.toNatClampNeg)) ≤ q) : (-1 : Int32) = (if q < σ.2 31 p.toNatClampNeg then σ.2 32 (36 * p + q).toNatClampNeg else -1) := by
  have hp2 := isB_cl (by omega) hp
  obtain ⟨n, h1, h2⟩ := hl _ hp2
  obtain ⟨-, -, -, g4, g5⟩ := hP.2.1 _ hp2
  rw [h2, nI_clamp (by omega)] at g4
  rw [g4] at h
  rw [h2, if_neg (show ¬ q < nI n from fun z => Int32.not_le.mpr z h)]
set_option maxRecDepth 20000 in
theorem c_X8_roomAt {w : W0} {κ : AH} {p q : Int32} {σ : MS} {np : Nat} (hn : np ≤ 30) (ep : σ.1 30 = nI np) (hG : SG κ) (hP : hPi κ σ np) (hl : pLn σ np) : CYV w yX8_roomAt mX8_roomAt [.ref (tS 4), .int p, .int q] κ (fun v κ' => kRat σ p q = 0 ∧ v = some (.int (if q < σ.2 31 p.toNatClampNeg then σ.2 32 (36 * p + q).toNatClampNeg else -1)) ∧ κ' = κ) (fun E κ' => κ' = κ ∧ ((kRat σ p q = 1 ∧ E = "java/lang/IndexOutOfBoundsException"))) := by
  have hbl := fun x => isB_pip (x := x) hn ep
  refine CYV_of mcX8_roomAt (Nat.le_of_ble_eq_true rfl) (cat1 rfl) (fun θ0 => ?_)
  have K62 : ∀ r : Int32, kRat σ p q = 0 → r = (if q < σ.2 31 p.toNatClampNeg then σ.2 32 (36 * p + q).toNatClampNeg else -1) → Y w mX8_roomAt θ0 κ (fun v κ' => kRat σ p q = 0 ∧ v = some (.int (if q < σ.2 31 p.toNatClampNeg then σ.2 32 (36 * p + q).toNatClampNeg else -1)) ∧ κ' = κ) (fun E κ' => κ' = κ ∧ ((kRat σ p q = 1 ∧ E = "java/lang/IndexOutOfBoundsException"))) 0 0 62 [some (.ref (tS 4)), some (.int p), some (.int q), some (.ref (tP p.toNatClampNeg))] [.int r] κ := by
    intro r hk hr
    refine runY_go rkX8_roomAt (fun p => Nat.beq p 22 || Nat.beq p 32 || Nat.beq p 62) 200 rfl ?_
    refine And.intro ⟨Nat.le_of_ble_eq_true rfl, Nat.le_of_ble_eq_true rfl⟩ ?_
    exact ⟨hk, by rw [hr], rfl⟩
  have K32 : ∀ x3 : Option Value, kRat σ p q = 1 → Y w mX8_roomAt θ0 κ (fun v κ' => kRat σ p q = 0 ∧ v = some (.int (if q < σ.2 31 p.toNatClampNeg then σ.2 32 (36 * p + q).toNatClampNeg else -1)) ∧ κ' = κ) (fun E κ' => κ' = κ ∧ ((kRat σ p q = 1 ∧ E = "java/lang/IndexOutOfBoundsException"))) 0 0 32 [some (.ref (tS 4)), some (.int p), some (.int q), x3] [] κ := by
    intro x3 hk
    refine yX8_roomAt_32z (st := []) rfl rfl ?_
    exact ⟨rfl, hk, rfl⟩
  have K22 : ¬ isB np p → Y w mX8_roomAt θ0 κ (fun v κ' => kRat σ p q = 0 ∧ v = some (.int (if q < σ.2 31 p.toNatClampNeg then σ.2 32 (36 * p + q).toNatClampNeg else -1)) ∧ κ' = κ) (fun E κ' => κ' = κ ∧ ((kRat σ p q = 1 ∧ E = "java/lang/IndexOutOfBoundsException"))) 0 0 22 [some (.ref (tS 4)), some (.int p), some (.int q), none] [] κ := by
    intro h0
    refine runY_go rkX8_roomAt (fun p => Nat.beq p 22 || Nat.beq p 32 || Nat.beq p 62) 200 rfl ?_
    exact K32 _ (by unfold kRat; rw [if_neg]; intro z; first | exact absurd ((hbl p).mp z.1) (by assumption) | exact absurd z.2 (by assumption) | exact absurd z.2 (Int32.not_le.mpr (by assumption)))
  refine runY_ok rkX8_roomAt (fun p => Nat.beq p 22 || Nat.beq p 32 || Nat.beq p 62) 200 _ _ _ _ _ _ ?_
  refine And.intro (fun c1 => ?_) (fun c1 => ?_)
  · skip
    exact K22 (by first | assumption | (intro z; first | exact absurd z.1 (Int32.not_le.mpr (by assumption)) | exact isB_pout hn z (by assumption)))
  · skip
    refine And.intro hG.t4 ⟨some (tS 7), hG.r42, ?_⟩
    refine And.intro (by rw [hG.t7]; decide) ?_
    refine And.intro (fun c2 => ?_) (fun c2 => ?_)
    · rw [hG.n7, show Int32.ofNat 30 = 30 from rfl] at c2
      exact K22 (by first | assumption | (intro z; first | exact absurd z.1 (Int32.not_le.mpr (by assumption)) | exact isB_pout hn z (by assumption)))
    · rw [hG.n7, show Int32.ofNat 30 = 30 from rfl] at c2
      refine And.intro hG.t4 ⟨some (tS 7), hG.r42, ?_⟩
      by_cases hs3 : isB np p
      · skip
        refine And.intro ⟨(by rw [hG.t7]; decide), (by rw [hG.n7]; exact (in_lt (c := 30) rfl ‹_› ‹_›))⟩ ⟨some (tP p.toNatClampNeg), ((hP.1 _ (lt_of_in (in_lt (c := 30) rfl ‹_› ‹_›))).trans (if_pos (isB_cl (by omega) hs3))), ?_⟩
        refine And.intro (fun c4 => ?_) (fun c4 => ?_)
        · skip
          refine And.intro (hP.2.1 _ (isB_cl (by omega) (by assumption : isB np p))).1 ⟨some (tC p.toNatClampNeg), (hP.2.1 _ (isB_cl (by omega) (by assumption : isB np p))).2.1, ?_⟩
          refine And.intro (by rw [(hP.2.1 _ (isB_cl (by omega) (by assumption : isB np p))).2.2.1]; decide) ?_
          refine And.intro (fun c5 => ?_) (fun c5 => ?_)
          · skip
            exact K62 _ (by unfold kRat; rw [if_pos ⟨(hbl p).mpr (by assumption), by assumption⟩]) (by first | exact (rat_y hP hl hn (by assumption) (by assumption) (by assumption)).2 | exact rat_n hP hl hn (by assumption) (by assumption))
          · skip
            refine And.intro (hP.2.1 _ (isB_cl (by omega) (by assumption : isB np p))).1 ⟨some (tC p.toNatClampNeg), (hP.2.1 _ (isB_cl (by omega) (by assumption : isB np p))).2.1, ?_⟩
            refine And.intro ⟨(hP.2.1 _ (isB_cl (by omega) (by assumption : isB np p))).2.2.1, (rat_y hP hl hn (by assumption) (by assumption) (by assumption)).1⟩ ?_
            exact K62 _ (by unfold kRat; rw [if_pos ⟨(hbl p).mpr (by assumption), by assumption⟩]) (by first | exact (rat_y hP hl hn (by assumption) (by assumption) (by assumption)).2 | exact rat_n hP hl hn (by assumption) (by assumption))
        · skip
          exact K32 _ (by unfold kRat; rw [if_neg]; intro z; first | exact absurd ((hbl p).mp z.1) (by assumption) | exact absurd z.2 (by assumption) | exact absurd z.2 (Int32.not_le.mpr (by assumption)))
      · skip
        refine And.intro ⟨(by rw [hG.t7]; decide), (by rw [hG.n7]; exact (in_lt (c := 30) rfl ‹_› ‹_›))⟩ ⟨none, ((hP.1 _ (lt_of_in (in_lt (c := 30) rfl ‹_› ‹_›))).trans (if_neg (fun z => hs3 ((isB_lt (in_lt (c := 30) rfl ‹_› ‹_›) (by decide) hn).mpr z)))), ?_⟩
        exact K32 _ (by unfold kRat; rw [if_neg]; intro z; first | exact absurd ((hbl p).mp z.1) (by assumption) | exact absurd z.2 (by assumption) | exact absurd z.2 (Int32.not_le.mpr (by assumption)))


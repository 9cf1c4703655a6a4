
/-! THE COMPONENT'S PUBLIC METHODS, 8: weldNow, repair -/
def hRt (κ : AH) (σ : MS) : Prop := (∀ c, c < 36 → gR κ (tS 8) c = if σ.2 25 c = -1 then none else some (tR c)) ∧ ∀ c, c < 36 → ¬ σ.2 25 c = -1 → gT κ (tR c) = 5
theorem hRm_t {κ : AH} {σ : MS} {nb : Nat} (h : hRm κ σ nb) : hRt κ σ := ⟨h.1, fun c hc hn => (h.2.1 c hc hn).1.1⟩
set_option maxRecDepth 20000 in
theorem d_X8_spoilAt {w : W0} {κ : AH} {f l : Int32} {σ : MS} (hG : SG κ) (hR : hRt κ σ) : CY w yX8_spoilAt mX8_spoilAt [.ref (tS 4), .int f, .int l] κ (fun v κ' => v = none ∧ κ' = spR σ κ (clO f l)) := by
  refine CY_of mcX8_spoilAt (Nat.le_of_ble_eq_true rfl) (cat1 rfl) (fun θ0 => ?_)
  refine runY_ok rkX8_spoilAt (fun p => Nat.beq p 19) 200 _ _ _ _ _ _ ?_
  refine And.intro hG.t4 ⟨some (tS 0), hG.r43, ?_⟩
  refine pX8_spoilAt_6 rfl rfl rfl hG.t0 (c_X1_roomOn hG hR.1) (fun v κ1 hq1 ho1 hk1 => ?_)
  by_cases hs1 : isRm σ (clO f l)
  · skip
    rw [rmO_y hs1] at hq1
    obtain ⟨rfl, ehq1⟩ := hq1
    rw [ehq1]
    refine runY_ok rkX8_spoilAt (fun p => Nat.beq p 19) 200 _ _ _ _ _ _ ?_
    refine pX8_spoilAt_15 rfl rfl rfl (hR.2 _ (isRm_lt (by assumption : isRm σ (clO f l))) (by assumption : isRm σ (clO f l)).2) (c_X4_spoil (hR.2 _ (isRm_lt (by assumption : isRm σ (clO f l))) (by assumption : isRm σ (clO f l)).2)) (fun v κ1 hq2 ho2 hk2 => ?_)
    obtain ⟨rfl, ehq2⟩ := hq2
    rw [ehq2]
    refine runY_ok rkX8_spoilAt (fun p => Nat.beq p 19) 200 _ _ _ _ _ _ ?_
    refine runY_go rkX8_spoilAt noCut 5 rfl ?_
    refine And.intro ⟨Nat.le_of_ble_eq_true rfl, Nat.le_of_ble_eq_true rfl⟩ ?_
    first | exact ⟨rfl, (if_pos ‹isRm σ (clO f l)›).symm⟩ | exact ⟨rfl, (if_neg ‹¬ isRm σ (clO f l)›).symm⟩
  · skip
    rw [rmO_n hs1] at hq1
    obtain ⟨rfl, ehq1⟩ := hq1
    rw [ehq1]
    refine runY_ok rkX8_spoilAt (fun p => Nat.beq p 19) 200 _ _ _ _ _ _ ?_
    refine runY_go rkX8_spoilAt noCut 5 rfl ?_
    refine And.intro ⟨Nat.le_of_ble_eq_true rfl, Nat.le_of_ble_eq_true rfl⟩ ?_
    first | exact ⟨rfl, (if_pos ‹isRm σ (clO f l)›).symm⟩ | exact ⟨rfl, (if_neg ‹¬ isRm σ (clO f l)›).symm⟩

theorem spR_T {σ : MS} {κ : AH} {x : Int32} {t : Nat} : gT (spR σ κ x) t = gT κ t := by unfold spR; split <;> rfl
theorem spR_N {σ : MS} {κ : AH} {x : Int32} {t : Nat} : gN (spR σ κ x) t = gN κ t := by unfold spR; split <;> rfl
theorem spR_R {σ : MS} {κ : AH} {x : Int32} {t j : Nat} : gR (spR σ κ x) t j = gR κ t j := by unfold spR; split <;> rfl
theorem spR_SG {σ : MS} {κ : AH} {x : Int32} (h : SG κ) : SG (spR σ κ x) := by unfold spR; split <;> exact h
theorem spR_t {σ : MS} {κ : AH} {x : Int32} (h : hRt κ σ) : hRt (spR σ κ x) σ := by unfold spR; split <;> exact h
theorem spR_I {σ : MS} {κ : AH} {x : Int32} {t j : Nat} (h : ∀ c, t ≠ tR c) : gI (spR σ κ x) t j = gI κ t j := by
  unfold spR
  split
  · rw [gI_sI, if_neg (fun z => h _ z.1)]
  · rfl
def flw (κ : AH) (y : Int32) : Int32 := if p100 (rnd (gI κ (tS 3) 1)) < gI κ (tS 9) y.toNatClampNeg then 1 else 0
/-- the weld is made now: the draw, its state -/
def wdH (κ : AH) (k : Nat) (y : Int32) : AH := sI (sI (sI κ (tS 3) 1 (rnd (gI κ (tS 3) 1))) (tW k) 4 (flw κ y)) (tW k) 2 0
def wnH (κ : AH) (σ : MS) (k j : Nat) (y : Int32) : AH := if σ.2 9 (whI σ j) = 2 then spR σ (spR σ (wdH κ k y) (clO (gI κ (tW k) 1 - 1) (gI κ (tB j) 3))) (clO (gI κ (tW k) 1) (gI κ (tB j) 3)) else wdH κ k y
theorem wdH_W {κ : AH} {k : Nat} {y : Int32} {p : Nat} (h4 : p ≠ 4) (h2 : p ≠ 2) : gI (wdH κ k y) (tW k) p = gI κ (tW k) p := by
  unfold wdH
  rw [gI_sI, if_neg (fun z => h2 z.2), gI_sI, if_neg (fun z => h4 z.2), gI_sI, if_neg (fun z => tW_S.mp z.1)]
theorem wdH_B {κ : AH} {k : Nat} {y : Int32} {i p : Nat} : gI (wdH κ k y) (tB i) p = gI κ (tB i) p := by
  unfold wdH
  rw [gI_sI, if_neg (fun z => tB_W.mp z.1), gI_sI, if_neg (fun z => tB_W.mp z.1), gI_sI, if_neg (fun z => tB_S.mp z.1)]
set_option maxRecDepth 20000 in
theorem c_X8_weldNow {w : W0} {κ : AH} {k j : Nat} {y : Int32} {σ : MS} {nb : Nat} (hG : SG κ) (hR : hRt κ σ) (hch : chn σ nb) (hC : hCh κ σ nb) (h8 : ∀ i, i < nb → gI κ (tB i) 8 = σ.2 9 i) (hk7 : gT κ (tW k) = 7) (hk0 : gR κ (tW k) 0 = some (tB j)) (hj : j < nb) (hy : vp_in y 4) : CY w yX8_weldNow mX8_weldNow [.ref (tS 4), .ref (tW k), .int y] κ (fun v κ' => v = none ∧ κ' = wnH κ σ k j y) := by
  refine CY_of mcX8_weldNow (Nat.le_of_ble_eq_true rfl) (cat1 rfl) (fun θ0 => ?_)
  refine runY_ok rkX8_weldNow (fun p => Nat.beq p 56) 200 _ _ _ _ _ _ ?_
  refine And.intro (by first | exact hG.t4 | exact spR_T.trans hG.t4) ⟨some (tS 3), hG.r45, ?_⟩
  refine pX8_weldNow_6 rfl rfl rfl hG.t3 (show CY w yX7_drawFlaw mX7_drawFlaw [.ref (tS 3), .int y] κ (fun v κ' => v = some (.int (flw κ y)) ∧ κ' = sI κ (tS 3) 1 (rnd (gI κ (tS 3) 1))) from c_X7_drawFlaw hG.t3 hG.t9 hG.n9 hG.r30 hy) (fun v κ1 hq1 ho1 hk1 => ?_)
  obtain ⟨rfl, ehq1⟩ := hq1
  rw [ehq1]
  refine runY_ok rkX8_weldNow (fun p => Nat.beq p 56) 200 _ _ _ _ _ _ ?_
  refine And.intro ⟨(by first | exact hk7 | exact spR_T.trans hk7), (by unfold flw; split <;> simp)⟩ ?_
  refine And.intro (by first | exact hk7 | exact spR_T.trans hk7) ?_
  refine pX8_weldNow_18 rfl rfl rfl (by first | exact hk7 | exact spR_T.trans hk7) (c_X6_isStanding (κ := wdH κ k y) hch hC (fun i hi => wdH_B.trans (h8 i hi)) hk7 hk0 hj) (fun v κ1 hq2 ho2 hk2 => ?_)
  obtain ⟨rfl, ehq2⟩ := hq2
  rw [ehq2]
  refine runY_ok rkX8_weldNow (fun p => Nat.beq p 56) 200 _ _ _ _ _ _ ?_
  refine And.intro (fun c3 => ?_) (fun c3 => ?_)
  · try simp only [b01_eq, b01_ne, Classical.not_not] at c3
    refine runY_go rkX8_weldNow noCut 5 rfl ?_
    refine And.intro ⟨Nat.le_of_ble_eq_true rfl, Nat.le_of_ble_eq_true rfl⟩ ?_
    first | exact ⟨rfl, (if_pos (by assumption : σ.2 9 (whI σ j) = 2)).symm⟩ | exact ⟨rfl, (if_neg (by assumption : ¬ σ.2 9 (whI σ j) = 2)).symm⟩
  · try simp only [b01_eq, b01_ne, Classical.not_not] at c3
    refine And.intro (by first | exact hk7 | exact spR_T.trans hk7) ?_
    refine And.intro (by first | exact hk7 | exact spR_T.trans hk7) ⟨some (tB j), (by first | exact hk0 | exact spR_R.trans hk0), ?_⟩
    refine And.intro (by first | exact (hC j hj).1 | exact spR_T.trans (hC j hj).1) ?_
    refine pX8_weldNow_38 rfl rfl rfl (by first | exact hG.t4 | exact spR_T.trans hG.t4) (show CY w yX8_spoilAt mX8_spoilAt [.ref (tS 4), .int (gI (wdH κ k y) (tW k) 1 - 1), .int (gI (wdH κ k y) (tB j) 3)] (wdH κ k y) (fun v κ' => v = none ∧ κ' = (spR σ (wdH κ k y) (clO (gI κ (tW k) 1 - 1) (gI κ (tB j) 3)))) from by have h9 := d_X8_spoilAt (w := w) (κ := (wdH κ k y)) (f := gI (wdH κ k y) (tW k) 1 - 1) (l := gI (wdH κ k y) (tB j) 3) (σ := σ) hG hR; simp only [wdH_W (κ := κ) (k := k) (y := y) (p := 1) (by decide) (by decide), wdH_B] at h9 ⊢; exact h9) (fun v κ1 hq4 ho4 hk4 => ?_)
    obtain ⟨rfl, ehq4⟩ := hq4
    rw [ehq4]
    refine runY_ok rkX8_weldNow (fun p => Nat.beq p 56) 200 _ _ _ _ _ _ ?_
    refine And.intro (by first | exact hk7 | exact spR_T.trans hk7) ?_
    refine And.intro (by first | exact hk7 | exact spR_T.trans hk7) ⟨some (tB j), (by first | exact hk0 | exact spR_R.trans hk0), ?_⟩
    refine And.intro (by first | exact (hC j hj).1 | exact spR_T.trans (hC j hj).1) ?_
    refine pX8_weldNow_53 rfl rfl rfl (by first | exact hG.t4 | exact spR_T.trans hG.t4) (show CY w yX8_spoilAt mX8_spoilAt [.ref (tS 4), .int (gI (spR σ (wdH κ k y) (clO (gI κ (tW k) 1 - 1) (gI κ (tB j) 3))) (tW k) 1), .int (gI (spR σ (wdH κ k y) (clO (gI κ (tW k) 1 - 1) (gI κ (tB j) 3))) (tB j) 3)] (spR σ (wdH κ k y) (clO (gI κ (tW k) 1 - 1) (gI κ (tB j) 3))) (fun v κ' => v = none ∧ κ' = (spR σ (spR σ (wdH κ k y) (clO (gI κ (tW k) 1 - 1) (gI κ (tB j) 3))) (clO (gI κ (tW k) 1) (gI κ (tB j) 3)))) from by have h9 := d_X8_spoilAt (w := w) (κ := (spR σ (wdH κ k y) (clO (gI κ (tW k) 1 - 1) (gI κ (tB j) 3)))) (f := gI (spR σ (wdH κ k y) (clO (gI κ (tW k) 1 - 1) (gI κ (tB j) 3))) (tW k) 1) (l := gI (spR σ (wdH κ k y) (clO (gI κ (tW k) 1 - 1) (gI κ (tB j) 3))) (tB j) 3) (σ := σ) (spR_SG hG) (spR_t hR); rw [spR_I (t := tW k) (fun c z => tW_R.mp z), spR_I (t := tB j) (fun c z => tB_R.mp z), wdH_W (by decide) (by decide), wdH_B] at h9 ⊢; exact h9) (fun v κ1 hq5 ho5 hk5 => ?_)
    obtain ⟨rfl, ehq5⟩ := hq5
    rw [ehq5]
    refine runY_go rkX8_weldNow noCut 5 rfl ?_
    refine And.intro ⟨Nat.le_of_ble_eq_true rfl, Nat.le_of_ble_eq_true rfl⟩ ?_
    first | exact ⟨rfl, (if_pos (by assumption : σ.2 9 (whI σ j) = 2)).symm⟩ | exact ⟨rfl, (if_neg (by assumption : ¬ σ.2 9 (whI σ j) = 2)).symm⟩

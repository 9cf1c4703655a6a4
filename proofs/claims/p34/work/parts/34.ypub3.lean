/-! THE COMPONENT'S PUBLIC METHODS, 3: test, fit, paint, launch -/
theorem nI_mm {k : Nat} (h : k < 2 ^ 31) : ¬ nI k = -1 := by
  intro z
  have := congrArg Int32.toInt z
  rw [nI_toInt h] at this
  have : (-1 : Int32).toInt = -1 := rfl
  omega
/-- scrapped goes through -/
def scT (σ : MS) (nb : Nat) : Prop := ∀ i, i < nb → (σ.2 9 (whI σ i) = 3 ↔ σ.2 9 i = 3)
theorem iScr_eq {σ : MS} {nb k j : Nat} {x : Int32} (hn : nb ≤ 60) (hw : wbK σ nb k j) (hs : scT σ nb) (ex : x.toNatClampNeg = k) : iScr σ x ↔ σ.2 9 (whI σ j) = 3 := by
  obtain ⟨h1, -, h3, h4⟩ := hw
  unfold iScr
  rw [ex, hs j h1]
  by_cases e : σ.2 24 k = -1
  · rw [(h3 e).1]
    exact ⟨fun z => absurd e z.1, fun z => absurd z (by decide)⟩
  · rw [h4 e, nI_clamp (n := j) (by omega)]
    exact ⟨fun z => z.2, fun z => ⟨nI_mm (by omega), z⟩⟩
theorem whI_root {σ : MS} {j : Nat} (hj : j < 2 ^ 31) (h : σ.2 17 j = -1) : whI σ j = j := by
  unfold whI whl whN
  rw [nI_clamp (n := j) hj, if_pos h, nI_clamp hj]
theorem iSta_eq {σ : MS} {nb k j : Nat} {x : Int32} (hn : nb ≤ 60) (hw : wbK σ nb k j) (ex : x.toNatClampNeg = k) : iSta σ x ↔ σ.2 9 (whI σ j) = 2 := by
  obtain ⟨h1, -, h3, h4⟩ := hw
  unfold iSta
  rw [ex]
  by_cases e : σ.2 24 k = -1
  · rw [whI_root (by omega) (h3 e).2, (h3 e).1]
    exact ⟨fun _ => rfl, fun _ => Or.inl e⟩
  · rw [h4 e]
    exact ⟨fun z => z.elim (fun q => absurd q (nI_mm (by omega))) id, Or.inr⟩
set_option maxRecDepth 20000 in
theorem c_X8_test {w : W0} {κ : AH} {b : Int32} {σ : MS} {nb : Nat} (hn : nb ≤ 60) (eb : σ.1 8 = nI nb) (hG : SG κ) (hR : hRm κ σ nb) (hBk : hB κ σ nb) {nw : Nat} {wb : Nat → Nat} (hnw : nw ≤ 100) (ew : σ.1 18 = nI nw) (hWl : hW κ σ nb nw wb) (hch : chn σ nb) (hsc : scT σ nb) : CYV w yX8_test mX8_test [.ref (tS 4), .int b] κ (fun v κ' => kTest σ b = 0 ∧ v = some (.int (if ¬ σ.2 20 b.toNatClampNeg = 0 then 2 else 1)) ∧ κ' = sI κ (tW b.toNatClampNeg) 2 (if ¬ σ.2 20 b.toNatClampNeg = 0 then 2 else 1)) (fun E κ' => κ' = κ ∧ ((kTest σ b = 1 ∧ E = "java/lang/IndexOutOfBoundsException") ∨ (kTest σ b = 2 ∧ E = "java/lang/IllegalStateException"))) := by
  have hbl := fun x => isB_wld (x := x) hnw ew
  refine CYV_of mcX8_test (Nat.le_of_ble_eq_true rfl) (cat1 rfl) (fun θ0 => ?_)
  have K57 : ∀ r : Int32, isB nw b → kTest σ b = 0 → r = (if ¬ σ.2 20 b.toNatClampNeg = 0 then 2 else 1) → Y w mX8_test θ0 κ (fun v κ' => kTest σ b = 0 ∧ v = some (.int (if ¬ σ.2 20 b.toNatClampNeg = 0 then 2 else 1)) ∧ κ' = sI κ (tW b.toNatClampNeg) 2 (if ¬ σ.2 20 b.toNatClampNeg = 0 then 2 else 1)) (fun E κ' => κ' = κ ∧ ((kTest σ b = 1 ∧ E = "java/lang/IndexOutOfBoundsException") ∨ (kTest σ b = 2 ∧ E = "java/lang/IllegalStateException"))) 0 0 57 [some (.ref (tS 4)), some (.int b), some (.ref (tW b.toNatClampNeg))] [.int r, .ref (tW b.toNatClampNeg)] κ := by
    intro r hib hk hr
    refine runY_go rkX8_test (fun p => Nat.beq p 34 || Nat.beq p 57) 200 rfl ?_
    refine And.intro (hWl.2.1 _ (isB_cl (by omega) (by assumption : isB nw b))).1.1 ?_
    refine And.intro (hWl.2.1 _ (isB_cl (by omega) (by assumption : isB nw b))).1.1 ?_
    refine And.intro ⟨Nat.le_of_ble_eq_true rfl, Nat.le_of_ble_eq_true rfl⟩ ?_
    refine ⟨hk, ?_, by rw [hr]⟩
    rw [gI_sI, if_pos ⟨rfl, rfl⟩, hr]
  have K34 : kTest σ b = 2 → ∀ x2, Y w mX8_test θ0 κ (fun v κ' => kTest σ b = 0 ∧ v = some (.int (if ¬ σ.2 20 b.toNatClampNeg = 0 then 2 else 1)) ∧ κ' = sI κ (tW b.toNatClampNeg) 2 (if ¬ σ.2 20 b.toNatClampNeg = 0 then 2 else 1)) (fun E κ' => κ' = κ ∧ ((kTest σ b = 1 ∧ E = "java/lang/IndexOutOfBoundsException") ∨ (kTest σ b = 2 ∧ E = "java/lang/IllegalStateException"))) 0 0 34 [some (.ref (tS 4)), some (.int b), x2] [] κ := by
    intro hk x2
    refine yX8_test_34z (st := []) rfl rfl ?_
    exact ⟨rfl, Or.inr ⟨hk, rfl⟩⟩
  refine runY_ok rkX8_test (fun p => Nat.beq p 34 || Nat.beq p 57) 200 _ _ _ _ _ _ ?_
  refine pX8_test_2 rfl rfl rfl hG.t4 (c_X8_weldOf hnw hG hWl.1) (fun v κ1 hq1 ho1 hk1 => ?_)
  by_cases hs1 : isB nw b
  · skip
    rw [wlO_y hs1] at hq1
    obtain ⟨rfl, ehq1⟩ := hq1
    rw [ehq1]
    refine runY_ok rkX8_test (fun p => Nat.beq p 34 || Nat.beq p 57) 200 _ _ _ _ _ _ ?_
    refine And.intro (hWl.2.1 _ (isB_cl (by omega) (by assumption : isB nw b))).1.1 ?_
    refine And.intro (fun c2 => ?_) (fun c2 => ?_)
    · rw [(hWl.2.1 _ (isB_cl (by omega) (by assumption : isB nw b))).1.2.2.2.1] at c2
      exact K34 (by unfold kTest; rw [if_pos ((hbl b).mpr (by assumption))]; grind) _
    · rw [(hWl.2.1 _ (isB_cl (by omega) (by assumption : isB nw b))).1.2.2.2.1] at c2
      refine pX8_test_28 rfl rfl rfl (hWl.2.1 _ (isB_cl (by omega) (by assumption : isB nw b))).1.1 (show CY w yX6_isScrapped mX6_isScrapped [.ref (tW b.toNatClampNeg)] κ (fun v κ' => v = some (.int (if iScr σ b then 1 else 0)) ∧ κ' = κ) from by have h9 := c_X6_isScrapped (w := w) hch (hB.ch hBk) (fun i hi => (hBk.2.1 i hi).2.2.2.2.2.2.2.2.2.1) (hWl.2.1 _ (isB_cl (by omega) (by assumption : isB nw b))).1.1 (hWl.2.1 _ (isB_cl (by omega) (by assumption : isB nw b))).1.2.1 (hWl.2.1 _ (isB_cl (by omega) (by assumption : isB nw b))).2.1; simp only [← iScr_eq hn (hWl.2.1 _ (isB_cl (by omega) (by assumption : isB nw b))).2 hsc rfl] at h9; exact h9) (fun v κ1 hq3 ho3 hk3 => ?_)
      obtain ⟨rfl, ehq3⟩ := hq3
      rw [ehq3]
      refine runY_ok rkX8_test (fun p => Nat.beq p 34 || Nat.beq p 57) 200 _ _ _ _ _ _ ?_
      refine And.intro (fun c4 => ?_) (fun c4 => ?_)
      · try simp only [b01_eq, b01_ne, Classical.not_not] at c4
        refine And.intro (hWl.2.1 _ (isB_cl (by omega) (by assumption : isB nw b))).1.1 ?_
        refine And.intro (fun c5 => ?_) (fun c5 => ?_)
        · rw [(hWl.2.1 _ (isB_cl (by omega) (by assumption : isB nw b))).1.2.2.2.2.2] at c5
          exact K57 _ (by assumption) (by unfold kTest; rw [if_pos ((hbl b).mpr (by assumption))]; grind) (by grind)
        · rw [(hWl.2.1 _ (isB_cl (by omega) (by assumption : isB nw b))).1.2.2.2.2.2] at c5
          exact K57 _ (by assumption) (by unfold kTest; rw [if_pos ((hbl b).mpr (by assumption))]; grind) (by grind)
      · try simp only [b01_eq, b01_ne, Classical.not_not] at c4
        exact K34 (by unfold kTest; rw [if_pos ((hbl b).mpr (by assumption))]; grind) _
  · skip
    rw [wlO_n hs1] at hq1
    obtain ⟨rfl, ehq1⟩ := hq1
    rw [ehq1]
    refine runY_ok rkX8_test (fun p => Nat.beq p 34 || Nat.beq p 57) 200 _ _ _ _ _ _ ?_
    refine yX8_test_10z (st := []) rfl rfl ?_
    refine ⟨rfl, Or.inl ⟨?_, rfl⟩⟩
    unfold kTest; rw [if_neg (fun z => absurd ((hbl b).mp z) (by assumption))]

theorem frm_c {κ : AH} {σ : MS} {x : Int32} (h : pRm κ σ x.toNatClampNeg) (hx : isRm σ x) : gI κ (tR x.toNatClampNeg) 0 = x := by
  rw [h.2.1]
  exact (in_n (in_c (c := 35) (n := 36) (by decide) hx.1)).symm
set_option maxRecDepth 20000 in
theorem c_X8_fit {w : W0} {κ : AH} {x t : Int32} {σ : MS} {nb : Nat} (hn : nb ≤ 60) (eb : σ.1 8 = nI nb) (hG : SG κ) (hR : hRm κ σ nb) (hBk : hB κ σ nb) : CYV w yX8_fit mX8_fit [.ref (tS 4), .int x, .int t] κ (fun v κ' => kFit σ x t = 0 ∧ v = some (.int (σ.2 27 x.toNatClampNeg + t)) ∧ κ' = sI (sI (sI κ (tR x.toNatClampNeg) 3 (σ.2 27 x.toNatClampNeg + t)) (tS 0) 1 (gI κ (tS 0) 1 + t)) (tS 0) 2 (gI κ (tS 0) 2 + t * (2 * (x - x / 12 * 12)))) (fun E κ' => κ' = κ ∧ ((kFit σ x t = 1 ∧ E = "java/lang/IndexOutOfBoundsException") ∨ (kFit σ x t = 2 ∧ E = "java/lang/IllegalArgumentException") ∨ (kFit σ x t = 3 ∧ E = "java/lang/IllegalStateException"))) := by
  refine CYV_of mcX8_fit (Nat.le_of_ble_eq_true rfl) (cat1 rfl) (fun θ0 => ?_)
  have K63 : kFit σ x t = 3 → ∀ x3, Y w mX8_fit θ0 κ (fun v κ' => kFit σ x t = 0 ∧ v = some (.int (σ.2 27 x.toNatClampNeg + t)) ∧ κ' = sI (sI (sI κ (tR x.toNatClampNeg) 3 (σ.2 27 x.toNatClampNeg + t)) (tS 0) 1 (gI κ (tS 0) 1 + t)) (tS 0) 2 (gI κ (tS 0) 2 + t * (2 * (x - x / 12 * 12)))) (fun E κ' => κ' = κ ∧ ((kFit σ x t = 1 ∧ E = "java/lang/IndexOutOfBoundsException") ∨ (kFit σ x t = 2 ∧ E = "java/lang/IllegalArgumentException") ∨ (kFit σ x t = 3 ∧ E = "java/lang/IllegalStateException"))) 0 0 63 [some (.ref (tS 4)), some (.int x), some (.int t), x3] [] κ := by
    intro hk x3
    refine yX8_fit_63z (st := []) rfl rfl ?_
    exact ⟨rfl, Or.inr (Or.inr ⟨hk, rfl⟩)⟩
  refine runY_ok rkX8_fit (fun p => Nat.beq p 63) 200 _ _ _ _ _ _ ?_
  refine And.intro hG.t4 ⟨some (tS 0), hG.r43, ?_⟩
  refine pX8_fit_5 rfl rfl rfl hG.t0 (c_X1_roomOf hG hR.1) (fun v κ1 hq1 ho1 hk1 => ?_)
  by_cases hs1 : isRm σ x
  · skip
    rw [rmO_y hs1] at hq1
    obtain ⟨rfl, ehq1⟩ := hq1
    rw [ehq1]
    refine runY_ok rkX8_fit (fun p => Nat.beq p 63) 200 _ _ _ _ _ _ ?_
    refine pX8_fit_28 rfl rfl rfl d_X8_isWithin (fun v κ1 hq2 ho2 hk2 => ?_)
    obtain ⟨rfl, ehq2⟩ := hq2
    rw [ehq2]
    refine runY_ok rkX8_fit (fun p => Nat.beq p 63) 200 _ _ _ _ _ _ ?_
    refine And.intro (fun c3 => ?_) (fun c3 => ?_)
    · try simp only [b01_eq, b01_ne, Classical.not_not] at c3
      refine And.intro (pRm_bl hR hBk hn (isRm_lt (by assumption : isRm σ x)) (by assumption : isRm σ x).2).1.1 ?_
      refine And.intro (fun c4 => ?_) (fun c4 => ?_)
      · rw [(pRm_bl hR hBk hn (isRm_lt (by assumption : isRm σ x)) (by assumption : isRm σ x).2).1.2.2.2.1] at c4
        exact K63 (by unfold kFit; rw [if_pos (by assumption)]; grind) _
      · rw [(pRm_bl hR hBk hn (isRm_lt (by assumption : isRm σ x)) (by assumption : isRm σ x).2).1.2.2.2.1] at c4
        refine And.intro (pRm_bl hR hBk hn (isRm_lt (by assumption : isRm σ x)) (by assumption : isRm σ x).2).1.1 ?_
        refine And.intro (fun c5 => ?_) (fun c5 => ?_)
        · rw [(pRm_bl hR hBk hn (isRm_lt (by assumption : isRm σ x)) (by assumption : isRm σ x).2).1.2.2.2.2.1] at c5
          refine And.intro (pRm_bl hR hBk hn (isRm_lt (by assumption : isRm σ x)) (by assumption : isRm σ x).2).1.1 ?_
          refine And.intro (pRm_bl hR hBk hn (isRm_lt (by assumption : isRm σ x)) (by assumption : isRm σ x).2).1.1 ?_
          refine And.intro hG.t4 ⟨some (tS 0), hG.r43, ?_⟩
          refine pX8_fit_91 rfl rfl rfl (pRm_bl hR hBk hn (isRm_lt (by assumption : isRm σ x)) (by assumption : isRm σ x).2).1.1 (c_X4_frame (pRm_bl hR hBk hn (isRm_lt (by assumption : isRm σ x)) (by assumption : isRm σ x).2).1.1) (fun v κ1 hq6 ho6 hk6 => ?_)
          obtain ⟨rfl, ehq6⟩ := hq6
          rw [ehq6]
          refine runY_ok rkX8_fit (fun p => Nat.beq p 63) 200 _ _ _ _ _ _ ?_
          refine pX8_fit_95 rfl rfl rfl hG.t0 (c_X1_load hG.t0) (fun v κ1 hq7 ho7 hk7 => ?_)
          obtain ⟨rfl, ehq7⟩ := hq7
          rw [ehq7]
          refine runY_ok rkX8_fit (fun p => Nat.beq p 63) 200 _ _ _ _ _ _ ?_
          refine And.intro (pRm_bl hR hBk hn (isRm_lt (by assumption : isRm σ x)) (by assumption : isRm σ x).2).1.1 ?_
          refine And.intro ⟨Nat.le_of_ble_eq_true rfl, Nat.le_of_ble_eq_true rfl⟩ ?_
          have hx := (by assumption : isRm σ x)
          have q3 := (pRm_bl hR hBk hn (isRm_lt (by assumption : isRm σ x)) (by assumption : isRm σ x).2).1.2.2.2.2.1
          have q0 := frm_c (pRm_bl hR hBk hn (isRm_lt (by assumption : isRm σ x)) (by assumption : isRm σ x).2).1 hx
          refine ⟨by unfold kFit; rw [if_pos hx]; grind, ?_, ?_⟩
          · simp only [gI_sI, tR_S, tS_R, tS_inj, false_and, if_false, and_self, if_true, q3]
          · simp only [gI_sI, tR_S, tS_R, false_and, and_false, if_false, if_true, q3, q0]
            simp
        · rw [(pRm_bl hR hBk hn (isRm_lt (by assumption : isRm σ x)) (by assumption : isRm σ x).2).1.2.2.2.2.1] at c5
          exact K63 (by unfold kFit; rw [if_pos (by assumption)]; grind) _
    · try simp only [b01_eq, b01_ne, Classical.not_not] at c3
      refine yX8_fit_34z (st := []) rfl rfl ?_
      refine ⟨rfl, Or.inr (Or.inl ⟨?_, rfl⟩)⟩
      unfold kFit; rw [if_pos (by assumption), if_neg (by grind)]
  · skip
    rw [rmO_n hs1] at hq1
    obtain ⟨rfl, ehq1⟩ := hq1
    rw [ehq1]
    refine runY_ok rkX8_fit (fun p => Nat.beq p 63) 200 _ _ _ _ _ _ ?_
    refine yX8_fit_13z (st := []) rfl rfl ?_
    refine ⟨rfl, Or.inl ⟨?_, rfl⟩⟩
    exact if_neg (by assumption)


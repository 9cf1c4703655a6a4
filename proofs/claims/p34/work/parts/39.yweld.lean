/-! THE COMPONENT'S PUBLIC METHODS, 8: weldNow, repair -/
def hRt (κ : AH) (σ : MS) : Prop := (∀ c, c < 36 → gR κ (tS 8) c = if σ.2 25 c = -1 then none else some (tR c)) ∧ ∀ c, c < 36 → ¬ σ.2 25 c = -1 → gT κ (tR c) = 5
theorem hRm_t {κ : AH} {σ : MS} {nb : Nat} (h : hRm κ σ nb) : hRt κ σ := ⟨h.1, fun c hc hn => (h.2.1 c hc hn).1.1⟩
set_option maxRecDepth 20000 in
theorem d_X8_spoilAt {w : W0} {κ : AH} {f l : Int32} {σ : MS} (hG : SG κ) (hR : hRt κ σ) : CY w yX8_spoilAt mX8_spoilAt [.ref (tS 4), .int f, .int l] κ (fun v κ' => v = none ∧ κ' = spR σ κ (clO f l)) := by
  refine CY_of mcX8_spoilAt (Nat.le_of_ble_eq_true rfl) (cat1 rfl) (fun θ0 => ?_)
  refine runY_ok rkX8_spoilAt (fun p => Nat.beq p 19) 200 _ _ _ _ _ _ ?_
  refine And.intro hG.t4 ⟨some (tS 0), hG.r43, ?_⟩
  refine pX8_spoilAt_6 rfl rfl rfl hG.t0 (c_X1_roomOn hG hR.1) (fun v κ1 hq1 ho1 hk1 => ?_)
  by_cases hs1 : isRm σ (clO f l)
  · skip
    rw [rmO_y hs1] at hq1
    obtain ⟨rfl, ehq1⟩ := hq1
    rw [ehq1]
    refine runY_ok rkX8_spoilAt (fun p => Nat.beq p 19) 200 _ _ _ _ _ _ ?_
    refine pX8_spoilAt_15 rfl rfl rfl (hR.2 _ (isRm_lt (by assumption : isRm σ (clO f l))) (by assumption : isRm σ (clO f l)).2) (c_X4_spoil (hR.2 _ (isRm_lt (by assumption : isRm σ (clO f l))) (by assumption : isRm σ (clO f l)).2)) (fun v κ1 hq2 ho2 hk2 => ?_)
    obtain ⟨rfl, ehq2⟩ := hq2
    rw [ehq2]
    refine runY_ok rkX8_spoilAt (fun p => Nat.beq p 19) 200 _ _ _ _ _ _ ?_
    refine runY_go rkX8_spoilAt noCut 5 rfl ?_
    refine And.intro ⟨Nat.le_of_ble_eq_true rfl, Nat.le_of_ble_eq_true rfl⟩ ?_
    first | exact ⟨rfl, (if_pos ‹isRm σ (clO f l)›).symm⟩ | exact ⟨rfl, (if_neg ‹¬ isRm σ (clO f l)›).symm⟩
  · skip
    rw [rmO_n hs1] at hq1
    obtain ⟨rfl, ehq1⟩ := hq1
    rw [ehq1]
    refine runY_ok rkX8_spoilAt (fun p => Nat.beq p 19) 200 _ _ _ _ _ _ ?_
    refine runY_go rkX8_spoilAt noCut 5 rfl ?_
    refine And.intro ⟨Nat.le_of_ble_eq_true rfl, Nat.le_of_ble_eq_true rfl⟩ ?_
    first | exact ⟨rfl, (if_pos ‹isRm σ (clO f l)›).symm⟩ | exact ⟨rfl, (if_neg ‹¬ isRm σ (clO f l)›).symm⟩

theorem spR_T {σ : MS} {κ : AH} {x : Int32} {t : Nat} : gT (spR σ κ x) t = gT κ t := by unfold spR; split <;> rfl
theorem spR_N {σ : MS} {κ : AH} {x : Int32} {t : Nat} : gN (spR σ κ x) t = gN κ t := by unfold spR; split <;> rfl
theorem spR_R {σ : MS} {κ : AH} {x : Int32} {t j : Nat} : gR (spR σ κ x) t j = gR κ t j := by unfold spR; split <;> rfl
theorem spR_SG {σ : MS} {κ : AH} {x : Int32} (h : SG κ) : SG (spR σ κ x) := by unfold spR; split <;> exact h
theorem spR_t {σ : MS} {κ : AH} {x : Int32} (h : hRt κ σ) : hRt (spR σ κ x) σ := by unfold spR; split <;> exact h
theorem spR_I {σ : MS} {κ : AH} {x : Int32} {t j : Nat} (h : ∀ c, t ≠ tR c) : gI (spR σ κ x) t j = gI κ t j := by
  unfold spR
  split
  · rw [gI_sI, if_neg (fun z => h _ z.1)]
  · rfl
def flw (κ : AH) (y : Int32) : Int32 := if p100 (rnd (gI κ (tS 3) 1)) < gI κ (tS 9) y.toNatClampNeg then 1 else 0
/-- the weld is made now: the draw, its state -/
def wdH (κ : AH) (k : Nat) (y : Int32) : AH := sI (sI (sI κ (tS 3) 1 (rnd (gI κ (tS 3) 1))) (tW k) 4 (flw κ y)) (tW k) 2 0
def wnH (κ : AH) (σ : MS) (k j : Nat) (y : Int32) : AH := if σ.2 9 (whI σ j) = 2 then spR σ (spR σ (wdH κ k y) (clO (gI κ (tW k) 1 - 1) (gI κ (tB j) 3))) (clO (gI κ (tW k) 1) (gI κ (tB j) 3)) else wdH κ k y
theorem wdH_W {κ : AH} {k : Nat} {y : Int32} {p : Nat} (h4 : p ≠ 4) (h2 : p ≠ 2) : gI (wdH κ k y) (tW k) p = gI κ (tW k) p := by
  unfold wdH
  rw [gI_sI, if_neg (fun z => h2 z.2), gI_sI, if_neg (fun z => h4 z.2), gI_sI, if_neg (fun z => tW_S.mp z.1)]
theorem wdH_B {κ : AH} {k : Nat} {y : Int32} {i p : Nat} : gI (wdH κ k y) (tB i) p = gI κ (tB i) p := by
  unfold wdH
  rw [gI_sI, if_neg (fun z => tB_W.mp z.1), gI_sI, if_neg (fun z => tB_W.mp z.1), gI_sI, if_neg (fun z => tB_S.mp z.1)]
set_option maxRecDepth 20000 in
theorem c_X8_weldNow {w : W0} {κ : AH} {k j : Nat} {y : Int32} {σ : MS} {nb : Nat} (hG : SG κ) (hR : hRt κ σ) (hch : chn σ nb) (hC : hCh κ σ nb) (h8 : ∀ i, i < nb → gI κ (tB i) 8 = σ.2 9 i) (hk7 : gT κ (tW k) = 7) (hk0 : gR κ (tW k) 0 = some (tB j)) (hj : j < nb) (hy : vp_in y 4) : CY w yX8_weldNow mX8_weldNow [.ref (tS 4), .ref (tW k), .int y] κ (fun v κ' => v = none ∧ κ' = wnH κ σ k j y) := by
  refine CY_of mcX8_weldNow (Nat.le_of_ble_eq_true rfl) (cat1 rfl) (fun θ0 => ?_)
  refine runY_ok rkX8_weldNow (fun p => Nat.beq p 56) 200 _ _ _ _ _ _ ?_
  refine And.intro (by first | exact hG.t4 | exact spR_T.trans hG.t4) ⟨some (tS 3), hG.r45, ?_⟩
  refine pX8_weldNow_6 rfl rfl rfl hG.t3 (show CY w yX7_drawFlaw mX7_drawFlaw [.ref (tS 3), .int y] κ (fun v κ' => v = some (.int (flw κ y)) ∧ κ' = sI κ (tS 3) 1 (rnd (gI κ (tS 3) 1))) from c_X7_drawFlaw hG.t3 hG.t9 hG.n9 hG.r30 hy) (fun v κ1 hq1 ho1 hk1 => ?_)
  obtain ⟨rfl, ehq1⟩ := hq1
  rw [ehq1]
  refine runY_ok rkX8_weldNow (fun p => Nat.beq p 56) 200 _ _ _ _ _ _ ?_
  refine And.intro ⟨(by first | exact hk7 | exact spR_T.trans hk7), (by unfold flw; split <;> simp)⟩ ?_
  refine And.intro (by first | exact hk7 | exact spR_T.trans hk7) ?_
  refine pX8_weldNow_18 rfl rfl rfl (by first | exact hk7 | exact spR_T.trans hk7) (c_X6_isStanding (κ := wdH κ k y) hch hC (fun i hi => wdH_B.trans (h8 i hi)) hk7 hk0 hj) (fun v κ1 hq2 ho2 hk2 => ?_)
  obtain ⟨rfl, ehq2⟩ := hq2
  rw [ehq2]
  refine runY_ok rkX8_weldNow (fun p => Nat.beq p 56) 200 _ _ _ _ _ _ ?_
  refine And.intro (fun c3 => ?_) (fun c3 => ?_)
  · try simp only [b01_eq, b01_ne, Classical.not_not] at c3
    refine runY_go rkX8_weldNow noCut 5 rfl ?_
    refine And.intro ⟨Nat.le_of_ble_eq_true rfl, Nat.le_of_ble_eq_true rfl⟩ ?_
    first | exact ⟨rfl, (if_pos (by assumption : σ.2 9 (whI σ j) = 2)).symm⟩ | exact ⟨rfl, (if_neg (by assumption : ¬ σ.2 9 (whI σ j) = 2)).symm⟩
  · try simp only [b01_eq, b01_ne, Classical.not_not] at c3
    refine And.intro (by first | exact hk7 | exact spR_T.trans hk7) ?_
    refine And.intro (by first | exact hk7 | exact spR_T.trans hk7) ⟨some (tB j), (by first | exact hk0 | exact spR_R.trans hk0), ?_⟩
    refine And.intro (by first | exact (hC j hj).1 | exact spR_T.trans (hC j hj).1) ?_
    refine pX8_weldNow_38 rfl rfl rfl (by first | exact hG.t4 | exact spR_T.trans hG.t4) (show CY w yX8_spoilAt mX8_spoilAt [.ref (tS 4), .int (gI (wdH κ k y) (tW k) 1 - 1), .int (gI (wdH κ k y) (tB j) 3)] (wdH κ k y) (fun v κ' => v = none ∧ κ' = (spR σ (wdH κ k y) (clO (gI κ (tW k) 1 - 1) (gI κ (tB j) 3)))) from by have h9 := d_X8_spoilAt (w := w) (κ := (wdH κ k y)) (f := gI (wdH κ k y) (tW k) 1 - 1) (l := gI (wdH κ k y) (tB j) 3) (σ := σ) hG hR; simp only [wdH_W (κ := κ) (k := k) (y := y) (p := 1) (by decide) (by decide), wdH_B] at h9 ⊢; exact h9) (fun v κ1 hq4 ho4 hk4 => ?_)
    obtain ⟨rfl, ehq4⟩ := hq4
    rw [ehq4]
    refine runY_ok rkX8_weldNow (fun p => Nat.beq p 56) 200 _ _ _ _ _ _ ?_
    refine And.intro (by first | exact hk7 | exact spR_T.trans hk7) ?_
    refine And.intro (by first | exact hk7 | exact spR_T.trans hk7) ⟨some (tB j), (by first | exact hk0 | exact spR_R.trans hk0), ?_⟩
    refine And.intro (by first | exact (hC j hj).1 | exact spR_T.trans (hC j hj).1) ?_
    refine pX8_weldNow_53 rfl rfl rfl (by first | exact hG.t4 | exact spR_T.trans hG.t4) (show CY w yX8_spoilAt mX8_spoilAt [.ref (tS 4), .int (gI (spR σ (wdH κ k y) (clO (gI κ (tW k) 1 - 1) (gI κ (tB j) 3))) (tW k) 1), .int (gI (spR σ (wdH κ k y) (clO (gI κ (tW k) 1 - 1) (gI κ (tB j) 3))) (tB j) 3)] (spR σ (wdH κ k y) (clO (gI κ (tW k) 1 - 1) (gI κ (tB j) 3))) (fun v κ' => v = none ∧ κ' = (spR σ (spR σ (wdH κ k y) (clO (gI κ (tW k) 1 - 1) (gI κ (tB j) 3))) (clO (gI κ (tW k) 1) (gI κ (tB j) 3)))) from by have h9 := d_X8_spoilAt (w := w) (κ := (spR σ (wdH κ k y) (clO (gI κ (tW k) 1 - 1) (gI κ (tB j) 3)))) (f := gI (spR σ (wdH κ k y) (clO (gI κ (tW k) 1 - 1) (gI κ (tB j) 3))) (tW k) 1) (l := gI (spR σ (wdH κ k y) (clO (gI κ (tW k) 1 - 1) (gI κ (tB j) 3))) (tB j) 3) (σ := σ) (spR_SG hG) (spR_t hR); rw [spR_I (t := tW k) (fun c z => tW_R.mp z), spR_I (t := tB j) (fun c z => tB_R.mp z), wdH_W (by decide) (by decide), wdH_B] at h9 ⊢; exact h9) (fun v κ1 hq5 ho5 hk5 => ?_)
    obtain ⟨rfl, ehq5⟩ := hq5
    rw [ehq5]
    refine runY_go rkX8_weldNow noCut 5 rfl ?_
    refine And.intro ⟨Nat.le_of_ble_eq_true rfl, Nat.le_of_ble_eq_true rfl⟩ ?_
    first | exact ⟨rfl, (if_pos (by assumption : σ.2 9 (whI σ j) = 2)).symm⟩ | exact ⟨rfl, (if_neg (by assumption : ¬ σ.2 9 (whI σ j) = 2)).symm⟩

theorem wnH_SG {κ : AH} {σ : MS} {k j : Nat} {y : Int32} (h : SG κ) : SG (wnH κ σ k j y) := by unfold wnH; split <;> first | exact spR_SG (spR_SG h) | exact h
theorem wnH_T {κ : AH} {σ : MS} {k j t : Nat} {y : Int32} : gT (wnH κ σ k j y) t = gT κ t := by unfold wnH; split <;> first | exact spR_T.trans spR_T | exact rfl
theorem wnH_R {κ : AH} {σ : MS} {k j t p : Nat} {y : Int32} : gR (wnH κ σ k j y) t p = gR κ t p := by unfold wnH; split <;> first | exact spR_R.trans spR_R | exact rfl
theorem wdH_S {κ : AH} {k : Nat} {y : Int32} {i p : Nat} (h : i ≠ 3) : gI (wdH κ k y) (tS i) p = gI κ (tS i) p := by
  unfold wdH
  rw [gI_sI, if_neg (fun z => tS_W.mp z.1), gI_sI, if_neg (fun z => tS_W.mp z.1), gI_sI, if_neg (fun z => h (tS_inj.mp z.1))]
theorem wnH_S {κ : AH} {σ : MS} {k j : Nat} {y : Int32} {i p : Nat} (h : i ≠ 3) : gI (wnH κ σ k j y) (tS i) p = gI κ (tS i) p := by
  unfold wnH
  split
  · rw [spR_I (fun c z => tS_R.mp z), spR_I (fun c z => tS_R.mp z), wdH_S h]
  · exact wdH_S h
theorem wnH_W {κ : AH} {σ : MS} {k j : Nat} {y : Int32} {p : Nat} (h4 : p ≠ 4) (h2 : p ≠ 2) : gI (wnH κ σ k j y) (tW k) p = gI κ (tW k) p := by
  unfold wnH
  split
  · rw [spR_I (fun c z => tW_R.mp z), spR_I (fun c z => tW_R.mp z), wdH_W h4 h2]
  · exact wdH_W h4 h2
theorem enH_SG {κ : AH} {n : Nat} {x : Int32} (h : SG κ) : SG (enH κ n x) := h
theorem enH_I {κ : AH} {n : Nat} {x : Int32} {t p : Nat} (h1 : t ≠ tS 1) (h2 : t ≠ tS 10) : gI (enH κ n x) t p = gI κ t p := by
  unfold enH
  rw [gI_sI, if_neg (fun z => h1 z.1), gI_sI, if_neg (fun z => h1 z.1), gI_sI, if_neg (fun z => h2 z.1)]
theorem has4_w {y : Int32} : has4 y ↔ isWdr y := by
  have e : (4 : Int32).toInt = 4 := rfl
  have e2 : (3 : Int32).toInt = 3 := rfl
  unfold has4 isWdr
  rw [Int32.lt_iff_toInt_lt, Int32.le_iff_toInt_le (x := y)]
  exact ⟨fun z => ⟨z.1, by omega⟩, fun z => ⟨z.1, by omega⟩⟩
theorem rp_lt {x : Int32} (h : 0 ≤ x ∧ x ≤ 2) : ¬ 2 ≤ x ↔ ¬ x = 2 := by
  obtain ⟨j, hj, rfl⟩ := vp_in_of (in_c (c := 2) (n := 3) (by decide) h) (by decide)
  have : ∀ j : Nat, j < 3 → (¬ 2 ≤ nI j ↔ ¬ nI j = 2) := by decide
  exact this j hj
set_option maxRecDepth 20000 in
theorem c_X8_repair {w : W0} {κ : AH} {b y : Int32} {σ : MS} {nb : Nat} (hn : nb ≤ 60) (eb : σ.1 8 = nI nb) (hG : SG κ) (hR : hRm κ σ nb) (hBk : hB κ σ nb) {nw : Nat} {wb : Nat → Nat} (hnw : nw ≤ 100) (ew : σ.1 18 = nI nw) (hWl : hW κ σ nb nw wb) (hch : chn σ nb) (hsc : scT σ nb) (hN : hNm κ σ) (hrp : ∀ k, k < nw → 0 ≤ σ.2 21 k ∧ σ.2 21 k ≤ 2) {n : Nat} (hnl : kRep σ b y = 0 → n < 337) (hle : gI κ (tS 1) 1 = nI n) : CYV w yX8_repair mX8_repair [.ref (tS 4), .int b, .int y] κ (fun v κ' => kRep σ b y = 0 ∧ v = some (.int (σ.2 21 b.toNatClampNeg + 1)) ∧ κ' = (enH (wnH (sI κ (tW b.toNatClampNeg) 3 (σ.2 21 b.toNatClampNeg + 1)) σ b.toNatClampNeg (wb b.toNatClampNeg) y) n (-30))) (fun E κ' => κ' = κ ∧ ((kRep σ b y = 1 ∧ E = "java/lang/IndexOutOfBoundsException") ∨ (kRep σ b y = 2 ∧ E = "java/lang/IllegalStateException"))) := by
  have hbl := fun x => isB_wld (x := x) hnw ew
  refine CYV_of mcX8_repair (Nat.le_of_ble_eq_true rfl) (cat1 rfl) (fun θ0 => ?_)
  have K81 : isB nw b → isWdr y → kRep σ b y = 0 → Y w mX8_repair θ0 κ (fun v κ' => kRep σ b y = 0 ∧ v = some (.int (σ.2 21 b.toNatClampNeg + 1)) ∧ κ' = (enH (wnH (sI κ (tW b.toNatClampNeg) 3 (σ.2 21 b.toNatClampNeg + 1)) σ b.toNatClampNeg (wb b.toNatClampNeg) y) n (-30))) (fun E κ' => κ' = κ ∧ ((kRep σ b y = 1 ∧ E = "java/lang/IndexOutOfBoundsException") ∨ (kRep σ b y = 2 ∧ E = "java/lang/IllegalStateException"))) 0 0 81 [some (.ref (tS 4)), some (.int b), some (.int y), some (.ref (tW b.toNatClampNeg))] [] (sI κ (tW b.toNatClampNeg) 3 (σ.2 21 b.toNatClampNeg + 1)) := by
    intro hib hwy hk
    have hG1 : SG (sI κ (tW b.toNatClampNeg) 3 (σ.2 21 b.toNatClampNeg + 1)) := hG
    have hG2 : SG (wnH (sI κ (tW b.toNatClampNeg) 3 (σ.2 21 b.toNatClampNeg + 1)) σ b.toNatClampNeg (wb b.toNatClampNeg) y) := wnH_SG hG1
    have hle2 : gI (wnH (sI κ (tW b.toNatClampNeg) 3 (σ.2 21 b.toNatClampNeg + 1)) σ b.toNatClampNeg (wb b.toNatClampNeg) y) (tS 1) 1 = nI n := by rw [wnH_S (by decide), gI_sI, if_neg (fun z => tS_W.mp z.1)]; exact hle
    refine runY_go rkX8_repair (fun p => Nat.beq p 21 || Nat.beq p 61 || Nat.beq p 81) 200 rfl ?_
    refine pX8_repair_84 rfl rfl rfl (by first | exact hG.t4 | exact wnH_T.trans hG.t4) (show CY w yX8_weldNow mX8_weldNow [.ref (tS 4), .ref (tW b.toNatClampNeg), .int y] (sI κ (tW b.toNatClampNeg) 3 (σ.2 21 b.toNatClampNeg + 1)) (fun v κ' => v = none ∧ κ' = (wnH (sI κ (tW b.toNatClampNeg) 3 (σ.2 21 b.toNatClampNeg + 1)) σ b.toNatClampNeg (wb b.toNatClampNeg) y)) from c_X8_weldNow (κ := (sI κ (tW b.toNatClampNeg) 3 (σ.2 21 b.toNatClampNeg + 1))) (nb := nb) hG (show hRt (sI κ (tW b.toNatClampNeg) 3 (σ.2 21 b.toNatClampNeg + 1)) σ from (hRm_t hR : hRt κ σ)) hch (show hCh (sI κ (tW b.toNatClampNeg) 3 (σ.2 21 b.toNatClampNeg + 1)) σ nb from (hB.ch hBk : hCh κ σ nb)) (fun i hi => by rw [gI_sI, if_neg (fun z => tB_W.mp z.1)]; exact (hBk.2.1 i hi).2.2.2.2.2.2.2.2.2.1) (hWl.2.1 _ (isB_cl (by omega) (by assumption : isB nw b))).1.1 (hWl.2.1 _ (isB_cl (by omega) (by assumption : isB nw b))).1.2.1 (hWl.2.1 _ (isB_cl (by omega) (by assumption : isB nw b))).2.1 (in_c (c := 3) (by decide) (by assumption : isWdr y))) (fun v κ1 hq1 ho1 hk1 => ?_)
    obtain ⟨rfl, ehq1⟩ := hq1
    rw [ehq1]
    refine runY_ok rkX8_repair (fun p => Nat.beq p 21 || Nat.beq p 61 || Nat.beq p 81) 200 _ _ _ _ _ _ ?_
    refine And.intro (by first | exact hG.t4 | exact wnH_T.trans hG.t4) ⟨some (tS 1), (by first | exact hG.r46 | exact wnH_R.trans hG.r46), ?_⟩
    refine pX8_repair_93 rfl rfl rfl (by first | exact hG.t1 | exact wnH_T.trans hG.t1) (show CY w yX2_enter mX2_enter [.ref (tS 1), .int (-30)] (wnH (sI κ (tW b.toNatClampNeg) 3 (σ.2 21 b.toNatClampNeg + 1)) σ b.toNatClampNeg (wb b.toNatClampNeg) y) (fun v κ' => v = none ∧ κ' = (enH (wnH (sI κ (tW b.toNatClampNeg) 3 (σ.2 21 b.toNatClampNeg + 1)) σ b.toNatClampNeg (wb b.toNatClampNeg) y) n (-30))) from c_X2_enter (κ := (wnH (sI κ (tW b.toNatClampNeg) 3 (σ.2 21 b.toNatClampNeg + 1)) σ b.toNatClampNeg (wb b.toNatClampNeg) y)) hG2.t1 hG2.t10 hG2.n10 hG2.r10 (hnl hk) hle2) (fun v κ1 hq2 ho2 hk2 => ?_)
    obtain ⟨rfl, ehq2⟩ := hq2
    rw [ehq2]
    refine runY_ok rkX8_repair (fun p => Nat.beq p 21 || Nat.beq p 61 || Nat.beq p 81) 200 _ _ _ _ _ _ ?_
    refine And.intro (by first | exact (hWl.2.1 _ (isB_cl (by omega) (by assumption : isB nw b))).1.1 | exact wnH_T.trans (hWl.2.1 _ (isB_cl (by omega) (by assumption : isB nw b))).1.1) ?_
    refine And.intro ⟨Nat.le_of_ble_eq_true rfl, Nat.le_of_ble_eq_true rfl⟩ ?_
    refine ⟨hk, ?_, rfl⟩
    rw [enH_I (fun z => tW_S.mp z) (fun z => tW_S.mp z), wnH_W (by decide) (by decide), gI_sI, if_pos ⟨rfl, rfl⟩]
  have K61 : kRep σ b y = 2 → ∀ x3, Y w mX8_repair θ0 κ (fun v κ' => kRep σ b y = 0 ∧ v = some (.int (σ.2 21 b.toNatClampNeg + 1)) ∧ κ' = (enH (wnH (sI κ (tW b.toNatClampNeg) 3 (σ.2 21 b.toNatClampNeg + 1)) σ b.toNatClampNeg (wb b.toNatClampNeg) y) n (-30))) (fun E κ' => κ' = κ ∧ ((kRep σ b y = 1 ∧ E = "java/lang/IndexOutOfBoundsException") ∨ (kRep σ b y = 2 ∧ E = "java/lang/IllegalStateException"))) 0 0 61 [some (.ref (tS 4)), some (.int b), some (.int y), x3] [] κ := by
    intro hk x3
    refine yX8_repair_61z (st := []) rfl rfl ?_
    exact ⟨rfl, Or.inr ⟨hk, rfl⟩⟩
  have K21 : kRep σ b y = 1 → ∀ x3, Y w mX8_repair θ0 κ (fun v κ' => kRep σ b y = 0 ∧ v = some (.int (σ.2 21 b.toNatClampNeg + 1)) ∧ κ' = (enH (wnH (sI κ (tW b.toNatClampNeg) 3 (σ.2 21 b.toNatClampNeg + 1)) σ b.toNatClampNeg (wb b.toNatClampNeg) y) n (-30))) (fun E κ' => κ' = κ ∧ ((kRep σ b y = 1 ∧ E = "java/lang/IndexOutOfBoundsException") ∨ (kRep σ b y = 2 ∧ E = "java/lang/IllegalStateException"))) 0 0 21 [some (.ref (tS 4)), some (.int b), some (.int y), x3] [] κ := by
    intro hk x3
    refine yX8_repair_21z (st := []) rfl rfl ?_
    exact ⟨rfl, Or.inl ⟨hk, rfl⟩⟩
  refine runY_ok rkX8_repair (fun p => Nat.beq p 21 || Nat.beq p 61 || Nat.beq p 81) 200 _ _ _ _ _ _ ?_
  refine pX8_repair_2 rfl rfl rfl (by first | exact hG.t4 | exact wnH_T.trans hG.t4) (c_X8_weldOf hnw hG hWl.1) (fun v κ1 hq3 ho3 hk3 => ?_)
  by_cases hs3 : isB nw b
  · skip
    rw [wlO_y hs3] at hq3
    obtain ⟨rfl, ehq3⟩ := hq3
    rw [ehq3]
    refine runY_ok rkX8_repair (fun p => Nat.beq p 21 || Nat.beq p 61 || Nat.beq p 81) 200 _ _ _ _ _ _ ?_
    refine And.intro (by first | exact hG.t4 | exact wnH_T.trans hG.t4) ⟨some (tS 3), hG.r45, ?_⟩
    refine pX8_repair_15 rfl rfl rfl hG.t3 (show CY w yX7_has mX7_has [.ref (tS 3), .int y] κ (fun v κ' => v = some (.int (if isWdr y then 1 else 0)) ∧ κ' = κ) from by have h9 := c_X7_has (w := w) (y := y) hG.t3 hG.t9 hG.n9 hG.r30; simp only [has4_w] at h9; exact h9) (fun v κ1 hq4 ho4 hk4 => ?_)
    obtain ⟨rfl, ehq4⟩ := hq4
    rw [ehq4]
    refine runY_ok rkX8_repair (fun p => Nat.beq p 21 || Nat.beq p 61 || Nat.beq p 81) 200 _ _ _ _ _ _ ?_
    refine And.intro (fun c5 => ?_) (fun c5 => ?_)
    · try simp only [b01_eq, b01_ne, Classical.not_not] at c5
      refine And.intro (by first | exact (hWl.2.1 _ (isB_cl (by omega) (by assumption : isB nw b))).1.1 | exact wnH_T.trans (hWl.2.1 _ (isB_cl (by omega) (by assumption : isB nw b))).1.1) ?_
      refine And.intro (fun c6 => ?_) (fun c6 => ?_)
      · rw [(hWl.2.1 _ (isB_cl (by omega) (by assumption : isB nw b))).1.2.2.2.1] at c6
        exact K61 (by have q := rp_lt (hrp _ (isB_cl (by omega) (by assumption : isB nw b))); unfold kRep; rw [if_pos ⟨(hbl b).mpr (by assumption), by grind⟩]; grind) _
      · rw [(hWl.2.1 _ (isB_cl (by omega) (by assumption : isB nw b))).1.2.2.2.1] at c6
        refine pX8_repair_40 rfl rfl rfl (by first | exact (hWl.2.1 _ (isB_cl (by omega) (by assumption : isB nw b))).1.1 | exact wnH_T.trans (hWl.2.1 _ (isB_cl (by omega) (by assumption : isB nw b))).1.1) (show CY w yX6_isScrapped mX6_isScrapped [.ref (tW b.toNatClampNeg)] κ (fun v κ' => v = some (.int (if iScr σ b then 1 else 0)) ∧ κ' = κ) from by have h9 := c_X6_isScrapped (w := w) hch (hB.ch hBk) (fun i hi => (hBk.2.1 i hi).2.2.2.2.2.2.2.2.2.1) (hWl.2.1 _ (isB_cl (by omega) (by assumption : isB nw b))).1.1 (hWl.2.1 _ (isB_cl (by omega) (by assumption : isB nw b))).1.2.1 (hWl.2.1 _ (isB_cl (by omega) (by assumption : isB nw b))).2.1; simp only [← iScr_eq hn (hWl.2.1 _ (isB_cl (by omega) (by assumption : isB nw b))).2 hsc rfl] at h9; exact h9) (fun v κ1 hq7 ho7 hk7 => ?_)
        obtain ⟨rfl, ehq7⟩ := hq7
        rw [ehq7]
        refine runY_ok rkX8_repair (fun p => Nat.beq p 21 || Nat.beq p 61 || Nat.beq p 81) 200 _ _ _ _ _ _ ?_
        refine And.intro (fun c8 => ?_) (fun c8 => ?_)
        · try simp only [b01_eq, b01_ne, Classical.not_not] at c8
          exact K61 (by have q := rp_lt (hrp _ (isB_cl (by omega) (by assumption : isB nw b))); unfold kRep; rw [if_pos ⟨(hbl b).mpr (by assumption), by grind⟩]; grind) _
        · try simp only [b01_eq, b01_ne, Classical.not_not] at c8
          refine And.intro (by first | exact (hWl.2.1 _ (isB_cl (by omega) (by assumption : isB nw b))).1.1 | exact wnH_T.trans (hWl.2.1 _ (isB_cl (by omega) (by assumption : isB nw b))).1.1) ?_
          refine And.intro (fun c9 => ?_) (fun c9 => ?_)
          · rw [(hWl.2.1 _ (isB_cl (by omega) (by assumption : isB nw b))).1.2.2.2.2.1] at c9
            exact K61 (by have q := rp_lt (hrp _ (isB_cl (by omega) (by assumption : isB nw b))); unfold kRep; rw [if_pos ⟨(hbl b).mpr (by assumption), by grind⟩]; grind) _
          · rw [(hWl.2.1 _ (isB_cl (by omega) (by assumption : isB nw b))).1.2.2.2.2.1] at c9
            refine And.intro (by first | exact hG.t4 | exact wnH_T.trans hG.t4) ?_
            refine And.intro (fun c10 => ?_) (fun c10 => ?_)
            · rw [hN.2.1.2.2.2.2] at c10
              refine And.intro (by first | exact (hWl.2.1 _ (isB_cl (by omega) (by assumption : isB nw b))).1.1 | exact wnH_T.trans (hWl.2.1 _ (isB_cl (by omega) (by assumption : isB nw b))).1.1) ?_
              refine And.intro (by first | exact (hWl.2.1 _ (isB_cl (by omega) (by assumption : isB nw b))).1.1 | exact wnH_T.trans (hWl.2.1 _ (isB_cl (by omega) (by assumption : isB nw b))).1.1) ?_
              have q3 := (hWl.2.1 _ (isB_cl (by omega) (by assumption : isB nw b))).1.2.2.2.2.1
              rw [q3]
              refine K81 (by assumption) (by grind) (by have q := rp_lt (hrp _ (isB_cl (by omega) (by assumption : isB nw b))); unfold kRep; rw [if_pos ⟨(hbl b).mpr (by assumption), by grind⟩]; grind)
            · rw [hN.2.1.2.2.2.2] at c10
              exact K61 (by have q := rp_lt (hrp _ (isB_cl (by omega) (by assumption : isB nw b))); unfold kRep; rw [if_pos ⟨(hbl b).mpr (by assumption), by grind⟩]; grind) _
    · try simp only [b01_eq, b01_ne, Classical.not_not] at c5
      exact K21 (by unfold kRep; rw [if_neg]; first | exact fun z => absurd ((hbl b).mp z.1) (by assumption) | exact fun z => absurd z.2 (by grind)) _
  · skip
    rw [wlO_n hs3] at hq3
    obtain ⟨rfl, ehq3⟩ := hq3
    rw [ehq3]
    refine runY_ok rkX8_repair (fun p => Nat.beq p 21 || Nat.beq p 61 || Nat.beq p 81) 200 _ _ _ _ _ _ ?_
    exact K21 (by unfold kRep; rw [if_neg]; first | exact fun z => absurd ((hbl b).mp z.1) (by assumption) | exact fun z => absurd z.2 (by grind)) _


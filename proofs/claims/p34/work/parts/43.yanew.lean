/-! THE COMPONENT'S PUBLIC METHODS, 12: sums anew -/
set_option maxRecDepth 20000 in
theorem c_X2_sumOfEntries {w : W0} {κ : AH} {n : Nat} (hG : SG κ) (hn : n ≤ 337) (hle : gI κ (tS 1) 1 = nI n) : CY w yX2_sumOfEntries mX2_sumOfEntries [.ref (tS 1)] κ (fun v κ' => v = some (.int (sm (fun j => gI κ (tS 10) j) n)) ∧ κ' = κ) := by
  refine CY_of mcX2_sumOfEntries (Nat.le_of_ble_eq_true rfl) (cat1 rfl) (fun θ0 => ?_)
  have loop4 : ∀ (m k : Nat) (x1 : Int32), k ≤ n → n ≤ m + k → x1 = sm (fun j => gI κ (tS 10) j) k → Y w mX2_sumOfEntries θ0 κ (fun v κ' => v = some (.int (sm (fun j => gI κ (tS 10) j) n)) ∧ κ' = κ) (fun _ _ => False) 0 0 4 [some (.ref (tS 1)), some (.int x1), some (.int (nI k))] [] κ := by
    intro m
    induction m with
    | zero =>
      intro k x1 hk1 hk2 hx1
      have hex : gI κ (tS 1) 1 ≤ nI k → k = n := by rw [hle]; intro z; have := (nI_leI (by omega) (by omega)).mp z; omega
      have hlt : ¬ gI κ (tS 1) 1 ≤ nI k → k < n := by rw [hle]; intro z; exact Nat.lt_of_not_le (fun q => z (nI_le q (by omega)))
      refine runY_go rkX2_sumOfEntries (fun p => Nat.beq p 4 || Nat.beq p 36) 200 rfl ?_
      refine And.intro hG.t1 ?_
      refine And.intro (fun c0 => ?_) (fun c0 => ?_)
      · skip
        first
        | (have hk := hex (by assumption); subst hk; refine runY_go rkX2_sumOfEntries noCut 5 rfl ?_; refine And.intro ⟨Nat.le_of_ble_eq_true rfl, Nat.le_of_ble_eq_true rfl⟩ ?_; exact ⟨by rw [hx1], rfl⟩)
        | (exact absurd ‹nI 337 ≤ nI k› (nI_ge (by have := hlt (by assumption); omega) (by decide)))
      · exact absurd (hlt c0) (by omega)
    | succ m ih =>
      intro k x1 hk1 hk2 hx1
      have hex : gI κ (tS 1) 1 ≤ nI k → k = n := by rw [hle]; intro z; have := (nI_leI (by omega) (by omega)).mp z; omega
      have hlt : ¬ gI κ (tS 1) 1 ≤ nI k → k < n := by rw [hle]; intro z; exact Nat.lt_of_not_le (fun q => z (nI_le q (by omega)))
      refine runY_go rkX2_sumOfEntries (fun p => Nat.beq p 4 || Nat.beq p 36) 200 rfl ?_
      refine And.intro hG.t1 ?_
      refine And.intro (fun c1 => ?_) (fun c1 => ?_)
      · skip
        first
        | (have hk := hex (by assumption); subst hk; refine runY_go rkX2_sumOfEntries noCut 5 rfl ?_; refine And.intro ⟨Nat.le_of_ble_eq_true rfl, Nat.le_of_ble_eq_true rfl⟩ ?_; exact ⟨by rw [hx1], rfl⟩)
        | (exact absurd ‹nI 337 ≤ nI k› (nI_ge (by have := hlt (by assumption); omega) (by decide)))
      · skip
        refine And.intro hG.t1 ⟨some (tS 10), hG.r10, ?_⟩
        refine And.intro (by rw [hG.t10]; decide) ?_
        refine And.intro (fun c2 => ?_) (fun c2 => ?_)
        · rw [hG.n10, show Int32.ofNat 337 = nI 337 from rfl] at c2
          first
          | (have hk := hex (by assumption); subst hk; refine runY_go rkX2_sumOfEntries noCut 5 rfl ?_; refine And.intro ⟨Nat.le_of_ble_eq_true rfl, Nat.le_of_ble_eq_true rfl⟩ ?_; exact ⟨by rw [hx1], rfl⟩)
          | (exact absurd ‹nI 337 ≤ nI k› (nI_ge (by have := hlt (by assumption); omega) (by decide)))
        · rw [hG.n10, show Int32.ofNat 337 = nI 337 from rfl] at c2
          refine And.intro hG.t1 ⟨some (tS 10), hG.r10, ?_⟩
          refine And.intro ⟨hG.t10, (by rw [hG.n10]; exact vp_in_nI (N := 337) (by have := hlt (by assumption); omega) (by decide))⟩ ?_
          have e9 := ih (k + 1) (x1 + gI κ (tS 10) k) (by have := hlt (by assumption); omega) (by omega) (by rw [hx1]; rfl)
          rw [← nI_1 k] at e9
          rw [nI_clamp (n := k) (by omega)]
          exact e9
  refine runY_ok rkX2_sumOfEntries (fun p => Nat.beq p 4 || Nat.beq p 36) 200 _ _ _ _ _ _ ?_
  exact loop4 n 0 0 (by omega) (by omega) rfl
set_option maxRecDepth 20000 in
theorem c_X8_moneyAnew {w : W0} {κ : AH} {n : Nat} (hG : SG κ) (hn : n ≤ 337) (hle : gI κ (tS 1) 1 = nI n) : CY w yX8_moneyAnew mX8_moneyAnew [.ref (tS 4)] κ (fun v κ' => v = some (.int (sm (fun j => gI κ (tS 10) j) n)) ∧ κ' = κ) := by
  refine CY_of mcX8_moneyAnew (Nat.le_of_ble_eq_true rfl) (cat1 rfl) (fun θ0 => ?_)
  refine runY_ok rkX8_moneyAnew noCut 200 _ _ _ _ _ _ ?_
  refine And.intro hG.t4 ⟨some (tS 1), hG.r46, ?_⟩
  refine pX8_moneyAnew_4 rfl rfl rfl hG.t1 (c_X2_sumOfEntries hG hn hle) (fun v κ1 hq1 ho1 hk1 => ?_)
  obtain ⟨rfl, ehq1⟩ := hq1
  rw [ehq1]
  refine runY_ok rkX8_moneyAnew noCut 200 _ _ _ _ _ _ ?_
  refine And.intro ⟨Nat.le_of_ble_eq_true rfl, Nat.le_of_ble_eq_true rfl⟩ ?_
  exact ⟨rfl, rfl⟩

/-- what a cell weighs -/
def fCl (σ : MS) (c : Nat) : Int32 := if σ.2 25 c = -1 then 0 else tnA (σ.2 11 (σ.2 25 c).toNatClampNeg - σ.2 10 (σ.2 25 c).toNatClampNeg + 1) (σ.2 10 (σ.2 25 c).toNatClampNeg) (σ.2 11 (σ.2 25 c).toNatClampNeg) (σ.2 13 (σ.2 25 c).toNatClampNeg) (nI (c % 12)) + σ.2 27 c + σ.2 28 c
set_option maxRecDepth 20000 in
theorem c_X1_tonsOfCells {w : W0} {κ : AH} {σ : MS} {nb : Nat} (hn : nb ≤ 60) (hG : SG κ) (hR : hRm κ σ nb) (hBk : hB κ σ nb) : CY w yX1_tonsOfCells mX1_tonsOfCells [.ref (tS 0)] κ (fun v κ' => v = some (.int (sm (fCl σ) 36)) ∧ κ' = κ) := by
  refine CY_of mcX1_tonsOfCells (Nat.le_of_ble_eq_true rfl) (cat1 rfl) (fun θ0 => ?_)
  have loop13 : ∀ (n k : Nat) (x1 : Int32) (x5 : Option Value), k ≤ 36 → 36 ≤ n + k → (x1 = sm (fCl σ) k) → Y w mX1_tonsOfCells θ0 κ (fun v κ' => v = some (.int (sm (fCl σ) 36)) ∧ κ' = κ) (fun _ _ => False) 0 0 13 [some (.ref (tS 0)), some (.int x1), some (.ref (tS 8)), some (.int (Int32.ofNat (gN κ (tS 8)))), some (.int (nI k)), x5] [] κ := by
    intro n
    induction n with
    | zero =>
      intro k x1 x5 hk1 hk2 hx1
      have hex : Int32.ofNat (gN κ (tS 8)) ≤ nI k → k = 36 := by rw [hG.n8]; intro z; have := (nI_leI (a := 36) (by omega) (by omega)).mp z; omega
      have hlt : ¬ Int32.ofNat (gN κ (tS 8)) ≤ nI k → k < 36 := by rw [hG.n8]; intro z; exact Nat.lt_of_not_le (fun q => z (nI_le (a := 36) q (by omega)))
      refine runY_go rkX1_tonsOfCells (fun p => Nat.beq p 13 || Nat.beq p 58) 200 rfl ?_
      refine And.intro (fun c0 => ?_) (fun c0 => ?_)
      · skip
        refine And.intro ⟨Nat.le_of_ble_eq_true rfl, Nat.le_of_ble_eq_true rfl⟩ ?_
        have hk := hex (by assumption)
        subst hk
        exact ⟨by rw [hx1], rfl⟩
      · exact absurd (hlt c0) (by omega)
    | succ n ih =>
      intro k x1 x5 hk1 hk2 hx1
      have hex : Int32.ofNat (gN κ (tS 8)) ≤ nI k → k = 36 := by rw [hG.n8]; intro z; have := (nI_leI (a := 36) (by omega) (by omega)).mp z; omega
      have hlt : ¬ Int32.ofNat (gN κ (tS 8)) ≤ nI k → k < 36 := by rw [hG.n8]; intro z; exact Nat.lt_of_not_le (fun q => z (nI_le (a := 36) q (by omega)))
      have K58 : ∀ x1 : Int32, ∀ x5 : Option Value, k < 36 → x1 = sm (fCl σ) (k + 1) → Y w mX1_tonsOfCells θ0 κ (fun v κ' => v = some (.int (sm (fCl σ) 36)) ∧ κ' = κ) (fun _ _ => False) 0 0 58 [some (.ref (tS 0)), some (.int x1), some (.ref (tS 8)), some (.int (Int32.ofNat (gN κ (tS 8)))), some (.int (nI k)), x5] [] κ := by
        intro x1 x5 hkl hx1
        refine runY_go rkX1_tonsOfCells (fun p => Nat.beq p 13 || Nat.beq p 58) 200 rfl ?_
        have e9 := ih (k + 1) x1 x5 (by omega) (by omega) hx1
        rw [← nI_1 k] at e9
        exact e9
      refine runY_go rkX1_tonsOfCells (fun p => Nat.beq p 13 || Nat.beq p 58) 200 rfl ?_
      refine And.intro (fun c1 => ?_) (fun c1 => ?_)
      · skip
        refine And.intro ⟨Nat.le_of_ble_eq_true rfl, Nat.le_of_ble_eq_true rfl⟩ ?_
        have hk := hex (by assumption)
        subst hk
        exact ⟨by rw [hx1], rfl⟩
      · skip
        by_cases hs2 : σ.2 25 k = -1
        · skip
          refine And.intro ⟨(by rw [hG.t8]; decide), (by rw [hG.n8]; exact (vp_in_nI (N := 36) (hlt (by assumption)) (by decide)))⟩ ⟨none, (by have ek : (nI k).toNatClampNeg = k := nI_clamp (by omega); rw [ek]; exact (hR.1 _ (hlt (by assumption))).trans (if_pos hs2)), ?_⟩
          have hkl := hlt (by assumption)
          first
          | exact K58 _ _ hkl (by show _ = sm (fCl σ) k + fCl σ k; unfold fCl; rw [if_pos (by assumption), Int32.add_zero]; exact hx1)
          | exact K58 _ _ hkl (by show _ = sm (fCl σ) k + fCl σ k; rw [(pRm_bl hR hBk hn (hlt (by assumption)) (by assumption : ¬ σ.2 25 k = -1)).1.2.2.2.2.1, (pRm_bl hR hBk hn (hlt (by assumption)) (by assumption : ¬ σ.2 25 k = -1)).1.2.2.2.2.2.1]; unfold fCl; rw [if_neg (by assumption), hx1]; rfl)
        · skip
          refine And.intro ⟨(by rw [hG.t8]; decide), (by rw [hG.n8]; exact (vp_in_nI (N := 36) (hlt (by assumption)) (by decide)))⟩ ⟨some (tR k), (by have ek : (nI k).toNatClampNeg = k := nI_clamp (by omega); rw [ek]; exact (hR.1 _ (hlt (by assumption))).trans (if_neg hs2)), ?_⟩
          refine And.intro (pRm_bl hR hBk hn (hlt (by assumption)) (by assumption : ¬ σ.2 25 k = -1)).1.1 ⟨some (tB (σ.2 25 k).toNatClampNeg), (pRm_bl hR hBk hn (hlt (by assumption)) (by assumption : ¬ σ.2 25 k = -1)).1.2.2.1, ?_⟩
          refine pX1_tonsOfCells_38 rfl rfl rfl (pRm_bl hR hBk hn (hlt (by assumption)) (by assumption : ¬ σ.2 25 k = -1)).1.1 (show CY w yX4_frame mX4_frame [.ref (tR k)] κ (fun v κ' => v = some (.int (nI (k % 12))) ∧ κ' = κ) from by have h9 := c_X4_frame (w := w) (pRm_bl hR hBk hn (hlt (by assumption)) (by assumption : ¬ σ.2 25 k = -1)).1.1; rw [(pRm_bl hR hBk hn (hlt (by assumption)) (by assumption : ¬ σ.2 25 k = -1)).1.2.1, fr_eq (hlt (by assumption))] at h9; exact h9) (fun v κ1 hq3 ho3 hk3 => ?_)
          obtain ⟨rfl, ehq3⟩ := hq3
          rw [ehq3]
          refine runY_ok rkX1_tonsOfCells (fun p => Nat.beq p 13 || Nat.beq p 58) 200 _ _ _ _ _ _ ?_
          refine pX1_tonsOfCells_41 rfl rfl rfl (pRm_bl hR hBk hn (hlt (by assumption)) (by assumption : ¬ σ.2 25 k = -1)).2.2.2.1 (show CY w yX0_tonsAt mX0_tonsAt [.ref (tB (σ.2 25 k).toNatClampNeg), .int (nI (k % 12))] κ (fun v κ' => v = some (.int (tnA (σ.2 11 (σ.2 25 k).toNatClampNeg - σ.2 10 (σ.2 25 k).toNatClampNeg + 1) (σ.2 10 (σ.2 25 k).toNatClampNeg) (σ.2 11 (σ.2 25 k).toNatClampNeg) (σ.2 13 (σ.2 25 k).toNatClampNeg) (nI (k % 12)))) ∧ κ' = κ) from by have h9 := c_X0_tonsAt (w := w) (x := nI (k % 12)) (pRm_bl hR hBk hn (hlt (by assumption)) (by assumption : ¬ σ.2 25 k = -1)).2.2.2.1; rw [(pRm_bl hR hBk hn (hlt (by assumption)) (by assumption : ¬ σ.2 25 k = -1)).2.2.2.2.2.1, (pRm_bl hR hBk hn (hlt (by assumption)) (by assumption : ¬ σ.2 25 k = -1)).2.2.2.2.2.2.1, (pRm_bl hR hBk hn (hlt (by assumption)) (by assumption : ¬ σ.2 25 k = -1)).2.2.2.2.2.2.2.2.1] at h9; exact h9) (fun v κ1 hq4 ho4 hk4 => ?_)
          obtain ⟨rfl, ehq4⟩ := hq4
          rw [ehq4]
          refine runY_ok rkX1_tonsOfCells (fun p => Nat.beq p 13 || Nat.beq p 58) 200 _ _ _ _ _ _ ?_
          refine And.intro (pRm_bl hR hBk hn (hlt (by assumption)) (by assumption : ¬ σ.2 25 k = -1)).1.1 ?_
          refine And.intro (pRm_bl hR hBk hn (hlt (by assumption)) (by assumption : ¬ σ.2 25 k = -1)).1.1 ?_
          have hkl := hlt (by assumption)
          first
          | exact K58 _ _ hkl (by show _ = sm (fCl σ) k + fCl σ k; unfold fCl; rw [if_pos (by assumption), Int32.add_zero]; exact hx1)
          | exact K58 _ _ hkl (by show _ = sm (fCl σ) k + fCl σ k; rw [(pRm_bl hR hBk hn (hlt (by assumption)) (by assumption : ¬ σ.2 25 k = -1)).1.2.2.2.2.1, (pRm_bl hR hBk hn (hlt (by assumption)) (by assumption : ¬ σ.2 25 k = -1)).1.2.2.2.2.2.1]; unfold fCl; rw [if_neg (by assumption), hx1]; rfl)
  refine runY_ok rkX1_tonsOfCells (fun p => Nat.beq p 13 || Nat.beq p 58) 200 _ _ _ _ _ _ ?_
  refine And.intro hG.t0 ⟨some (tS 8), hG.r00, ?_⟩
  refine And.intro (by rw [hG.t8]; decide) ?_
  exact loop13 36 0 0 none (by omega) (by omega) rfl
set_option maxRecDepth 20000 in
theorem c_X8_tonsAnew {w : W0} {κ : AH} {σ : MS} {nb : Nat} (hn : nb ≤ 60) (hG : SG κ) (hR : hRm κ σ nb) (hBk : hB κ σ nb) : CY w yX8_tonsAnew mX8_tonsAnew [.ref (tS 4)] κ (fun v κ' => v = some (.int (sm (fCl σ) 36)) ∧ κ' = κ) := by
  refine CY_of mcX8_tonsAnew (Nat.le_of_ble_eq_true rfl) (cat1 rfl) (fun θ0 => ?_)
  refine runY_ok rkX8_tonsAnew noCut 200 _ _ _ _ _ _ ?_
  refine And.intro hG.t4 ⟨some (tS 0), hG.r43, ?_⟩
  refine pX8_tonsAnew_4 rfl rfl rfl hG.t0 (c_X1_tonsOfCells hn hG hR hBk) (fun v κ1 hq1 ho1 hk1 => ?_)
  obtain ⟨rfl, ehq1⟩ := hq1
  rw [ehq1]
  refine runY_ok rkX8_tonsAnew noCut 200 _ _ _ _ _ _ ?_
  refine And.intro ⟨Nat.le_of_ble_eq_true rfl, Nat.le_of_ble_eq_true rfl⟩ ?_
  exact ⟨rfl, rfl⟩


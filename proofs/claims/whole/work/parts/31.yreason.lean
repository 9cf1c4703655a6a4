
/-! THE COMPONENT READS, 3: why a block cannot stand -/

theorem anyF_t {σ : MS} {v : Int32} {lo n k : Nat} (h1 : lo ≤ k) (h2 : k < lo + n) (h : ¬ bAt σ (nI k) v = -1) : anyF σ v lo n = true := by
  unfold anyF
  rw [List.any_eq_true]
  exact ⟨k - lo, List.mem_range.mpr (by omega), by rw [show lo + (k - lo) = k from by omega]; exact decide_eq_true h⟩
theorem anyB_t {σ : MS} {v : Int32} {lo n k : Nat} (h1 : lo ≤ k) (h2 : k < lo + n) (h : bAt σ (nI k) v = -1) : anyB σ v lo n = true := by
  unfold anyB
  rw [List.any_eq_true]
  exact ⟨k - lo, List.mem_range.mpr (by omega), by rw [show lo + (k - lo) = k from by omega]; exact decide_eq_true h⟩
theorem anyF_s {σ : MS} {v : Int32} {lo k : Nat} (h1 : lo ≤ k) (h0 : anyF σ v lo (k - lo) = false) (h : bAt σ (nI k) v = -1) : anyF σ v lo (k + 1 - lo) = false := by
  rw [show k + 1 - lo = k - lo + 1 from by omega, anyF_succ, h0, show lo + (k - lo) = k from by omega]
  simp [h]
theorem anyB_s {σ : MS} {v : Int32} {lo k : Nat} (h1 : lo ≤ k) (h0 : anyB σ v lo (k - lo) = false) (h : ¬ bAt σ (nI k) v = -1) : anyB σ v lo (k + 1 - lo) = false := by
  rw [show k + 1 - lo = k - lo + 1 from by omega, anyB_succ, h0, show lo + (k - lo) = k from by omega]
  simp [h]
theorem lv_1 {l : Int32} (hl : 0 ≤ l ∧ l ≤ 2) (h : ¬ l = 0) : 0 < l ∧ 0 ≤ l - 1 ∧ l - 1 ≤ 2 := by
  obtain ⟨j, hj, rfl⟩ := vp_in_of (in_c (c := 2) (n := 3) (by decide) hl) (by decide)
  have : ∀ j : Nat, j < 3 → ¬ nI j = 0 → 0 < nI j ∧ 0 ≤ nI j - 1 ∧ nI j - 1 ≤ 2 := by decide
  exact this j hj h
set_option maxRecDepth 20000 in
theorem c_X8_isSomeFilled {w : W0} {κ : AH} {i : Nat} {σ : MS} {nb : Nat} (hG : SG κ) (hR : hRm κ σ nb) (hBk : hB κ σ nb) (hi : i < nb) (hrs : rsOK σ i) : CY w yX8_isSomeFilled mX8_isSomeFilled [.ref (tS 4), .ref (tB i)] κ (fun v κ' => v = some (.int (if flN σ i = true then 1 else 0)) ∧ κ' = κ) := by
  refine CY_of mcX8_isSomeFilled (Nat.le_of_ble_eq_true rfl) (cat1 rfl) (fun θ0 => ?_)
  obtain ⟨p, p0, p1, p2, p3, p4, p5, p6, p7, p8, p9⟩ := hBk.2.1 i hi
  obtain ⟨hF, hL, hFL, hV⟩ := hrs
  have eF : (σ.2 10 i) = nI (σ.2 10 i).toNatClampNeg := in_n (in_c (c := 11) (n := 12) (by decide) hF)
  have eL : (σ.2 11 i) = nI (σ.2 11 i).toNatClampNeg := in_n (in_c (c := 11) (n := 12) (by decide) hL)
  have hlo12 : (σ.2 10 i).toNatClampNeg < 12 := lt_of_in (in_c (c := 11) (n := 12) (by decide) hF)
  have hhi12 : (σ.2 11 i).toNatClampNeg < 12 := lt_of_in (in_c (c := 11) (n := 12) (by decide) hL)
  have hlv : True → 0 ≤ (σ.2 12 i) ∧ (σ.2 12 i) ≤ 2 := fun _ => hV
  have loop5 : True → ∀ n k : Nat, (σ.2 10 i).toNatClampNeg ≤ k → k ≤ (σ.2 11 i).toNatClampNeg + 1 → (σ.2 11 i).toNatClampNeg + 1 ≤ n + k → anyF σ (σ.2 12 i) (σ.2 10 i).toNatClampNeg (k - (σ.2 10 i).toNatClampNeg) = false → Y w mX8_isSomeFilled θ0 κ (fun v κ' => v = some (.int (if flN σ i = true then 1 else 0)) ∧ κ' = κ) (fun _ _ => False) 0 0 5 [some (.ref (tS 4)), some (.ref (tB i)), some (.int (nI k))] [] κ := by
    intro hz n
    have hlv := hlv hz
    induction n with
    | zero =>
      intro k hk1 hk2 hk3 h0
      have hex : (σ.2 11 i) < nI k → k = (σ.2 11 i).toNatClampNeg + 1 := by intro z; rw [eL] at z; have := (nI_ltI (by omega) (by omega)).mp z; omega
      have hlt : ¬ (σ.2 11 i) < nI k → k ≤ (σ.2 11 i).toNatClampNeg := by intro z; rw [eL] at z; exact Nat.le_of_not_lt (fun q => z ((nI_ltI (by omega) (by omega)).mpr q))
      refine runY_go rkX8_isSomeFilled (fun p => Nat.beq p 5) 200 rfl ?_
      refine And.intro p ?_
      refine And.intro (fun c0 => ?_) (fun c0 => ?_)
      · rw [p2] at c0
        refine And.intro ⟨Nat.le_of_ble_eq_true rfl, Nat.le_of_ble_eq_true rfl⟩ ?_
        refine And.intro (by first | exact Or.inl rfl | exact Or.inr rfl) ?_
        refine ⟨congrArg some (congrArg Value.int (Eq.symm (if_neg ?_))), rfl⟩
        have hk := hex (by assumption)
        subst hk
        unfold flN; rw [h0]; decide
      · exact absurd (hlt (p2 ▸ c0)) (by omega)
    | succ n ih =>
      intro k hk1 hk2 hk3 h0
      have hex : (σ.2 11 i) < nI k → k = (σ.2 11 i).toNatClampNeg + 1 := by intro z; rw [eL] at z; have := (nI_ltI (by omega) (by omega)).mp z; omega
      have hlt : ¬ (σ.2 11 i) < nI k → k ≤ (σ.2 11 i).toNatClampNeg := by intro z; rw [eL] at z; exact Nat.le_of_not_lt (fun q => z ((nI_ltI (by omega) (by omega)).mpr q))
      have hrm : isRm σ (clO (nI k) (gI κ (tB i) 3)) ↔ ¬ bAt σ (nI k) (σ.2 12 i) = -1 := by rw [p3]; exact clO_isRm hlv
      refine runY_go rkX8_isSomeFilled (fun p => Nat.beq p 5) 200 rfl ?_
      refine And.intro p ?_
      refine And.intro (fun c1 => ?_) (fun c1 => ?_)
      · try simp only [p1, p2, p3, p4, p5, p6, p8, b01_eq, b01_ne, Classical.not_not] at c1
        refine And.intro ⟨Nat.le_of_ble_eq_true rfl, Nat.le_of_ble_eq_true rfl⟩ ?_
        refine And.intro (by first | exact Or.inl rfl | exact Or.inr rfl) ?_
        refine ⟨congrArg some (congrArg Value.int (Eq.symm (if_neg ?_))), rfl⟩
        have hk := hex (by assumption)
        subst hk
        unfold flN; rw [h0]; decide
      · try simp only [p1, p2, p3, p4, p5, p6, p8, b01_eq, b01_ne, Classical.not_not] at c1
        refine And.intro hG.t4 ⟨some (tS 0), hG.r43, ?_⟩
        refine And.intro p ?_
        refine pX8_isSomeFilled_22 rfl rfl rfl hG.t0 (c_X1_roomOn hG hR.1) (fun v κ1 hq2 ho2 hk2 => ?_)
        by_cases hs2 : isRm σ (clO (nI k) (gI κ (tB i) 3))
        · skip
          rw [rmO_y hs2] at hq2
          obtain ⟨rfl, ehq2⟩ := hq2
          rw [ehq2]
          refine runY_ok rkX8_isSomeFilled (fun p => Nat.beq p 5) 200 _ _ _ _ _ _ ?_
          refine And.intro ⟨Nat.le_of_ble_eq_true rfl, Nat.le_of_ble_eq_true rfl⟩ ?_
          refine And.intro (by first | exact Or.inl rfl | exact Or.inr rfl) ?_
          refine ⟨congrArg some (congrArg Value.int (Eq.symm (if_pos ?_))), rfl⟩
          have := hlt (by assumption)
          unfold flN
          exact anyF_t hk1 (by omega) (hrm.mp (by assumption))
        · skip
          rw [rmO_n hs2] at hq2
          obtain ⟨rfl, ehq2⟩ := hq2
          rw [ehq2]
          refine runY_ok rkX8_isSomeFilled (fun p => Nat.beq p 5) 200 _ _ _ _ _ _ ?_
          have := hlt (by assumption)
          have e9 := ih (k + 1) (by omega) (by omega) (by omega) (anyF_s hk1 h0 (Classical.byContradiction fun q => absurd (hrm.mpr q) (by assumption)))
          rw [← nI_1 k] at e9
          exact e9
  refine runY_ok rkX8_isSomeFilled (fun p => Nat.beq p 5) 200 _ _ _ _ _ _ ?_
  refine And.intro p ?_
  rw [p1, eF]
  exact loop5 (by first | trivial | assumption) ((σ.2 11 i).toNatClampNeg + 1) (σ.2 10 i).toNatClampNeg (Nat.le_refl _) (by omega) (by omega) (by rw [Nat.sub_self]; rfl)
set_option maxRecDepth 20000 in
theorem c_X8_isSomeBelowEmpty {w : W0} {κ : AH} {i : Nat} {σ : MS} {nb : Nat} (hG : SG κ) (hR : hRm κ σ nb) (hBk : hB κ σ nb) (hi : i < nb) (hrs : rsOK σ i) : CY w yX8_isSomeBelowEmpty mX8_isSomeBelowEmpty [.ref (tS 4), .ref (tB i)] κ (fun v κ' => v = some (.int (if brN σ i = true then 1 else 0)) ∧ κ' = κ) := by
  refine CY_of mcX8_isSomeBelowEmpty (Nat.le_of_ble_eq_true rfl) (cat1 rfl) (fun θ0 => ?_)
  obtain ⟨p, p0, p1, p2, p3, p4, p5, p6, p7, p8, p9⟩ := hBk.2.1 i hi
  obtain ⟨hF, hL, hFL, hV⟩ := hrs
  have eF : (σ.2 10 i) = nI (σ.2 10 i).toNatClampNeg := in_n (in_c (c := 11) (n := 12) (by decide) hF)
  have eL : (σ.2 11 i) = nI (σ.2 11 i).toNatClampNeg := in_n (in_c (c := 11) (n := 12) (by decide) hL)
  have hlo12 : (σ.2 10 i).toNatClampNeg < 12 := lt_of_in (in_c (c := 11) (n := 12) (by decide) hF)
  have hhi12 : (σ.2 11 i).toNatClampNeg < 12 := lt_of_in (in_c (c := 11) (n := 12) (by decide) hL)
  have hlv : ¬ (σ.2 12 i) = 0 → 0 ≤ ((σ.2 12 i) - 1) ∧ ((σ.2 12 i) - 1) ≤ 2 := fun z => (lv_1 hV z).2
  have loop14 : ¬ (σ.2 12 i) = 0 → ∀ n k : Nat, (σ.2 10 i).toNatClampNeg ≤ k → k ≤ (σ.2 11 i).toNatClampNeg + 1 → (σ.2 11 i).toNatClampNeg + 1 ≤ n + k → anyB σ ((σ.2 12 i) - 1) (σ.2 10 i).toNatClampNeg (k - (σ.2 10 i).toNatClampNeg) = false → Y w mX8_isSomeBelowEmpty θ0 κ (fun v κ' => v = some (.int (if brN σ i = true then 1 else 0)) ∧ κ' = κ) (fun _ _ => False) 0 0 14 [some (.ref (tS 4)), some (.ref (tB i)), some (.int (nI k))] [] κ := by
    intro hz n
    have hlv := hlv hz
    induction n with
    | zero =>
      intro k hk1 hk2 hk3 h0
      have hex : (σ.2 11 i) < nI k → k = (σ.2 11 i).toNatClampNeg + 1 := by intro z; rw [eL] at z; have := (nI_ltI (by omega) (by omega)).mp z; omega
      have hlt : ¬ (σ.2 11 i) < nI k → k ≤ (σ.2 11 i).toNatClampNeg := by intro z; rw [eL] at z; exact Nat.le_of_not_lt (fun q => z ((nI_ltI (by omega) (by omega)).mpr q))
      refine runY_go rkX8_isSomeBelowEmpty (fun p => Nat.beq p 14) 200 rfl ?_
      refine And.intro p ?_
      refine And.intro (fun c0 => ?_) (fun c0 => ?_)
      · rw [p2] at c0
        refine And.intro ⟨Nat.le_of_ble_eq_true rfl, Nat.le_of_ble_eq_true rfl⟩ ?_
        refine And.intro (by first | exact Or.inl rfl | exact Or.inr rfl) ?_
        refine ⟨congrArg some (congrArg Value.int (Eq.symm (if_neg ?_))), rfl⟩
        have hk := hex (by assumption)
        subst hk
        unfold brN; rw [h0]; simp
      · exact absurd (hlt (p2 ▸ c0)) (by omega)
    | succ n ih =>
      intro k hk1 hk2 hk3 h0
      have hex : (σ.2 11 i) < nI k → k = (σ.2 11 i).toNatClampNeg + 1 := by intro z; rw [eL] at z; have := (nI_ltI (by omega) (by omega)).mp z; omega
      have hlt : ¬ (σ.2 11 i) < nI k → k ≤ (σ.2 11 i).toNatClampNeg := by intro z; rw [eL] at z; exact Nat.le_of_not_lt (fun q => z ((nI_ltI (by omega) (by omega)).mpr q))
      have hrm : isRm σ (clO (nI k) (gI κ (tB i) 3 - 1)) ↔ ¬ bAt σ (nI k) ((σ.2 12 i) - 1) = -1 := by rw [p3]; exact clO_isRm hlv
      refine runY_go rkX8_isSomeBelowEmpty (fun p => Nat.beq p 14) 200 rfl ?_
      refine And.intro p ?_
      refine And.intro (fun c1 => ?_) (fun c1 => ?_)
      · try simp only [p1, p2, p3, p4, p5, p6, p8, b01_eq, b01_ne, Classical.not_not] at c1
        refine And.intro ⟨Nat.le_of_ble_eq_true rfl, Nat.le_of_ble_eq_true rfl⟩ ?_
        refine And.intro (by first | exact Or.inl rfl | exact Or.inr rfl) ?_
        refine ⟨congrArg some (congrArg Value.int (Eq.symm (if_neg ?_))), rfl⟩
        have hk := hex (by assumption)
        subst hk
        unfold brN; rw [h0]; simp
      · try simp only [p1, p2, p3, p4, p5, p6, p8, b01_eq, b01_ne, Classical.not_not] at c1
        refine And.intro hG.t4 ⟨some (tS 0), hG.r43, ?_⟩
        refine And.intro p ?_
        refine pX8_isSomeBelowEmpty_33 rfl rfl rfl hG.t0 (c_X1_roomOn hG hR.1) (fun v κ1 hq2 ho2 hk2 => ?_)
        by_cases hs2 : isRm σ (clO (nI k) ((gI κ (tB i) 3) - 1))
        · skip
          rw [rmO_y hs2] at hq2
          obtain ⟨rfl, ehq2⟩ := hq2
          rw [ehq2]
          refine runY_ok rkX8_isSomeBelowEmpty (fun p => Nat.beq p 14) 200 _ _ _ _ _ _ ?_
          have := hlt (by assumption)
          have e9 := ih (k + 1) (by omega) (by omega) (by omega) (anyB_s hk1 h0 (hrm.mp (by assumption)))
          rw [← nI_1 k] at e9
          exact e9
        · skip
          rw [rmO_n hs2] at hq2
          obtain ⟨rfl, ehq2⟩ := hq2
          rw [ehq2]
          refine runY_ok rkX8_isSomeBelowEmpty (fun p => Nat.beq p 14) 200 _ _ _ _ _ _ ?_
          refine And.intro ⟨Nat.le_of_ble_eq_true rfl, Nat.le_of_ble_eq_true rfl⟩ ?_
          refine And.intro (by first | exact Or.inl rfl | exact Or.inr rfl) ?_
          refine ⟨congrArg some (congrArg Value.int (Eq.symm (if_pos ?_))), rfl⟩
          have := hlt (by assumption)
          unfold brN
          rw [decide_eq_true (lv_1 hV hz).1, Bool.true_and]
          exact anyB_t hk1 (by omega) (Classical.byContradiction fun q => absurd (hrm.mpr q) (by assumption))
  refine runY_ok rkX8_isSomeBelowEmpty (fun p => Nat.beq p 14) 200 _ _ _ _ _ _ ?_
  refine And.intro p ?_
  refine And.intro (fun c3 => ?_) (fun c3 => ?_)
  · try simp only [p1, p2, p3, p4, p5, p6, p8, b01_eq, b01_ne, Classical.not_not] at c3
    refine And.intro p ?_
    rw [p1, eF]
    exact loop14 (by first | trivial | assumption) ((σ.2 11 i).toNatClampNeg + 1) (σ.2 10 i).toNatClampNeg (Nat.le_refl _) (by omega) (by omega) (by rw [Nat.sub_self]; rfl)
  · try simp only [p1, p2, p3, p4, p5, p6, p8, b01_eq, b01_ne, Classical.not_not] at c3
    refine And.intro ⟨Nat.le_of_ble_eq_true rfl, Nat.le_of_ble_eq_true rfl⟩ ?_
    refine And.intro (by first | exact Or.inl rfl | exact Or.inr rfl) ?_
    refine ⟨congrArg some (congrArg Value.int (Eq.symm (if_neg ?_))), rfl⟩
    unfold brN
    rw [show σ.2 12 i = 0 from by assumption]
    simp

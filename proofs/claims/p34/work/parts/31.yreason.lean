/-! THE COMPONENT READS, 3: why a block cannot stand -/
theorem anyF_t {σ : MS} {v : Int32} {lo n k : Nat} (h1 : lo ≤ k) (h2 : k < lo + n) (h : ¬ bAt σ (nI k) v = -1) : anyF σ v lo n = true := by
  unfold anyF
  rw [List.any_eq_true]
  exact ⟨k - lo, List.mem_range.mpr (by omega), by rw [show lo + (k - lo) = k from by omega]; exact decide_eq_true h⟩
theorem anyB_t {σ : MS} {v : Int32} {lo n k : Nat} (h1 : lo ≤ k) (h2 : k < lo + n) (h : bAt σ (nI k) v = -1) : anyB σ v lo n = true := by
  unfold anyB
  rw [List.any_eq_true]
  exact ⟨k - lo, List.mem_range.mpr (by omega), by rw [show lo + (k - lo) = k from by omega]; exact decide_eq_true h⟩
theorem anyF_s {σ : MS} {v : Int32} {lo k : Nat} (h1 : lo ≤ k) (h0 : anyF σ v lo (k - lo) = false) (h : bAt σ (nI k) v = -1) : anyF σ v lo (k + 1 - lo) = false := by
  rw [show k + 1 - lo = k - lo + 1 from by omega, anyF_succ, h0, show lo + (k - lo) = k from by omega]
  simp [h]
theorem anyB_s {σ : MS} {v : Int32} {lo k : Nat} (h1 : lo ≤ k) (h0 : anyB σ v lo (k - lo) = false) (h : ¬ bAt σ (nI k) v = -1) : anyB σ v lo (k + 1 - lo) = false := by
  rw [show k + 1 - lo = k - lo + 1 from by omega, anyB_succ, h0, show lo + (k - lo) = k from by omega]
  simp [h]
theorem lv_1 {l : Int32} (hl : 0 ≤ l ∧ l ≤ 2) (h : ¬ l = 0) : 0 < l ∧ 0 ≤ l - 1 ∧ l - 1 ≤ 2 := by
  obtain ⟨j, hj, rfl⟩ := vp_in_of (in_c (c := 2) (n := 3) (by decide) hl) (by decide)
  have : ∀ j : Nat, j < 3 → ¬ nI j = 0 → 0 < nI j ∧ 0 ≤ nI j - 1 ∧ nI j - 1 ≤ 2 := by decide
  exact this j hj h
set_option maxRecDepth 20000 in
theorem c_X8_isSomeFilled {w : W0} {κ : AH} {i : Nat} {σ : MS} {nb : Nat} (hG : SG κ) (hR : hRm κ σ nb) (hBk : hB κ σ nb) (hi : i < nb) (hrs : rsOK σ i) : CY w yX8_isSomeFilled mX8_isSomeFilled [.ref (tS 4), .ref (tB i)] κ (fun v κ' => v = some (.int (if flN σ i = true then 1 else 0)) ∧ κ' = κ) := by
  refine CY_of mcX8_isSomeFilled (Nat.le_of_ble_eq_true rfl) (cat1 rfl) (fun θ0 => ?_)
  obtain ⟨p, p0, p1, p2, p3, p4, p5, p6, p7, p8, p9⟩ := hBk.2.1 i hi
  obtain ⟨hF, hL, hFL, hV⟩ := hrs
  have eF : (σ.2 10 i) = nI (σ.2 10 i).toNatClampNeg := in_n (in_c (c := 11) (n := 12) (by decide) hF)
  have eL : (σ.2 11 i) = nI (σ.2 11 i).toNatClampNeg := in_n (in_c (c := 11) (n := 12) (by decide) hL)
  have hlo12 : (σ.2 10 i).toNatClampNeg < 12 := lt_of_in (in_c (c := 11) (n := 12) (by decide) hF)
  have hhi12 : (σ.2 11 i).toNatClampNeg < 12 := lt_of_in (in_c (c := 11) (n := 12) (by decide) hL)
  have hlv : True → 0 ≤ (σ.2 12 i) ∧ (σ.2 12 i) ≤ 2 := fun _ => hV
  have loop5 : True → ∀ n k : Nat, (σ.2 10 i).toNatClampNeg ≤ k → k ≤ (σ.2 11 i).toNatClampNeg + 1 → (σ.2 11 i).toNatClampNeg + 1 ≤ n + k → anyF σ (σ.2 12 i) (σ.2 10 i).toNatClampNeg (k - (σ.2 10 i).toNatClampNeg) = false → Y w mX8_isSomeFilled θ0 κ (fun v κ' => v = some (.int (if flN σ i = true then 1 else 0)) ∧ κ' = κ) (fun _ _ => False) 0 0 5 [some (.ref (tS 4)), some (.ref (tB i)), some (.int (nI k))] [] κ := by
    intro hz n
    have hlv := hlv hz
    induction n with
    | zero =>
      intro k hk1 hk2 hk3 h0
      have hex : (σ.2 11 i) < nI k → k = (σ.2 11 i).toNatClampNeg + 1 := by intro z; rw [eL] at z; have := (nI_ltI (by omega) (by omega)).mp z; omega
      have hlt : ¬ (σ.2 11 i) < nI k → k ≤ (σ.2 11 i).toNatClampNeg := by intro z; rw [eL] at z; exact Nat.le_of_not_lt (fun q => z ((nI_ltI (by omega) (by omega)).mpr q))
      refine runY_go rkX8_isSomeFilled (fun p => Nat.beq p 5) 200 rfl ?_
      refine And.intro p ?_
      refine And.intro (fun c0 => ?_) (fun c0 => ?_)
      · rw [p2] at c0
        refine And.intro ⟨Nat.le_of_ble_eq_true rfl, Nat.le_of_ble_eq_true rfl⟩ ?_
        refine And.intro (by first | exact Or.inl rfl | exact Or.inr rfl) ?_
        refine ⟨congrArg some (congrArg Value.int (Eq.symm (if_neg ?_))), rfl⟩
        have hk := hex (by assumption)
        subst hk
        unfold flN; rw [h0]; decide
      · exact absurd (hlt (p2 ▸ c0)) (by omega)
    | succ n ih =>
      intro k hk1 hk2 hk3 h0
      have hex : (σ.2 11 i) < nI k → k = (σ.2 11 i).toNatClampNeg + 1 := by intro z; rw [eL] at z; have := (nI_ltI (by omega) (by omega)).mp z; omega
      have hlt : ¬ (σ.2 11 i) < nI k → k ≤ (σ.2 11 i).toNatClampNeg := by intro z; rw [eL] at z; exact Nat.le_of_not_lt (fun q => z ((nI_ltI (by omega) (by omega)).mpr q))
      have hrm : isRm σ (clO (nI k) (gI κ (tB i) 3)) ↔ ¬ bAt σ (nI k) (σ.2 12 i) = -1 := by rw [p3]; exact clO_isRm hlv
      refine runY_go rkX8_isSomeFilled (fun p => Nat.beq p 5) 200 rfl ?_
      refine And.intro p ?_
      refine And.intro (fun c1 => ?_) (fun c1 => ?_)
      · try simp only [p1, p2, p3, p4, p5, p6, p8, b01_eq, b01_ne, Classical.not_not] at c1
        refine And.intro ⟨Nat.le_of_ble_eq_true rfl, Nat.le_of_ble_eq_true rfl⟩ ?_
        refine And.intro (by first | exact Or.inl rfl | exact Or.inr rfl) ?_
        refine ⟨congrArg some (congrArg Value.int (Eq.symm (if_neg ?_))), rfl⟩
        have hk := hex (by assumption)
        subst hk
        unfold flN; rw [h0]; decide
      · try simp only [p1, p2, p3, p4, p5, p6, p8, b01_eq, b01_ne, Classical.not_not] at c1
        refine And.intro hG.t4 ⟨some (tS 0), hG.r43, ?_⟩
        refine And.intro p ?_
        refine pX8_isSomeFilled_22 rfl rfl rfl hG.t0 (c_X1_roomOn hG hR.1) (fun v κ1 hq2 ho2 hk2 => ?_)
        by_cases hs2 : isRm σ (clO (nI k) (gI κ (tB i) 3))
        · skip
          rw [rmO_y hs2] at hq2
          obtain ⟨rfl, ehq2⟩ := hq2
          rw [ehq2]
          refine runY_ok rkX8_isSomeFilled (fun p => Nat.beq p 5) 200 _ _ _ _ _ _ ?_
          refine And.intro ⟨Nat.le_of_ble_eq_true rfl, Nat.le_of_ble_eq_true rfl⟩ ?_
          refine And.intro (by first | exact Or.inl rfl | exact Or.inr rfl) ?_
          refine ⟨congrArg some (congrArg Value.int (Eq.symm (if_pos ?_))), rfl⟩
          have := hlt (by assumption)
          unfold flN
          exact anyF_t hk1 (by omega) (hrm.mp (by assumption))
        · skip
          rw [rmO_n hs2] at hq2
          obtain ⟨rfl, ehq2⟩ := hq2
          rw [ehq2]
          refine runY_ok rkX8_isSomeFilled (fun p => Nat.beq p 5) 200 _ _ _ _ _ _ ?_
          have := hlt (by assumption)
          have e9 := ih (k + 1) (by omega) (by omega) (by omega) (anyF_s hk1 h0 (Classical.byContradiction fun q => absurd (hrm.mpr q) (by assumption)))
          rw [← nI_1 k] at e9
          exact e9
  refine runY_ok rkX8_isSomeFilled (fun p => Nat.beq p 5) 200 _ _ _ _ _ _ ?_
  refine And.intro p ?_
  rw [p1, eF]
  exact loop5 (by first | trivial | assumption) ((σ.2 11 i).toNatClampNeg + 1) (σ.2 10 i).toNatClampNeg (Nat.le_refl _) (by omega) (by omega) (by rw [Nat.sub_self]; rfl)
set_option maxRecDepth 20000 in
theorem c_X8_isSomeBelowEmpty {w : W0} {κ : AH} {i : Nat} {σ : MS} {nb : Nat} (hG : SG κ) (hR : hRm κ σ nb) (hBk : hB κ σ nb) (hi : i < nb) (hrs : rsOK σ i) : CY w yX8_isSomeBelowEmpty mX8_isSomeBelowEmpty [.ref (tS 4), .ref (tB i)] κ (fun v κ' => v = some (.int (if brN σ i = true then 1 else 0)) ∧ κ' = κ) := by
  refine CY_of mcX8_isSomeBelowEmpty (Nat.le_of_ble_eq_true rfl) (cat1 rfl) (fun θ0 => ?_)
  obtain ⟨p, p0, p1, p2, p3, p4, p5, p6, p7, p8, p9⟩ := hBk.2.1 i hi
  obtain ⟨hF, hL, hFL, hV⟩ := hrs
  have eF : (σ.2 10 i) = nI (σ.2 10 i).toNatClampNeg := in_n (in_c (c := 11) (n := 12) (by decide) hF)
  have eL : (σ.2 11 i) = nI (σ.2 11 i).toNatClampNeg := in_n (in_c (c := 11) (n := 12) (by decide) hL)
  have hlo12 : (σ.2 10 i).toNatClampNeg < 12 := lt_of_in (in_c (c := 11) (n := 12) (by decide) hF)
  have hhi12 : (σ.2 11 i).toNatClampNeg < 12 := lt_of_in (in_c (c := 11) (n := 12) (by decide) hL)
  have hlv : ¬ (σ.2 12 i) = 0 → 0 ≤ ((σ.2 12 i) - 1) ∧ ((σ.2 12 i) - 1) ≤ 2 := fun z => (lv_1 hV z).2
  have loop14 : ¬ (σ.2 12 i) = 0 → ∀ n k : Nat, (σ.2 10 i).toNatClampNeg ≤ k → k ≤ (σ.2 11 i).toNatClampNeg + 1 → (σ.2 11 i).toNatClampNeg + 1 ≤ n + k → anyB σ ((σ.2 12 i) - 1) (σ.2 10 i).toNatClampNeg (k - (σ.2 10 i).toNatClampNeg) = false → Y w mX8_isSomeBelowEmpty θ0 κ (fun v κ' => v = some (.int (if brN σ i = true then 1 else 0)) ∧ κ' = κ) (fun _ _ => False) 0 0 14 [some (.ref (tS 4)), some (.ref (tB i)), some (.int (nI k))] [] κ := by
    intro hz n
    have hlv := hlv hz
    induction n with
    | zero =>
      intro k hk1 hk2 hk3 h0
      have hex : (σ.2 11 i) < nI k → k = (σ.2 11 i).toNatClampNeg + 1 := by intro z; rw [eL] at z; have := (nI_ltI (by omega) (by omega)).mp z; omega
      have hlt : ¬ (σ.2 11 i) < nI k → k ≤ (σ.2 11 i).toNatClampNeg := by intro z; rw [eL] at z; exact Nat.le_of_not_lt (fun q => z ((nI_ltI (by omega) (by omega)).mpr q))
      refine runY_go rkX8_isSomeBelowEmpty (fun p => Nat.beq p 14) 200 rfl ?_
      refine And.intro p ?_
      refine And.intro (fun c0 => ?_) (fun c0 => ?_)
      · rw [p2] at c0
        refine And.intro ⟨Nat.le_of_ble_eq_true rfl, Nat.le_of_ble_eq_true rfl⟩ ?_
        refine And.intro (by first | exact Or.inl rfl | exact Or.inr rfl) ?_
        refine ⟨congrArg some (congrArg Value.int (Eq.symm (if_neg ?_))), rfl⟩
        have hk := hex (by assumption)
        subst hk
        unfold brN; rw [h0]; simp
      · exact absurd (hlt (p2 ▸ c0)) (by omega)
    | succ n ih =>
      intro k hk1 hk2 hk3 h0
      have hex : (σ.2 11 i) < nI k → k = (σ.2 11 i).toNatClampNeg + 1 := by intro z; rw [eL] at z; have := (nI_ltI (by omega) (by omega)).mp z; omega
      have hlt : ¬ (σ.2 11 i) < nI k → k ≤ (σ.2 11 i).toNatClampNeg := by intro z; rw [eL] at z; exact Nat.le_of_not_lt (fun q => z ((nI_ltI (by omega) (by omega)).mpr q))
      have hrm : isRm σ (clO (nI k) (gI κ (tB i) 3 - 1)) ↔ ¬ bAt σ (nI k) ((σ.2 12 i) - 1) = -1 := by rw [p3]; exact clO_isRm hlv
      refine runY_go rkX8_isSomeBelowEmpty (fun p => Nat.beq p 14) 200 rfl ?_
      refine And.intro p ?_
      refine And.intro (fun c1 => ?_) (fun c1 => ?_)
      · try simp only [p1, p2, p3, p4, p5, p6, p8, b01_eq, b01_ne, Classical.not_not] at c1
        refine And.intro ⟨Nat.le_of_ble_eq_true rfl, Nat.le_of_ble_eq_true rfl⟩ ?_
        refine And.intro (by first | exact Or.inl rfl | exact Or.inr rfl) ?_
        refine ⟨congrArg some (congrArg Value.int (Eq.symm (if_neg ?_))), rfl⟩
        have hk := hex (by assumption)
        subst hk
        unfold brN; rw [h0]; simp
      · try simp only [p1, p2, p3, p4, p5, p6, p8, b01_eq, b01_ne, Classical.not_not] at c1
        refine And.intro hG.t4 ⟨some (tS 0), hG.r43, ?_⟩
        refine And.intro p ?_
        refine pX8_isSomeBelowEmpty_33 rfl rfl rfl hG.t0 (c_X1_roomOn hG hR.1) (fun v κ1 hq2 ho2 hk2 => ?_)
        by_cases hs2 : isRm σ (clO (nI k) ((gI κ (tB i) 3) - 1))
        · skip
          rw [rmO_y hs2] at hq2
          obtain ⟨rfl, ehq2⟩ := hq2
          rw [ehq2]
          refine runY_ok rkX8_isSomeBelowEmpty (fun p => Nat.beq p 14) 200 _ _ _ _ _ _ ?_
          have := hlt (by assumption)
          have e9 := ih (k + 1) (by omega) (by omega) (by omega) (anyB_s hk1 h0 (hrm.mp (by assumption)))
          rw [← nI_1 k] at e9
          exact e9
        · skip
          rw [rmO_n hs2] at hq2
          obtain ⟨rfl, ehq2⟩ := hq2
          rw [ehq2]
          refine runY_ok rkX8_isSomeBelowEmpty (fun p => Nat.beq p 14) 200 _ _ _ _ _ _ ?_
          refine And.intro ⟨Nat.le_of_ble_eq_true rfl, Nat.le_of_ble_eq_true rfl⟩ ?_
          refine And.intro (by first | exact Or.inl rfl | exact Or.inr rfl) ?_
          refine ⟨congrArg some (congrArg Value.int (Eq.symm (if_pos ?_))), rfl⟩
          have := hlt (by assumption)
          unfold brN
          rw [decide_eq_true (lv_1 hV hz).1, Bool.true_and]
          exact anyB_t hk1 (by omega) (Classical.byContradiction fun q => absurd (hrm.mpr q) (by assumption))
  refine runY_ok rkX8_isSomeBelowEmpty (fun p => Nat.beq p 14) 200 _ _ _ _ _ _ ?_
  refine And.intro p ?_
  refine And.intro (fun c3 => ?_) (fun c3 => ?_)
  · try simp only [p1, p2, p3, p4, p5, p6, p8, b01_eq, b01_ne, Classical.not_not] at c3
    refine And.intro p ?_
    rw [p1, eF]
    exact loop14 (by first | trivial | assumption) ((σ.2 11 i).toNatClampNeg + 1) (σ.2 10 i).toNatClampNeg (Nat.le_refl _) (by omega) (by omega) (by rw [Nat.sub_self]; rfl)
  · try simp only [p1, p2, p3, p4, p5, p6, p8, b01_eq, b01_ne, Classical.not_not] at c3
    refine And.intro ⟨Nat.le_of_ble_eq_true rfl, Nat.le_of_ble_eq_true rfl⟩ ?_
    refine And.intro (by first | exact Or.inl rfl | exact Or.inr rfl) ?_
    refine ⟨congrArg some (congrArg Value.int (Eq.symm (if_neg ?_))), rfl⟩
    unfold brN
    rw [show σ.2 12 i = 0 from by assumption]
    simp

/-- what fills cells stands -/
def stF (σ : MS) : Prop := ∀ c, c < 36 → ¬ σ.2 25 c = -1 → σ.2 9 (σ.2 25 c).toNatClampNeg = 2
theorem bAt_blk {κ : AH} {σ : MS} {nb : Nat} (hR : hRm κ σ nb) (hs : stF σ) (hn : nb ≤ 60) {f v : Int32} (hv : 0 ≤ v ∧ v ≤ 2) (hne : ¬ bAt σ f v = -1) : (bAt σ f v).toNatClampNeg < nb ∧ bAt σ f v = nI (bAt σ f v).toNatClampNeg ∧ σ.2 9 (bAt σ f v).toNatClampNeg = 2 := by
  have h1 := (clO_isRm hv).mpr hne
  have h2 := clO_at hv h1
  have h3 := isRm_lt h1
  obtain ⟨-, j, h4, h5⟩ := hR.2.1 _ h3 h1.2
  have h6 := hs _ h3 h1.2
  rw [h2] at h5 h6
  rw [h5] at h6 ⊢
  rw [nI_clamp (n := j) (by omega)] at h6 ⊢
  exact ⟨h4, rfl, h6⟩
def misX (σ : MS) (i : Nat) : Int32 := σ.2 14 i - spc σ (bAt σ (σ.2 10 i - 1) (σ.2 12 i)) (bAt σ (σ.2 11 i + 1) (σ.2 12 i))
abbrev mis (σ : MS) (i : Nat) : Prop := ¬ (bAt σ (σ.2 10 i - 1) (σ.2 12 i) = -1 ∨ bAt σ (σ.2 11 i + 1) (σ.2 12 i) = -1) ∧ (60 < misX σ i ∨ misX σ i < -12)
theorem exc_eq {κ : AH} {σ : MS} {nb i : Nat} {a c : Int32} (hBk : hB κ σ nb) (hi : i < nb) (ha : a.toNatClampNeg < nb ∧ a = nI a.toNatClampNeg ∧ σ.2 9 a.toNatClampNeg = 2) (hc : c.toNatClampNeg < nb ∧ c = nI c.toNatClampNeg ∧ σ.2 9 c.toNatClampNeg = 2) :
    gI κ (tB i) 6 - (gI κ (tB c.toNatClampNeg) 7 - 4 - (gI κ (tB a.toNatClampNeg) 7 + gI κ (tB a.toNatClampNeg) 6 + 4)) = σ.2 14 i - spc σ a c := by
  obtain ⟨-, -, -, -, -, -, -, p6, -, -, -⟩ := hBk.2.1 i hi
  obtain ⟨-, -, -, -, -, -, -, a6, a7, -, -⟩ := hBk.2.1 _ ha.1
  obtain ⟨-, -, -, -, -, -, -, -, c7, -, -⟩ := hBk.2.1 _ hc.1
  rw [p6, a6, a7 ha.2.2, c7 hc.2.2]
  unfold spc eOf
  grind
set_option maxRecDepth 20000 in
theorem c_X8_isMisfit {w : W0} {κ : AH} {i : Nat} {σ : MS} {nb : Nat} (hG : SG κ) (hR : hRm κ σ nb) (hBk : hB κ σ nb) (hi : i < nb) (hrs : rsOK σ i) (hs : stF σ) (hn : nb ≤ 60) : CY w yX8_isMisfit mX8_isMisfit [.ref (tS 4), .ref (tB i)] κ (fun v κ' => v = some (.int (if mis σ i then 1 else 0)) ∧ κ' = κ) := by
  obtain ⟨p, p0, p1, p2, p3, p4, p5, p6, p7, p8, p9⟩ := hBk.2.1 i hi
  obtain ⟨hF, hL, hFL, hV⟩ := hrs
  have eF : (σ.2 10 i) = nI (σ.2 10 i).toNatClampNeg := in_n (in_c (c := 11) (n := 12) (by decide) hF)
  have eL : (σ.2 11 i) = nI (σ.2 11 i).toNatClampNeg := in_n (in_c (c := 11) (n := 12) (by decide) hL)
  have hlo12 : (σ.2 10 i).toNatClampNeg < 12 := lt_of_in (in_c (c := 11) (n := 12) (by decide) hF)
  have hhi12 : (σ.2 11 i).toNatClampNeg < 12 := lt_of_in (in_c (c := 11) (n := 12) (by decide) hL)
  refine CY_of mcX8_isMisfit (Nat.le_of_ble_eq_true rfl) (cat1 rfl) (fun θ0 => ?_)
  have K49 : ∀ r : Int32, ∀ x2 x3 x4 : Option Value, r = (if mis σ i then 1 else 0) → Y w mX8_isMisfit θ0 κ (fun v κ' => v = some (.int (if mis σ i then 1 else 0)) ∧ κ' = κ) (fun _ _ => False) 0 0 49 [some (.ref (tS 4)), some (.ref (tB i)), x2, x3, x4] [.int r] κ := by
    intro r x2 x3 x4 hr
    refine runY_go rkX8_isMisfit (fun p => Nat.beq p 20 || Nat.beq p 49) 200 rfl ?_
    refine And.intro ⟨Nat.le_of_ble_eq_true rfl, Nat.le_of_ble_eq_true rfl⟩ ?_
    refine And.intro (by rw [hr]; split <;> simp) ?_
    exact ⟨by rw [hr], rfl⟩
  have K20 : ¬ mis σ i → ∀ x2 x3 x4 : Option Value, Y w mX8_isMisfit θ0 κ (fun v κ' => v = some (.int (if mis σ i then 1 else 0)) ∧ κ' = κ) (fun _ _ => False) 0 0 20 [some (.ref (tS 4)), some (.ref (tB i)), x2, x3, x4] [] κ := by
    intro h0 x2 x3 x4
    refine runY_go rkX8_isMisfit (fun p => Nat.beq p 20 || Nat.beq p 49) 200 rfl ?_
    refine And.intro ⟨Nat.le_of_ble_eq_true rfl, Nat.le_of_ble_eq_true rfl⟩ ?_
    refine And.intro (by first | exact Or.inl rfl | exact Or.inr rfl) ?_
    exact ⟨by rw [if_neg h0], rfl⟩
  refine runY_ok rkX8_isMisfit (fun p => Nat.beq p 20 || Nat.beq p 49) 200 _ _ _ _ _ _ ?_
  refine pX8_isMisfit_2 rfl rfl rfl hG.t4 (show CY w yX8_neighbourAhead mX8_neighbourAhead [.ref (tS 4), .ref (tB i)] κ (fun v κ' => v = some (va_rf (refO (bAt σ ((σ.2 10 i) - 1) (σ.2 12 i)))) ∧ κ' = κ) from by have h9 := c_X8_neighbourAhead (w := w) hG hR p (p3.symm ▸ hV); rw [p1, p3] at h9; exact h9) (fun v κ1 hq1 ho1 hk1 => ?_)
  by_cases hs1 : (bAt σ ((σ.2 10 i) - 1) (σ.2 12 i)) = -1
  · skip
    rw [refO_y hs1] at hq1
    obtain ⟨rfl, ehq1⟩ := hq1
    rw [ehq1]
    refine runY_ok rkX8_isMisfit (fun p => Nat.beq p 20 || Nat.beq p 49) 200 _ _ _ _ _ _ ?_
    refine pX8_isMisfit_8 rfl rfl rfl hG.t4 (show CY w yX8_neighbourBehind mX8_neighbourBehind [.ref (tS 4), .ref (tB i)] κ (fun v κ' => v = some (va_rf (refO (bAt σ ((σ.2 11 i) + 1) (σ.2 12 i)))) ∧ κ' = κ) from by have h9 := c_X8_neighbourBehind (w := w) hG hR p (p3.symm ▸ hV); rw [p2, p3] at h9; exact h9) (fun v κ1 hq2 ho2 hk2 => ?_)
    by_cases hs2 : (bAt σ ((σ.2 11 i) + 1) (σ.2 12 i)) = -1
    · skip
      rw [refO_y hs2] at hq2
      obtain ⟨rfl, ehq2⟩ := hq2
      rw [ehq2]
      refine runY_ok rkX8_isMisfit (fun p => Nat.beq p 20 || Nat.beq p 49) 200 _ _ _ _ _ _ ?_
      exact K20 (by unfold mis; grind) _ _ _
    · skip
      rw [refO_n hs2] at hq2
      obtain ⟨rfl, ehq2⟩ := hq2
      rw [ehq2]
      refine runY_ok rkX8_isMisfit (fun p => Nat.beq p 20 || Nat.beq p 49) 200 _ _ _ _ _ _ ?_
      exact K20 (by unfold mis; grind) _ _ _
  · skip
    rw [refO_n hs1] at hq1
    obtain ⟨rfl, ehq1⟩ := hq1
    rw [ehq1]
    refine runY_ok rkX8_isMisfit (fun p => Nat.beq p 20 || Nat.beq p 49) 200 _ _ _ _ _ _ ?_
    refine pX8_isMisfit_8 rfl rfl rfl hG.t4 (show CY w yX8_neighbourBehind mX8_neighbourBehind [.ref (tS 4), .ref (tB i)] κ (fun v κ' => v = some (va_rf (refO (bAt σ ((σ.2 11 i) + 1) (σ.2 12 i)))) ∧ κ' = κ) from by have h9 := c_X8_neighbourBehind (w := w) hG hR p (p3.symm ▸ hV); rw [p2, p3] at h9; exact h9) (fun v κ1 hq3 ho3 hk3 => ?_)
    by_cases hs3 : (bAt σ ((σ.2 11 i) + 1) (σ.2 12 i)) = -1
    · skip
      rw [refO_y hs3] at hq3
      obtain ⟨rfl, ehq3⟩ := hq3
      rw [ehq3]
      refine runY_ok rkX8_isMisfit (fun p => Nat.beq p 20 || Nat.beq p 49) 200 _ _ _ _ _ _ ?_
      exact K20 (by unfold mis; grind) _ _ _
    · skip
      rw [refO_n hs3] at hq3
      obtain ⟨rfl, ehq3⟩ := hq3
      rw [ehq3]
      refine runY_ok rkX8_isMisfit (fun p => Nat.beq p 20 || Nat.beq p 49) 200 _ _ _ _ _ _ ?_
      refine pX8_isMisfit_25 rfl rfl rfl (show CY w yX8_excess mX8_excess [.ref (tB i), .ref (tB (bAt σ ((σ.2 10 i) - 1) (σ.2 12 i)).toNatClampNeg), .ref (tB (bAt σ ((σ.2 11 i) + 1) (σ.2 12 i)).toNatClampNeg)] κ (fun v κ' => v = some (.int (misX σ i)) ∧ κ' = κ) from by have h9 := c_X8_excess (w := w) p (hBk.2.1 _ (bAt_blk hR hs hn hV (by assumption : ¬ bAt σ ((σ.2 10 i) - 1) (σ.2 12 i) = -1)).1).1 (hBk.2.1 _ (bAt_blk hR hs hn hV (by assumption : ¬ bAt σ ((σ.2 11 i) + 1) (σ.2 12 i) = -1)).1).1; rw [(exc_eq (κ := κ) hBk hi (bAt_blk hR hs hn hV (by assumption : ¬ bAt σ ((σ.2 10 i) - 1) (σ.2 12 i) = -1)) (bAt_blk hR hs hn hV (by assumption : ¬ bAt σ ((σ.2 11 i) + 1) (σ.2 12 i) = -1)))] at h9; exact h9) (fun v κ1 hq4 ho4 hk4 => ?_)
      obtain ⟨rfl, ehq4⟩ := hq4
      rw [ehq4]
      refine runY_ok rkX8_isMisfit (fun p => Nat.beq p 20 || Nat.beq p 49) 200 _ _ _ _ _ _ ?_
      refine And.intro (fun c5 => ?_) (fun c5 => ?_)
      · try simp only [p1, p2, p3, p4, p5, p6, p8, b01_eq, b01_ne, Classical.not_not] at c5
        exact K49 _ _ _ _ (by unfold mis; grind)
      · try simp only [p1, p2, p3, p4, p5, p6, p8, b01_eq, b01_ne, Classical.not_not] at c5
        refine And.intro (fun c6 => ?_) (fun c6 => ?_)
        · try simp only [p1, p2, p3, p4, p5, p6, p8, b01_eq, b01_ne, Classical.not_not] at c6
          exact K49 _ _ _ _ (by unfold mis; grind)
        · try simp only [p1, p2, p3, p4, p5, p6, p8, b01_eq, b01_ne, Classical.not_not] at c6
          exact K49 _ _ _ _ (by unfold mis; grind)

theorem mx_eq (x y : Int32) : (if x < y then y else x) = mxx x y := by
  unfold mxx
  by_cases h1 : x < y
  · rw [if_pos h1, if_neg (fun h2 => by
      have a := Int32.lt_iff_toInt_lt.mp h1
      have b := Int32.lt_iff_toInt_lt.mp h2
      omega)]
  · by_cases h2 : y < x
    · rw [if_neg h1, if_pos h2]
    · rw [if_neg h1, if_neg h2]
      apply Int32.toInt_inj.mp
      have a : ¬ x.toInt < y.toInt := fun z => h1 (Int32.lt_iff_toInt_lt.mpr z)
      have b : ¬ y.toInt < x.toInt := fun z => h2 (Int32.lt_iff_toInt_lt.mpr z)
      omega
theorem ab_dif {c f : Int32} (hc : 0 ≤ c ∧ c ≤ 11) (hf : 0 ≤ f ∧ f ≤ 11) : ab0 (c - f) = dif f c := by
  obtain ⟨i, hi, rfl⟩ := vp_in_of (in_c (c := 11) (n := 12) (by decide) hc) (by decide)
  obtain ⟨j, hj, rfl⟩ := vp_in_of (in_c (c := 11) (n := 12) (by decide) hf) (by decide)
  have : ∀ i : Nat, i < 12 → ∀ j : Nat, j < 12 → ab0 (nI i - nI j) = dif (nI j) (nI i) := by decide
  exact this i hi j hj
/-- the numbers of the component -/
def hNm (κ : AH) (σ : MS) : Prop := (gI κ (tS 4) 7 = σ.1 8 ∧ gI κ (tS 4) 8 = σ.1 18 ∧ gI κ (tS 4) 9 = σ.1 30) ∧ (gI κ (tS 4) 10 = σ.1 0 ∧ gI κ (tS 4) 11 = σ.1 1 ∧ gI κ (tS 4) 12 = σ.1 2 ∧ gI κ (tS 4) 13 = σ.1 3 ∧ gI κ (tS 4) 14 = σ.1 6) ∧ gI κ (tS 3) 1 = σ.1 4 ∧ ∀ j, j < 4 → gI κ (tS 9) j = σ.2 5 j
theorem lif_eq {σ : MS} {i : Nat} {κ : AH} (hN : hNm κ σ) (hc : 0 ≤ σ.1 2 ∧ σ.1 2 ≤ 11) (hrs : rsOK σ i) : lif (gI κ (tS 4) 12) (gI κ (tS 4) 13) (σ.2 10 i) (σ.2 11 i) = σ.1 3 - 5 * mxx (dif (σ.2 10 i) (σ.1 2)) (dif (σ.2 11 i) (σ.1 2)) := by
  unfold lif
  rw [hN.2.1.2.2.1, hN.2.1.2.2.2.1, mx_eq, ab_dif hc hrs.1, ab_dif hc hrs.2.1]
set_option maxRecDepth 20000 in
theorem c_X8_reasonAgainst {w : W0} {κ : AH} {i : Nat} {σ : MS} {nb : Nat} (hG : SG κ) (hR : hRm κ σ nb) (hBk : hB κ σ nb) (hi : i < nb) (hrs : rsOK σ i) (hs : stF σ) (hn : nb ≤ 60) (hN : hNm κ σ) (hc : 0 ≤ σ.1 2 ∧ σ.1 2 ≤ 11) : CY w yX8_reasonAgainst mX8_reasonAgainst [.ref (tS 4), .ref (tB i)] κ (fun v κ' => v = some (.int (rsn σ i)) ∧ κ' = κ) := by
  have hrs0 := hrs
  obtain ⟨p, p0, p1, p2, p3, p4, p5, p6, p7, p8, p9⟩ := hBk.2.1 i hi
  obtain ⟨hF, hL, hFL, hV⟩ := hrs
  have eF : (σ.2 10 i) = nI (σ.2 10 i).toNatClampNeg := in_n (in_c (c := 11) (n := 12) (by decide) hF)
  have eL : (σ.2 11 i) = nI (σ.2 11 i).toNatClampNeg := in_n (in_c (c := 11) (n := 12) (by decide) hL)
  have hlo12 : (σ.2 10 i).toNatClampNeg < 12 := lt_of_in (in_c (c := 11) (n := 12) (by decide) hF)
  have hhi12 : (σ.2 11 i).toNatClampNeg < 12 := lt_of_in (in_c (c := 11) (n := 12) (by decide) hL)
  have q14 := hN.2.1.2.2.2.2
  refine CY_of mcX8_reasonAgainst (Nat.le_of_ble_eq_true rfl) (cat1 rfl) (fun θ0 => ?_)
  have K82 : ∀ r : Int32, r = rsn σ i → Y w mX8_reasonAgainst θ0 κ (fun v κ' => v = some (.int (rsn σ i)) ∧ κ' = κ) (fun _ _ => False) 0 0 82 [some (.ref (tS 4)), some (.ref (tB i))] [.int r] κ := by
    intro r hr
    refine runY_go rkX8_reasonAgainst (fun p => Nat.beq p 14 || Nat.beq p 82) 200 rfl ?_
    refine And.intro ⟨Nat.le_of_ble_eq_true rfl, Nat.le_of_ble_eq_true rfl⟩ ?_
    exact ⟨by rw [hr], rfl⟩
  have K14 : (¬ σ.2 9 i = 0 ∨ ¬ σ.1 6 = 0) → Y w mX8_reasonAgainst θ0 κ (fun v κ' => v = some (.int (rsn σ i)) ∧ κ' = κ) (fun _ _ => False) 0 0 14 [some (.ref (tS 4)), some (.ref (tB i))] [] κ := by
    intro h0
    refine runY_go rkX8_reasonAgainst (fun p => Nat.beq p 14 || Nat.beq p 82) 200 rfl ?_
    refine And.intro ⟨Nat.le_of_ble_eq_true rfl, Nat.le_of_ble_eq_true rfl⟩ ?_
    refine ⟨?_, rfl⟩
    unfold rsn
    rw [if_pos h0]
  refine runY_ok rkX8_reasonAgainst (fun p => Nat.beq p 14 || Nat.beq p 82) 200 _ _ _ _ _ _ ?_
  refine And.intro p ?_
  refine And.intro (fun c1 => ?_) (fun c1 => ?_)
  · try simp only [p1, p2, p3, p4, p5, p6, p8, q14, b01_eq, b01_ne, Classical.not_not] at c1
    exact K14 (by grind)
  · try simp only [p1, p2, p3, p4, p5, p6, p8, q14, b01_eq, b01_ne, Classical.not_not] at c1
    refine And.intro hG.t4 ?_
    refine And.intro (fun c2 => ?_) (fun c2 => ?_)
    · try simp only [p1, p2, p3, p4, p5, p6, p8, q14, b01_eq, b01_ne, Classical.not_not] at c2
      refine pX8_reasonAgainst_18 rfl rfl rfl hG.t4 (c_X8_isSomeFilled hG hR hBk hi hrs0) (fun v κ1 hq3 ho3 hk3 => ?_)
      obtain ⟨rfl, ehq3⟩ := hq3
      rw [ehq3]
      refine runY_ok rkX8_reasonAgainst (fun p => Nat.beq p 14 || Nat.beq p 82) 200 _ _ _ _ _ _ ?_
      refine And.intro (fun c4 => ?_) (fun c4 => ?_)
      · try simp only [p1, p2, p3, p4, p5, p6, p8, q14, b01_eq, b01_ne, Classical.not_not] at c4
        refine pX8_reasonAgainst_28 rfl rfl rfl hG.t4 (c_X8_isSomeBelowEmpty hG hR hBk hi hrs0) (fun v κ1 hq5 ho5 hk5 => ?_)
        obtain ⟨rfl, ehq5⟩ := hq5
        rw [ehq5]
        refine runY_ok rkX8_reasonAgainst (fun p => Nat.beq p 14 || Nat.beq p 82) 200 _ _ _ _ _ _ ?_
        refine And.intro (fun c6 => ?_) (fun c6 => ?_)
        · try simp only [p1, p2, p3, p4, p5, p6, p8, q14, b01_eq, b01_ne, Classical.not_not] at c6
          refine And.intro p ?_
          refine pX8_reasonAgainst_42 rfl rfl rfl hG.t4 (show CY w yX8_liftOver mX8_liftOver [.ref (tS 4), .ref (tB i)] κ (fun v κ' => v = some (.int (σ.1 3 - 5 * mxx (dif (σ.2 10 i) (σ.1 2)) (dif (σ.2 11 i) (σ.1 2)))) ∧ κ' = κ) from by have h9 := c_X8_liftOver (w := w) hG.t4 p; rw [p1, p2, lif_eq hN hc hrs0] at h9; exact h9) (fun v κ1 hq7 ho7 hk7 => ?_)
          obtain ⟨rfl, ehq7⟩ := hq7
          rw [ehq7]
          refine runY_ok rkX8_reasonAgainst (fun p => Nat.beq p 14 || Nat.beq p 82) 200 _ _ _ _ _ _ ?_
          refine And.intro (fun c8 => ?_) (fun c8 => ?_)
          · try simp only [p1, p2, p3, p4, p5, p6, p8, q14, b01_eq, b01_ne, Classical.not_not] at c8
            refine And.intro p ?_
            refine And.intro p ?_
            refine And.intro (fun c9 => ?_) (fun c9 => ?_)
            · try simp only [p1, p2, p3, p4, p5, p6, p8, q14, b01_eq, b01_ne, Classical.not_not] at c9
              refine pX8_reasonAgainst_70 rfl rfl rfl hG.t4 (c_X8_isMisfit hG hR hBk hi hrs0 hs hn) (fun v κ1 hq10 ho10 hk10 => ?_)
              obtain ⟨rfl, ehq10⟩ := hq10
              rw [ehq10]
              refine runY_ok rkX8_reasonAgainst (fun p => Nat.beq p 14 || Nat.beq p 82) 200 _ _ _ _ _ _ ?_
              refine And.intro (fun c11 => ?_) (fun c11 => ?_)
              · try simp only [p1, p2, p3, p4, p5, p6, p8, q14, b01_eq, b01_ne, Classical.not_not] at c11
                exact K82 _ (by unfold rsn rsn2; unfold mis misX at *; grind)
              · try simp only [p1, p2, p3, p4, p5, p6, p8, q14, b01_eq, b01_ne, Classical.not_not] at c11
                exact K82 _ (by unfold rsn rsn2; unfold mis misX at *; grind)
            · try simp only [p1, p2, p3, p4, p5, p6, p8, q14, b01_eq, b01_ne, Classical.not_not] at c9
              refine And.intro ⟨Nat.le_of_ble_eq_true rfl, Nat.le_of_ble_eq_true rfl⟩ ?_
              refine ⟨?_, rfl⟩
              unfold rsn rsn2
              grind
          · try simp only [p1, p2, p3, p4, p5, p6, p8, q14, b01_eq, b01_ne, Classical.not_not] at c8
            refine And.intro ⟨Nat.le_of_ble_eq_true rfl, Nat.le_of_ble_eq_true rfl⟩ ?_
            refine ⟨?_, rfl⟩
            unfold rsn rsn2
            grind
        · try simp only [p1, p2, p3, p4, p5, p6, p8, q14, b01_eq, b01_ne, Classical.not_not] at c6
          refine And.intro ⟨Nat.le_of_ble_eq_true rfl, Nat.le_of_ble_eq_true rfl⟩ ?_
          refine ⟨?_, rfl⟩
          unfold rsn rsn2
          grind
      · try simp only [p1, p2, p3, p4, p5, p6, p8, q14, b01_eq, b01_ne, Classical.not_not] at c4
        refine And.intro ⟨Nat.le_of_ble_eq_true rfl, Nat.le_of_ble_eq_true rfl⟩ ?_
        refine ⟨?_, rfl⟩
        unfold rsn rsn2
        grind
    · try simp only [p1, p2, p3, p4, p5, p6, p8, q14, b01_eq, b01_ne, Classical.not_not] at c2
      exact K14 (by grind)


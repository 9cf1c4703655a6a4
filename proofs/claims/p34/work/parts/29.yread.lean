/-! THE COMPONENT READS -/
set_option maxRecDepth 20000 in
theorem c_X1_roomOf {w : W0} {κ : AH} {x : Int32} {σ : MS} (hG : SG κ) (hR : ∀ c, c < 36 → gR κ (tS 8) c = if σ.2 25 c = -1 then none else some (tR c)) : CY w yX1_roomOf mX1_roomOf [.ref (tS 0), .int x] κ (fun v κ' => v = some (va_rf (rmO σ x)) ∧ κ' = κ) := by
  refine CY_of mcX1_roomOf (Nat.le_of_ble_eq_true rfl) (cat1 rfl) (fun θ0 => ?_)
  have K22 : x < 0 ∨ 36 ≤ x → Y w mX1_roomOf θ0 κ (fun v κ' => v = some (va_rf (rmO σ x)) ∧ κ' = κ) (fun _ _ => False) 0 0 22 [some (.ref (tS 0)), some (.int x)] [] κ := by
    intro h0
    refine runY_go rkX1_roomOf (fun p => Nat.beq p 22) 200 rfl ?_
    refine And.intro ⟨Nat.le_of_ble_eq_true rfl, Nat.le_of_ble_eq_true rfl⟩ ?_
    first | (rw [rmO_n (not_isRm h0)]; exact ⟨rfl, rfl⟩) | (rw [rmO_y (by assumption)]; exact ⟨rfl, rfl⟩) | (rw [rmO_n (by assumption)]; exact ⟨rfl, rfl⟩)
  refine runY_ok rkX1_roomOf (fun p => Nat.beq p 22) 200 _ _ _ _ _ _ ?_
  refine And.intro (fun c1 => ?_) (fun c1 => ?_)
  · skip
    exact K22 (by first | exact Or.inl ‹_› | exact Or.inr ‹_›)
  · skip
    refine And.intro hG.t0 ⟨some (tS 8), hG.r00, ?_⟩
    refine And.intro (by rw [hG.t8]; decide) ?_
    refine And.intro (fun c2 => ?_) (fun c2 => ?_)
    · rw [hG.n8, show Int32.ofNat 36 = 36 from rfl] at c2
      exact K22 (by first | exact Or.inl ‹_› | exact Or.inr ‹_›)
    · rw [hG.n8, show Int32.ofNat 36 = 36 from rfl] at c2
      refine And.intro hG.t0 ⟨some (tS 8), hG.r00, ?_⟩
      by_cases hs3 : isRm σ x
      · skip
        refine And.intro ⟨(by rw [hG.t8]; decide), (by rw [hG.n8]; exact in_lt (c := 36) rfl ‹_› ‹_›)⟩ ⟨some (tR x.toNatClampNeg), ((hR _ (lt_of_in (in_lt (c := 36) rfl ‹_› ‹_›))).trans (if_neg ((isRm_of ‹_› ‹_›).mp hs3))), ?_⟩
        refine And.intro ⟨Nat.le_of_ble_eq_true rfl, Nat.le_of_ble_eq_true rfl⟩ ?_
        first | (rw [rmO_n (not_isRm h0)]; exact ⟨rfl, rfl⟩) | (rw [rmO_y (by assumption)]; exact ⟨rfl, rfl⟩) | (rw [rmO_n (by assumption)]; exact ⟨rfl, rfl⟩)
      · skip
        refine And.intro ⟨(by rw [hG.t8]; decide), (by rw [hG.n8]; exact in_lt (c := 36) rfl ‹_› ‹_›)⟩ ⟨none, ((hR _ (lt_of_in (in_lt (c := 36) rfl ‹_› ‹_›))).trans (if_pos (Classical.byContradiction fun q => hs3 ((isRm_of ‹_› ‹_›).mpr q)))), ?_⟩
        refine And.intro ⟨Nat.le_of_ble_eq_true rfl, Nat.le_of_ble_eq_true rfl⟩ ?_
        first | (rw [rmO_n (not_isRm h0)]; exact ⟨rfl, rfl⟩) | (rw [rmO_y (by assumption)]; exact ⟨rfl, rfl⟩) | (rw [rmO_n (by assumption)]; exact ⟨rfl, rfl⟩)
theorem blO_y {n : Nat} {x : Int32} (h : isB n x) : blO n x = some (tB x.toNatClampNeg) := if_pos h
theorem blO_n {n : Nat} {x : Int32} (h : ¬ isB n x) : blO n x = none := if_neg h
theorem blO_out {n : Nat} {x : Int32} (hn : n ≤ 60) (h : x < 0 ∨ 60 ≤ x) : ¬ isB n x := by
  intro z
  rcases h with h | h
  · exact Int32.not_le.mpr h z.1
  · have h1 := Int32.le_iff_toInt_le.mp h
    have h2 := Int32.lt_iff_toInt_lt.mp z.2
    rw [nI_toInt (by omega)] at h2
    have e : (60 : Int32).toInt = 60 := rfl
    omega
set_option maxRecDepth 20000 in
theorem c_X8_blockOf {w : W0} {κ : AH} {x : Int32} {nb : Nat} (hn : nb ≤ 60) (hG : SG κ) (hR : ∀ i, i < 60 → gR κ (tS 5) i = if i < nb then some (tB i) else none) : CY w yX8_blockOf mX8_blockOf [.ref (tS 4), .int x] κ (fun v κ' => v = some (va_rf (blO nb x)) ∧ κ' = κ) := by
  refine CY_of mcX8_blockOf (Nat.le_of_ble_eq_true rfl) (cat1 rfl) (fun θ0 => ?_)
  have K22 : x < 0 ∨ 60 ≤ x → Y w mX8_blockOf θ0 κ (fun v κ' => v = some (va_rf (blO nb x)) ∧ κ' = κ) (fun _ _ => False) 0 0 22 [some (.ref (tS 4)), some (.int x)] [] κ := by
    intro h0
    refine runY_go rkX8_blockOf (fun p => Nat.beq p 22) 200 rfl ?_
    refine And.intro ⟨Nat.le_of_ble_eq_true rfl, Nat.le_of_ble_eq_true rfl⟩ ?_
    first | (rw [blO_n (blO_out hn h0)]; exact ⟨rfl, rfl⟩) | (rw [blO_y (by assumption)]; exact ⟨rfl, rfl⟩) | (rw [blO_n (by assumption)]; exact ⟨rfl, rfl⟩)
  refine runY_ok rkX8_blockOf (fun p => Nat.beq p 22) 200 _ _ _ _ _ _ ?_
  refine And.intro (fun c1 => ?_) (fun c1 => ?_)
  · skip
    exact K22 (by first | exact Or.inl ‹_› | exact Or.inr ‹_›)
  · skip
    refine And.intro hG.t4 ⟨some (tS 5), hG.r40, ?_⟩
    refine And.intro (by rw [hG.t5]; decide) ?_
    refine And.intro (fun c2 => ?_) (fun c2 => ?_)
    · rw [hG.n5, show Int32.ofNat 60 = 60 from rfl] at c2
      exact K22 (by first | exact Or.inl ‹_› | exact Or.inr ‹_›)
    · rw [hG.n5, show Int32.ofNat 60 = 60 from rfl] at c2
      refine And.intro hG.t4 ⟨some (tS 5), hG.r40, ?_⟩
      by_cases hs3 : isB nb x
      · skip
        refine And.intro ⟨(by rw [hG.t5]; decide), (by rw [hG.n5]; exact in_lt (c := 60) rfl ‹_› ‹_›)⟩ ⟨some (tB x.toNatClampNeg), ((hR _ (lt_of_in (in_lt (c := 60) rfl ‹_› ‹_›))).trans (if_pos ((isB_lt (in_lt (c := 60) rfl ‹_› ‹_›) (by decide) hn).mp hs3))), ?_⟩
        refine And.intro ⟨Nat.le_of_ble_eq_true rfl, Nat.le_of_ble_eq_true rfl⟩ ?_
        first | (rw [blO_n (blO_out hn h0)]; exact ⟨rfl, rfl⟩) | (rw [blO_y (by assumption)]; exact ⟨rfl, rfl⟩) | (rw [blO_n (by assumption)]; exact ⟨rfl, rfl⟩)
      · skip
        refine And.intro ⟨(by rw [hG.t5]; decide), (by rw [hG.n5]; exact in_lt (c := 60) rfl ‹_› ‹_›)⟩ ⟨none, ((hR _ (lt_of_in (in_lt (c := 60) rfl ‹_› ‹_›))).trans (if_neg (fun q => hs3 ((isB_lt (in_lt (c := 60) rfl ‹_› ‹_›) (by decide) hn).mpr q)))), ?_⟩
        refine And.intro ⟨Nat.le_of_ble_eq_true rfl, Nat.le_of_ble_eq_true rfl⟩ ?_
        first | (rw [blO_n (blO_out hn h0)]; exact ⟨rfl, rfl⟩) | (rw [blO_y (by assumption)]; exact ⟨rfl, rfl⟩) | (rw [blO_n (by assumption)]; exact ⟨rfl, rfl⟩)
theorem wlO_y {n : Nat} {x : Int32} (h : isB n x) : wlO n x = some (tW x.toNatClampNeg) := if_pos h
theorem wlO_n {n : Nat} {x : Int32} (h : ¬ isB n x) : wlO n x = none := if_neg h
theorem wlO_out {n : Nat} {x : Int32} (hn : n ≤ 100) (h : x < 0 ∨ 100 ≤ x) : ¬ isB n x := by
  intro z
  rcases h with h | h
  · exact Int32.not_le.mpr h z.1
  · have h1 := Int32.le_iff_toInt_le.mp h
    have h2 := Int32.lt_iff_toInt_lt.mp z.2
    rw [nI_toInt (by omega)] at h2
    have e : (100 : Int32).toInt = 100 := rfl
    omega
set_option maxRecDepth 20000 in
theorem c_X8_weldOf {w : W0} {κ : AH} {x : Int32} {nw : Nat} (hn : nw ≤ 100) (hG : SG κ) (hR : ∀ i, i < 100 → gR κ (tS 6) i = if i < nw then some (tW i) else none) : CY w yX8_weldOf mX8_weldOf [.ref (tS 4), .int x] κ (fun v κ' => v = some (va_rf (wlO nw x)) ∧ κ' = κ) := by
  refine CY_of mcX8_weldOf (Nat.le_of_ble_eq_true rfl) (cat1 rfl) (fun θ0 => ?_)
  have K22 : x < 0 ∨ 100 ≤ x → Y w mX8_weldOf θ0 κ (fun v κ' => v = some (va_rf (wlO nw x)) ∧ κ' = κ) (fun _ _ => False) 0 0 22 [some (.ref (tS 4)), some (.int x)] [] κ := by
    intro h0
    refine runY_go rkX8_weldOf (fun p => Nat.beq p 22) 200 rfl ?_
    refine And.intro ⟨Nat.le_of_ble_eq_true rfl, Nat.le_of_ble_eq_true rfl⟩ ?_
    first | (rw [wlO_n (wlO_out hn h0)]; exact ⟨rfl, rfl⟩) | (rw [wlO_y (by assumption)]; exact ⟨rfl, rfl⟩) | (rw [wlO_n (by assumption)]; exact ⟨rfl, rfl⟩)
  refine runY_ok rkX8_weldOf (fun p => Nat.beq p 22) 200 _ _ _ _ _ _ ?_
  refine And.intro (fun c1 => ?_) (fun c1 => ?_)
  · skip
    exact K22 (by first | exact Or.inl ‹_› | exact Or.inr ‹_›)
  · skip
    refine And.intro hG.t4 ⟨some (tS 6), hG.r41, ?_⟩
    refine And.intro (by rw [hG.t6]; decide) ?_
    refine And.intro (fun c2 => ?_) (fun c2 => ?_)
    · rw [hG.n6, show Int32.ofNat 100 = 100 from rfl] at c2
      exact K22 (by first | exact Or.inl ‹_› | exact Or.inr ‹_›)
    · rw [hG.n6, show Int32.ofNat 100 = 100 from rfl] at c2
      refine And.intro hG.t4 ⟨some (tS 6), hG.r41, ?_⟩
      by_cases hs3 : isB nw x
      · skip
        refine And.intro ⟨(by rw [hG.t6]; decide), (by rw [hG.n6]; exact in_lt (c := 100) rfl ‹_› ‹_›)⟩ ⟨some (tW x.toNatClampNeg), ((hR _ (lt_of_in (in_lt (c := 100) rfl ‹_› ‹_›))).trans (if_pos ((isB_lt (in_lt (c := 100) rfl ‹_› ‹_›) (by decide) hn).mp hs3))), ?_⟩
        refine And.intro ⟨Nat.le_of_ble_eq_true rfl, Nat.le_of_ble_eq_true rfl⟩ ?_
        first | (rw [wlO_n (wlO_out hn h0)]; exact ⟨rfl, rfl⟩) | (rw [wlO_y (by assumption)]; exact ⟨rfl, rfl⟩) | (rw [wlO_n (by assumption)]; exact ⟨rfl, rfl⟩)
      · skip
        refine And.intro ⟨(by rw [hG.t6]; decide), (by rw [hG.n6]; exact in_lt (c := 100) rfl ‹_› ‹_›)⟩ ⟨none, ((hR _ (lt_of_in (in_lt (c := 100) rfl ‹_› ‹_›))).trans (if_neg (fun q => hs3 ((isB_lt (in_lt (c := 100) rfl ‹_› ‹_›) (by decide) hn).mpr q)))), ?_⟩
        refine And.intro ⟨Nat.le_of_ble_eq_true rfl, Nat.le_of_ble_eq_true rfl⟩ ?_
        first | (rw [wlO_n (wlO_out hn h0)]; exact ⟨rfl, rfl⟩) | (rw [wlO_y (by assumption)]; exact ⟨rfl, rfl⟩) | (rw [wlO_n (by assumption)]; exact ⟨rfl, rfl⟩)


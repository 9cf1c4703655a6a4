/-! THE COMPONENT READS, 2 -/
set_option maxRecDepth 20000 in
theorem c_X1_roomOn {w : W0} {κ : AH} {f l : Int32} {σ : MS} (hG : SG κ) (hR : ∀ c, c < 36 → gR κ (tS 8) c = if σ.2 25 c = -1 then none else some (tR c)) : CY w yX1_roomOn mX1_roomOn [.ref (tS 0), .int f, .int l] κ (fun v κ' => v = some (va_rf (rmO σ (clO f l))) ∧ κ' = κ) := by
  refine CY_of mcX1_roomOn (Nat.le_of_ble_eq_true rfl) (cat1 rfl) (fun θ0 => ?_)
  refine runY_ok rkX1_roomOn noCut 200 _ _ _ _ _ _ ?_
  refine pX1_roomOn_3 rfl rfl rfl c_X8_cellOf (fun v κ1 hq1 ho1 hk1 => ?_)
  obtain ⟨rfl, ehq1⟩ := hq1
  rw [ehq1]
  refine runY_ok rkX1_roomOn noCut 200 _ _ _ _ _ _ ?_
  refine pX1_roomOn_6 rfl rfl rfl hG.t0 (c_X1_roomOf hG hR) (fun v κ1 hq2 ho2 hk2 => ?_)
  by_cases hs2 : isRm σ ((clO f l))
  · skip
    rw [rmO_y hs2] at hq2
    obtain ⟨rfl, ehq2⟩ := hq2
    rw [ehq2]
    refine runY_ok rkX1_roomOn noCut 200 _ _ _ _ _ _ ?_
    refine And.intro ⟨Nat.le_of_ble_eq_true rfl, Nat.le_of_ble_eq_true rfl⟩ ?_
    first | (rw [rmO_y (σ := σ) (x := clO f l) (by assumption)]; exact ⟨rfl, rfl⟩) | (rw [rmO_n (σ := σ) (x := clO f l) (by assumption)]; exact ⟨rfl, rfl⟩)
  · skip
    rw [rmO_n hs2] at hq2
    obtain ⟨rfl, ehq2⟩ := hq2
    rw [ehq2]
    refine runY_ok rkX1_roomOn noCut 200 _ _ _ _ _ _ ?_
    refine And.intro ⟨Nat.le_of_ble_eq_true rfl, Nat.le_of_ble_eq_true rfl⟩ ?_
    first | (rw [rmO_y (σ := σ) (x := clO f l) (by assumption)]; exact ⟨rfl, rfl⟩) | (rw [rmO_n (σ := σ) (x := clO f l) (by assumption)]; exact ⟨rfl, rfl⟩)

theorem lt_12 {f : Int32} : f < 12 ↔ f ≤ 11 := by
  have e : (12 : Int32).toInt = 12 := rfl
  have e2 : (11 : Int32).toInt = 11 := rfl
  rw [Int32.lt_iff_toInt_lt, Int32.le_iff_toInt_le]; omega
theorem lt_3 {f : Int32} : f < 3 ↔ f ≤ 2 := by
  have e : (3 : Int32).toInt = 3 := rfl
  have e2 : (2 : Int32).toInt = 2 := rfl
  rw [Int32.lt_iff_toInt_lt, Int32.le_iff_toInt_le]; omega
theorem in_35 {x : Int32} (h : vp_in x 36) : 0 ≤ x ∧ x ≤ 35 := by
  obtain ⟨j, hj, rfl⟩ := vp_in_of h (by decide)
  exact ⟨nI_pos' (by omega), nI_le (b := 35) (by omega) (by decide)⟩
theorem clO_yes {f l : Int32} (hf : 0 ≤ f ∧ f ≤ 11) (hl : 0 ≤ l ∧ l ≤ 2) : clO f l = 12 * l + f := if_pos ⟨⟨hf.1, lt_12.mpr hf.2⟩, hl.1, lt_3.mpr hl.2⟩
theorem clO_no {f l : Int32} (h : ¬ (0 ≤ f ∧ f ≤ 11)) : clO f l = -1 := if_neg (fun z => h ⟨z.1.1, lt_12.mp z.1.2⟩)
theorem clO_noL {f l : Int32} (h : ¬ (0 ≤ l ∧ l ≤ 2)) : clO f l = -1 := if_neg (fun z => h ⟨z.2.1, lt_3.mp z.2.2⟩)
theorem isRm_m1 {σ : MS} : ¬ isRm σ (-1) := fun z => absurd z.1.1 (by decide)
theorem clO_isRm {σ : MS} {f l : Int32} (hl : 0 ≤ l ∧ l ≤ 2) : isRm σ (clO f l) ↔ ¬ bAt σ f l = -1 := by
  unfold bAt
  by_cases hf : 0 ≤ f ∧ f ≤ 11
  · rw [if_pos hf, clO_yes hf hl]
    exact ⟨fun z => z.2, fun z => ⟨in_35 (cell_in hf hl), z⟩⟩
  · rw [if_neg hf, clO_no hf]
    exact ⟨fun z => absurd z isRm_m1, fun z => absurd rfl z⟩
theorem clO_at {σ : MS} {f l : Int32} (hl : 0 ≤ l ∧ l ≤ 2) (h : isRm σ (clO f l)) : σ.2 25 (clO f l).toNatClampNeg = bAt σ f l := by
  unfold bAt
  by_cases hf : 0 ≤ f ∧ f ≤ 11
  · rw [if_pos hf, clO_yes hf hl]
  · rw [clO_no hf] at h
    exact absurd h isRm_m1
theorem bk_y {σ : MS} {f l : Int32} (hl : 0 ≤ l ∧ l ≤ 2) (h : isRm σ (clO f l)) : refO (bAt σ f l) = some (tB (bAt σ f l).toNatClampNeg) := if_neg ((clO_isRm hl).mp h)
theorem bk_n {σ : MS} {f l : Int32} (hl : 0 ≤ l ∧ l ≤ 2) (h : ¬ isRm σ (clO f l)) : refO (bAt σ f l) = none := if_pos (Classical.byContradiction fun q => h ((clO_isRm hl).mpr q))
theorem isRm_lt {σ : MS} {x : Int32} (h : isRm σ x) : x.toNatClampNeg < 36 := lt_of_in (in_c (c := 35) (by decide) h.1)
set_option maxRecDepth 20000 in
theorem c_X1_blockAt {w : W0} {κ : AH} {f l : Int32} {σ : MS} {nb : Nat} (hG : SG κ) (hR : hRm κ σ nb) (hl : 0 ≤ l ∧ l ≤ 2) : CY w yX1_blockAt mX1_blockAt [.ref (tS 0), .int f, .int l] κ (fun v κ' => v = some (va_rf (refO (bAt σ f l))) ∧ κ' = κ) := by
  refine CY_of mcX1_blockAt (Nat.le_of_ble_eq_true rfl) (cat1 rfl) (fun θ0 => ?_)
  refine runY_ok rkX1_blockAt (fun p => Nat.beq p 19) 200 _ _ _ _ _ _ ?_
  refine pX1_blockAt_3 rfl rfl rfl hG.t0 (c_X1_roomOn hG hR.1) (fun v κ1 hq1 ho1 hk1 => ?_)
  by_cases hs1 : isRm σ (clO f l)
  · skip
    rw [rmO_y hs1] at hq1
    obtain ⟨rfl, ehq1⟩ := hq1
    rw [ehq1]
    refine runY_ok rkX1_blockAt (fun p => Nat.beq p 19) 200 _ _ _ _ _ _ ?_
    refine And.intro (hR.2.1 _ (isRm_lt ‹isRm σ (clO f l)›) (‹isRm σ (clO f l)› : isRm σ (clO f l)).2).1.1 ⟨some (tB (bAt σ f l).toNatClampNeg), ((hR.2.1 _ (isRm_lt ‹isRm σ (clO f l)›) (‹isRm σ (clO f l)› : isRm σ (clO f l)).2).1.2.2.1.trans (by rw [clO_at hl (by assumption)])), ?_⟩
    refine runY_go rkX1_blockAt noCut 5 rfl ?_
    refine And.intro ⟨Nat.le_of_ble_eq_true rfl, Nat.le_of_ble_eq_true rfl⟩ ?_
    first | (rw [bk_y (σ := σ) (f := f) hl (by assumption)]; exact ⟨rfl, rfl⟩) | (rw [bk_n (σ := σ) (f := f) hl (by assumption)]; exact ⟨rfl, rfl⟩)
  · skip
    rw [rmO_n hs1] at hq1
    obtain ⟨rfl, ehq1⟩ := hq1
    rw [ehq1]
    refine runY_ok rkX1_blockAt (fun p => Nat.beq p 19) 200 _ _ _ _ _ _ ?_
    refine runY_go rkX1_blockAt noCut 5 rfl ?_
    refine And.intro ⟨Nat.le_of_ble_eq_true rfl, Nat.le_of_ble_eq_true rfl⟩ ?_
    first | (rw [bk_y (σ := σ) (f := f) hl (by assumption)]; exact ⟨rfl, rfl⟩) | (rw [bk_n (σ := σ) (f := f) hl (by assumption)]; exact ⟨rfl, rfl⟩)
theorem refO_y {x : Int32} (h : x = -1) : refO x = none := if_pos h
theorem refO_n {x : Int32} (h : ¬ x = -1) : refO x = some (tB x.toNatClampNeg) := if_neg h
abbrev fB (κ : AH) (b : Nat) (σ : MS) (i : Nat) : Prop := gT κ b = 1 ∧ gI κ b 1 = σ.2 10 i ∧ gI κ b 2 = σ.2 11 i ∧ gI κ b 3 = σ.2 12 i
set_option maxRecDepth 20000 in
theorem c_X8_neighbourAhead {w : W0} {κ : AH} {b : Nat} {σ : MS} {nb : Nat} (hG : SG κ) (hR : hRm κ σ nb) (hb : gT κ b = 1) (hl : 0 ≤ gI κ b 3 ∧ gI κ b 3 ≤ 2) : CY w yX8_neighbourAhead mX8_neighbourAhead [.ref (tS 4), .ref b] κ (fun v κ' => v = some (va_rf (refO (bAt σ (gI κ b 1 - 1) (gI κ b 3)))) ∧ κ' = κ) := by
  refine CY_of mcX8_neighbourAhead (Nat.le_of_ble_eq_true rfl) (cat1 rfl) (fun θ0 => ?_)
  refine runY_ok rkX8_neighbourAhead noCut 200 _ _ _ _ _ _ ?_
  refine And.intro hG.t4 ⟨some (tS 0), hG.r43, ?_⟩
  refine And.intro hb ?_
  refine And.intro hb ?_
  refine pX8_neighbourAhead_14 rfl rfl rfl hG.t0 (c_X1_blockAt hG hR hl) (fun v κ1 hq1 ho1 hk1 => ?_)
  by_cases hs1 : (bAt σ ((gI κ b 1) - 1) (gI κ b 3)) = -1
  · skip
    rw [refO_y hs1] at hq1
    obtain ⟨rfl, ehq1⟩ := hq1
    rw [ehq1]
    refine runY_ok rkX8_neighbourAhead noCut 200 _ _ _ _ _ _ ?_
    refine And.intro ⟨Nat.le_of_ble_eq_true rfl, Nat.le_of_ble_eq_true rfl⟩ ?_
    first | (rw [refO_y (x := bAt σ (gI κ b 1 - 1) (gI κ b 3)) (by assumption)]; exact ⟨rfl, rfl⟩) | (rw [refO_n (x := bAt σ (gI κ b 1 - 1) (gI κ b 3)) (by assumption)]; exact ⟨rfl, rfl⟩)
  · skip
    rw [refO_n hs1] at hq1
    obtain ⟨rfl, ehq1⟩ := hq1
    rw [ehq1]
    refine runY_ok rkX8_neighbourAhead noCut 200 _ _ _ _ _ _ ?_
    refine And.intro ⟨Nat.le_of_ble_eq_true rfl, Nat.le_of_ble_eq_true rfl⟩ ?_
    first | (rw [refO_y (x := bAt σ (gI κ b 1 - 1) (gI κ b 3)) (by assumption)]; exact ⟨rfl, rfl⟩) | (rw [refO_n (x := bAt σ (gI κ b 1 - 1) (gI κ b 3)) (by assumption)]; exact ⟨rfl, rfl⟩)
set_option maxRecDepth 20000 in
theorem c_X8_neighbourBehind {w : W0} {κ : AH} {b : Nat} {σ : MS} {nb : Nat} (hG : SG κ) (hR : hRm κ σ nb) (hb : gT κ b = 1) (hl : 0 ≤ gI κ b 3 ∧ gI κ b 3 ≤ 2) : CY w yX8_neighbourBehind mX8_neighbourBehind [.ref (tS 4), .ref b] κ (fun v κ' => v = some (va_rf (refO (bAt σ (gI κ b 2 + 1) (gI κ b 3)))) ∧ κ' = κ) := by
  refine CY_of mcX8_neighbourBehind (Nat.le_of_ble_eq_true rfl) (cat1 rfl) (fun θ0 => ?_)
  refine runY_ok rkX8_neighbourBehind noCut 200 _ _ _ _ _ _ ?_
  refine And.intro hG.t4 ⟨some (tS 0), hG.r43, ?_⟩
  refine And.intro hb ?_
  refine And.intro hb ?_
  refine pX8_neighbourBehind_14 rfl rfl rfl hG.t0 (c_X1_blockAt hG hR hl) (fun v κ1 hq1 ho1 hk1 => ?_)
  by_cases hs1 : (bAt σ ((gI κ b 2) + 1) (gI κ b 3)) = -1
  · skip
    rw [refO_y hs1] at hq1
    obtain ⟨rfl, ehq1⟩ := hq1
    rw [ehq1]
    refine runY_ok rkX8_neighbourBehind noCut 200 _ _ _ _ _ _ ?_
    refine And.intro ⟨Nat.le_of_ble_eq_true rfl, Nat.le_of_ble_eq_true rfl⟩ ?_
    first | (rw [refO_y (x := bAt σ (gI κ b 2 + 1) (gI κ b 3)) (by assumption)]; exact ⟨rfl, rfl⟩) | (rw [refO_n (x := bAt σ (gI κ b 2 + 1) (gI κ b 3)) (by assumption)]; exact ⟨rfl, rfl⟩)
  · skip
    rw [refO_n hs1] at hq1
    obtain ⟨rfl, ehq1⟩ := hq1
    rw [ehq1]
    refine runY_ok rkX8_neighbourBehind noCut 200 _ _ _ _ _ _ ?_
    refine And.intro ⟨Nat.le_of_ble_eq_true rfl, Nat.le_of_ble_eq_true rfl⟩ ?_
    first | (rw [refO_y (x := bAt σ (gI κ b 2 + 1) (gI κ b 3)) (by assumption)]; exact ⟨rfl, rfl⟩) | (rw [refO_n (x := bAt σ (gI κ b 2 + 1) (gI κ b 3)) (by assumption)]; exact ⟨rfl, rfl⟩)
def spR (σ : MS) (κ : AH) (x : Int32) : AH := if isRm σ x then sI κ (tR x.toNatClampNeg) 2 0 else κ
set_option maxRecDepth 20000 in
theorem c_X8_spoilAt {w : W0} {κ : AH} {f l : Int32} {σ : MS} {nb : Nat} (hG : SG κ) (hR : hRm κ σ nb) : CY w yX8_spoilAt mX8_spoilAt [.ref (tS 4), .int f, .int l] κ (fun v κ' => v = none ∧ κ' = spR σ κ (clO f l)) := by
  refine CY_of mcX8_spoilAt (Nat.le_of_ble_eq_true rfl) (cat1 rfl) (fun θ0 => ?_)
  refine runY_ok rkX8_spoilAt (fun p => Nat.beq p 19) 200 _ _ _ _ _ _ ?_
  refine And.intro hG.t4 ⟨some (tS 0), hG.r43, ?_⟩
  refine pX8_spoilAt_6 rfl rfl rfl hG.t0 (c_X1_roomOn hG hR.1) (fun v κ1 hq1 ho1 hk1 => ?_)
  by_cases hs1 : isRm σ (clO f l)
  · skip
    rw [rmO_y hs1] at hq1
    obtain ⟨rfl, ehq1⟩ := hq1
    rw [ehq1]
    refine runY_ok rkX8_spoilAt (fun p => Nat.beq p 19) 200 _ _ _ _ _ _ ?_
    refine pX8_spoilAt_15 rfl rfl rfl (hR.2.1 _ (isRm_lt ‹isRm σ (clO f l)›) (‹isRm σ (clO f l)› : isRm σ (clO f l)).2).1.1 (c_X4_spoil (hR.2.1 _ (isRm_lt ‹isRm σ (clO f l)›) (‹isRm σ (clO f l)› : isRm σ (clO f l)).2).1.1) (fun v κ1 hq2 ho2 hk2 => ?_)
    obtain ⟨rfl, ehq2⟩ := hq2
    rw [ehq2]
    refine runY_ok rkX8_spoilAt (fun p => Nat.beq p 19) 200 _ _ _ _ _ _ ?_
    refine runY_go rkX8_spoilAt noCut 5 rfl ?_
    refine And.intro ⟨Nat.le_of_ble_eq_true rfl, Nat.le_of_ble_eq_true rfl⟩ ?_
    first | exact ⟨rfl, (if_pos ‹isRm σ (clO f l)›).symm⟩ | exact ⟨rfl, (if_neg ‹¬ isRm σ (clO f l)›).symm⟩
  · skip
    rw [rmO_n hs1] at hq1
    obtain ⟨rfl, ehq1⟩ := hq1
    rw [ehq1]
    refine runY_ok rkX8_spoilAt (fun p => Nat.beq p 19) 200 _ _ _ _ _ _ ?_
    refine runY_go rkX8_spoilAt noCut 5 rfl ?_
    refine And.intro ⟨Nat.le_of_ble_eq_true rfl, Nat.le_of_ble_eq_true rfl⟩ ?_
    first | exact ⟨rfl, (if_pos ‹isRm σ (clO f l)›).symm⟩ | exact ⟨rfl, (if_neg ‹¬ isRm σ (clO f l)›).symm⟩

def hCh (κ : AH) (σ : MS) (nb : Nat) : Prop := ∀ i, i < nb → gT κ (tB i) = 1 ∧ gR κ (tB i) 9 = refO (σ.2 17 i)
theorem hB.ch {κ : AH} {σ : MS} {nb : Nat} (h : hB κ σ nb) : hCh κ σ nb := fun i hi => ⟨(h.2.1 i hi).1, (h.2.1 i hi).2.2.2.2.2.2.2.2.2.2⟩
/-- the outermost block, by number -/
def whI (σ : MS) (i : Nat) : Nat := (whl σ (nI i)).toNatClampNeg
theorem whI_lt {σ : MS} {nb i : Nat} (hc : chn σ nb) (hi : i < nb) : whI σ i < nb ∧ whl σ (nI i) = nI (whI σ i) := by
  obtain ⟨k, -, h2, h3⟩ := whN_in hc 60 i hi
  have hn := hc.1
  have e : whI σ i = k := by unfold whI whl; rw [h3]; exact nI_clamp (by omega)
  rw [e]; exact ⟨h2, h3⟩
set_option maxRecDepth 20000 in
theorem c_X0_outermost {w : W0} {κ : AH} {i : Nat} {σ : MS} {nb : Nat} (hc : chn σ nb) (hC : hCh κ σ nb) (hi : i < nb) : CY w yX0_outermost mX0_outermost [.ref (tB i)] κ (fun v κ' => v = some (va_rf (some (tB (whI σ i)))) ∧ κ' = κ) := by
  refine CY_of mcX0_outermost (Nat.le_of_ble_eq_true rfl) (cat1 rfl) (fun θ0 => ?_)
  have loop2 : ∀ n j : Nat, j < nb → nb ≤ n + j → whl σ (nI i) = whN σ n (nI j) → Y w mX0_outermost θ0 κ (fun v κ' => v = some (va_rf (some (tB (whI σ i)))) ∧ κ' = κ) (fun _ _ => False) 0 0 2 [some (.ref (tB i)), some (.ref (tB j))] [] κ := by
    intro n
    induction n with
    | zero => intro j h1 h2; omega
    | succ n ih =>
      intro j hj hn hw
      refine runY_go rkX0_outermost (fun p => Nat.beq p 2) 200 rfl ?_
      by_cases hs1 : σ.2 17 j = -1
      · skip
        refine And.intro (hC j hj).1 ⟨none, ((hC j hj).2.trans (if_pos hs1)), ?_⟩
        refine And.intro ⟨Nat.le_of_ble_eq_true rfl, Nat.le_of_ble_eq_true rfl⟩ ?_
        refine ⟨?_, rfl⟩
        have hn60 := hc.1
        have ej : (nI j).toNatClampNeg = j := nI_clamp (by omega)
        unfold whI
        rw [hw]
        unfold whN
        rw [ej, if_pos (by assumption), ej]
        rfl
      · skip
        refine And.intro (hC j hj).1 ⟨some (tB (σ.2 17 j).toNatClampNeg), ((hC j hj).2.trans (if_neg hs1)), ?_⟩
        refine And.intro (hC j hj).1 ⟨some (tB (σ.2 17 j).toNatClampNeg), ((hC j hj).2.trans (if_neg (by assumption))), ?_⟩
        obtain ⟨j2, h1, h2, h3⟩ := ((hc.2 j hj).resolve_left (by assumption))
        have hn60 := hc.1
        rw [h3, nI_clamp (n := j2) (by omega)]
        refine ih j2 h2 (by omega) ?_
        rw [hw]
        show (if σ.2 17 (nI j).toNatClampNeg = -1 then nI j else whN σ n (σ.2 17 (nI j).toNatClampNeg)) = _
        rw [nI_clamp (n := j) (by omega), if_neg (by assumption), h3]
  refine runY_ok rkX0_outermost (fun p => Nat.beq p 2) 200 _ _ _ _ _ _ ?_
  have hn60 := hc.1
  exact loop2 60 i hi (by omega) rfl
set_option maxRecDepth 20000 in
theorem c_X6_isScrapped {w : W0} {κ : AH} {b j : Nat} {σ : MS} {nb : Nat} (hc : chn σ nb) (hC : hCh κ σ nb) (h8 : ∀ i, i < nb → gI κ (tB i) 8 = σ.2 9 i) (hb : gT κ b = 7) (h0 : gR κ b 0 = some (tB j)) (hj : j < nb) : CY w yX6_isScrapped mX6_isScrapped [.ref b] κ (fun v κ' => v = some (.int (if σ.2 9 (whI σ j) = 3 then 1 else 0)) ∧ κ' = κ) := by
  refine CY_of mcX6_isScrapped (Nat.le_of_ble_eq_true rfl) (cat1 rfl) (fun θ0 => ?_)
  have K19 : ∀ r : Int32, r = (if σ.2 9 (whI σ j) = 3 then 1 else 0) → Y w mX6_isScrapped θ0 κ (fun v κ' => v = some (.int (if σ.2 9 (whI σ j) = 3 then 1 else 0)) ∧ κ' = κ) (fun _ _ => False) 0 0 19 [some (.ref b)] [.int r] κ := by
    intro r hr
    refine runY_go rkX6_isScrapped (fun p => Nat.beq p 19) 200 rfl ?_
    refine And.intro ⟨Nat.le_of_ble_eq_true rfl, Nat.le_of_ble_eq_true rfl⟩ ?_
    refine And.intro (by rw [hr]; split <;> simp) ?_
    exact ⟨by rw [hr], rfl⟩
  refine runY_ok rkX6_isScrapped (fun p => Nat.beq p 19) 200 _ _ _ _ _ _ ?_
  refine And.intro hb ⟨some (tB j), h0, ?_⟩
  refine pX6_isScrapped_4 rfl rfl rfl (hC j hj).1 (c_X0_outermost hc hC hj) (fun v κ1 hq1 ho1 hk1 => ?_)
  obtain ⟨rfl, ehq1⟩ := hq1
  rw [ehq1]
  refine runY_ok rkX6_isScrapped (fun p => Nat.beq p 19) 200 _ _ _ _ _ _ ?_
  refine And.intro (hC _ (whI_lt hc hj).1).1 ?_
  refine And.intro (fun c2 => ?_) (fun c2 => ?_)
  · rw [h8 _ (whI_lt hc hj).1] at c2
    exact K19 _ (by first | rw [if_pos ‹_›] | rw [if_neg ‹_›])
  · rw [h8 _ (whI_lt hc hj).1] at c2
    exact K19 _ (by first | rw [if_pos ‹_›] | rw [if_neg ‹_›])
set_option maxRecDepth 20000 in
theorem c_X6_isStanding {w : W0} {κ : AH} {b j : Nat} {σ : MS} {nb : Nat} (hc : chn σ nb) (hC : hCh κ σ nb) (h8 : ∀ i, i < nb → gI κ (tB i) 8 = σ.2 9 i) (hb : gT κ b = 7) (h0 : gR κ b 0 = some (tB j)) (hj : j < nb) : CY w yX6_isStanding mX6_isStanding [.ref b] κ (fun v κ' => v = some (.int (if σ.2 9 (whI σ j) = 2 then 1 else 0)) ∧ κ' = κ) := by
  refine CY_of mcX6_isStanding (Nat.le_of_ble_eq_true rfl) (cat1 rfl) (fun θ0 => ?_)
  have K19 : ∀ r : Int32, r = (if σ.2 9 (whI σ j) = 2 then 1 else 0) → Y w mX6_isStanding θ0 κ (fun v κ' => v = some (.int (if σ.2 9 (whI σ j) = 2 then 1 else 0)) ∧ κ' = κ) (fun _ _ => False) 0 0 19 [some (.ref b)] [.int r] κ := by
    intro r hr
    refine runY_go rkX6_isStanding (fun p => Nat.beq p 19) 200 rfl ?_
    refine And.intro ⟨Nat.le_of_ble_eq_true rfl, Nat.le_of_ble_eq_true rfl⟩ ?_
    refine And.intro (by rw [hr]; split <;> simp) ?_
    exact ⟨by rw [hr], rfl⟩
  refine runY_ok rkX6_isStanding (fun p => Nat.beq p 19) 200 _ _ _ _ _ _ ?_
  refine And.intro hb ⟨some (tB j), h0, ?_⟩
  refine pX6_isStanding_4 rfl rfl rfl (hC j hj).1 (c_X0_outermost hc hC hj) (fun v κ1 hq1 ho1 hk1 => ?_)
  obtain ⟨rfl, ehq1⟩ := hq1
  rw [ehq1]
  refine runY_ok rkX6_isStanding (fun p => Nat.beq p 19) 200 _ _ _ _ _ _ ?_
  refine And.intro (hC _ (whI_lt hc hj).1).1 ?_
  refine And.intro (fun c2 => ?_) (fun c2 => ?_)
  · rw [h8 _ (whI_lt hc hj).1] at c2
    exact K19 _ (by first | rw [if_pos ‹_›] | rw [if_neg ‹_›])
  · rw [h8 _ (whI_lt hc hj).1] at c2
    exact K19 _ (by first | rw [if_pos ‹_›] | rw [if_neg ‹_›])
def fcW (κ : AH) (b d : Nat) (i : Int32) : Int32 := if i = 0 then gI κ b 2 else if i = 1 then gI κ b 3 else if i = 2 then gI κ b 1 else gI κ d 3
set_option maxRecDepth 20000 in
theorem c_X6_fact {w : W0} {κ : AH} {b d : Nat} {i : Int32} (hb : gT κ b = 7) (hd : gT κ d = 1) (hr0 : gR κ b 0 = some d) : CY w yX6_fact mX6_fact [.ref b, .int i] κ (fun v κ' => v = some (.int (fcW κ b d i)) ∧ κ' = κ) := by
  refine CY_of mcX6_fact (Nat.le_of_ble_eq_true rfl) (cat1 rfl) (fun θ0 => ?_)
  refine runY_ok rkX6_fact noCut 200 _ _ _ _ _ _ ?_
  refine pX6_fact_1 (fun e => ?_) (fun e => ?_) (fun e => ?_) (fun e => ?_)
  · skip
    refine runY_ok rkX6_fact noCut 200 _ _ _ _ _ _ ?_
    refine And.intro hb ?_
    refine And.intro ⟨Nat.le_of_ble_eq_true rfl, Nat.le_of_ble_eq_true rfl⟩ ?_
    first | (subst e; exact ⟨rfl, rfl⟩) | (refine ⟨?_, rfl⟩; unfold fcW; grind)
  · skip
    refine runY_ok rkX6_fact noCut 200 _ _ _ _ _ _ ?_
    refine And.intro hb ?_
    refine And.intro ⟨Nat.le_of_ble_eq_true rfl, Nat.le_of_ble_eq_true rfl⟩ ?_
    first | (subst e; exact ⟨rfl, rfl⟩) | (refine ⟨?_, rfl⟩; unfold fcW; grind)
  · skip
    refine runY_ok rkX6_fact noCut 200 _ _ _ _ _ _ ?_
    refine And.intro hb ?_
    refine And.intro ⟨Nat.le_of_ble_eq_true rfl, Nat.le_of_ble_eq_true rfl⟩ ?_
    first | (subst e; exact ⟨rfl, rfl⟩) | (refine ⟨?_, rfl⟩; unfold fcW; grind)
  · skip
    refine runY_ok rkX6_fact noCut 200 _ _ _ _ _ _ ?_
    refine And.intro hb ⟨some d, hr0, ?_⟩
    refine And.intro hd ?_
    refine And.intro ⟨Nat.le_of_ble_eq_true rfl, Nat.le_of_ble_eq_true rfl⟩ ?_
    first | (subst e; exact ⟨rfl, rfl⟩) | (refine ⟨?_, rfl⟩; unfold fcW; grind)


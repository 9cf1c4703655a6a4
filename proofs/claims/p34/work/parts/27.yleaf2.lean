/-! THE COMPONENT'S SMALL METHODS, 2 -/
set_option maxRecDepth 20000 in
theorem d_X8_isWithin {w : W0} {κ : AH} {x a b : Int32} : CY w yX8_isWithin mX8_isWithin [.int x, .int a, .int b] κ (fun v κ' => v = some (.int (if a ≤ x ∧ x ≤ b then 1 else 0)) ∧ κ' = κ) := by
  refine CY_of mcX8_isWithin (Nat.le_of_ble_eq_true rfl) (cat1 rfl) (fun θ0 => ?_)
  have K15 : ∀ r : Int32, r = (if a ≤ x ∧ x ≤ b then 1 else 0) → Y w mX8_isWithin θ0 κ (fun v κ' => v = some (.int (if a ≤ x ∧ x ≤ b then 1 else 0)) ∧ κ' = κ) (fun _ _ => False) 0 0 15 [some (.int x), some (.int a), some (.int b)] [.int r] κ := by
    intro r hr
    refine runY_go rkX8_isWithin (fun p => Nat.beq p 14 || Nat.beq p 15) 200 rfl ?_
    refine And.intro ⟨Nat.le_of_ble_eq_true rfl, Nat.le_of_ble_eq_true rfl⟩ ?_
    refine And.intro (by rw [hr]; split <;> simp) ?_
    exact ⟨by rw [hr], rfl⟩
  have K14 : ¬ (a ≤ x ∧ x ≤ b) → Y w mX8_isWithin θ0 κ (fun v κ' => v = some (.int (if a ≤ x ∧ x ≤ b then 1 else 0)) ∧ κ' = κ) (fun _ _ => False) 0 0 14 [some (.int x), some (.int a), some (.int b)] [] κ := by
    intro h0
    have hr : (0 : Int32) = if a ≤ x ∧ x ≤ b then 1 else 0 := by rw [if_neg h0]
    refine runY_go rkX8_isWithin (fun p => Nat.beq p 14 || Nat.beq p 15) 200 rfl ?_
    exact K15 _ (by grind)
  refine runY_ok rkX8_isWithin (fun p => Nat.beq p 14 || Nat.beq p 15) 200 _ _ _ _ _ _ ?_
  refine And.intro (fun c1 => ?_) (fun c1 => ?_)
  · try simp only [b01_eq, b01_ne, Classical.not_not] at c1
    exact K14 (by grind)
  · try simp only [b01_eq, b01_ne, Classical.not_not] at c1
    refine And.intro (fun c2 => ?_) (fun c2 => ?_)
    · try simp only [b01_eq, b01_ne, Classical.not_not] at c2
      exact K14 (by grind)
    · try simp only [b01_eq, b01_ne, Classical.not_not] at c2
      exact K15 _ (by grind)
set_option maxRecDepth 20000 in
theorem c_X8_isFrame {w : W0} {κ : AH} {x : Int32} : CY w yX8_isFrame mX8_isFrame [.int x] κ (fun v κ' => v = some (.int (if 0 ≤ x ∧ x ≤ 11 then 1 else 0)) ∧ κ' = κ) := by
  refine CY_of mcX8_isFrame (Nat.le_of_ble_eq_true rfl) (cat1 rfl) (fun θ0 => ?_)
  refine runY_ok rkX8_isFrame noCut 200 _ _ _ _ _ _ ?_
  refine pX8_isFrame_4 rfl rfl rfl d_X8_isWithin (fun v κ1 hq1 ho1 hk1 => ?_)
  obtain ⟨rfl, ehq1⟩ := hq1
  rw [ehq1]
  refine runY_ok rkX8_isFrame noCut 200 _ _ _ _ _ _ ?_
  refine And.intro ⟨Nat.le_of_ble_eq_true rfl, Nat.le_of_ble_eq_true rfl⟩ ?_
  refine And.intro (by split <;> simp) ?_
  exact ⟨rfl, rfl⟩
set_option maxRecDepth 20000 in
theorem c_X8_tonsTogether {w : W0} {κ : AH} {a b : Nat} (ha : gT κ a = 1) (hb : gT κ b = 1) : CY w yX8_tonsTogether mX8_tonsTogether [.ref a, .ref b] κ (fun v κ' => v = some (.int (gI κ a 4 + gI κ b 4 + 1)) ∧ κ' = κ) := by
  refine CY_of mcX8_tonsTogether (Nat.le_of_ble_eq_true rfl) (cat1 rfl) (fun θ0 => ?_)
  refine runY_ok rkX8_tonsTogether noCut 200 _ _ _ _ _ _ ?_
  refine And.intro ha ?_
  refine And.intro hb ?_
  refine And.intro ⟨Nat.le_of_ble_eq_true rfl, Nat.le_of_ble_eq_true rfl⟩ ?_
  exact ⟨rfl, rfl⟩
set_option maxRecDepth 20000 in
theorem c_X8_becomePart {w : W0} {κ : AH} {a b : Nat} (ha : gT κ a = 1) (hb : gT κ b = 1) : CY w yX8_becomePart mX8_becomePart [.ref a, .ref b] κ (fun v κ' => v = none ∧ κ' = sR (sI κ a 8 1) a 9 (some b)) := by
  refine CY_of mcX8_becomePart (Nat.le_of_ble_eq_true rfl) (cat1 rfl) (fun θ0 => ?_)
  refine runY_ok rkX8_becomePart noCut 200 _ _ _ _ _ _ ?_
  refine And.intro ha ?_
  refine And.intro ha ?_
  refine And.intro ⟨Nat.le_of_ble_eq_true rfl, Nat.le_of_ble_eq_true rfl⟩ ?_
  exact ⟨rfl, rfl⟩
set_option maxRecDepth 20000 in
theorem c_X8_excess {w : W0} {κ : AH} {a b d : Nat} (ha : gT κ a = 1) (hb : gT κ b = 1) (hd : gT κ d = 1) : CY w yX8_excess mX8_excess [.ref a, .ref b, .ref d] κ (fun v κ' => v = some (.int (gI κ a 6 - (gI κ d 7 - 4 - (gI κ b 7 + gI κ b 6 + 4)))) ∧ κ' = κ) := by
  refine CY_of mcX8_excess (Nat.le_of_ble_eq_true rfl) (cat1 rfl) (fun θ0 => ?_)
  refine runY_ok rkX8_excess noCut 200 _ _ _ _ _ _ ?_
  refine And.intro ha ?_
  refine And.intro hd ?_
  refine pX8_excess_11 rfl rfl rfl hb (c_X0_end hb) (fun v κ1 hq1 ho1 hk1 => ?_)
  obtain ⟨rfl, ehq1⟩ := hq1
  rw [ehq1]
  refine runY_ok rkX8_excess noCut 200 _ _ _ _ _ _ ?_
  refine And.intro ⟨Nat.le_of_ble_eq_true rfl, Nat.le_of_ble_eq_true rfl⟩ ?_
  exact ⟨rfl, rfl⟩
set_option maxRecDepth 20000 in
theorem c_X8_beginOf1 {w : W0} {κ : AH} {a b : Nat} (ha : gT κ a = 1) (hb : gT κ b = 1) : CY w yX8_beginOf mX8_beginOf [.ref a, .ref b, .null] κ (fun v κ' => v = some (.int (gI κ b 7 + gI κ b 6 + 4)) ∧ κ' = κ) := by
  refine CY_of mcX8_beginOf (Nat.le_of_ble_eq_true rfl) (cat1 rfl) (fun θ0 => ?_)
  refine runY_ok rkX8_beginOf noCut 200 _ _ _ _ _ _ ?_
  refine pX8_beginOf_5 rfl rfl rfl hb (c_X0_end hb) (fun v κ1 hq1 ho1 hk1 => ?_)
  obtain ⟨rfl, ehq1⟩ := hq1
  rw [ehq1]
  refine runY_ok rkX8_beginOf noCut 200 _ _ _ _ _ _ ?_
  refine And.intro ⟨Nat.le_of_ble_eq_true rfl, Nat.le_of_ble_eq_true rfl⟩ ?_
  exact ⟨rfl, rfl⟩
set_option maxRecDepth 20000 in
theorem c_X8_beginOf2 {w : W0} {κ : AH} {a b d : Nat} (ha : gT κ a = 1) (hb : gT κ b = 1) (hd : gT κ d = 1) : CY w yX8_beginOf mX8_beginOf [.ref a, .ref b, .ref d] κ (fun v κ' => v = some (.int (gI κ b 7 + gI κ b 6 + 4)) ∧ κ' = κ) := by
  refine CY_of mcX8_beginOf (Nat.le_of_ble_eq_true rfl) (cat1 rfl) (fun θ0 => ?_)
  refine runY_ok rkX8_beginOf noCut 200 _ _ _ _ _ _ ?_
  refine pX8_beginOf_5 rfl rfl rfl hb (c_X0_end hb) (fun v κ1 hq1 ho1 hk1 => ?_)
  obtain ⟨rfl, ehq1⟩ := hq1
  rw [ehq1]
  refine runY_ok rkX8_beginOf noCut 200 _ _ _ _ _ _ ?_
  refine And.intro ⟨Nat.le_of_ble_eq_true rfl, Nat.le_of_ble_eq_true rfl⟩ ?_
  exact ⟨rfl, rfl⟩
set_option maxRecDepth 20000 in
theorem c_X8_beginOf3 {w : W0} {κ : AH} {a b : Nat} (ha : gT κ a = 1) (hb : gT κ b = 1) : CY w yX8_beginOf mX8_beginOf [.ref a, .null, .ref b] κ (fun v κ' => v = some (.int (gI κ b 7 - 4 - gI κ a 6)) ∧ κ' = κ) := by
  refine CY_of mcX8_beginOf (Nat.le_of_ble_eq_true rfl) (cat1 rfl) (fun θ0 => ?_)
  refine runY_ok rkX8_beginOf noCut 200 _ _ _ _ _ _ ?_
  refine And.intro hb ?_
  refine And.intro ha ?_
  refine And.intro ⟨Nat.le_of_ble_eq_true rfl, Nat.le_of_ble_eq_true rfl⟩ ?_
  exact ⟨rfl, rfl⟩
set_option maxRecDepth 20000 in
theorem c_X8_beginOf4 {w : W0} {κ : AH} {a : Nat} (ha : gT κ a = 1) : CY w yX8_beginOf mX8_beginOf [.ref a, .null, .null] κ (fun v κ' => v = some (.int (1000 * gI κ a 1)) ∧ κ' = κ) := by
  refine CY_of mcX8_beginOf (Nat.le_of_ble_eq_true rfl) (cat1 rfl) (fun θ0 => ?_)
  refine runY_ok rkX8_beginOf noCut 200 _ _ _ _ _ _ ?_
  refine And.intro ha ?_
  refine And.intro ⟨Nat.le_of_ble_eq_true rfl, Nat.le_of_ble_eq_true rfl⟩ ?_
  exact ⟨rfl, rfl⟩
def ab0 (x : Int32) : Int32 := if 0 ≤ x then x else 0 - x
def lif (c t f l : Int32) : Int32 := t - 5 * (if ab0 (c - f) < ab0 (c - l) then ab0 (c - l) else ab0 (c - f))
set_option maxRecDepth 20000 in
theorem c_X8_liftOver {w : W0} {κ : AH} {a b : Nat} (ha : gT κ a = 9) (hb : gT κ b = 1) : CY w yX8_liftOver mX8_liftOver [.ref a, .ref b] κ (fun v κ' => v = some (.int (lif (gI κ a 12) (gI κ a 13) (gI κ b 1) (gI κ b 2))) ∧ κ' = κ) := by
  refine CY_of mcX8_liftOver (Nat.le_of_ble_eq_true rfl) (cat1 rfl) (fun θ0 => ?_)
  refine runY_ok rkX8_liftOver noCut 200 _ _ _ _ _ _ ?_
  refine And.intro ha ?_
  refine And.intro hb ?_
  refine pX8_liftOver_9 rfl rfl rfl ?_
  refine runY_ok rkX8_liftOver noCut 200 _ _ _ _ _ _ ?_
  refine And.intro ha ?_
  refine And.intro hb ?_
  refine pX8_liftOver_21 rfl rfl rfl ?_
  refine runY_ok rkX8_liftOver noCut 200 _ _ _ _ _ _ ?_
  refine pX8_liftOver_24 rfl rfl rfl ?_
  refine runY_ok rkX8_liftOver noCut 200 _ _ _ _ _ _ ?_
  refine And.intro ha ?_
  refine And.intro ⟨Nat.le_of_ble_eq_true rfl, Nat.le_of_ble_eq_true rfl⟩ ?_
  exact ⟨rfl, rfl⟩
set_option maxRecDepth 20000 in
theorem c_X2_enter {w : W0} {κ : AH} {b en nl : Nat} {x : Int32} (hb : gT κ b = 3) (hen : gT κ en = 11) (hn : gN κ en = 337) (hr0 : gR κ b 0 = some en) (hnl : nl < 337) (ec : gI κ b 1 = nI nl) : CY w yX2_enter mX2_enter [.ref b, .int x] κ (fun v κ' => v = none ∧ κ' = sI (sI (sI κ en nl x) b 1 (nI (nl + 1))) b 2 (gI κ b 2 + x)) := by
  refine CY_of mcX2_enter (Nat.le_of_ble_eq_true rfl) (cat1 rfl) (fun θ0 => ?_)
  have hne : ¬ b = en := by intro z; rw [z, hen] at hb; exact absurd hb (by decide)
  have hcl : (nI nl).toNatClampNeg = nl := nI_clamp (by omega)
  have hfin : ∀ κ', κ' = sI (sI (sI κ en (gI κ b 1).toNatClampNeg x) b 1 (gI (sI κ en (gI κ b 1).toNatClampNeg x) b 1 + 1)) b 2 (gI (sI (sI κ en (gI κ b 1).toNatClampNeg x) b 1 (gI (sI κ en (gI κ b 1).toNatClampNeg x) b 1 + 1)) b 2 + x) → κ' = sI (sI (sI κ en nl x) b 1 (nI (nl + 1))) b 2 (gI κ b 2 + x) := by intro κ' e; rw [e, ec, hcl]; simp [gI_sI, hne, ec, nI_1]
  refine runY_ok rkX2_enter (fun p => Nat.beq p 49) 200 _ _ _ _ _ _ ?_
  refine And.intro (by assumption) ?_
  refine And.intro (fun c1 => ?_) (fun c1 => ?_)
  · rw [ec] at c1
    first
    | (exact absurd ‹nI nl < 0› (nI_pos (by omega)))
    | (exact absurd ‹nI 337 ≤ nI nl› (nI_ge hnl (by decide)))
    | (refine runY_go rkX2_enter noCut 5 rfl ?_; refine And.intro ⟨Nat.le_of_ble_eq_true rfl, Nat.le_of_ble_eq_true rfl⟩ ?_; exact ⟨rfl, hfin _ rfl⟩)
  · rw [ec] at c1
    refine And.intro (by assumption) ?_
    refine And.intro (by assumption) ⟨some en, hr0, ?_⟩
    refine And.intro (by rw [hen]; decide) ?_
    refine And.intro (fun c2 => ?_) (fun c2 => ?_)
    · rw [ec, hn, show Int32.ofNat 337 = nI 337 from rfl] at c2
      first
      | (exact absurd ‹nI nl < 0› (nI_pos (by omega)))
      | (exact absurd ‹nI 337 ≤ nI nl› (nI_ge hnl (by decide)))
      | (refine runY_go rkX2_enter noCut 5 rfl ?_; refine And.intro ⟨Nat.le_of_ble_eq_true rfl, Nat.le_of_ble_eq_true rfl⟩ ?_; exact ⟨rfl, hfin _ rfl⟩)
    · rw [ec, hn, show Int32.ofNat 337 = nI 337 from rfl] at c2
      refine And.intro (by assumption) ⟨some en, hr0, ?_⟩
      refine And.intro (by assumption) ?_
      refine And.intro ⟨(by assumption), (by rw [hn, ec]; exact vp_in_nI hnl (by decide))⟩ ?_
      refine And.intro (by assumption) ?_
      refine And.intro (by assumption) ?_
      refine And.intro (by assumption) ?_
      refine And.intro (by assumption) ?_
      first
      | (exact absurd ‹nI nl < 0› (nI_pos (by omega)))
      | (exact absurd ‹nI 337 ≤ nI nl› (nI_ge hnl (by decide)))
      | (refine runY_go rkX2_enter noCut 5 rfl ?_; refine And.intro ⟨Nat.le_of_ble_eq_true rfl, Nat.le_of_ble_eq_true rfl⟩ ?_; exact ⟨rfl, hfin _ rfl⟩)
def rnd (x : Int32) : Int32 := x * 1103515245 + 12345
def p100 (x : Int32) : Int32 := (x.toUInt32 >>> ((16 : Int32).toUInt32 &&& Int32.toUInt32 31)).toInt32 - (x.toUInt32 >>> ((16 : Int32).toUInt32 &&& Int32.toUInt32 31)).toInt32 / 100 * 100
set_option maxRecDepth 20000 in
theorem c_X7_drawFlaw {w : W0} {κ : AH} {b fl : Nat} {y : Int32} (hb : gT κ b = 8) (hfl : gT κ fl = 11) (hn : gN κ fl = 4) (hr0 : gR κ b 0 = some fl) (hy : vp_in y 4) : CY w yX7_drawFlaw mX7_drawFlaw [.ref b, .int y] κ (fun v κ' => v = some (.int (if p100 (rnd (gI κ b 1)) < gI κ fl y.toNatClampNeg then 1 else 0)) ∧ κ' = sI κ b 1 (rnd (gI κ b 1))) := by
  refine CY_of mcX7_drawFlaw (Nat.le_of_ble_eq_true rfl) (cat1 rfl) (fun θ0 => ?_)
  have hne : ¬ fl = b := by intro z; rw [← z, hfl] at hb; exact absurd hb (by decide)
  have hy0 : ¬ y < 0 ∧ ¬ nI 4 ≤ y := by obtain ⟨j, hj, rfl⟩ := vp_in_of hy (by decide); exact ⟨nI_pos (by omega), nI_ge hj (by decide)⟩
  have e1 : gI (sI κ b 1 (gI κ b 1 * 1103515245 + 12345)) b 1 = rnd (gI κ b 1) := by simp [gI_sI, rnd]
  have e2 : ∀ i, gI (sI κ b 1 (gI κ b 1 * 1103515245 + 12345)) fl i = gI κ fl i := by intro i; simp [gI_sI, hne]
  have K52 : ∀ r : Int32, r = (if p100 (rnd (gI κ b 1)) < gI κ fl y.toNatClampNeg then 1 else 0) → Y w mX7_drawFlaw θ0 κ (fun v κ' => v = some (.int (if p100 (rnd (gI κ b 1)) < gI κ fl y.toNatClampNeg then 1 else 0)) ∧ κ' = sI κ b 1 (rnd (gI κ b 1))) (fun _ _ => False) 0 0 52 [some (.ref b), some (.int y)] [.int r] (sI κ b 1 (gI κ b 1 * 1103515245 + 12345)) := by
    intro r hr
    refine runY_go rkX7_drawFlaw (fun p => Nat.beq p 51 || Nat.beq p 52) 200 rfl ?_
    refine And.intro ⟨Nat.le_of_ble_eq_true rfl, Nat.le_of_ble_eq_true rfl⟩ ?_
    refine And.intro (by rw [hr]; split <;> simp) ?_
    exact ⟨by rw [hr], rfl⟩
  have K51 : ¬ p100 (rnd (gI κ b 1)) < gI κ fl y.toNatClampNeg → Y w mX7_drawFlaw θ0 κ (fun v κ' => v = some (.int (if p100 (rnd (gI κ b 1)) < gI κ fl y.toNatClampNeg then 1 else 0)) ∧ κ' = sI κ b 1 (rnd (gI κ b 1))) (fun _ _ => False) 0 0 51 [some (.ref b), some (.int y)] [] (sI κ b 1 (gI κ b 1 * 1103515245 + 12345)) := by
    intro h0
    refine runY_go rkX7_drawFlaw (fun p => Nat.beq p 51 || Nat.beq p 52) 200 rfl ?_
    first
    | exact K52 _ (by rw [if_neg h0])
    | exact K52 _ (by rw [if_pos (Int32.not_le.mp ‹_›)])
  refine runY_ok rkX7_drawFlaw (fun p => Nat.beq p 51 || Nat.beq p 52) 200 _ _ _ _ _ _ ?_
  refine And.intro (by assumption) ?_
  refine pX7_drawFlaw_5 ?_
  refine runY_ok rkX7_drawFlaw (fun p => Nat.beq p 51 || Nat.beq p 52) 200 _ _ _ _ _ _ ?_
  refine And.intro (by assumption) ?_
  refine And.intro (fun c1 => ?_) (fun c1 => ?_)
  · skip
    first
    | exact absurd ‹y < 0› hy0.1
    | exact absurd ‹nI 4 ≤ y› hy0.2
    | exact K51 (Int32.not_lt.mpr ‹_›)
  · skip
    refine And.intro (by assumption) ⟨some fl, hr0, ?_⟩
    refine And.intro (by show 11 ≤ gT κ fl; rw [hfl]; decide) ?_
    refine And.intro (fun c2 => ?_) (fun c2 => ?_)
    · rw [show gN (sI κ b 1 (gI κ b 1 * 1103515245 + 12345)) fl = 4 from hn, show Int32.ofNat 4 = nI 4 from rfl] at c2
      first
      | exact absurd ‹y < 0› hy0.1
      | exact absurd ‹nI 4 ≤ y› hy0.2
      | exact K51 (Int32.not_lt.mpr ‹_›)
    · rw [show gN (sI κ b 1 (gI κ b 1 * 1103515245 + 12345)) fl = 4 from hn, show Int32.ofNat 4 = nI 4 from rfl] at c2
      refine And.intro (by assumption) ?_
      refine And.intro (by decide) ?_
      refine And.intro (by assumption) ⟨some fl, hr0, ?_⟩
      refine And.intro ⟨hfl, (by show vp_in _ (gN κ fl); rw [hn]; exact hy)⟩ ?_
      refine And.intro (fun c3 => ?_) (fun c3 => ?_)
      · rw [e1, e2] at c3
        first
        | exact absurd ‹y < 0› hy0.1
        | exact absurd ‹nI 4 ≤ y› hy0.2
        | exact K51 (Int32.not_lt.mpr ‹_›)
      · rw [e1, e2] at c3
        first
        | exact K52 _ (by rw [if_neg h0])
        | exact K52 _ (by rw [if_pos (Int32.not_le.mp ‹_›)])
set_option maxRecDepth 20000 in
theorem c_X0_init {w : W0} {κ : AH} {x1 x2 x3 x4 x5 x6 x7 : Int32} {b : Nat} (hb : gT κ b = 1) : CY w yX0_init mX0_init [.ref b, .int x1, .int x2, .int x3, .int x4, .int x5, .int x6, .int x7] κ (fun v κ' => v = none ∧ κ' = sR (sI (sI (sI (sI (sI (sI (sI (sI (sI κ b 0 x1) b 1 x2) b 2 x3) b 3 x4) b 4 x5) b 6 x6) b 5 x7) b 7 0) b 8 0) b 9 none) := by
  refine CY_of mcX0_init (Nat.le_of_ble_eq_true rfl) (cat1 rfl) (fun θ0 => ?_)
  refine runY_ok rkX0_init noCut 200 _ _ _ _ _ _ ?_
  refine pX0_init_1 rfl ?_
  refine runY_ok rkX0_init noCut 200 _ _ _ _ _ _ ?_
  refine And.intro (by assumption) ?_
  refine And.intro (by assumption) ?_
  refine And.intro (by assumption) ?_
  refine And.intro (by assumption) ?_
  refine And.intro (by assumption) ?_
  refine And.intro (by assumption) ?_
  refine And.intro (by assumption) ?_
  refine And.intro (by assumption) ?_
  refine And.intro (by assumption) ?_
  refine And.intro (by assumption) ?_
  refine And.intro ⟨Nat.le_of_ble_eq_true rfl, Nat.le_of_ble_eq_true rfl⟩ ?_
  exact ⟨rfl, rfl⟩
set_option maxRecDepth 20000 in
theorem c_X6_init {w : W0} {κ : AH} {a b : Nat} {x : Int32} (hb : gT κ b = 7) (ha : gT κ a = 1) : CY w yX6_init mX6_init [.ref b, .ref a, .int x] κ (fun v κ' => v = none ∧ κ' = sI (sI (sI (sI (sR κ b 0 (some a)) b 1 x) b 2 0) b 3 0) b 4 0) := by
  refine CY_of mcX6_init (Nat.le_of_ble_eq_true rfl) (cat1 rfl) (fun θ0 => ?_)
  refine runY_ok rkX6_init noCut 200 _ _ _ _ _ _ ?_
  refine pX6_init_1 rfl ?_
  refine runY_ok rkX6_init noCut 200 _ _ _ _ _ _ ?_
  refine And.intro hb ?_
  refine And.intro hb ?_
  refine And.intro hb ?_
  refine And.intro hb ?_
  refine And.intro ⟨hb, (by decide)⟩ ?_
  refine And.intro ⟨Nat.le_of_ble_eq_true rfl, Nat.le_of_ble_eq_true rfl⟩ ?_
  exact ⟨rfl, rfl⟩
set_option maxRecDepth 20000 in
theorem c_X4_init {w : W0} {κ : AH} {a b : Nat} {x : Int32} (hb : gT κ b = 5) (ha : gT κ a = 1) : CY w yX4_init mX4_init [.ref b, .int x, .ref a] κ (fun v κ' => v = none ∧ κ' = sI (sI (sI (sI (sI (sR (sI κ b 0 x) b 1 (some a)) b 2 0) b 3 0) b 4 0) b 5 0) b 6 0) := by
  refine CY_of mcX4_init (Nat.le_of_ble_eq_true rfl) (cat1 rfl) (fun θ0 => ?_)
  refine runY_ok rkX4_init noCut 200 _ _ _ _ _ _ ?_
  refine pX4_init_1 rfl ?_
  refine runY_ok rkX4_init noCut 200 _ _ _ _ _ _ ?_
  refine And.intro hb ?_
  refine And.intro hb ?_
  refine And.intro ⟨hb, (by decide)⟩ ?_
  refine And.intro hb ?_
  refine And.intro hb ?_
  refine And.intro hb ?_
  refine And.intro hb ?_
  refine And.intro ⟨Nat.le_of_ble_eq_true rfl, Nat.le_of_ble_eq_true rfl⟩ ?_
  exact ⟨rfl, rfl⟩
set_option maxRecDepth 20000 in
theorem c_X3_init {w : W0} {κ : AH} {a b : Nat} (hb : gT κ b = 4) : CY w yX3_init mX3_init [.ref b, .ref a] κ (fun v κ' => v = none ∧ κ' = sR κ b 0 (some a)) := by
  refine CY_of mcX3_init (Nat.le_of_ble_eq_true rfl) (cat1 rfl) (fun θ0 => ?_)
  refine runY_ok rkX3_init noCut 200 _ _ _ _ _ _ ?_
  refine pX3_init_1 rfl ?_
  refine runY_ok rkX3_init noCut 200 _ _ _ _ _ _ ?_
  refine And.intro hb ?_
  refine And.intro ⟨Nat.le_of_ble_eq_true rfl, Nat.le_of_ble_eq_true rfl⟩ ?_
  exact ⟨rfl, rfl⟩


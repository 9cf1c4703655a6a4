/-! THE COMPONENT'S PUBLIC METHODS, 9: block, keep, canJoin -/
/-- a block kept -/
def kpH (κ : AH) (nb b : Nat) : AH := sI (sR κ (tS 5) nb (some b)) (tS 4) 7 (nI (nb + 1))
set_option maxRecDepth 20000 in
theorem c_X8_keep {w : W0} {κ : AH} {b nb : Nat} (hG : SG κ) (hb : gT κ b = 1) (hn : nb < 60) (ec : gI κ (tS 4) 7 = nI nb) : CY w yX8_keep mX8_keep [.ref (tS 4), .ref b] κ (fun v κ' => v = some (.int (gI κ b 0)) ∧ κ' = kpH κ nb b) := by
  refine CY_of mcX8_keep (Nat.le_of_ble_eq_true rfl) (cat1 rfl) (fun θ0 => ?_)
  have hne : ¬ b = tS 4 := by intro z; rw [z, hG.t4] at hb; exact absurd hb (by decide)
  have hcl : (nI nb).toNatClampNeg = nb := nI_clamp (by omega)
  refine runY_ok rkX8_keep (fun p => Nat.beq p 39) 200 _ _ _ _ _ _ ?_
  refine And.intro hG.t4 ?_
  refine And.intro (fun c1 => ?_) (fun c1 => ?_)
  · rw [ec] at c1
    first
    | (exact absurd ‹nI nb < 0› (nI_pos (by omega)))
    | (exact absurd ‹nI 60 ≤ nI nb› (nI_ge hn (by decide)))
    | (refine runY_go rkX8_keep noCut 9 rfl ?_; refine And.intro hb ?_; refine And.intro ⟨Nat.le_of_ble_eq_true rfl, Nat.le_of_ble_eq_true rfl⟩ ?_; refine ⟨?_, ?_⟩; (rw [gI_sI, if_neg (fun z => hne z.1)]; rfl); (unfold kpH; rw [show gI (sR κ (tS 5) (gI κ (tS 4) 7).toNatClampNeg (some b)) (tS 4) 7 = gI κ (tS 4) 7 from rfl, ec, hcl, nI_1]))
  · rw [ec] at c1
    refine And.intro hG.t4 ?_
    refine And.intro hG.t4 ⟨some (tS 5), hG.r40, ?_⟩
    refine And.intro (by rw [hG.t5]; decide) ?_
    refine And.intro (fun c2 => ?_) (fun c2 => ?_)
    · rw [ec, hG.n5, show Int32.ofNat 60 = nI 60 from rfl] at c2
      first
      | (exact absurd ‹nI nb < 0› (nI_pos (by omega)))
      | (exact absurd ‹nI 60 ≤ nI nb› (nI_ge hn (by decide)))
      | (refine runY_go rkX8_keep noCut 9 rfl ?_; refine And.intro hb ?_; refine And.intro ⟨Nat.le_of_ble_eq_true rfl, Nat.le_of_ble_eq_true rfl⟩ ?_; refine ⟨?_, ?_⟩; (rw [gI_sI, if_neg (fun z => hne z.1)]; rfl); (unfold kpH; rw [show gI (sR κ (tS 5) (gI κ (tS 4) 7).toNatClampNeg (some b)) (tS 4) 7 = gI κ (tS 4) 7 from rfl, ec, hcl, nI_1]))
    · rw [ec, hG.n5, show Int32.ofNat 60 = nI 60 from rfl] at c2
      refine And.intro hG.t4 ⟨some (tS 5), hG.r40, ?_⟩
      refine And.intro hG.t4 ?_
      refine pX8_keep_28 hG.t5 hb (by rw [hG.n5, ec]; exact vp_in_nI hn (by decide)) ?_
      refine runY_ok rkX8_keep (fun p => Nat.beq p 39) 200 _ _ _ _ _ _ ?_
      refine And.intro hG.t4 ?_
      refine And.intro hG.t4 ?_
      first
      | (exact absurd ‹nI nb < 0› (nI_pos (by omega)))
      | (exact absurd ‹nI 60 ≤ nI nb› (nI_ge hn (by decide)))
      | (refine runY_go rkX8_keep noCut 9 rfl ?_; refine And.intro hb ?_; refine And.intro ⟨Nat.le_of_ble_eq_true rfl, Nat.le_of_ble_eq_true rfl⟩ ?_; refine ⟨?_, ?_⟩; (rw [gI_sI, if_neg (fun z => hne z.1)]; rfl); (unfold kpH; rw [show gI (sR κ (tS 5) (gI κ (tS 4) 7).toNatClampNeg (some b)) (tS 4) 7 = gI κ (tS 4) 7 from rfl, ec, hcl, nI_1]))

theorem n60 {nb : Nat} (hn : nb ≤ 60) : (nI nb < 60 ↔ ¬ nI nb = 60) ∧ (¬ nI nb = 60 ↔ nb < 60) := by
  have h1 : nI nb < 60 ↔ nb < 60 := nI_ltI (b := 60) (by omega) (by decide)
  have h2 : nI nb = 60 ↔ nb = 60 := nI_eq (b := 60) (by omega) (by decide)
  rw [h1, h2]
  exact ⟨⟨fun z => by omega, fun z => by omega⟩, ⟨fun z => by omega, fun z => by omega⟩⟩
set_option maxRecDepth 20000 in
theorem c_X8_hasSpaceForBlock {w : W0} {κ : AH} {σ : MS} {nb : Nat} (hn : nb ≤ 60) (eb : σ.1 8 = nI nb) (hG : SG κ) (hN : hNm κ σ) : CY w yX8_hasSpaceForBlock mX8_hasSpaceForBlock [.ref (tS 4)] κ (fun v κ' => v = some (.int (if ¬ σ.1 8 = 60 then 1 else 0)) ∧ κ' = κ) := by
  have q := (n60 hn).1
  rw [← eb] at q
  refine CY_of mcX8_hasSpaceForBlock (Nat.le_of_ble_eq_true rfl) (cat1 rfl) (fun θ0 => ?_)
  have K17 : ∀ r : Int32, r = (if ¬ σ.1 8 = 60 then 1 else 0) → Y w mX8_hasSpaceForBlock θ0 κ (fun v κ' => v = some (.int (if ¬ σ.1 8 = 60 then 1 else 0)) ∧ κ' = κ) (fun _ _ => False) 0 0 17 [some (.ref (tS 4))] [.int r] κ := by
    intro r hr
    refine runY_go rkX8_hasSpaceForBlock (fun p => Nat.beq p 17) 200 rfl ?_
    refine And.intro ⟨Nat.le_of_ble_eq_true rfl, Nat.le_of_ble_eq_true rfl⟩ ?_
    refine And.intro (by rw [hr]; split <;> simp) ?_
    exact ⟨by rw [hr], rfl⟩
  refine runY_ok rkX8_hasSpaceForBlock (fun p => Nat.beq p 17) 200 _ _ _ _ _ _ ?_
  refine And.intro hG.t4 ?_
  refine And.intro hG.t4 ⟨some (tS 5), hG.r40, ?_⟩
  refine And.intro (by rw [hG.t5]; decide) ?_
  refine And.intro (fun c1 => ?_) (fun c1 => ?_)
  · rw [hN.1.1, hG.n5, show Int32.ofNat 60 = 60 from rfl] at c1
    exact K17 _ (by first | rw [if_pos (q.mp (Int32.not_le.mp (by assumption)))] | rw [if_neg (fun z => absurd (q.mpr z) (Int32.not_lt.mpr (by assumption)))])
  · rw [hN.1.1, hG.n5, show Int32.ofNat 60 = 60 from rfl] at c1
    exact K17 _ (by first | rw [if_pos (q.mp (Int32.not_le.mp (by assumption)))] | rw [if_neg (fun z => absurd (q.mpr z) (Int32.not_lt.mpr (by assumption)))])

/-- a new block's fields -/
def inH (κ : AH) (b : Nat) (x1 x2 x3 x4 x5 x6 x7 : Int32) : AH := sR (sI (sI (sI (sI (sI (sI (sI (sI (sI κ b 0 x1) b 1 x2) b 2 x3) b 3 x4) b 4 x5) b 6 x6) b 5 x7) b 7 0) b 8 0) b 9 none
/-- the heap with a new block -/
def nbH (κ : AH) (nb : Nat) (f l v t e g : Int32) : AH := kpH (inH (nO κ (tB nb) 1 0) (tB nb) (nI nb) f l v t e g) nb (tB nb)
set_option maxRecDepth 20000 in
theorem c_X8_block {w : W0} {κ : AH} {f l v t e g : Int32} {σ : MS} {nb : Nat} (hn : nb ≤ 60) (eb : σ.1 8 = nI nb) (hG : SG κ) (hN : hNm κ σ) (hBk : hB κ σ nb) : CYV w yX8_block mX8_block [.ref (tS 4), .int f, .int l, .int v, .int t, .int e, .int g] κ (fun v' κ' => cBlock σ f l v t e g = 0 ∧ v' = some (.int (nI nb)) ∧ κ' = nbH κ nb f l v t (1000 * (l - f + 1) + e) g) (fun E κ' => κ' = κ ∧ ((cBlock σ f l v t e g = 1 ∧ E = "java/lang/IndexOutOfBoundsException") ∨ (cBlock σ f l v t e g = 2 ∧ E = "java/lang/IllegalArgumentException") ∨ (cBlock σ f l v t e g = 3 ∧ E = "java/lang/IllegalStateException"))) := by
  refine CYV_of mcX8_block (Nat.le_of_ble_eq_true rfl) (cat1 rfl) (fun θ0 => ?_)
  have K106 : cBlock σ f l v t e g = 0 → ¬ σ.1 8 = 60 → Y w mX8_block θ0 κ (fun v' κ' => cBlock σ f l v t e g = 0 ∧ v' = some (.int (nI nb)) ∧ κ' = nbH κ nb f l v t (1000 * (l - f + 1) + e) g) (fun E κ' => κ' = κ ∧ ((cBlock σ f l v t e g = 1 ∧ E = "java/lang/IndexOutOfBoundsException") ∨ (cBlock σ f l v t e g = 2 ∧ E = "java/lang/IllegalArgumentException") ∨ (cBlock σ f l v t e g = 3 ∧ E = "java/lang/IllegalStateException"))) 0 0 106 [some (.ref (tS 4)), some (.int f), some (.int l), some (.int v), some (.int t), some (.int e), some (.int g), none] [] κ := by
    intro hk h60
    rw [eb] at h60
    have hlt := (n60 hn).2.mp h60
    have hG0 : SG (nO κ (tB nb) 1 0) := SG_nO hG (fun i _ z => tB_S.mp z)
    have hb0 : gT (nO κ (tB nb) 1 0) (tB nb) = 1 := by rw [gT_nO, if_pos rfl]
    have h7 : gI (nO κ (tB nb) 1 0) (tS 4) 7 = nI nb := by rw [gI_nO, if_neg (fun z => tS_B.mp z), hN.1.1, eb]
    have hG1 : SG (inH (nO κ (tB nb) 1 0) (tB nb) (nI nb) f l v t (1000 * (l - f + 1) + e) g) := SG_sR hG0 (fun i _ z => tB_S.mp z)
    have hb1 : gT (inH (nO κ (tB nb) 1 0) (tB nb) (nI nb) f l v t (1000 * (l - f + 1) + e) g) (tB nb) = 1 := hb0
    have h71 : gI (inH (nO κ (tB nb) 1 0) (tB nb) (nI nb) f l v t (1000 * (l - f + 1) + e) g) (tS 4) 7 = nI nb := by simp only [inH, gI_sR, gI_sI, tS_B, false_and, if_false]; exact h7
    have hnum : gI (inH (nO κ (tB nb) 1 0) (tB nb) (nI nb) f l v t (1000 * (l - f + 1) + e) g) (tB nb) 0 = nI nb := by simp [inH, gI_sR, gI_sI]
    refine runY_go rkX8_block (fun p => Nat.beq p 23 || Nat.beq p 72 || Nat.beq p 96 || Nat.beq p 106) 200 rfl ?_
    refine pX8_block_121 (tB nb) rfl rfl (hBk.2.2 nb (Nat.le_refl _)) ?_
    refine runY_ok rkX8_block (fun p => Nat.beq p 23 || Nat.beq p 72 || Nat.beq p 96 || Nat.beq p 106) 200 _ _ _ _ _ _ ?_
    refine And.intro (by first | exact hG.t4 | exact hG0.t4 | exact hG1.t4) ?_
    refine pX8_block_138 rfl rfl rfl (show CY w yX0_init mX0_init [.ref (tB nb), .int (gI (nO κ (tB nb) 1 0) (tS 4) 7), .int f, .int l, .int v, .int t, .int (1000 * (l - f + 1) + e), .int g] (nO κ (tB nb) 1 0) (fun v' κ' => v' = none ∧ κ' = (inH (nO κ (tB nb) 1 0) (tB nb) (nI nb) f l v t (1000 * (l - f + 1) + e) g)) from by rw [h7]; exact c_X0_init hb0) (fun v κ1 hq1 ho1 hk1 => ?_)
    obtain ⟨rfl, ehq1⟩ := hq1
    rw [ehq1]
    refine runY_ok rkX8_block (fun p => Nat.beq p 23 || Nat.beq p 72 || Nat.beq p 96 || Nat.beq p 106) 200 _ _ _ _ _ _ ?_
    refine pX8_block_141 rfl rfl rfl (by first | exact hG.t4 | exact hG0.t4 | exact hG1.t4) (show CY w yX8_keep mX8_keep [.ref (tS 4), .ref (tB nb)] (inH (nO κ (tB nb) 1 0) (tB nb) (nI nb) f l v t (1000 * (l - f + 1) + e) g) (fun v' κ' => v' = some (.int (nI nb)) ∧ κ' = kpH (inH (nO κ (tB nb) 1 0) (tB nb) (nI nb) f l v t (1000 * (l - f + 1) + e) g) nb (tB nb)) from by have h9 := c_X8_keep (w := w) hG1 hb1 hlt h71; rw [hnum] at h9; exact h9) (fun v κ1 hq2 ho2 hk2 => ?_)
    obtain ⟨rfl, ehq2⟩ := hq2
    rw [ehq2]
    refine runY_ok rkX8_block (fun p => Nat.beq p 23 || Nat.beq p 72 || Nat.beq p 96 || Nat.beq p 106) 200 _ _ _ _ _ _ ?_
    refine And.intro ⟨Nat.le_of_ble_eq_true rfl, Nat.le_of_ble_eq_true rfl⟩ ?_
    exact ⟨hk, rfl, rfl⟩
  have K96 : cBlock σ f l v t e g = 3 → Y w mX8_block θ0 κ (fun v' κ' => cBlock σ f l v t e g = 0 ∧ v' = some (.int (nI nb)) ∧ κ' = nbH κ nb f l v t (1000 * (l - f + 1) + e) g) (fun E κ' => κ' = κ ∧ ((cBlock σ f l v t e g = 1 ∧ E = "java/lang/IndexOutOfBoundsException") ∨ (cBlock σ f l v t e g = 2 ∧ E = "java/lang/IllegalArgumentException") ∨ (cBlock σ f l v t e g = 3 ∧ E = "java/lang/IllegalStateException"))) 0 0 96 [some (.ref (tS 4)), some (.int f), some (.int l), some (.int v), some (.int t), some (.int e), some (.int g), none] [] κ := by
    intro hk
    refine yX8_block_96z (st := []) rfl rfl ?_
    exact ⟨rfl, Or.inr (Or.inr ⟨hk, rfl⟩)⟩
  have K72 : cBlock σ f l v t e g = 2 → Y w mX8_block θ0 κ (fun v' κ' => cBlock σ f l v t e g = 0 ∧ v' = some (.int (nI nb)) ∧ κ' = nbH κ nb f l v t (1000 * (l - f + 1) + e) g) (fun E κ' => κ' = κ ∧ ((cBlock σ f l v t e g = 1 ∧ E = "java/lang/IndexOutOfBoundsException") ∨ (cBlock σ f l v t e g = 2 ∧ E = "java/lang/IllegalArgumentException") ∨ (cBlock σ f l v t e g = 3 ∧ E = "java/lang/IllegalStateException"))) 0 0 72 [some (.ref (tS 4)), some (.int f), some (.int l), some (.int v), some (.int t), some (.int e), some (.int g), none] [] κ := by
    intro hk
    refine yX8_block_72z (st := []) rfl rfl ?_
    exact ⟨rfl, Or.inr (Or.inl ⟨hk, rfl⟩)⟩
  have K23 : cBlock σ f l v t e g = 1 → Y w mX8_block θ0 κ (fun v' κ' => cBlock σ f l v t e g = 0 ∧ v' = some (.int (nI nb)) ∧ κ' = nbH κ nb f l v t (1000 * (l - f + 1) + e) g) (fun E κ' => κ' = κ ∧ ((cBlock σ f l v t e g = 1 ∧ E = "java/lang/IndexOutOfBoundsException") ∨ (cBlock σ f l v t e g = 2 ∧ E = "java/lang/IllegalArgumentException") ∨ (cBlock σ f l v t e g = 3 ∧ E = "java/lang/IllegalStateException"))) 0 0 23 [some (.ref (tS 4)), some (.int f), some (.int l), some (.int v), some (.int t), some (.int e), some (.int g), none] [] κ := by
    intro hk
    refine yX8_block_23z (st := []) rfl rfl ?_
    exact ⟨rfl, Or.inl ⟨hk, rfl⟩⟩
  refine runY_ok rkX8_block (fun p => Nat.beq p 23 || Nat.beq p 72 || Nat.beq p 96 || Nat.beq p 106) 200 _ _ _ _ _ _ ?_
  refine pX8_block_1 rfl rfl rfl c_X8_isFrame (fun v κ1 hq3 ho3 hk3 => ?_)
  obtain ⟨rfl, ehq3⟩ := hq3
  rw [ehq3]
  refine runY_ok rkX8_block (fun p => Nat.beq p 23 || Nat.beq p 72 || Nat.beq p 96 || Nat.beq p 106) 200 _ _ _ _ _ _ ?_
  refine And.intro (fun c4 => ?_) (fun c4 => ?_)
  · try simp only [b01_eq, b01_ne, Classical.not_not] at c4
    exact K23 (by unfold cBlock; rw [if_neg (by grind)])
  · try simp only [b01_eq, b01_ne, Classical.not_not] at c4
    refine pX8_block_8 rfl rfl rfl c_X8_isFrame (fun v κ1 hq5 ho5 hk5 => ?_)
    obtain ⟨rfl, ehq5⟩ := hq5
    rw [ehq5]
    refine runY_ok rkX8_block (fun p => Nat.beq p 23 || Nat.beq p 72 || Nat.beq p 96 || Nat.beq p 106) 200 _ _ _ _ _ _ ?_
    refine And.intro (fun c6 => ?_) (fun c6 => ?_)
    · try simp only [b01_eq, b01_ne, Classical.not_not] at c6
      exact K23 (by unfold cBlock; rw [if_neg (by grind)])
    · try simp only [b01_eq, b01_ne, Classical.not_not] at c6
      refine pX8_block_17 rfl rfl rfl d_X8_isWithin (fun v κ1 hq7 ho7 hk7 => ?_)
      obtain ⟨rfl, ehq7⟩ := hq7
      rw [ehq7]
      refine runY_ok rkX8_block (fun p => Nat.beq p 23 || Nat.beq p 72 || Nat.beq p 96 || Nat.beq p 106) 200 _ _ _ _ _ _ ?_
      refine And.intro (fun c8 => ?_) (fun c8 => ?_)
      · try simp only [b01_eq, b01_ne, Classical.not_not] at c8
        refine And.intro (fun c9 => ?_) (fun c9 => ?_)
        · try simp only [b01_eq, b01_ne, Classical.not_not] at c9
          exact K72 (by unfold cBlock; rw [if_pos (by grind), if_neg (by grind)])
        · try simp only [b01_eq, b01_ne, Classical.not_not] at c9
          refine pX8_block_44 rfl rfl rfl d_X8_isWithin (fun v κ1 hq10 ho10 hk10 => ?_)
          obtain ⟨rfl, ehq10⟩ := hq10
          rw [ehq10]
          refine runY_ok rkX8_block (fun p => Nat.beq p 23 || Nat.beq p 72 || Nat.beq p 96 || Nat.beq p 106) 200 _ _ _ _ _ _ ?_
          refine And.intro (fun c11 => ?_) (fun c11 => ?_)
          · try simp only [b01_eq, b01_ne, Classical.not_not] at c11
            exact K72 (by unfold cBlock; rw [if_pos (by grind), if_neg (by grind)])
          · try simp only [b01_eq, b01_ne, Classical.not_not] at c11
            refine pX8_block_55 rfl rfl rfl d_X8_isWithin (fun v κ1 hq12 ho12 hk12 => ?_)
            obtain ⟨rfl, ehq12⟩ := hq12
            rw [ehq12]
            refine runY_ok rkX8_block (fun p => Nat.beq p 23 || Nat.beq p 72 || Nat.beq p 96 || Nat.beq p 106) 200 _ _ _ _ _ _ ?_
            refine And.intro (fun c13 => ?_) (fun c13 => ?_)
            · try simp only [b01_eq, b01_ne, Classical.not_not] at c13
              exact K72 (by unfold cBlock; rw [if_pos (by grind), if_neg (by grind)])
            · try simp only [b01_eq, b01_ne, Classical.not_not] at c13
              refine pX8_block_66 rfl rfl rfl d_X8_isWithin (fun v κ1 hq14 ho14 hk14 => ?_)
              obtain ⟨rfl, ehq14⟩ := hq14
              rw [ehq14]
              refine runY_ok rkX8_block (fun p => Nat.beq p 23 || Nat.beq p 72 || Nat.beq p 96 || Nat.beq p 106) 200 _ _ _ _ _ _ ?_
              refine And.intro (fun c15 => ?_) (fun c15 => ?_)
              · try simp only [b01_eq, b01_ne, Classical.not_not] at c15
                refine And.intro (by first | exact hG.t4 | exact hG0.t4 | exact hG1.t4) ?_
                refine And.intro (fun c16 => ?_) (fun c16 => ?_)
                · rw [hN.2.1.2.2.2.2] at c16
                  exact K96 (by unfold cBlock; rw [if_pos (by grind), if_pos (by grind), if_neg (by grind)])
                · rw [hN.2.1.2.2.2.2] at c16
                  refine pX8_block_90 rfl rfl rfl (by first | exact hG.t4 | exact hG0.t4 | exact hG1.t4) (c_X8_hasSpaceForBlock hn eb hG hN) (fun v κ1 hq17 ho17 hk17 => ?_)
                  obtain ⟨rfl, ehq17⟩ := hq17
                  rw [ehq17]
                  refine runY_ok rkX8_block (fun p => Nat.beq p 23 || Nat.beq p 72 || Nat.beq p 96 || Nat.beq p 106) 200 _ _ _ _ _ _ ?_
                  refine And.intro (fun c18 => ?_) (fun c18 => ?_)
                  · try simp only [b01_eq, b01_ne, Classical.not_not] at c18
                    exact K106 (by unfold cBlock; rw [if_pos (by grind), if_pos (by grind), if_pos (by grind)]) (by grind)
                  · try simp only [b01_eq, b01_ne, Classical.not_not] at c18
                    exact K96 (by unfold cBlock; rw [if_pos (by grind), if_pos (by grind), if_neg (by grind)])
              · try simp only [b01_eq, b01_ne, Classical.not_not] at c15
                exact K72 (by unfold cBlock; rw [if_pos (by grind), if_neg (by grind)])
      · try simp only [b01_eq, b01_ne, Classical.not_not] at c8
        exact K23 (by unfold cBlock; rw [if_neg (by grind)])


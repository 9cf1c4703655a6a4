/-! THE COMPONENT'S PUBLIC METHODS, 5: paint, hole -/
theorem hRm_s2 {κ : AH} {σ : MS} {nb c : Nat} {v : Int32} (hR : hRm κ σ nb) : hRm (sI κ (tR c) 2 v) (upA σ 26 c v) nb := by
  obtain ⟨a, b, d⟩ := hR
  refine ⟨fun x hx => a x hx, fun x hx hne => ?_, fun x hx he => d x hx he⟩
  obtain ⟨⟨p0, p1, p2, p3, p4, p5, p6⟩, j, hj⟩ := b x hx hne
  exact ⟨⟨p0, by simp [gI_sI, p1], p2, by simp [gI_sI, upA, tR_inj, p3], by simp [gI_sI, upA, tR_inj, p4], by simp [gI_sI, upA, tR_inj, p5], by simp [gI_sI, upA, tR_inj, p6]⟩, j, hj⟩
theorem emp_s2 {σ : MS} {c : Nat} {v : Int32} (he : emp σ) (h : ¬ σ.2 25 c = -1) : emp (upA σ 26 c v) := by
  intro x hx hn
  have e : x ≠ c := fun q => h (q ▸ hn)
  obtain ⟨a1, a2, a3, a4⟩ := he x hx hn
  exact ⟨by simp [upA, e, a1], by simp [upA, e, a2], by simp [upA, e, a3], by simp [upA, e, a4]⟩
theorem hRm_s3 {κ : AH} {σ : MS} {nb c : Nat} {v : Int32} (hR : hRm κ σ nb) : hRm (sI κ (tR c) 3 v) (upA σ 27 c v) nb := by
  obtain ⟨a, b, d⟩ := hR
  refine ⟨fun x hx => a x hx, fun x hx hne => ?_, fun x hx he => d x hx he⟩
  obtain ⟨⟨p0, p1, p2, p3, p4, p5, p6⟩, j, hj⟩ := b x hx hne
  exact ⟨⟨p0, by simp [gI_sI, p1], p2, by simp [gI_sI, upA, tR_inj, p3], by simp [gI_sI, upA, tR_inj, p4], by simp [gI_sI, upA, tR_inj, p5], by simp [gI_sI, upA, tR_inj, p6]⟩, j, hj⟩
theorem emp_s3 {σ : MS} {c : Nat} {v : Int32} (he : emp σ) (h : ¬ σ.2 25 c = -1) : emp (upA σ 27 c v) := by
  intro x hx hn
  have e : x ≠ c := fun q => h (q ▸ hn)
  obtain ⟨a1, a2, a3, a4⟩ := he x hx hn
  exact ⟨by simp [upA, e, a1], by simp [upA, e, a2], by simp [upA, e, a3], by simp [upA, e, a4]⟩
theorem hRm_s4 {κ : AH} {σ : MS} {nb c : Nat} {v : Int32} (hR : hRm κ σ nb) : hRm (sI κ (tR c) 4 v) (upA σ 28 c v) nb := by
  obtain ⟨a, b, d⟩ := hR
  refine ⟨fun x hx => a x hx, fun x hx hne => ?_, fun x hx he => d x hx he⟩
  obtain ⟨⟨p0, p1, p2, p3, p4, p5, p6⟩, j, hj⟩ := b x hx hne
  exact ⟨⟨p0, by simp [gI_sI, p1], p2, by simp [gI_sI, upA, tR_inj, p3], by simp [gI_sI, upA, tR_inj, p4], by simp [gI_sI, upA, tR_inj, p5], by simp [gI_sI, upA, tR_inj, p6]⟩, j, hj⟩
theorem emp_s4 {σ : MS} {c : Nat} {v : Int32} (he : emp σ) (h : ¬ σ.2 25 c = -1) : emp (upA σ 28 c v) := by
  intro x hx hn
  have e : x ≠ c := fun q => h (q ▸ hn)
  obtain ⟨a1, a2, a3, a4⟩ := he x hx hn
  exact ⟨by simp [upA, e, a1], by simp [upA, e, a2], by simp [upA, e, a3], by simp [upA, e, a4]⟩
theorem hRm_s5 {κ : AH} {σ : MS} {nb c : Nat} {v : Int32} (hR : hRm κ σ nb) : hRm (sI κ (tR c) 5 v) (upA σ 29 c v) nb := by
  obtain ⟨a, b, d⟩ := hR
  refine ⟨fun x hx => a x hx, fun x hx hne => ?_, fun x hx he => d x hx he⟩
  obtain ⟨⟨p0, p1, p2, p3, p4, p5, p6⟩, j, hj⟩ := b x hx hne
  exact ⟨⟨p0, by simp [gI_sI, p1], p2, by simp [gI_sI, upA, tR_inj, p3], by simp [gI_sI, upA, tR_inj, p4], by simp [gI_sI, upA, tR_inj, p5], by simp [gI_sI, upA, tR_inj, p6]⟩, j, hj⟩
theorem emp_s5 {σ : MS} {c : Nat} {v : Int32} (he : emp σ) (h : ¬ σ.2 25 c = -1) : emp (upA σ 29 c v) := by
  intro x hx hn
  have e : x ≠ c := fun q => h (q ▸ hn)
  obtain ⟨a1, a2, a3, a4⟩ := he x hx hn
  exact ⟨by simp [upA, e, a1], by simp [upA, e, a2], by simp [upA, e, a3], by simp [upA, e, a4]⟩
set_option maxRecDepth 20000 in
theorem c_X8_paint {w : W0} {κ : AH} {x : Int32} {σ : MS} {nb : Nat} (hn : nb ≤ 60) (eb : σ.1 8 = nI nb) (hG : SG κ) (hR : hRm κ σ nb) (hBk : hB κ σ nb) (he : emp σ) : CYV w yX8_paint mX8_paint [.ref (tS 4), .int x] κ (fun v κ' => kPai σ x = 0 ∧ v = some (.int (sm (fPt (sPai (upS σ 34 0) x.toNatClampNeg)) 36)) ∧ κ' = sI κ (tR x.toNatClampNeg) 2 1) (fun E κ' => κ' = κ ∧ ((kPai σ x = 1 ∧ E = "java/lang/IndexOutOfBoundsException") ∨ (kPai σ x = 2 ∧ E = "java/lang/IllegalStateException"))) := by
  refine CYV_of mcX8_paint (Nat.le_of_ble_eq_true rfl) (cat1 rfl) (fun θ0 => ?_)
  refine runY_ok rkX8_paint noCut 200 _ _ _ _ _ _ ?_
  refine And.intro hG.t4 ⟨some (tS 0), hG.r43, ?_⟩
  refine pX8_paint_5 rfl rfl rfl hG.t0 (c_X1_roomOf hG hR.1) (fun v κ1 hq1 ho1 hk1 => ?_)
  by_cases hs1 : isRm σ x
  · skip
    rw [rmO_y hs1] at hq1
    obtain ⟨rfl, ehq1⟩ := hq1
    rw [ehq1]
    refine runY_ok rkX8_paint noCut 200 _ _ _ _ _ _ ?_
    refine And.intro (pRm_bl hR hBk hn (isRm_lt (by assumption : isRm σ x)) (by assumption : isRm σ x).2).1.1 ?_
    refine And.intro (fun c2 => ?_) (fun c2 => ?_)
    · rw [(pRm_bl hR hBk hn (isRm_lt (by assumption : isRm σ x)) (by assumption : isRm σ x).2).1.2.2.2.1] at c2
      refine And.intro ⟨(pRm_bl hR hBk hn (isRm_lt (by assumption : isRm σ x)) (by assumption : isRm σ x).2).1.1, (by decide)⟩ ?_
      refine And.intro hG.t4 ⟨some (tS 0), hG.r43, ?_⟩
      refine pX8_paint_51 rfl rfl rfl hG.t0 (c_X1_painted (σ := upA (upS σ 34 0) 26 x.toNatClampNeg 1) (nb := nb) hG (hRm_s2 (σ := upS σ 34 0) hR) (emp_s2 (σ := upS σ 34 0) he (by assumption : isRm σ x).2)) (fun v κ1 hq3 ho3 hk3 => ?_)
      obtain ⟨rfl, ehq3⟩ := hq3
      rw [ehq3]
      refine runY_ok rkX8_paint noCut 200 _ _ _ _ _ _ ?_
      refine And.intro ⟨Nat.le_of_ble_eq_true rfl, Nat.le_of_ble_eq_true rfl⟩ ?_
      exact ⟨by unfold kPai; rw [if_pos (by assumption), if_pos (by assumption)], rfl, rfl⟩
    · rw [(pRm_bl hR hBk hn (isRm_lt (by assumption : isRm σ x)) (by assumption : isRm σ x).2).1.2.2.2.1] at c2
      refine yX8_paint_31z (st := []) rfl rfl ?_
      refine ⟨rfl, Or.inr (⟨?_, rfl⟩)⟩
      unfold kPai; rw [if_pos (by assumption), if_neg (by assumption)]
  · skip
    rw [rmO_n hs1] at hq1
    obtain ⟨rfl, ehq1⟩ := hq1
    rw [ehq1]
    refine runY_ok rkX8_paint noCut 200 _ _ _ _ _ _ ?_
    refine yX8_paint_13z (st := []) rfl rfl ?_
    refine ⟨rfl, Or.inl ⟨?_, rfl⟩⟩
    exact if_neg (by assumption)

def nxU (c : Nat) : Int32 := if c < 24 then nI (c + 12) else -1
def nxH (c : Nat) : Int32 := if c % 12 < 11 then nI (c + 1) else -1
def nxt (c : Nat) (u : Int32) : Int32 := if u = 0 then nxH c else nxU c
theorem nxU_eq : ∀ c : Nat, c < 36 → clO (nI (c % 12)) (nI (c / 12) + 1) = nxU c := by decide
theorem nxH_eq : ∀ c : Nat, c < 36 → clO (nI (c % 12) + 1) (nI (c / 12)) = nxH c := by decide
theorem fr_eq {c : Nat} (hc : c < 36) : nI c - nI c / 12 * 12 = nI (c % 12) := nI_rem12 c hc
set_option maxRecDepth 20000 in
theorem c_X8_roomNextTo {w : W0} {κ : AH} {c : Nat} {u : Int32} {σ : MS} {nb j : Nat} (hG : SG κ) (hR : hRm κ σ nb) (h : pRm κ σ c) (hp : pB κ σ j) (ej : (σ.2 25 c).toNatClampNeg = j) (hlv : σ.2 12 j = nI (c / 12)) (hc : c < 36) : CY w yX8_roomNextTo mX8_roomNextTo [.ref (tS 4), .ref (tR c), .int u] κ (fun v κ' => v = some (va_rf (rmO σ (nxt c u))) ∧ κ' = κ) := by
  refine CY_of mcX8_roomNextTo (Nat.le_of_ble_eq_true rfl) (cat1 rfl) (fun θ0 => ?_)
  refine runY_ok rkX8_roomNextTo (fun p => Nat.beq p 43) 200 _ _ _ _ _ _ ?_
  refine And.intro h.1 ⟨some (tB j), (h.2.2.1.trans (by rw [ej])), ?_⟩
  refine And.intro hp.1 ?_
  refine And.intro (fun c1 => ?_) (fun c1 => ?_)
  · skip
    refine And.intro hG.t4 ⟨some (tS 0), hG.r43, ?_⟩
    refine pX8_roomNextTo_34 rfl rfl rfl h.1 (c_X4_frame h.1) (fun v κ1 hq2 ho2 hk2 => ?_)
    obtain ⟨rfl, ehq2⟩ := hq2
    rw [ehq2]
    refine runY_ok rkX8_roomNextTo (fun p => Nat.beq p 43) 200 _ _ _ _ _ _ ?_
    refine pX8_roomNextTo_40 rfl rfl rfl hG.t0 (show CY w yX1_roomOn mX1_roomOn [.ref (tS 0), .int ((gI κ (tR c) 0 - gI κ (tR c) 0 / 12 * 12) + 1), .int (gI κ (tB j) 3)] κ (fun v κ' => v = some (va_rf (rmO σ (nxH c))) ∧ κ' = κ) from by have h9 := c_X1_roomOn (w := w) (f := ((gI κ (tR c) 0 - gI κ (tR c) 0 / 12 * 12) + 1)) (l := (gI κ (tB j) 3)) hG hR.1; rw [h.2.1, hp.2.2.2.2.1, hlv, fr_eq hc, nxH_eq c hc] at h9; rw [h.2.1, hp.2.2.2.2.1, hlv, fr_eq hc]; exact h9) (fun v κ1 hq3 ho3 hk3 => ?_)
    by_cases hs3 : isRm σ (nxH c)
    · skip
      rw [rmO_y hs3] at hq3
      obtain ⟨rfl, ehq3⟩ := hq3
      rw [ehq3]
      refine runY_go rkX8_roomNextTo noCut 5 rfl ?_
      refine And.intro ⟨Nat.le_of_ble_eq_true rfl, Nat.le_of_ble_eq_true rfl⟩ ?_
      unfold nxt
      first | rw [if_pos (by assumption)] | rw [if_neg (by assumption)]
      first | (rw [rmO_y (σ := σ) (x := nxU c) (by assumption)]; exact ⟨rfl, rfl⟩) | (rw [rmO_n (σ := σ) (x := nxU c) (by assumption)]; exact ⟨rfl, rfl⟩) | (rw [rmO_y (σ := σ) (x := nxH c) (by assumption)]; exact ⟨rfl, rfl⟩) | (rw [rmO_n (σ := σ) (x := nxH c) (by assumption)]; exact ⟨rfl, rfl⟩)
    · skip
      rw [rmO_n hs3] at hq3
      obtain ⟨rfl, ehq3⟩ := hq3
      rw [ehq3]
      refine runY_go rkX8_roomNextTo noCut 5 rfl ?_
      refine And.intro ⟨Nat.le_of_ble_eq_true rfl, Nat.le_of_ble_eq_true rfl⟩ ?_
      unfold nxt
      first | rw [if_pos (by assumption)] | rw [if_neg (by assumption)]
      first | (rw [rmO_y (σ := σ) (x := nxU c) (by assumption)]; exact ⟨rfl, rfl⟩) | (rw [rmO_n (σ := σ) (x := nxU c) (by assumption)]; exact ⟨rfl, rfl⟩) | (rw [rmO_y (σ := σ) (x := nxH c) (by assumption)]; exact ⟨rfl, rfl⟩) | (rw [rmO_n (σ := σ) (x := nxH c) (by assumption)]; exact ⟨rfl, rfl⟩)
  · skip
    refine And.intro hG.t4 ⟨some (tS 0), hG.r43, ?_⟩
    refine pX8_roomNextTo_17 rfl rfl rfl h.1 (c_X4_frame h.1) (fun v κ1 hq4 ho4 hk4 => ?_)
    obtain ⟨rfl, ehq4⟩ := hq4
    rw [ehq4]
    refine runY_ok rkX8_roomNextTo (fun p => Nat.beq p 43) 200 _ _ _ _ _ _ ?_
    refine pX8_roomNextTo_23 rfl rfl rfl hG.t0 (show CY w yX1_roomOn mX1_roomOn [.ref (tS 0), .int (gI κ (tR c) 0 - gI κ (tR c) 0 / 12 * 12), .int (gI κ (tB j) 3 + 1)] κ (fun v κ' => v = some (va_rf (rmO σ (nxU c))) ∧ κ' = κ) from by have h9 := c_X1_roomOn (w := w) (f := (gI κ (tR c) 0 - gI κ (tR c) 0 / 12 * 12)) (l := (gI κ (tB j) 3 + 1)) hG hR.1; rw [h.2.1, hp.2.2.2.2.1, hlv, fr_eq hc, nxU_eq c hc] at h9; rw [h.2.1, hp.2.2.2.2.1, hlv, fr_eq hc]; exact h9) (fun v κ1 hq5 ho5 hk5 => ?_)
    by_cases hs5 : isRm σ (nxU c)
    · skip
      rw [rmO_y hs5] at hq5
      obtain ⟨rfl, ehq5⟩ := hq5
      rw [ehq5]
      refine runY_ok rkX8_roomNextTo (fun p => Nat.beq p 43) 200 _ _ _ _ _ _ ?_
      refine runY_go rkX8_roomNextTo noCut 5 rfl ?_
      refine And.intro ⟨Nat.le_of_ble_eq_true rfl, Nat.le_of_ble_eq_true rfl⟩ ?_
      unfold nxt
      first | rw [if_pos (by assumption)] | rw [if_neg (by assumption)]
      first | (rw [rmO_y (σ := σ) (x := nxU c) (by assumption)]; exact ⟨rfl, rfl⟩) | (rw [rmO_n (σ := σ) (x := nxU c) (by assumption)]; exact ⟨rfl, rfl⟩) | (rw [rmO_y (σ := σ) (x := nxH c) (by assumption)]; exact ⟨rfl, rfl⟩) | (rw [rmO_n (σ := σ) (x := nxH c) (by assumption)]; exact ⟨rfl, rfl⟩)
    · skip
      rw [rmO_n hs5] at hq5
      obtain ⟨rfl, ehq5⟩ := hq5
      rw [ehq5]
      refine runY_ok rkX8_roomNextTo (fun p => Nat.beq p 43) 200 _ _ _ _ _ _ ?_
      refine runY_go rkX8_roomNextTo noCut 5 rfl ?_
      refine And.intro ⟨Nat.le_of_ble_eq_true rfl, Nat.le_of_ble_eq_true rfl⟩ ?_
      unfold nxt
      first | rw [if_pos (by assumption)] | rw [if_neg (by assumption)]
      first | (rw [rmO_y (σ := σ) (x := nxU c) (by assumption)]; exact ⟨rfl, rfl⟩) | (rw [rmO_n (σ := σ) (x := nxU c) (by assumption)]; exact ⟨rfl, rfl⟩) | (rw [rmO_y (σ := σ) (x := nxH c) (by assumption)]; exact ⟨rfl, rfl⟩) | (rw [rmO_n (σ := σ) (x := nxH c) (by assumption)]; exact ⟨rfl, rfl⟩)

theorem hR_eq {σ : MS} {x u : Int32} (hx : isRm σ x) : (hR σ x u ↔ isRm σ (nxt x.toNatClampNeg u)) ∧ (isRm σ (nxt x.toNatClampNeg u) → nxt x.toNatClampNeg u = oth x u ∧ (oth x u).toNatClampNeg ≠ x.toNatClampNeg) := by
  have hc := isRm_lt hx
  obtain ⟨c, hc2, rfl⟩ := vp_in_of (in_c (c := 35) (n := 36) (by decide) hx.1) (by decide)
  have ec : (nI c).toNatClampNeg = c := nI_clamp (by omega)
  rw [ec] at hc ⊢
  have hbig : ∀ k, 36 ≤ k → k < 100 → ¬ isRm σ (nI k) := fun k h1 h2 => not_isRm (Or.inr (nI_le (a := 36) h1 (by omega)))
  unfold hR oth nxt
  rw [fr_eq hc]
  by_cases hu : u = 0
  · rw [if_pos hu, if_neg (fun z => z hu), nI_1]
    unfold nxH
    by_cases h11 : c % 12 < 11
    · rw [if_pos h11, nI_clamp (n := c + 1) (by omega)]
      exact ⟨⟨fun z => z.2.2, fun z => ⟨hx, Or.inr (nI_lt (b := 11) h11 (by decide)), z⟩⟩, fun _ => ⟨rfl, by omega⟩⟩
    · rw [if_neg h11]
      exact ⟨⟨fun z => z.2.1.elim (fun q => absurd hu q) (fun q => absurd ((nI_ltI (b := 11) (by omega) (by decide)).mp q) h11), fun z => absurd z isRm_m1⟩, fun z => absurd z isRm_m1⟩
  · rw [if_neg hu, if_pos hu, nI_12]
    unfold nxU
    by_cases h24 : c < 24
    · rw [if_pos h24, nI_clamp (n := c + 12) (by omega)]
      exact ⟨⟨fun z => z.2.2, fun z => ⟨hx, Or.inl hu, z⟩⟩, fun _ => ⟨rfl, by omega⟩⟩
    · rw [if_neg h24]
      exact ⟨⟨fun z => absurd z.2.2 (hbig _ (by omega) (by omega)), fun z => absurd z isRm_m1⟩, fun z => absurd z isRm_m1⟩
/-- the heap with a hole more -/
def hoH (κ : AH) (σ : MS) (x u : Int32) : AH := sI (sI (sI (sI κ (tR x.toNatClampNeg) 5 (σ.2 29 x.toNatClampNeg ||| bitU u)) (tR (oth x u).toNatClampNeg) 5 (σ.2 29 (oth x u).toNatClampNeg ||| bitU u / 2)) (tR x.toNatClampNeg) 2 0) (tR (oth x u).toNatClampNeg) 2 0
theorem sp_nP {σ : MS} {x : Int32} {g : Int32} (h : g = σ.2 26 x.toNatClampNeg) : (if g = 0 then (0 : Int32) else 1) = nP σ x := by
  unfold nP
  rw [h]
  grind
set_option maxRecDepth 20000 in
theorem c_X8_hole {w : W0} {κ : AH} {x u : Int32} {σ : MS} {nb : Nat} (hn : nb ≤ 60) (eb : σ.1 8 = nI nb) (hG : SG κ) (hR : hRm κ σ nb) (hBk : hB κ σ nb) (hN : hNm κ σ) (hlv : ∀ c, c < 36 → ¬ σ.2 25 c = -1 → σ.2 12 (σ.2 25 c).toNatClampNeg = nI (c / 12)) : CYV w yX8_hole mX8_hole [.ref (tS 4), .int x, .int u] κ (fun v κ' => kHole σ x u = 0 ∧ v = some (.int (nP σ x + nP σ (oth x u))) ∧ κ' = hoH κ σ x u) (fun E κ' => κ' = κ ∧ ((kHole σ x u = 1 ∧ E = "java/lang/IndexOutOfBoundsException") ∨ (kHole σ x u = 2 ∧ E = "java/lang/IllegalStateException"))) := by
  refine CYV_of mcX8_hole (Nat.le_of_ble_eq_true rfl) (cat1 rfl) (fun θ0 => ?_)
  have K111 : isRm σ x → isRm σ (nxt x.toNatClampNeg u) → kHole σ x u = 0 → ∀ r r2 : Int32, r = bitU u / 2 → r2 = σ.2 29 (oth x u).toNatClampNeg → Y w mX8_hole θ0 κ (fun v κ' => kHole σ x u = 0 ∧ v = some (.int (nP σ x + nP σ (oth x u))) ∧ κ' = hoH κ σ x u) (fun E κ' => κ' = κ ∧ ((kHole σ x u = 1 ∧ E = "java/lang/IndexOutOfBoundsException") ∨ (kHole σ x u = 2 ∧ E = "java/lang/IllegalStateException"))) 0 0 111 [some (.ref (tS 4)), some (.int x), some (.int u), some (.ref (tR (x).toNatClampNeg)), some (.ref (tR ((nxt x.toNatClampNeg u)).toNatClampNeg)), some (.int (bitU u))] [.int r, .int r2, .ref (tR ((nxt x.toNatClampNeg u)).toNatClampNeg)] (sI κ (tR (x).toNatClampNeg) 5 (σ.2 29 x.toNatClampNeg ||| bitU u)) := by
    intro hx hd hk r r2 hr hr2
    have hq := (hR_eq (u := u) hx).2 hd
    refine runY_go rkX8_hole (fun p => Nat.beq p 34 || Nat.beq p 55 || Nat.beq p 74 || Nat.beq p 111) 200 rfl ?_
    refine And.intro (pRm_bl hR hBk hn (isRm_lt (by assumption : isRm σ (nxt x.toNatClampNeg u))) (by assumption : isRm σ (nxt x.toNatClampNeg u)).2).1.1 ?_
    refine pX8_hole_116 rfl rfl rfl (pRm_bl hR hBk hn (isRm_lt (by assumption : isRm σ x)) (by assumption : isRm σ x).2).1.1 (c_X4_spoil (pRm_bl hR hBk hn (isRm_lt (by assumption : isRm σ x)) (by assumption : isRm σ x).2).1.1) (fun v κ1 hq1 ho1 hk1 => ?_)
    obtain ⟨rfl, ehq1⟩ := hq1
    rw [ehq1]
    refine runY_ok rkX8_hole (fun p => Nat.beq p 34 || Nat.beq p 55 || Nat.beq p 74 || Nat.beq p 111) 200 _ _ _ _ _ _ ?_
    refine pX8_hole_121 rfl rfl rfl (pRm_bl hR hBk hn (isRm_lt (by assumption : isRm σ (nxt x.toNatClampNeg u))) (by assumption : isRm σ (nxt x.toNatClampNeg u)).2).1.1 (c_X4_spoil (pRm_bl hR hBk hn (isRm_lt (by assumption : isRm σ (nxt x.toNatClampNeg u))) (by assumption : isRm σ (nxt x.toNatClampNeg u)).2).1.1) (fun v κ1 hq2 ho2 hk2 => ?_)
    obtain ⟨rfl, ehq2⟩ := hq2
    rw [ehq2]
    refine runY_ok rkX8_hole (fun p => Nat.beq p 34 || Nat.beq p 55 || Nat.beq p 74 || Nat.beq p 111) 200 _ _ _ _ _ _ ?_
    refine And.intro ⟨Nat.le_of_ble_eq_true rfl, Nat.le_of_ble_eq_true rfl⟩ ?_
    have q2 := (pRm_bl hR hBk hn (isRm_lt (by assumption : isRm σ x)) (by assumption : isRm σ x).2).1.2.2.2.1
    have d2 := (pRm_bl hR hBk hn (isRm_lt (by assumption : isRm σ (nxt x.toNatClampNeg u))) (by assumption : isRm σ (nxt x.toNatClampNeg u)).2).1.2.2.2.1
    have hne : ¬ ((nxt x.toNatClampNeg u)).toNatClampNeg = x.toNatClampNeg := by rw [hq.1]; exact hq.2
    refine ⟨hk, ?_, ?_⟩
    · rw [sp_nP (x := x) (by rw [← q2]; simp [gI_sI]), sp_nP (x := oth x u) (by rw [← hq.1, ← d2]; simp [gI_sI, tR_inj, hne])]
    · rw [hr, hr2, hq.1]; rfl
  have K74 : kHole σ x u = 2 → ∀ x3 x4 x5, Y w mX8_hole θ0 κ (fun v κ' => kHole σ x u = 0 ∧ v = some (.int (nP σ x + nP σ (oth x u))) ∧ κ' = hoH κ σ x u) (fun E κ' => κ' = κ ∧ ((kHole σ x u = 1 ∧ E = "java/lang/IndexOutOfBoundsException") ∨ (kHole σ x u = 2 ∧ E = "java/lang/IllegalStateException"))) 0 0 74 [some (.ref (tS 4)), some (.int x), some (.int u), x3, x4, x5] [] κ := by
    intro hk x3 x4 x5
    refine yX8_hole_74z (st := []) rfl rfl ?_
    exact ⟨rfl, Or.inr ⟨hk, rfl⟩⟩
  have K55 : isRm σ x → isRm σ (nxt x.toNatClampNeg u) → ∀ r : Int32, r = bitU u → Y w mX8_hole θ0 κ (fun v κ' => kHole σ x u = 0 ∧ v = some (.int (nP σ x + nP σ (oth x u))) ∧ κ' = hoH κ σ x u) (fun E κ' => κ' = κ ∧ ((kHole σ x u = 1 ∧ E = "java/lang/IndexOutOfBoundsException") ∨ (kHole σ x u = 2 ∧ E = "java/lang/IllegalStateException"))) 0 0 55 [some (.ref (tS 4)), some (.int x), some (.int u), some (.ref (tR (x).toNatClampNeg)), some (.ref (tR ((nxt x.toNatClampNeg u)).toNatClampNeg)), none] [.int r] κ := by
    intro hx hd r hr
    subst hr
    refine runY_go rkX8_hole (fun p => Nat.beq p 34 || Nat.beq p 55 || Nat.beq p 74 || Nat.beq p 111) 200 rfl ?_
    refine And.intro (pRm_bl hR hBk hn (isRm_lt (by assumption : isRm σ x)) (by assumption : isRm σ x).2).1.1 ?_
    refine And.intro (fun c3 => ?_) (fun c3 => ?_)
    · rw [(pRm_bl hR hBk hn (isRm_lt (by assumption : isRm σ x)) (by assumption : isRm σ x).2).1.2.2.2.2.2.2] at c3
      exact K74 (by unfold kHole; rw [if_pos ((hR_eq hx).1.mpr hd), if_neg (by grind)]) _ _ _
    · rw [(pRm_bl hR hBk hn (isRm_lt (by assumption : isRm σ x)) (by assumption : isRm σ x).2).1.2.2.2.2.2.2] at c3
      refine And.intro hG.t4 ?_
      refine And.intro (fun c4 => ?_) (fun c4 => ?_)
      · rw [hN.2.1.2.2.2.2] at c4
        refine And.intro (pRm_bl hR hBk hn (isRm_lt (by assumption : isRm σ x)) (by assumption : isRm σ x).2).1.1 ?_
        refine And.intro (pRm_bl hR hBk hn (isRm_lt (by assumption : isRm σ x)) (by assumption : isRm σ x).2).1.1 ?_
        refine And.intro (pRm_bl hR hBk hn (isRm_lt (by assumption : isRm σ (nxt x.toNatClampNeg u))) (by assumption : isRm σ (nxt x.toNatClampNeg u)).2).1.1 ?_
        refine And.intro (fun c5 => ?_) (fun c5 => ?_)
        · try simp only [b01_eq, b01_ne, Classical.not_not] at c5
          have q5 := (pRm_bl hR hBk hn (isRm_lt (by assumption : isRm σ x)) (by assumption : isRm σ x).2).1.2.2.2.2.2.2
          have d5 := (pRm_bl hR hBk hn (isRm_lt (by assumption : isRm σ (nxt x.toNatClampNeg u))) (by assumption : isRm σ (nxt x.toNatClampNeg u)).2).1.2.2.2.2.2.2
          have hq := (hR_eq (u := u) hx).2 hd
          have hne : ¬ ((nxt x.toNatClampNeg u)).toNatClampNeg = x.toNatClampNeg := by rw [hq.1]; exact hq.2
          rw [q5]
          refine K111 hx hd (by unfold kHole; rw [if_pos ((hR_eq hx).1.mpr hd), if_pos (by grind)]) _ _ (by unfold bitU; first | (rw [if_pos (by assumption)]; rfl) | (rw [if_neg (fun z => z (by assumption))]; rfl)) ?_
          rw [← hq.1, ← d5, gI_sI, if_neg (fun z => hne (tR_inj.mp z.1))]
        · try simp only [b01_eq, b01_ne, Classical.not_not] at c5
          have q5 := (pRm_bl hR hBk hn (isRm_lt (by assumption : isRm σ x)) (by assumption : isRm σ x).2).1.2.2.2.2.2.2
          have d5 := (pRm_bl hR hBk hn (isRm_lt (by assumption : isRm σ (nxt x.toNatClampNeg u))) (by assumption : isRm σ (nxt x.toNatClampNeg u)).2).1.2.2.2.2.2.2
          have hq := (hR_eq (u := u) hx).2 hd
          have hne : ¬ ((nxt x.toNatClampNeg u)).toNatClampNeg = x.toNatClampNeg := by rw [hq.1]; exact hq.2
          rw [q5]
          refine K111 hx hd (by unfold kHole; rw [if_pos ((hR_eq hx).1.mpr hd), if_pos (by grind)]) _ _ (by unfold bitU; first | (rw [if_pos (by assumption)]; rfl) | (rw [if_neg (fun z => z (by assumption))]; rfl)) ?_
          rw [← hq.1, ← d5, gI_sI, if_neg (fun z => hne (tR_inj.mp z.1))]
      · rw [hN.2.1.2.2.2.2] at c4
        exact K74 (by unfold kHole; rw [if_pos ((hR_eq hx).1.mpr hd), if_neg (by grind)]) _ _ _
  have K34 : kHole σ x u = 1 → ∀ x3 x4 x5, Y w mX8_hole θ0 κ (fun v κ' => kHole σ x u = 0 ∧ v = some (.int (nP σ x + nP σ (oth x u))) ∧ κ' = hoH κ σ x u) (fun E κ' => κ' = κ ∧ ((kHole σ x u = 1 ∧ E = "java/lang/IndexOutOfBoundsException") ∨ (kHole σ x u = 2 ∧ E = "java/lang/IllegalStateException"))) 0 0 34 [some (.ref (tS 4)), some (.int x), some (.int u), x3, x4, x5] [] κ := by
    intro hk x3 x4 x5
    refine yX8_hole_34z (st := []) rfl rfl ?_
    exact ⟨rfl, Or.inl ⟨hk, rfl⟩⟩
  refine runY_ok rkX8_hole (fun p => Nat.beq p 34 || Nat.beq p 55 || Nat.beq p 74 || Nat.beq p 111) 200 _ _ _ _ _ _ ?_
  refine And.intro hG.t4 ⟨some (tS 0), hG.r43, ?_⟩
  refine pX8_hole_5 rfl rfl rfl hG.t0 (c_X1_roomOf hG hR.1) (fun v κ1 hq6 ho6 hk6 => ?_)
  by_cases hs6 : isRm σ x
  · skip
    rw [rmO_y hs6] at hq6
    obtain ⟨rfl, ehq6⟩ := hq6
    rw [ehq6]
    refine runY_ok rkX8_hole (fun p => Nat.beq p 34 || Nat.beq p 55 || Nat.beq p 74 || Nat.beq p 111) 200 _ _ _ _ _ _ ?_
    refine pX8_hole_20 rfl rfl rfl hG.t4 (c_X8_roomNextTo hG hR (pRm_bl hR hBk hn (isRm_lt (by assumption : isRm σ x)) (by assumption : isRm σ x).2).1 (pRm_bl hR hBk hn (isRm_lt (by assumption : isRm σ x)) (by assumption : isRm σ x).2).2.2.2 rfl (hlv _ (isRm_lt (by assumption : isRm σ x)) (by assumption : isRm σ x).2) (isRm_lt (by assumption : isRm σ x))) (fun v κ1 hq7 ho7 hk7 => ?_)
    by_cases hs7 : isRm σ (nxt x.toNatClampNeg u)
    · skip
      rw [rmO_y hs7] at hq7
      obtain ⟨rfl, ehq7⟩ := hq7
      rw [ehq7]
      refine runY_ok rkX8_hole (fun p => Nat.beq p 34 || Nat.beq p 55 || Nat.beq p 74 || Nat.beq p 111) 200 _ _ _ _ _ _ ?_
      refine And.intro (fun c8 => ?_) (fun c8 => ?_)
      · try simp only [b01_eq, b01_ne, Classical.not_not] at c8
        exact K55 (by assumption) (by assumption) _ (by unfold bitU; grind)
      · try simp only [b01_eq, b01_ne, Classical.not_not] at c8
        exact K55 (by assumption) (by assumption) _ (by unfold bitU; grind)
    · skip
      rw [rmO_n hs7] at hq7
      obtain ⟨rfl, ehq7⟩ := hq7
      rw [ehq7]
      refine runY_ok rkX8_hole (fun p => Nat.beq p 34 || Nat.beq p 55 || Nat.beq p 74 || Nat.beq p 111) 200 _ _ _ _ _ _ ?_
      exact K34 (by unfold kHole; rw [if_neg]; first | exact fun z => absurd z.1 (by assumption) | exact fun z => absurd ((hR_eq (u := u) (by assumption : isRm σ x)).1.mp z) (by assumption)) _ _ _
  · skip
    rw [rmO_n hs6] at hq6
    obtain ⟨rfl, ehq6⟩ := hq6
    rw [ehq6]
    refine runY_ok rkX8_hole (fun p => Nat.beq p 34 || Nat.beq p 55 || Nat.beq p 74 || Nat.beq p 111) 200 _ _ _ _ _ _ ?_
    exact K34 (by unfold kHole; rw [if_neg]; first | exact fun z => absurd z.1 (by assumption) | exact fun z => absurd ((hR_eq (u := u) (by assumption : isRm σ x)).1.mp z) (by assumption)) _ _ _


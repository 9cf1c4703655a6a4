
/-! THE COMPONENT'S PUBLIC METHODS, 5: paint, hole -/
theorem hRm_s2 {κ : AH} {σ : MS} {nb c : Nat} {v : Int32} (hR : hRm κ σ nb) : hRm (sI κ (tR c) 2 v) (upA σ 26 c v) nb := by
  obtain ⟨a, b, d⟩ := hR
  refine ⟨fun x hx => a x hx, fun x hx hne => ?_, fun x hx he => d x hx he⟩
  obtain ⟨⟨p0, p1, p2, p3, p4, p5, p6⟩, j, hj⟩ := b x hx hne
  exact ⟨⟨p0, by simp [gI_sI, p1], p2, by simp [gI_sI, upA, tR_inj, p3], by simp [gI_sI, upA, tR_inj, p4], by simp [gI_sI, upA, tR_inj, p5], by simp [gI_sI, upA, tR_inj, p6]⟩, j, hj⟩
theorem emp_s2 {σ : MS} {c : Nat} {v : Int32} (he : emp σ) (h : ¬ σ.2 25 c = -1) : emp (upA σ 26 c v) := by
  intro x hx hn
  have e : x ≠ c := fun q => h (q ▸ hn)
  obtain ⟨a1, a2, a3, a4⟩ := he x hx hn
  exact ⟨by simp [upA, e, a1], by simp [upA, e, a2], by simp [upA, e, a3], by simp [upA, e, a4]⟩
theorem hRm_s3 {κ : AH} {σ : MS} {nb c : Nat} {v : Int32} (hR : hRm κ σ nb) : hRm (sI κ (tR c) 3 v) (upA σ 27 c v) nb := by
  obtain ⟨a, b, d⟩ := hR
  refine ⟨fun x hx => a x hx, fun x hx hne => ?_, fun x hx he => d x hx he⟩
  obtain ⟨⟨p0, p1, p2, p3, p4, p5, p6⟩, j, hj⟩ := b x hx hne
  exact ⟨⟨p0, by simp [gI_sI, p1], p2, by simp [gI_sI, upA, tR_inj, p3], by simp [gI_sI, upA, tR_inj, p4], by simp [gI_sI, upA, tR_inj, p5], by simp [gI_sI, upA, tR_inj, p6]⟩, j, hj⟩
theorem emp_s3 {σ : MS} {c : Nat} {v : Int32} (he : emp σ) (h : ¬ σ.2 25 c = -1) : emp (upA σ 27 c v) := by
  intro x hx hn
  have e : x ≠ c := fun q => h (q ▸ hn)
  obtain ⟨a1, a2, a3, a4⟩ := he x hx hn
  exact ⟨by simp [upA, e, a1], by simp [upA, e, a2], by simp [upA, e, a3], by simp [upA, e, a4]⟩
theorem hRm_s4 {κ : AH} {σ : MS} {nb c : Nat} {v : Int32} (hR : hRm κ σ nb) : hRm (sI κ (tR c) 4 v) (upA σ 28 c v) nb := by
  obtain ⟨a, b, d⟩ := hR
  refine ⟨fun x hx => a x hx, fun x hx hne => ?_, fun x hx he => d x hx he⟩
  obtain ⟨⟨p0, p1, p2, p3, p4, p5, p6⟩, j, hj⟩ := b x hx hne
  exact ⟨⟨p0, by simp [gI_sI, p1], p2, by simp [gI_sI, upA, tR_inj, p3], by simp [gI_sI, upA, tR_inj, p4], by simp [gI_sI, upA, tR_inj, p5], by simp [gI_sI, upA, tR_inj, p6]⟩, j, hj⟩
theorem emp_s4 {σ : MS} {c : Nat} {v : Int32} (he : emp σ) (h : ¬ σ.2 25 c = -1) : emp (upA σ 28 c v) := by
  intro x hx hn
  have e : x ≠ c := fun q => h (q ▸ hn)
  obtain ⟨a1, a2, a3, a4⟩ := he x hx hn
  exact ⟨by simp [upA, e, a1], by simp [upA, e, a2], by simp [upA, e, a3], by simp [upA, e, a4]⟩
theorem hRm_s5 {κ : AH} {σ : MS} {nb c : Nat} {v : Int32} (hR : hRm κ σ nb) : hRm (sI κ (tR c) 5 v) (upA σ 29 c v) nb := by
  obtain ⟨a, b, d⟩ := hR
  refine ⟨fun x hx => a x hx, fun x hx hne => ?_, fun x hx he => d x hx he⟩
  obtain ⟨⟨p0, p1, p2, p3, p4, p5, p6⟩, j, hj⟩ := b x hx hne
  exact ⟨⟨p0, by simp [gI_sI, p1], p2, by simp [gI_sI, upA, tR_inj, p3], by simp [gI_sI, upA, tR_inj, p4], by simp [gI_sI, upA, tR_inj, p5], by simp [gI_sI, upA, tR_inj, p6]⟩, j, hj⟩
theorem emp_s5 {σ : MS} {c : Nat} {v : Int32} (he : emp σ) (h : ¬ σ.2 25 c = -1) : emp (upA σ 29 c v) := by
  intro x hx hn
  have e : x ≠ c := fun q => h (q ▸ hn)
  obtain ⟨a1, a2, a3, a4⟩ := he x hx hn
  exact ⟨by simp [upA, e, a1], by simp [upA, e, a2], by simp [upA, e, a3], by simp [upA, e, a4]⟩
set_option maxRecDepth 20000 in
theorem c_X8_paint {w : W0} {κ : AH} {x : Int32} {σ : MS} {nb : Nat} (hn : nb ≤ 60) (eb : σ.1 8 = nI nb) (hG : SG κ) (hR : hRm κ σ nb) (hBk : hB κ σ nb) (he : emp σ) : CYV w yX8_paint mX8_paint [.ref (tS 4), .int x] κ (fun v κ' => kPai σ x = 0 ∧ v = some (.int (sm (fPt (sPai (upS σ 34 0) x.toNatClampNeg)) 36)) ∧ κ' = sI κ (tR x.toNatClampNeg) 2 1) (fun E κ' => κ' = κ ∧ ((kPai σ x = 1 ∧ E = "java/lang/IndexOutOfBoundsException") ∨ (kPai σ x = 2 ∧ E = "java/lang/IllegalStateException"))) := by
  refine CYV_of mcX8_paint (Nat.le_of_ble_eq_true rfl) (cat1 rfl) (fun θ0 => ?_)
  refine runY_ok rkX8_paint noCut 200 _ _ _ _ _ _ ?_
  refine And.intro hG.t4 ⟨some (tS 0), hG.r43, ?_⟩
  refine pX8_paint_5 rfl rfl rfl hG.t0 (c_X1_roomOf hG hR.1) (fun v κ1 hq1 ho1 hk1 => ?_)
  by_cases hs1 : isRm σ x
  · skip
    rw [rmO_y hs1] at hq1
    obtain ⟨rfl, ehq1⟩ := hq1
    rw [ehq1]
    refine runY_ok rkX8_paint noCut 200 _ _ _ _ _ _ ?_
    refine And.intro (pRm_bl hR hBk hn (isRm_lt (by assumption : isRm σ x)) (by assumption : isRm σ x).2).1.1 ?_
    refine And.intro (fun c2 => ?_) (fun c2 => ?_)
    · rw [(pRm_bl hR hBk hn (isRm_lt (by assumption : isRm σ x)) (by assumption : isRm σ x).2).1.2.2.2.1] at c2
      refine And.intro ⟨(pRm_bl hR hBk hn (isRm_lt (by assumption : isRm σ x)) (by assumption : isRm σ x).2).1.1, (by decide)⟩ ?_
      refine And.intro hG.t4 ⟨some (tS 0), hG.r43, ?_⟩
      refine pX8_paint_51 rfl rfl rfl hG.t0 (c_X1_painted (σ := upA (upS σ 34 0) 26 x.toNatClampNeg 1) (nb := nb) hG (hRm_s2 (σ := upS σ 34 0) hR) (emp_s2 (σ := upS σ 34 0) he (by assumption : isRm σ x).2)) (fun v κ1 hq3 ho3 hk3 => ?_)
      obtain ⟨rfl, ehq3⟩ := hq3
      rw [ehq3]
      refine runY_ok rkX8_paint noCut 200 _ _ _ _ _ _ ?_
      refine And.intro ⟨Nat.le_of_ble_eq_true rfl, Nat.le_of_ble_eq_true rfl⟩ ?_
      exact ⟨by unfold kPai; rw [if_pos (by assumption), if_pos (by assumption)], rfl, rfl⟩
    · rw [(pRm_bl hR hBk hn (isRm_lt (by assumption : isRm σ x)) (by assumption : isRm σ x).2).1.2.2.2.1] at c2
      refine yX8_paint_31z (st := []) rfl rfl ?_
      refine ⟨rfl, Or.inr (⟨?_, rfl⟩)⟩
      unfold kPai; rw [if_pos (by assumption), if_neg (by assumption)]
  · skip
    rw [rmO_n hs1] at hq1
    obtain ⟨rfl, ehq1⟩ := hq1
    rw [ehq1]
    refine runY_ok rkX8_paint noCut 200 _ _ _ _ _ _ ?_
    refine yX8_paint_13z (st := []) rfl rfl ?_
    refine ⟨rfl, Or.inl ⟨?_, rfl⟩⟩
    exact if_neg (by assumption)

def nxU (c : Nat) : Int32 := if c < 24 then nI (c + 12) else -1
def nxH (c : Nat) : Int32 := if c % 12 < 11 then nI (c + 1) else -1
def nxt (c : Nat) (u : Int32) : Int32 := if u = 0 then nxH c else nxU c
theorem nxU_eq : ∀ c : Nat, c < 36 → clO (nI (c % 12)) (nI (c / 12) + 1) = nxU c := by decide
theorem nxH_eq : ∀ c : Nat, c < 36 → clO (nI (c % 12) + 1) (nI (c / 12)) = nxH c := by decide
theorem fr_eq {c : Nat} (hc : c < 36) : nI c - nI c / 12 * 12 = nI (c % 12) := nI_rem12 c hc
set_option maxRecDepth 20000 in
theorem c_X8_roomNextTo {w : W0} {κ : AH} {c : Nat} {u : Int32} {σ : MS} {nb j : Nat} (hG : SG κ) (hR : hRm κ σ nb) (h : pRm κ σ c) (hp : pB κ σ j) (ej : (σ.2 25 c).toNatClampNeg = j) (hlv : σ.2 12 j = nI (c / 12)) (hc : c < 36) : CY w yX8_roomNextTo mX8_roomNextTo [.ref (tS 4), .ref (tR c), .int u] κ (fun v κ' => v = some (va_rf (rmO σ (nxt c u))) ∧ κ' = κ) := by
  refine CY_of mcX8_roomNextTo (Nat.le_of_ble_eq_true rfl) (cat1 rfl) (fun θ0 => ?_)
  refine runY_ok rkX8_roomNextTo (fun p => Nat.beq p 43) 200 _ _ _ _ _ _ ?_
  refine And.intro h.1 ⟨some (tB j), (h.2.2.1.trans (by rw [ej])), ?_⟩
  refine And.intro hp.1 ?_
  refine And.intro (fun c1 => ?_) (fun c1 => ?_)
  · skip
    refine And.intro hG.t4 ⟨some (tS 0), hG.r43, ?_⟩
    refine pX8_roomNextTo_34 rfl rfl rfl h.1 (c_X4_frame h.1) (fun v κ1 hq2 ho2 hk2 => ?_)
    obtain ⟨rfl, ehq2⟩ := hq2
    rw [ehq2]
    refine runY_ok rkX8_roomNextTo (fun p => Nat.beq p 43) 200 _ _ _ _ _ _ ?_
    refine pX8_roomNextTo_40 rfl rfl rfl hG.t0 (show CY w yX1_roomOn mX1_roomOn [.ref (tS 0), .int ((gI κ (tR c) 0 - gI κ (tR c) 0 / 12 * 12) + 1), .int (gI κ (tB j) 3)] κ (fun v κ' => v = some (va_rf (rmO σ (nxH c))) ∧ κ' = κ) from by have h9 := c_X1_roomOn (w := w) (f := ((gI κ (tR c) 0 - gI κ (tR c) 0 / 12 * 12) + 1)) (l := (gI κ (tB j) 3)) hG hR.1; rw [h.2.1, hp.2.2.2.2.1, hlv, fr_eq hc, nxH_eq c hc] at h9; rw [h.2.1, hp.2.2.2.2.1, hlv, fr_eq hc]; exact h9) (fun v κ1 hq3 ho3 hk3 => ?_)
    by_cases hs3 : isRm σ (nxH c)
    · skip
      rw [rmO_y hs3] at hq3
      obtain ⟨rfl, ehq3⟩ := hq3
      rw [ehq3]
      refine runY_go rkX8_roomNextTo noCut 5 rfl ?_
      refine And.intro ⟨Nat.le_of_ble_eq_true rfl, Nat.le_of_ble_eq_true rfl⟩ ?_
      unfold nxt
      first | rw [if_pos (by assumption)] | rw [if_neg (by assumption)]
      first | (rw [rmO_y (σ := σ) (x := nxU c) (by assumption)]; exact ⟨rfl, rfl⟩) | (rw [rmO_n (σ := σ) (x := nxU c) (by assumption)]; exact ⟨rfl, rfl⟩) | (rw [rmO_y (σ := σ) (x := nxH c) (by assumption)]; exact ⟨rfl, rfl⟩) | (rw [rmO_n (σ := σ) (x := nxH c) (by assumption)]; exact ⟨rfl, rfl⟩)
    · skip
      rw [rmO_n hs3] at hq3
      obtain ⟨rfl, ehq3⟩ := hq3
      rw [ehq3]
      refine runY_go rkX8_roomNextTo noCut 5 rfl ?_
      refine And.intro ⟨Nat.le_of_ble_eq_true rfl, Nat.le_of_ble_eq_true rfl⟩ ?_
      unfold nxt
      first | rw [if_pos (by assumption)] | rw [if_neg (by assumption)]
      first | (rw [rmO_y (σ := σ) (x := nxU c) (by assumption)]; exact ⟨rfl, rfl⟩) | (rw [rmO_n (σ := σ) (x := nxU c) (by assumption)]; exact ⟨rfl, rfl⟩) | (rw [rmO_y (σ := σ) (x := nxH c) (by assumption)]; exact ⟨rfl, rfl⟩) | (rw [rmO_n (σ := σ) (x := nxH c) (by assumption)]; exact ⟨rfl, rfl⟩)
  · skip
    refine And.intro hG.t4 ⟨some (tS 0), hG.r43, ?_⟩
    refine pX8_roomNextTo_17 rfl rfl rfl h.1 (c_X4_frame h.1) (fun v κ1 hq4 ho4 hk4 => ?_)
    obtain ⟨rfl, ehq4⟩ := hq4
    rw [ehq4]
    refine runY_ok rkX8_roomNextTo (fun p => Nat.beq p 43) 200 _ _ _ _ _ _ ?_
    refine pX8_roomNextTo_23 rfl rfl rfl hG.t0 (show CY w yX1_roomOn mX1_roomOn [.ref (tS 0), .int (gI κ (tR c) 0 - gI κ (tR c) 0 / 12 * 12), .int (gI κ (tB j) 3 + 1)] κ (fun v κ' => v = some (va_rf (rmO σ (nxU c))) ∧ κ' = κ) from by have h9 := c_X1_roomOn (w := w) (f := (gI κ (tR c) 0 - gI κ (tR c) 0 / 12 * 12)) (l := (gI κ (tB j) 3 + 1)) hG hR.1; rw [h.2.1, hp.2.2.2.2.1, hlv, fr_eq hc, nxU_eq c hc] at h9; rw [h.2.1, hp.2.2.2.2.1, hlv, fr_eq hc]; exact h9) (fun v κ1 hq5 ho5 hk5 => ?_)
    by_cases hs5 : isRm σ (nxU c)
    · skip
      rw [rmO_y hs5] at hq5
      obtain ⟨rfl, ehq5⟩ := hq5
      rw [ehq5]
      refine runY_ok rkX8_roomNextTo (fun p => Nat.beq p 43) 200 _ _ _ _ _ _ ?_
      refine runY_go rkX8_roomNextTo noCut 5 rfl ?_
      refine And.intro ⟨Nat.le_of_ble_eq_true rfl, Nat.le_of_ble_eq_true rfl⟩ ?_
      unfold nxt
      first | rw [if_pos (by assumption)] | rw [if_neg (by assumption)]
      first | (rw [rmO_y (σ := σ) (x := nxU c) (by assumption)]; exact ⟨rfl, rfl⟩) | (rw [rmO_n (σ := σ) (x := nxU c) (by assumption)]; exact ⟨rfl, rfl⟩) | (rw [rmO_y (σ := σ) (x := nxH c) (by assumption)]; exact ⟨rfl, rfl⟩) | (rw [rmO_n (σ := σ) (x := nxH c) (by assumption)]; exact ⟨rfl, rfl⟩)
    · skip
      rw [rmO_n hs5] at hq5
      obtain ⟨rfl, ehq5⟩ := hq5
      rw [ehq5]
      refine runY_ok rkX8_roomNextTo (fun p => Nat.beq p 43) 200 _ _ _ _ _ _ ?_
      refine runY_go rkX8_roomNextTo noCut 5 rfl ?_
      refine And.intro ⟨Nat.le_of_ble_eq_true rfl, Nat.le_of_ble_eq_true rfl⟩ ?_
      unfold nxt
      first | rw [if_pos (by assumption)] | rw [if_neg (by assumption)]
      first | (rw [rmO_y (σ := σ) (x := nxU c) (by assumption)]; exact ⟨rfl, rfl⟩) | (rw [rmO_n (σ := σ) (x := nxU c) (by assumption)]; exact ⟨rfl, rfl⟩) | (rw [rmO_y (σ := σ) (x := nxH c) (by assumption)]; exact ⟨rfl, rfl⟩) | (rw [rmO_n (σ := σ) (x := nxH c) (by assumption)]; exact ⟨rfl, rfl⟩)

/-! THE COMPONENT'S PUBLIC METHODS, 10: makeWeld, canJoin -/
def a1H (κ : AH) (nw j : Nat) (f : Int32) : AH := sI (sI (sI (sI (sR (nO κ (tW nw) 7 0) (tW nw) 0 (some (tB j))) (tW nw) 1 f) (tW nw) 2 0) (tW nw) 3 0) (tW nw) 4 0
def a2H (κ : AH) (nw j : Nat) (f : Int32) : AH := sI (sR (a1H κ nw j f) (tS 6) nw (some (tW nw))) (tS 4) 8 (nI (nw + 1))
def mwH (κ : AH) (σ : MS) (nw j : Nat) (f y : Int32) (n : Nat) : AH := enH (wnH (a2H κ nw j f) σ nw j y) n (-20)
theorem a1_SG {κ : AH} {nw j : Nat} {f : Int32} (h : SG κ) : SG (a1H κ nw j f) := (SG_sR (SG_nO h (fun i _ z => tW_S.mp z)) (fun i _ z => tW_S.mp z) : SG (sR (nO κ (tW nw) 7 0) (tW nw) 0 (some (tB j))))
theorem a2_SG {κ : AH} {nw j : Nat} {f : Int32} (h : SG κ) : SG (a2H κ nw j f) := (SG_sR (a1_SG h) (fun i hi z => by have := tS_inj.mp z; omega) : SG (sR (a1H κ nw j f) (tS 6) nw (some (tW nw))))
theorem a2_T {κ : AH} {nw j t : Nat} {f : Int32} (h : t ≠ tW nw) : gT (a2H κ nw j f) t = gT κ t := by
  show gT (nO κ (tW nw) 7 0) t = _
  rw [gT_nO, if_neg h]
theorem a2_TW {κ : AH} {nw j : Nat} {f : Int32} : gT (a2H κ nw j f) (tW nw) = 7 := by
  show gT (nO κ (tW nw) 7 0) (tW nw) = _
  rw [gT_nO, if_pos rfl]
theorem a2_R {κ : AH} {nw j t p : Nat} {f : Int32} (h : t ≠ tW nw) (h6 : t ≠ tS 6) : gR (a2H κ nw j f) t p = gR κ t p := by
  show gR (sR (a1H κ nw j f) (tS 6) nw (some (tW nw))) t p = _
  rw [gR_sR, if_neg (fun z => h6 z.1)]
  show gR (sR (nO κ (tW nw) 7 0) (tW nw) 0 (some (tB j))) t p = _
  rw [gR_sR, if_neg (fun z => h z.1), gR_nO, if_neg h]
theorem a2_R0 {κ : AH} {nw j : Nat} {f : Int32} : gR (a2H κ nw j f) (tW nw) 0 = some (tB j) := by
  show gR (sR (a1H κ nw j f) (tS 6) nw (some (tW nw))) (tW nw) 0 = _
  rw [gR_sR, if_neg (fun z => tW_S.mp z.1)]
  show gR (sR (nO κ (tW nw) 7 0) (tW nw) 0 (some (tB j))) (tW nw) 0 = _
  rw [gR_sR, if_pos ⟨rfl, rfl⟩]
theorem a1_I {κ : AH} {nw j t p : Nat} {f : Int32} (h : t ≠ tW nw) : gI (a1H κ nw j f) t p = gI κ t p := by
  unfold a1H
  rw [gI_sI, if_neg (fun z => h z.1), gI_sI, if_neg (fun z => h z.1), gI_sI, if_neg (fun z => h z.1), gI_sI, if_neg (fun z => h z.1), gI_sR, gI_nO, if_neg h]
theorem a2_I {κ : AH} {nw j t p : Nat} {f : Int32} (h : t ≠ tW nw) (h4 : t ≠ tS 4) : gI (a2H κ nw j f) t p = gI κ t p := by
  unfold a2H
  rw [gI_sI, if_neg (fun z => h4 z.1), gI_sR, a1_I h]
set_option maxRecDepth 20000 in
theorem c_X8_makeWeld {w : W0} {κ : AH} {j nw n nb : Nat} {f y : Int32} {σ : MS} (hG : SG κ) (hR : hRt κ σ) (hch : chn σ nb) (hC : hCh κ σ nb) (h8 : ∀ i, i < nb → gI κ (tB i) 8 = σ.2 9 i) (hj : j < nb) (hy : vp_in y 4) (hw : gI κ (tS 4) 8 = nI nw) (hnw : nw < 100) (hfree : gT κ (tW nw) = 0) (hnl : n < 337) (hle : gI κ (tS 1) 1 = nI n) : CY w yX8_makeWeld mX8_makeWeld [.ref (tS 4), .ref (tB j), .int f, .int y] κ (fun v κ' => v = none ∧ κ' = (mwH κ σ nw j f y n)) := by
  have hGa : SG (a1H κ nw j f) := a1_SG hG
  have hGb : SG (a2H κ nw j f) := a2_SG hG
  have hGc : SG (wnH (a2H κ nw j f) σ nw j y) := wnH_SG hGb
  have ht0 : gT (nO κ (tW nw) 7 0) (tW nw) = 7 := by rw [gT_nO, if_pos rfl]
  have hb0 : gT (nO κ (tW nw) 7 0) (tB j) = 1 := by rw [gT_nO, if_neg (fun z => tB_W.mp z)]; exact (hC j hj).1
  have e8 : gI (a1H κ nw j f) (tS 4) 8 = nI nw := by rw [a1_I (fun z => tS_W.mp z)]; exact hw
  have hcl : (nI nw).toNatClampNeg = nw := nI_clamp (by omega)
  have ht1 : gT (a1H κ nw j f) (tW nw) = 7 := ht0
  have hRb : hRt (a2H κ nw j f) σ := ⟨fun c hc => (a2_R (fun z => tS_W.mp z) (fun z => absurd (tS_inj.mp z) (by decide))).trans (hR.1 c hc), fun c hc h => (a2_T (fun z => tR_W.mp z)).trans (hR.2 c hc h)⟩
  have hCb : hCh (a2H κ nw j f) σ nb := fun i hi => ⟨(a2_T (fun z => tB_W.mp z)).trans (hC i hi).1, (a2_R (fun z => tB_W.mp z) (fun z => tB_S.mp z)).trans (hC i hi).2⟩
  have hle2 : gI (wnH (a2H κ nw j f) σ nw j y) (tS 1) 1 = nI n := by rw [wnH_S (by decide), a2_I (fun z => tS_W.mp z) (fun z => absurd (tS_inj.mp z) (by decide))]; exact hle
  refine CY_of mcX8_makeWeld (Nat.le_of_ble_eq_true rfl) (cat1 rfl) (fun θ0 => ?_)
  have K51 : Y w mX8_makeWeld θ0 κ (fun v κ' => v = none ∧ κ' = (mwH κ σ nw j f y n)) (fun _ _ => False) 1 5 51 [some (.ref (tS 4)), some (.ref (tB j)), some (.int f), some (.int y), some (.ref (tW nw))] [] (a2H κ nw j f) := by
    refine runY_go rkX8_makeWeld (fun p => Nat.beq p 51) 200 rfl ?_
    refine pX8_makeWeld_55 rfl rfl rfl (by first | exact hG.t4 | exact hGa.t4 | exact hGb.t4 | exact hGc.t4) (show CY w yX8_weldNow mX8_weldNow [.ref (tS 4), .ref (tW nw), .int y] (a2H κ nw j f) (fun v κ' => v = none ∧ κ' = (wnH (a2H κ nw j f) σ nw j y)) from c_X8_weldNow (nb := nb) hGb hRb hch hCb (fun i hi => by rw [a2_I (fun z => tB_W.mp z) (fun z => tB_S.mp z)]; exact h8 i hi) a2_TW a2_R0 hj hy) (fun v κ1 hq1 ho1 hk1 => ?_)
    obtain ⟨rfl, ehq1⟩ := hq1
    rw [ehq1]
    refine runY_ok rkX8_makeWeld (fun p => Nat.beq p 51) 200 _ _ _ _ _ _ ?_
    refine And.intro (by first | exact hG.t4 | exact hGa.t4 | exact hGb.t4 | exact hGc.t4) ⟨some (tS 1), (by exact hGc.r46), ?_⟩
    refine pX8_makeWeld_64 rfl rfl rfl hGc.t1 (show CY w yX2_enter mX2_enter [.ref (tS 1), .int (-20)] (wnH (a2H κ nw j f) σ nw j y) (fun v κ' => v = none ∧ κ' = (mwH κ σ nw j f y n)) from c_X2_enter hGc.t1 hGc.t10 hGc.n10 hGc.r10 hnl hle2) (fun v κ1 hq2 ho2 hk2 => ?_)
    obtain ⟨rfl, ehq2⟩ := hq2
    rw [ehq2]
    refine runY_ok rkX8_makeWeld (fun p => Nat.beq p 51) 200 _ _ _ _ _ _ ?_
    refine And.intro ⟨Nat.le_of_ble_eq_true rfl, Nat.le_of_ble_eq_true rfl⟩ ?_
    exact ⟨rfl, rfl⟩
  refine runY_ok rkX8_makeWeld (fun p => Nat.beq p 51) 200 _ _ _ _ _ _ ?_
  refine pX8_makeWeld_0 (tW nw) rfl rfl hfree ?_
  refine runY_ok rkX8_makeWeld (fun p => Nat.beq p 51) 200 _ _ _ _ _ _ ?_
  refine pX8_makeWeld_6 rfl rfl rfl (show CY w yX6_init mX6_init [.ref (tW nw), .ref (tB j), .int f] (nO κ (tW nw) 7 0) (fun v κ' => v = none ∧ κ' = (a1H κ nw j f)) from c_X6_init ht0 hb0) (fun v κ1 hq3 ho3 hk3 => ?_)
  obtain ⟨rfl, ehq3⟩ := hq3
  rw [ehq3]
  refine runY_ok rkX8_makeWeld (fun p => Nat.beq p 51) 200 _ _ _ _ _ _ ?_
  refine And.intro (by first | exact hG.t4 | exact hGa.t4 | exact hGb.t4 | exact hGc.t4) ?_
  refine And.intro (fun c4 => ?_) (fun c4 => ?_)
  · rw [e8] at c4
    first
    | (exact absurd ‹nI nw < 0› (nI_pos (by omega)))
    | (exact absurd ‹nI 100 ≤ nI nw› (nI_ge hnw (by decide)))
    | (rw [show gI (sR (a1H κ nw j f) (tS 6) (gI (a1H κ nw j f) (tS 4) 8).toNatClampNeg (some (tW nw))) (tS 4) 8 = gI (a1H κ nw j f) (tS 4) 8 from rfl, e8, hcl, nI_1]; exact K51)
  · rw [e8] at c4
    refine And.intro (by first | exact hG.t4 | exact hGa.t4 | exact hGb.t4 | exact hGc.t4) ?_
    refine And.intro (by first | exact hG.t4 | exact hGa.t4 | exact hGb.t4 | exact hGc.t4) ⟨some (tS 6), (by exact hGa.r41), ?_⟩
    refine And.intro (by rw [hGa.t6]; decide) ?_
    refine And.intro (fun c5 => ?_) (fun c5 => ?_)
    · rw [e8, hGa.n6, show Int32.ofNat 100 = nI 100 from rfl] at c5
      first
      | (exact absurd ‹nI nw < 0› (nI_pos (by omega)))
      | (exact absurd ‹nI 100 ≤ nI nw› (nI_ge hnw (by decide)))
      | (rw [show gI (sR (a1H κ nw j f) (tS 6) (gI (a1H κ nw j f) (tS 4) 8).toNatClampNeg (some (tW nw))) (tS 4) 8 = gI (a1H κ nw j f) (tS 4) 8 from rfl, e8, hcl, nI_1]; exact K51)
    · rw [e8, hGa.n6, show Int32.ofNat 100 = nI 100 from rfl] at c5
      refine And.intro (by first | exact hG.t4 | exact hGa.t4 | exact hGb.t4 | exact hGc.t4) ⟨some (tS 6), (by exact hGa.r41), ?_⟩
      refine And.intro (by first | exact hG.t4 | exact hGa.t4 | exact hGb.t4 | exact hGc.t4) ?_
      refine pX8_makeWeld_40 hGa.t6 ht0 (by rw [hGa.n6, e8]; exact vp_in_nI hnw (by decide)) ?_
      refine runY_ok rkX8_makeWeld (fun p => Nat.beq p 51) 200 _ _ _ _ _ _ ?_
      refine And.intro (by first | exact hG.t4 | exact hGa.t4 | exact hGb.t4 | exact hGc.t4) ?_
      refine And.intro (by first | exact hG.t4 | exact hGa.t4 | exact hGb.t4 | exact hGc.t4) ?_
      first
      | (exact absurd ‹nI nw < 0› (nI_pos (by omega)))
      | (exact absurd ‹nI 100 ≤ nI nw› (nI_ge hnw (by decide)))
      | (rw [show gI (sR (a1H κ nw j f) (tS 6) (gI (a1H κ nw j f) (tS 4) 8).toNatClampNeg (some (tW nw))) (tS 4) 8 = gI (a1H κ nw j f) (tS 4) 8 from rfl, e8, hcl, nI_1]; exact K51)


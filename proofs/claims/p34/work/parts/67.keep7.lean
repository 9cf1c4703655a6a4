/-! WHAT ALWAYS HOLDS, 9: pipe -/
theorem saH_D {κ : AH} {σ : MS} {a : Int32} : ∀ c, Dif (fun t => ∃ d, t = tR d) κ (saH κ σ a c)
  | 0 => Dif.rfl'
  | c + 1 => by
    have sp : ∀ (κ : AH) s, Dif (fun t => ∃ d, t = tR d) κ (spH κ σ c s) := by
      intro κ s
      induction s with
      | zero => exact Dif.rfl'
      | succ s ih =>
        unfold spH
        split
        · exact ih.sI ⟨_, rfl⟩
        · exact ih
    unfold saH
    split
    · exact (saH_D c).tr (sp _ 4)
    · exact saH_D c
theorem bfH_D {κ : AH} {σ : MS} : ∀ k, Dif (fun t => ∃ d, t = tR d) κ (bfH κ σ k).1
  | 0 => Dif.rfl'
  | k + 1 => by
    unfold bfH
    split
    · exact bfH_D k
    · exact (bfH_D k).tr (saH_D 36)
theorem zrH_D {κ : AH} {σ : MS} : ∀ c, Dif (fun t => ∃ d, t = tR d) κ (zrH κ σ c)
  | 0 => Dif.rfl'
  | c + 1 => by
    unfold zrH
    split
    · exact zrH_D c
    · exact (zrH_D c).sI ⟨_, rfl⟩
theorem meH_D {κ : AH} {σ : MS} {b : Nat} : Dif (fun t => ∃ d, t = tR d) κ (meH κ σ b) := by
  unfold meH
  split
  · exact zrH_D 36
  · exact ((zrH_D 36).sI ⟨_, rfl⟩).tr (bfH_D 35)
theorem s_me {κ0 κ : AH} {σ : MS} {nb nw np : Nat} {wb : Nat → Nat} (h : RI κ0 κ σ nb nw np wb) {b : Nat} : RI κ0 (meH κ σ b) σ nb nw np wb := by
  obtain ⟨I, ⟨G, N, B, W, R, P, H, L⟩, F⟩ := h
  have D := meH_D (κ := κ) (σ := σ) (b := b)
  exact ⟨I, ⟨meH_SG G, hNm_d D (by simp [tB_inj, tB_W, tB_R, tB_P, tB_C, tB_S, tW_inj, tW_B, tW_R, tW_P, tW_C, tW_S, tR_inj, tR_B, tR_W, tR_P, tR_C, tR_S, tP_inj, tP_B, tP_W, tP_R, tP_C, tP_S, tC_inj, tC_B, tC_W, tC_R, tC_P, tC_S, tS_inj, tS_B, tS_W, tS_R, tS_P, tS_C, tM_inj, tM_B, tM_W, tM_R, tM_P, tM_C, tM_S, tB_M, tW_M, tR_M, tP_M, tC_M, tS_M]) (by simp [tB_inj, tB_W, tB_R, tB_P, tB_C, tB_S, tW_inj, tW_B, tW_R, tW_P, tW_C, tW_S, tR_inj, tR_B, tR_W, tR_P, tR_C, tR_S, tP_inj, tP_B, tP_W, tP_R, tP_C, tP_S, tC_inj, tC_B, tC_W, tC_R, tC_P, tC_S, tS_inj, tS_B, tS_W, tS_R, tS_P, tS_C, tM_inj, tM_B, tM_W, tM_R, tM_P, tM_C, tM_S, tB_M, tW_M, tR_M, tP_M, tC_M, tS_M]) (by simp [tB_inj, tB_W, tB_R, tB_P, tB_C, tB_S, tW_inj, tW_B, tW_R, tW_P, tW_C, tW_S, tR_inj, tR_B, tR_W, tR_P, tR_C, tR_S, tP_inj, tP_B, tP_W, tP_R, tP_C, tP_S, tC_inj, tC_B, tC_W, tC_R, tC_P, tC_S, tS_inj, tS_B, tS_W, tS_R, tS_P, tS_C, tM_inj, tM_B, tM_W, tM_R, tM_P, tM_C, tM_S, tB_M, tW_M, tR_M, tP_M, tC_M, tS_M]) N, hB_d D (by simp [tB_inj, tB_W, tB_R, tB_P, tB_C, tB_S, tW_inj, tW_B, tW_R, tW_P, tW_C, tW_S, tR_inj, tR_B, tR_W, tR_P, tR_C, tR_S, tP_inj, tP_B, tP_W, tP_R, tP_C, tP_S, tC_inj, tC_B, tC_W, tC_R, tC_P, tC_S, tS_inj, tS_B, tS_W, tS_R, tS_P, tS_C, tM_inj, tM_B, tM_W, tM_R, tM_P, tM_C, tM_S, tB_M, tW_M, tR_M, tP_M, tC_M, tS_M]) (fun i => by simp [tB_inj, tB_W, tB_R, tB_P, tB_C, tB_S, tW_inj, tW_B, tW_R, tW_P, tW_C, tW_S, tR_inj, tR_B, tR_W, tR_P, tR_C, tR_S, tP_inj, tP_B, tP_W, tP_R, tP_C, tP_S, tC_inj, tC_B, tC_W, tC_R, tC_P, tC_S, tS_inj, tS_B, tS_W, tS_R, tS_P, tS_C, tM_inj, tM_B, tM_W, tM_R, tM_P, tM_C, tM_S, tB_M, tW_M, tR_M, tP_M, tC_M, tS_M]) B, hW_d D (by simp [tB_inj, tB_W, tB_R, tB_P, tB_C, tB_S, tW_inj, tW_B, tW_R, tW_P, tW_C, tW_S, tR_inj, tR_B, tR_W, tR_P, tR_C, tR_S, tP_inj, tP_B, tP_W, tP_R, tP_C, tP_S, tC_inj, tC_B, tC_W, tC_R, tC_P, tC_S, tS_inj, tS_B, tS_W, tS_R, tS_P, tS_C, tM_inj, tM_B, tM_W, tM_R, tM_P, tM_C, tM_S, tB_M, tW_M, tR_M, tP_M, tC_M, tS_M]) (fun i => by simp [tB_inj, tB_W, tB_R, tB_P, tB_C, tB_S, tW_inj, tW_B, tW_R, tW_P, tW_C, tW_S, tR_inj, tR_B, tR_W, tR_P, tR_C, tR_S, tP_inj, tP_B, tP_W, tP_R, tP_C, tP_S, tC_inj, tC_B, tC_W, tC_R, tC_P, tC_S, tS_inj, tS_B, tS_W, tS_R, tS_P, tS_C, tM_inj, tM_B, tM_W, tM_R, tM_P, tM_C, tM_S, tB_M, tW_M, tR_M, tP_M, tC_M, tS_M]) W, meH_R R, hPi_d D (by simp [tB_inj, tB_W, tB_R, tB_P, tB_C, tB_S, tW_inj, tW_B, tW_R, tW_P, tW_C, tW_S, tR_inj, tR_B, tR_W, tR_P, tR_C, tR_S, tP_inj, tP_B, tP_W, tP_R, tP_C, tP_S, tC_inj, tC_B, tC_W, tC_R, tC_P, tC_S, tS_inj, tS_B, tS_W, tS_R, tS_P, tS_C, tM_inj, tM_B, tM_W, tM_R, tM_P, tM_C, tM_S, tB_M, tW_M, tR_M, tP_M, tC_M, tS_M]) (fun i => by simp [tB_inj, tB_W, tB_R, tB_P, tB_C, tB_S, tW_inj, tW_B, tW_R, tW_P, tW_C, tW_S, tR_inj, tR_B, tR_W, tR_P, tR_C, tR_S, tP_inj, tP_B, tP_W, tP_R, tP_C, tP_S, tC_inj, tC_B, tC_W, tC_R, tC_P, tC_S, tS_inj, tS_B, tS_W, tS_R, tS_P, tS_C, tM_inj, tM_B, tM_W, tM_R, tM_P, tM_C, tM_S, tB_M, tW_M, tR_M, tP_M, tC_M, tS_M]) (fun i => by simp [tB_inj, tB_W, tB_R, tB_P, tB_C, tB_S, tW_inj, tW_B, tW_R, tW_P, tW_C, tW_S, tR_inj, tR_B, tR_W, tR_P, tR_C, tR_S, tP_inj, tP_B, tP_W, tP_R, tP_C, tP_S, tC_inj, tC_B, tC_W, tC_R, tC_P, tC_S, tS_inj, tS_B, tS_W, tS_R, tS_P, tS_C, tM_inj, tM_B, tM_W, tM_R, tM_P, tM_C, tM_S, tB_M, tW_M, tR_M, tP_M, tC_M, tS_M]) P, hHu_d D (by simp [tB_inj, tB_W, tB_R, tB_P, tB_C, tB_S, tW_inj, tW_B, tW_R, tW_P, tW_C, tW_S, tR_inj, tR_B, tR_W, tR_P, tR_C, tR_S, tP_inj, tP_B, tP_W, tP_R, tP_C, tP_S, tC_inj, tC_B, tC_W, tC_R, tC_P, tC_S, tS_inj, tS_B, tS_W, tS_R, tS_P, tS_C, tM_inj, tM_B, tM_W, tM_R, tM_P, tM_C, tM_S, tB_M, tW_M, tR_M, tP_M, tC_M, tS_M]) H, hLe_d D (by simp [tB_inj, tB_W, tB_R, tB_P, tB_C, tB_S, tW_inj, tW_B, tW_R, tW_P, tW_C, tW_S, tR_inj, tR_B, tR_W, tR_P, tR_C, tR_S, tP_inj, tP_B, tP_W, tP_R, tP_C, tP_S, tC_inj, tC_B, tC_W, tC_R, tC_P, tC_S, tS_inj, tS_B, tS_W, tS_R, tS_P, tS_C, tM_inj, tM_B, tM_W, tM_R, tM_P, tM_C, tM_S, tB_M, tW_M, tR_M, tP_M, tC_M, tS_M]) (by simp [tB_inj, tB_W, tB_R, tB_P, tB_C, tB_S, tW_inj, tW_B, tW_R, tW_P, tW_C, tW_S, tR_inj, tR_B, tR_W, tR_P, tR_C, tR_S, tP_inj, tP_B, tP_W, tP_R, tP_C, tP_S, tC_inj, tC_B, tC_W, tC_R, tC_P, tC_S, tS_inj, tS_B, tS_W, tS_R, tS_P, tS_C, tM_inj, tM_B, tM_W, tM_R, tM_P, tM_C, tM_S, tB_M, tW_M, tR_M, tP_M, tC_M, tS_M]) L⟩, F.tr (FM_d D (fun i => by simp [tB_inj, tB_W, tB_R, tB_P, tB_C, tB_S, tW_inj, tW_B, tW_R, tW_P, tW_C, tW_S, tR_inj, tR_B, tR_W, tR_P, tR_C, tR_S, tP_inj, tP_B, tP_W, tP_R, tP_C, tP_S, tC_inj, tC_B, tC_W, tC_R, tC_P, tC_S, tS_inj, tS_B, tS_W, tS_R, tS_P, tS_C, tM_inj, tM_B, tM_W, tM_R, tM_P, tM_C, tM_S, tB_M, tW_M, tR_M, tP_M, tC_M, tS_M]))⟩
theorem s_33 {κ0 κ : AH} {σ : MS} {nb nw np : Nat} {wb : Nat → Nat} (h : RI κ0 κ σ nb nw np wb) {f : Nat → Nat} {n : Nat} : RI κ0 κ (sFn σ f n) nb nw np wb := by
  obtain ⟨I, ⟨G, N, B, W, R, P, H, L⟩, F⟩ := h
  have r : ∀ k, k ≠ 33 → (sFn σ f n).2 k = σ.2 k := fun k hk => sFn_row hk
  refine ⟨⟨I.n8, I.e8, I.n18, I.e18, I.n30, I.e30, I.l6, I.c2, I.h1, (by unfold chn; rw [r 17 (by decide)]; exact I.ch), (by unfold bOK rsOK; simp only [r 9 (by decide), r 10 (by decide), r 11 (by decide), r 12 (by decide), r 13 (by decide), r 17 (by decide)]; exact I.bk), (scT_cg (r 17 (by decide)) (r 9 (by decide)) I.sc), (by unfold fX; simp only [r 9 (by decide), r 10 (by decide), r 11 (by decide), r 12 (by decide), r 25 (by decide)]; exact I.fx), (by unfold fY; simp only [r 9 (by decide), r 10 (by decide), r 11 (by decide), r 12 (by decide), r 25 (by decide)]; exact I.fy), (by unfold emp; simp only [r 25 (by decide), r 26 (by decide), r 27 (by decide), r 28 (by decide), r 29 (by decide)]; exact I.em), (by unfold hSy hb; simp only [r 25 (by decide), r 29 (by decide)]; exact I.ho), (by simp only [r 22 (by decide), r 23 (by decide)]; exact I.wf), (by simp only [r 21 (by decide)]; exact I.rp), (by simp only [r 27 (by decide)]; exact I.th), (by simp only [r 28 (by decide)]; exact I.pi), (by unfold pLn; simp only [r 31 (by decide)]; exact I.pl), (by rw [fCl_cg (r 10 (by decide)) (r 11 (by decide)) (r 13 (by decide)) (r 25 (by decide)) (r 27 (by decide)) (r 28 (by decide)), tns_cg (r 9 (by decide)) (r 13 (by decide)) (r 27 (by decide)) (r 28 (by decide))]; exact I.ta)⟩, ⟨G, hNm_cg (σ := σ) (fun _ _ => rfl) (r 5 (by decide)) N, ?_, ?_, ?_, ?_, ?_, hLe_cg (σ := σ) (r 9 (by decide)) (r 21 (by decide)) rfl rfl L⟩, F⟩
  · unfold hB pB at B ⊢; simp only [r 9 (by decide), r 10 (by decide), r 11 (by decide), r 12 (by decide), r 13 (by decide), r 14 (by decide), r 15 (by decide), r 16 (by decide), r 17 (by decide)]; exact B
  · unfold hW pWl wbK at W ⊢; simp only [r 9 (by decide), r 12 (by decide), r 17 (by decide), r 19 (by decide), r 20 (by decide), r 21 (by decide), r 22 (by decide), r 23 (by decide), r 24 (by decide)]; exact W
  · unfold hRm pRm at R ⊢; simp only [r 25 (by decide), r 26 (by decide), r 27 (by decide), r 28 (by decide), r 29 (by decide)]; exact R
  · unfold hPi pP at P ⊢; simp only [r 31 (by decide), r 32 (by decide)]; exact P
  · unfold hHu at H ⊢; rw [tns_cg (r 9 (by decide)) (r 13 (by decide)) (r 27 (by decide)) (r 28 (by decide)), mom_cg (r 9 (by decide)) (r 10 (by decide)) (r 11 (by decide)) (r 13 (by decide)) (r 27 (by decide)) (r 28 (by decide))]; exact H
theorem sPt_28 {σ : MS} {g : Nat → Nat} {p c : Nat} : (sPt σ g (p + 1)).2 28 c = if c = g p then (sPt σ g p).2 28 (g p) + 1 else (sPt σ g p).2 28 c := by
  show (upA (upA (sPt σ g p) 32 (36 * σ.1 30 + nI p).toNatClampNeg (nI (g p))) 28 (g p) ((sPt σ g p).2 28 (g p) + 1)).2 28 c = _
  simp [upA]
theorem sPt_32 {σ : MS} {g : Nat → Nat} {p i : Nat} : (sPt σ g (p + 1)).2 32 i = if i = (36 * σ.1 30 + nI p).toNatClampNeg then nI (g p) else (sPt σ g p).2 32 i := by
  show (upA (upA (sPt σ g p) 32 (36 * σ.1 30 + nI p).toNatClampNeg (nI (g p))) 28 (g p) ((sPt σ g p).2 28 (g p) + 1)).2 32 i = _
  simp [upA]
/-- what a way run through does to the numbers -/
theorem sPt_all {σ : MS} {nb nw np : Nat} (I : IV σ nb nw np) (hnp : np < 30) {g : Nat → Nat} {N : Nat} (hN : N ≤ 36) (hg : ∀ i, i < N → g i < 36 ∧ ¬ σ.2 25 (g i) = -1) : ∀ p, p ≤ N → tnsN (sPt σ g p) nb = tnsN σ nb + nI p ∧ sm (fCl (sPt σ g p)) 36 = tnsN (sPt σ g p) nb ∧ (∀ c, 0 ≤ ((sPt σ g p).2 28 c).toInt - (σ.2 28 c).toInt ∧ ((sPt σ g p).2 28 c).toInt - (σ.2 28 c).toInt ≤ p ∨ ¬ c < 36) ∧ (∀ c, σ.2 25 c = -1 → (sPt σ g p).2 28 c = σ.2 28 c) ∧ (∀ j, j < p → (sPt σ g p).2 32 (36 * np + j) = nI (g j)) ∧ ∀ i, i < 36 * np → (sPt σ g p).2 32 i = σ.2 32 i
  | 0, _ => by
    refine ⟨?_, I.ta, fun c => Or.inl ⟨?_, ?_⟩, fun _ _ => rfl, fun j hj => absurd hj (Nat.not_lt_zero _), fun _ _ => rfl⟩
    · show tnsN σ nb = tnsN σ nb + 0
      rw [Int32.add_zero]
    · show 0 ≤ (σ.2 28 c).toInt - (σ.2 28 c).toInt
      omega
    · show (σ.2 28 c).toInt - (σ.2 28 c).toInt ≤ (0 : Nat)
      omega
  | p + 1, hp => by
    obtain ⟨i1, i2, i3, i4, i5, i6⟩ := sPt_all I hnp hN hg p (by omega)
    obtain ⟨g1, g2⟩ := hg p (by omega)
    have eidx : (36 * σ.1 30 + nI p).toNatClampNeg = 36 * np + p := by rw [I.e30, px, nI_clamp (by omega)]
    have e28 : ∀ c, (sPt σ g (p + 1)).2 28 c = if c = g p then (sPt σ g p).2 28 (g p) + 1 else (sPt σ g p).2 28 c := fun c => sPt_28
    have e32 : ∀ i, (sPt σ g (p + 1)).2 32 i = if i = 36 * np + p then nI (g p) else (sPt σ g p).2 32 i := fun i => by
      rw [sPt_32, eidx]
    have hf25 : ¬ (upA (sPt σ g p) 32 (36 * σ.1 30 + nI p).toNatClampNeg (nI (g p))).2 25 (g p) = -1 := by
      have e : (upA (sPt σ g p) 32 (36 * σ.1 30 + nI p).toNatClampNeg (nI (g p))).2 25 (g p) = (sPt σ g p).2 25 (g p) := by simp [upA]
      rw [e, sPt_row (by decide) (by decide)]
      exact g2
    obtain ⟨f1, f2, f3⟩ := fC_fit (σ := upA (sPt σ g p) 32 (36 * σ.1 30 + nI p).toNatClampNeg (nI (g p))) (t := 1) hf25 g1 28 (Or.inr rfl)
    have et : tnsN (sPt σ g (p + 1)) nb = tnsN (sPt σ g p) nb + 1 := by
      have e : tnsN (sPt σ g (p + 1)) nb = sm (fTB (sPt σ g p)) nb + sm (fTC (upA (upA (sPt σ g p) 32 (36 * σ.1 30 + nI p).toNatClampNeg (nI (g p))) 28 (g p) ((upA (sPt σ g p) 32 (36 * σ.1 30 + nI p).toNatClampNeg (nI (g p))).2 28 (g p) + 1))) 36 := rfl
      rw [e, f1]
      show sm (fTB (sPt σ g p)) nb + (sm (fTC (sPt σ g p)) 36 + 1) = sm (fTB (sPt σ g p)) nb + sm (fTC (sPt σ g p)) 36 + 1
      rw [Int32.add_assoc]
    refine ⟨?_, ?_, fun c => ?_, fun c hc => ?_, fun j hj => ?_, fun i hi => ?_⟩
    · rw [et, i1, Int32.add_assoc, nI_1]
    · rw [et, ← i2]
      exact f3
    · by_cases hc : c < 36
      · left
        have q := (i3 c).resolve_right (fun z => z hc)
        have b := I.pi c hc
        rw [e28]
        by_cases e : c = g p
        · rw [if_pos e, ← e, Int32.toInt_add, Int.bmod_eq_of_le (by have : (1 : Int32).toInt = 1 := rfl; omega) (by have : (1 : Int32).toInt = 1 := rfl; omega)]
          have : (1 : Int32).toInt = 1 := rfl
          omega
        · rw [if_neg e]; omega
      · right; exact hc
    · rw [e28, if_neg (fun z => g2 (by rw [← z]; exact hc))]
      exact i4 c hc
    · rw [e32]
      by_cases e : j = p
      · rw [if_pos (by omega), e]
      · rw [if_neg (by omega)]; exact i5 j (by omega)
    · rw [e32, if_neg (by omega)]; exact i6 i hi
/-- a way run through, in the component -/
theorem rtH_all {κ : AH} {σ : MS} {nb nw np : Nat} (I : IV σ nb nw np) {g : Nat → Nat} {N : Nat} (hg : ∀ i, i < N → g i < 36 ∧ ¬ σ.2 25 (g i) = -1) (h4 : ∀ c, c < 36 → ¬ σ.2 25 c = -1 → gI κ (tR c) 4 = σ.2 28 c) (hH : hHu κ σ nb) : ∀ p, p ≤ N → (∀ c, c < 36 → ¬ σ.2 25 c = -1 → gI (rtH κ g p) (tR c) 4 = (sPt σ g p).2 28 c) ∧ hHu (rtH κ g p) (sPt σ g p) nb
  | 0, _ => ⟨h4, hH⟩
  | p + 1, hp => by
    obtain ⟨i1, i2⟩ := rtH_all I hg h4 hH p (by omega)
    obtain ⟨g1, g2⟩ := hg p (by omega)
    have e28 : ∀ c, (sPt σ g (p + 1)).2 28 c = if c = g p then (sPt σ g p).2 28 (g p) + 1 else (sPt σ g p).2 28 c := fun c => sPt_28
    have hf25 : ¬ (upA (sPt σ g p) 32 (36 * σ.1 30 + nI p).toNatClampNeg (nI (g p))).2 25 (g p) = -1 := by
      have e : (upA (sPt σ g p) 32 (36 * σ.1 30 + nI p).toNatClampNeg (nI (g p))).2 25 (g p) = (sPt σ g p).2 25 (g p) := by simp [upA]
      rw [e, sPt_row (by decide) (by decide)]
      exact g2
    obtain ⟨f1, f2, f3⟩ := fC_fit (σ := upA (sPt σ g p) 32 (36 * σ.1 30 + nI p).toNatClampNeg (nI (g p))) (t := 1) hf25 g1 28 (Or.inr rfl)
    have ek : rtH κ g (p + 1) = r1H (rtH κ g p) (g p) := rfl
    rw [ek]
    refine ⟨fun c hc hn => ?_, ?_, ?_⟩
    · rw [e28]
      unfold r1H
      rw [gI_sI, if_neg (fun z => tR_S.mp z.1), gI_sI, if_neg (fun z => tR_S.mp z.1), gI_sI]
      by_cases e : c = g p
      · rw [if_pos ⟨by rw [e], rfl⟩, if_pos e, i1 _ g1 g2]
      · rw [if_neg (fun z => e (tR_inj.mp z.1)), if_neg e, i1 c hc hn]
    · have e : tnsN (sPt σ g (p + 1)) nb = sm (fTB (sPt σ g p)) nb + sm (fTC (upA (upA (sPt σ g p) 32 (36 * σ.1 30 + nI p).toNatClampNeg (nI (g p))) 28 (g p) ((upA (sPt σ g p) 32 (36 * σ.1 30 + nI p).toNatClampNeg (nI (g p))).2 28 (g p) + 1))) 36 := rfl
      rw [e, f1]
      have q := i2.1
      unfold r1H
      rw [gI_sI, if_neg (fun z => absurd z.2 (by decide)), gI_sI, if_pos ⟨rfl, rfl⟩, q]
      show sm (fTB (sPt σ g p)) nb + sm (fTC (sPt σ g p)) 36 + 1 = sm (fTB (sPt σ g p)) nb + (sm (fTC (sPt σ g p)) 36 + 1)
      rw [Int32.add_assoc]
    · have e : momN (sPt σ g (p + 1)) nb = sm (fMB (sPt σ g p)) nb + sm (fMC (upA (upA (sPt σ g p) 32 (36 * σ.1 30 + nI p).toNatClampNeg (nI (g p))) 28 (g p) ((upA (sPt σ g p) 32 (36 * σ.1 30 + nI p).toNatClampNeg (nI (g p))).2 28 (g p) + 1))) 36 := rfl
      rw [e, f2]
      have q := i2.2
      unfold r1H
      rw [gI_sI, if_pos ⟨rfl, rfl⟩, q]
      show sm (fMB (sPt σ g p)) nb + sm (fMC (sPt σ g p)) 36 + 1 * (2 * nI (g p % 12)) = sm (fMB (sPt σ g p)) nb + (sm (fMC (sPt σ g p)) 36 + 1 * (2 * nI (g p % 12)))
      rw [Int32.add_assoc]
def pp5 (m : AH) (np N : Nat) (g : Nat → Nat) : AH := sI (sR (sR (nO (skH m np N g N) (tP np) 4 0) (tP np) 0 (some (tC np))) (tS 7) np (some (tP np))) (tS 4) 9 (nI (np + 1))
def pp6 (m : AH) (np N : Nat) (g : Nat → Nat) : AH := rtH (pp5 m np N g) g N
def ppS (σ : MS) (np N : Nat) (g : Nat → Nat) : MS := upS (upA (sPt σ g N) 31 np (nI N)) 30 (nI (np + 1))
theorem ppS_row {σ : MS} {np N k : Nat} {g : Nat → Nat} (h1 : k ≠ 32) (h2 : k ≠ 28) (h3 : k ≠ 31) : (ppS σ np N g).2 k = σ.2 k := by
  funext i
  show (if k = 31 ∧ i = np then _ else (sPt σ g N).2 k i) = _
  rw [if_neg (fun z => h3 z.1), sPt_row h1 h2]
theorem ppS_num {σ : MS} {np N k : Nat} {g : Nat → Nat} (h : k ≠ 30) : (ppS σ np N g).1 k = σ.1 k := by
  show (if k = 30 then _ else (sPt σ g N).1 k) = _
  rw [if_neg h, sPt_num]
theorem ppS_r {σ : MS} {np N k : Nat} {g : Nat → Nat} (h : k ≠ 31) : (ppS σ np N g).2 k = (sPt σ g N).2 k := by
  funext i
  show (if k = 31 ∧ i = np then _ else (sPt σ g N).2 k i) = _
  rw [if_neg (fun z => h z.1)]
theorem ppS_31 {σ : MS} {np N i : Nat} {g : Nat → Nat} : (ppS σ np N g).2 31 i = if i = np then nI N else σ.2 31 i := by
  show (if 31 = 31 ∧ i = np then nI N else (sPt σ g N).2 31 i) = _
  rw [sPt_row (by decide) (by decide)]
  by_cases e : i = np
  · rw [if_pos ⟨rfl, e⟩, if_pos e]
  · rw [if_neg (fun z => e z.2), if_neg e]
theorem sk_D {m : AH} {p N : Nat} {g : Nat → Nat} : ∀ i, Dif (fun t => t = tC p) m (skH m p N g i)
  | 0 => Dif.rfl'.nO rfl
  | i + 1 => (sk_D i).sI rfl
theorem sk_I {m : AH} {p N j : Nat} {g : Nat → Nat} : ∀ i, j < i → gI (skH m p N g i) (tC p) j = nI (g j)
  | 0, h => absurd h (Nat.not_lt_zero _)
  | i + 1, h => by
    show gI (sI (skH m p N g i) (tC p) i (nI (g i))) (tC p) j = _
    rw [gI_sI]
    by_cases e : j = i
    · rw [if_pos ⟨rfl, e⟩, e]
    · rw [if_neg (fun z => e z.2)]
      exact sk_I i (by omega)
theorem pp5_D {m : AH} {np N : Nat} {g : Nat → Nat} : Dif (fun t => t = tC np ∨ t = tP np ∨ t = tS 7 ∨ t = tS 4) m (pp5 m np N g) := by
  unfold pp5
  refine Dif.sI (Dif.sR (Dif.sR (Dif.nO ((sk_D N).mono fun t z => Or.inl z) (Or.inr (Or.inl rfl))) (Or.inr (Or.inl rfl))) (Or.inr (Or.inr (Or.inl rfl)))) (Or.inr (Or.inr (Or.inr rfl)))
theorem rt_D {κ : AH} {g : Nat → Nat} : ∀ p, Dif (fun t => t = tS 0 ∨ ∃ c, t = tR c) κ (rtH κ g p)
  | 0 => Dif.rfl'
  | p + 1 => by
    have e : rtH κ g (p + 1) = r1H (rtH κ g p) (g p) := rfl
    rw [e]
    unfold r1H
    exact (((rt_D p).sI (Or.inr ⟨_, rfl⟩)).sI (Or.inl rfl)).sI (Or.inl rfl)
theorem pp6_D {m : AH} {np N : Nat} {g : Nat → Nat} : Dif (fun t => (t = tC np ∨ t = tP np ∨ t = tS 7 ∨ t = tS 4) ∨ (t = tS 0 ∨ ∃ c, t = tR c)) m (pp6 m np N g) := (pp5_D.mono fun t z => Or.inl z).tr ((rt_D N).mono fun t z => Or.inr z)
theorem pp5_SG {m : AH} {np N : Nat} {g : Nat → Nat} (h : SG m) : SG (pp5 m np N g) := by
  have h0 : SG (skH m np N g N) := skH_SG h N
  have h1 : SG (nO (skH m np N g N) (tP np) 4 0) := SG_nO h0 (fun i _ z => tP_S.mp z)
  have h2 : SG (sR (nO (skH m np N g N) (tP np) 4 0) (tP np) 0 (some (tC np))) := SG_sR h1 (fun i _ z => tP_S.mp z)
  have h3 : SG (sR (sR (nO (skH m np N g N) (tP np) 4 0) (tP np) 0 (some (tC np))) (tS 7) np (some (tP np))) := SG_sR h2 (fun i hi z => by have := tS_inj.mp z; omega)
  exact SG_sI h3
theorem s_pp {κ0 m : AH} {σ : MS} {nb nw np : Nat} {wb : Nat → Nat} (h : RI κ0 m σ nb nw np wb) {N : Nat} {g : Nat → Nat} (hnp : np < 30) (hN : N ≤ 36) (hg : ∀ i, i < N → g i < 36 ∧ ¬ σ.2 25 (g i) = -1) : RI κ0 (pp6 m np N g) (ppS σ np N g) nb nw (np + 1) wb := by
  obtain ⟨I, ⟨G, Nm, B, W, R, P, H, L⟩, F⟩ := h
  have r : ∀ k, k ≠ 32 → k ≠ 28 → k ≠ 31 → (ppS σ np N g).2 k = σ.2 k := fun k a b c => ppS_row a b c
  have u : ∀ k, k ≠ 30 → (ppS σ np N g).1 k = σ.1 k := fun k a => ppS_num a
  obtain ⟨a1, a2, a3, a4, a5, a6⟩ := sPt_all I hnp hN hg N (Nat.le_refl _)
  have D5 := pp5_D (m := m) (np := np) (N := N) (g := g)
  have D := pp6_D (m := m) (np := np) (N := N) (g := g)
  have DR := rt_D (κ := pp5 m np N g) (g := g) N
  have H5 : hHu (pp5 m np N g) σ nb := hHu_d D5 (by simp [tB_inj, tB_W, tB_R, tB_P, tB_C, tB_S, tW_inj, tW_B, tW_R, tW_P, tW_C, tW_S, tR_inj, tR_B, tR_W, tR_P, tR_C, tR_S, tP_inj, tP_B, tP_W, tP_R, tP_C, tP_S, tC_inj, tC_B, tC_W, tC_R, tC_P, tC_S, tS_inj, tS_B, tS_W, tS_R, tS_P, tS_C, tM_inj, tM_B, tM_W, tM_R, tM_P, tM_C, tM_S, tB_M, tW_M, tR_M, tP_M, tC_M, tS_M]) H
  obtain ⟨c1, c2⟩ := rtH_all (κ := pp5 m np N g) I hg (fun c hc hn => ((D5 (tR c) (by simp [tB_inj, tB_W, tB_R, tB_P, tB_C, tB_S, tW_inj, tW_B, tW_R, tW_P, tW_C, tW_S, tR_inj, tR_B, tR_W, tR_P, tR_C, tR_S, tP_inj, tP_B, tP_W, tP_R, tP_C, tP_S, tC_inj, tC_B, tC_W, tC_R, tC_P, tC_S, tS_inj, tS_B, tS_W, tS_R, tS_P, tS_C, tM_inj, tM_B, tM_W, tM_R, tM_P, tM_C, tM_S, tB_M, tW_M, tR_M, tP_M, tC_M, tS_M])).2.2.1 4).trans (R.2.1 c hc hn).1.2.2.2.2.2.1) H5 N (Nat.le_refl _)
  have et : tnsN (ppS σ np N g) nb = tnsN (sPt σ g N) nb := tns_cg (ppS_r (by decide)) (ppS_r (by decide)) (ppS_r (by decide)) (ppS_r (by decide))
  refine ⟨⟨I.n8, ((u 8 (by decide)).trans I.e8), I.n18, ((u 18 (by decide)).trans I.e18), (by omega), rfl, (by rw [u 6 (by decide)]; exact I.l6), (by rw [u 2 (by decide)]; exact I.c2), (by rw [u 1 (by decide)]; exact I.h1), (by unfold chn; rw [r 17 (by decide) (by decide) (by decide)]; exact I.ch), (by unfold bOK rsOK; simp only [r 9 (by decide) (by decide) (by decide), r 10 (by decide) (by decide) (by decide), r 11 (by decide) (by decide) (by decide), r 12 (by decide) (by decide) (by decide), r 13 (by decide) (by decide) (by decide), r 17 (by decide) (by decide) (by decide)]; exact I.bk), (scT_cg (r 17 (by decide) (by decide) (by decide)) (r 9 (by decide) (by decide) (by decide)) I.sc), (by unfold fX; simp only [r 9 (by decide) (by decide) (by decide), r 10 (by decide) (by decide) (by decide), r 11 (by decide) (by decide) (by decide), r 12 (by decide) (by decide) (by decide), r 25 (by decide) (by decide) (by decide)]; exact I.fx), (by unfold fY; simp only [r 9 (by decide) (by decide) (by decide), r 10 (by decide) (by decide) (by decide), r 11 (by decide) (by decide) (by decide), r 12 (by decide) (by decide) (by decide), r 25 (by decide) (by decide) (by decide)]; exact I.fy), ?_, (by unfold hSy hb; simp only [r 25 (by decide) (by decide) (by decide), r 29 (by decide) (by decide) (by decide)]; exact I.ho), (by simp only [r 22 (by decide) (by decide) (by decide), r 23 (by decide) (by decide) (by decide)]; exact I.wf), (by simp only [r 21 (by decide) (by decide) (by decide)]; exact I.rp), (by simp only [r 27 (by decide) (by decide) (by decide)]; exact I.th), ?_, ?_, ?_⟩, ⟨?_, ?_, ?_, ?_, ⟨fun c hc => ?_, fun c hc hn => ?_, fun c hc hn => ?_⟩, ⟨fun p hp => ?_, fun p hp => ?_, fun p hp => ?_⟩, ?_, ?_⟩, F.tr (FM_d D (fun i => by simp [tB_inj, tB_W, tB_R, tB_P, tB_C, tB_S, tW_inj, tW_B, tW_R, tW_P, tW_C, tW_S, tR_inj, tR_B, tR_W, tR_P, tR_C, tR_S, tP_inj, tP_B, tP_W, tP_R, tP_C, tP_S, tC_inj, tC_B, tC_W, tC_R, tC_P, tC_S, tS_inj, tS_B, tS_W, tS_R, tS_P, tS_C, tM_inj, tM_B, tM_W, tM_R, tM_P, tM_C, tM_S, tB_M, tW_M, tR_M, tP_M, tC_M, tS_M]))⟩
  · intro c hc hn
    rw [r 25 (by decide) (by decide) (by decide)] at hn
    obtain ⟨e1, e2, e3, e4⟩ := I.em c hc hn
    rw [r 26 (by decide) (by decide) (by decide), r 27 (by decide) (by decide) (by decide), ppS_r (by decide), a4 c hn, r 29 (by decide) (by decide) (by decide)]
    exact ⟨e1, e2, e3, e4⟩
  · intro c hc
    have q := (a3 c).resolve_right (fun z => z hc)
    have q2 := I.pi c hc
    rw [ppS_r (by decide)]
    omega
  · intro p hp
    rw [ppS_31]
    by_cases e : p = np
    · rw [if_pos e]; exact ⟨N, hN, rfl⟩
    · rw [if_neg e]; exact I.pl p (by omega)
  · rw [et, fCl_cg (σ := sPt σ g N) (ppS_r (by decide)) (ppS_r (by decide)) (ppS_r (by decide)) (ppS_r (by decide)) (ppS_r (by decide)) (ppS_r (by decide))]
    exact a2
  · exact rtH_SG (pp5_SG G) N
  · obtain ⟨⟨n7, n8, n9⟩, ⟨n10, n11, n12, n13, n14⟩, n3, n5⟩ := Nm
    have q4 : ∀ k, k ≠ 9 → gI (pp6 m np N g) (tS 4) k = gI m (tS 4) k := fun k hk => by
      refine ((DR (tS 4) (by simp [tB_inj, tB_W, tB_R, tB_P, tB_C, tB_S, tW_inj, tW_B, tW_R, tW_P, tW_C, tW_S, tR_inj, tR_B, tR_W, tR_P, tR_C, tR_S, tP_inj, tP_B, tP_W, tP_R, tP_C, tP_S, tC_inj, tC_B, tC_W, tC_R, tC_P, tC_S, tS_inj, tS_B, tS_W, tS_R, tS_P, tS_C, tM_inj, tM_B, tM_W, tM_R, tM_P, tM_C, tM_S, tB_M, tW_M, tR_M, tP_M, tC_M, tS_M])).2.2.1 k).trans ?_
      unfold pp5
      rw [gI_sI, if_neg (fun z => hk z.2), gI_sR, gI_sR, gI_nO, if_neg (fun z => tS_P.mp z)]
      exact skH_I (fun z => tS_C.mp z) N
    have q9 : gI (pp6 m np N g) (tS 4) 9 = nI (np + 1) := by
      refine ((DR (tS 4) (by simp [tB_inj, tB_W, tB_R, tB_P, tB_C, tB_S, tW_inj, tW_B, tW_R, tW_P, tW_C, tW_S, tR_inj, tR_B, tR_W, tR_P, tR_C, tR_S, tP_inj, tP_B, tP_W, tP_R, tP_C, tP_S, tC_inj, tC_B, tC_W, tC_R, tC_P, tC_S, tS_inj, tS_B, tS_W, tS_R, tS_P, tS_C, tM_inj, tM_B, tM_W, tM_R, tM_P, tM_C, tM_S, tB_M, tW_M, tR_M, tP_M, tC_M, tS_M])).2.2.1 9).trans ?_
      unfold pp5
      rw [gI_sI, if_pos ⟨rfl, rfl⟩]
    refine ⟨⟨?_, ?_, q9⟩, ⟨?_, ?_, ?_, ?_, ?_⟩, ?_, fun j hj => ?_⟩
    · rw [q4 7 (by decide), u 8 (by decide)]; exact n7
    · rw [q4 8 (by decide), u 18 (by decide)]; exact n8
    · rw [q4 10 (by decide), u 0 (by decide)]; exact n10
    · rw [q4 11 (by decide), u 1 (by decide)]; exact n11
    · rw [q4 12 (by decide), u 2 (by decide)]; exact n12
    · rw [q4 13 (by decide), u 3 (by decide)]; exact n13
    · rw [q4 14 (by decide), u 6 (by decide)]; exact n14
    · rw [(D (tS 3) (by simp [tB_inj, tB_W, tB_R, tB_P, tB_C, tB_S, tW_inj, tW_B, tW_R, tW_P, tW_C, tW_S, tR_inj, tR_B, tR_W, tR_P, tR_C, tR_S, tP_inj, tP_B, tP_W, tP_R, tP_C, tP_S, tC_inj, tC_B, tC_W, tC_R, tC_P, tC_S, tS_inj, tS_B, tS_W, tS_R, tS_P, tS_C, tM_inj, tM_B, tM_W, tM_R, tM_P, tM_C, tM_S, tB_M, tW_M, tR_M, tP_M, tC_M, tS_M])).2.2.1, u 4 (by decide)]; exact n3
    · rw [(D (tS 9) (by simp [tB_inj, tB_W, tB_R, tB_P, tB_C, tB_S, tW_inj, tW_B, tW_R, tW_P, tW_C, tW_S, tR_inj, tR_B, tR_W, tR_P, tR_C, tR_S, tP_inj, tP_B, tP_W, tP_R, tP_C, tP_S, tC_inj, tC_B, tC_W, tC_R, tC_P, tC_S, tS_inj, tS_B, tS_W, tS_R, tS_P, tS_C, tM_inj, tM_B, tM_W, tM_R, tM_P, tM_C, tM_S, tB_M, tW_M, tR_M, tP_M, tC_M, tS_M])).2.2.1, r 5 (by decide) (by decide) (by decide)]; exact n5 j hj
  · have q := hB_d D (by simp [tB_inj, tB_W, tB_R, tB_P, tB_C, tB_S, tW_inj, tW_B, tW_R, tW_P, tW_C, tW_S, tR_inj, tR_B, tR_W, tR_P, tR_C, tR_S, tP_inj, tP_B, tP_W, tP_R, tP_C, tP_S, tC_inj, tC_B, tC_W, tC_R, tC_P, tC_S, tS_inj, tS_B, tS_W, tS_R, tS_P, tS_C, tM_inj, tM_B, tM_W, tM_R, tM_P, tM_C, tM_S, tB_M, tW_M, tR_M, tP_M, tC_M, tS_M]) (fun i => by simp [tB_inj, tB_W, tB_R, tB_P, tB_C, tB_S, tW_inj, tW_B, tW_R, tW_P, tW_C, tW_S, tR_inj, tR_B, tR_W, tR_P, tR_C, tR_S, tP_inj, tP_B, tP_W, tP_R, tP_C, tP_S, tC_inj, tC_B, tC_W, tC_R, tC_P, tC_S, tS_inj, tS_B, tS_W, tS_R, tS_P, tS_C, tM_inj, tM_B, tM_W, tM_R, tM_P, tM_C, tM_S, tB_M, tW_M, tR_M, tP_M, tC_M, tS_M]) B
    unfold hB pB at q ⊢; simp only [r 9 (by decide) (by decide) (by decide), r 10 (by decide) (by decide) (by decide), r 11 (by decide) (by decide) (by decide), r 12 (by decide) (by decide) (by decide), r 13 (by decide) (by decide) (by decide), r 14 (by decide) (by decide) (by decide), r 15 (by decide) (by decide) (by decide), r 16 (by decide) (by decide) (by decide), r 17 (by decide) (by decide) (by decide)]; exact q
  · have q := hW_d D (by simp [tB_inj, tB_W, tB_R, tB_P, tB_C, tB_S, tW_inj, tW_B, tW_R, tW_P, tW_C, tW_S, tR_inj, tR_B, tR_W, tR_P, tR_C, tR_S, tP_inj, tP_B, tP_W, tP_R, tP_C, tP_S, tC_inj, tC_B, tC_W, tC_R, tC_P, tC_S, tS_inj, tS_B, tS_W, tS_R, tS_P, tS_C, tM_inj, tM_B, tM_W, tM_R, tM_P, tM_C, tM_S, tB_M, tW_M, tR_M, tP_M, tC_M, tS_M]) (fun i => by simp [tB_inj, tB_W, tB_R, tB_P, tB_C, tB_S, tW_inj, tW_B, tW_R, tW_P, tW_C, tW_S, tR_inj, tR_B, tR_W, tR_P, tR_C, tR_S, tP_inj, tP_B, tP_W, tP_R, tP_C, tP_S, tC_inj, tC_B, tC_W, tC_R, tC_P, tC_S, tS_inj, tS_B, tS_W, tS_R, tS_P, tS_C, tM_inj, tM_B, tM_W, tM_R, tM_P, tM_C, tM_S, tB_M, tW_M, tR_M, tP_M, tC_M, tS_M]) W
    unfold hW pWl wbK at q ⊢; simp only [r 9 (by decide) (by decide) (by decide), r 12 (by decide) (by decide) (by decide), r 17 (by decide) (by decide) (by decide), r 19 (by decide) (by decide) (by decide), r 20 (by decide) (by decide) (by decide), r 21 (by decide) (by decide) (by decide), r 22 (by decide) (by decide) (by decide), r 23 (by decide) (by decide) (by decide), r 24 (by decide) (by decide) (by decide)]; exact q
  · rw [r 25 (by decide) (by decide) (by decide)]
    exact ((D (tS 8) (by simp [tB_inj, tB_W, tB_R, tB_P, tB_C, tB_S, tW_inj, tW_B, tW_R, tW_P, tW_C, tW_S, tR_inj, tR_B, tR_W, tR_P, tR_C, tR_S, tP_inj, tP_B, tP_W, tP_R, tP_C, tP_S, tC_inj, tC_B, tC_W, tC_R, tC_P, tC_S, tS_inj, tS_B, tS_W, tS_R, tS_P, tS_C, tM_inj, tM_B, tM_W, tM_R, tM_P, tM_C, tM_S, tB_M, tW_M, tR_M, tP_M, tC_M, tS_M])).2.2.2 c).trans (R.1 c hc)
  · rw [r 25 (by decide) (by decide) (by decide)] at hn ⊢
    obtain ⟨q, j, hj, ej⟩ := R.2.1 c hc hn
    refine ⟨?_, j, hj, ej⟩
    obtain ⟨q1, q2, q3, q4, q5, q6, q7⟩ := q
    have w : ∀ k, k ≠ 4 → gI (pp6 m np N g) (tR c) k = gI m (tR c) k := fun k hk => by
      refine Eq.trans ?_ ((D5 (tR c) (by simp [tB_inj, tB_W, tB_R, tB_P, tB_C, tB_S, tW_inj, tW_B, tW_R, tW_P, tW_C, tW_S, tR_inj, tR_B, tR_W, tR_P, tR_C, tR_S, tP_inj, tP_B, tP_W, tP_R, tP_C, tP_S, tC_inj, tC_B, tC_W, tC_R, tC_P, tC_S, tS_inj, tS_B, tS_W, tS_R, tS_P, tS_C, tM_inj, tM_B, tM_W, tM_R, tM_P, tM_C, tM_S, tB_M, tW_M, tR_M, tP_M, tC_M, tS_M])).2.2.1 k)
      exact rtH_I (fun d _ => hk) (fun z => tR_S.mp z) N
    refine ⟨((rtH_T N).trans (D5 (tR c) (by simp [tB_inj, tB_W, tB_R, tB_P, tB_C, tB_S, tW_inj, tW_B, tW_R, tW_P, tW_C, tW_S, tR_inj, tR_B, tR_W, tR_P, tR_C, tR_S, tP_inj, tP_B, tP_W, tP_R, tP_C, tP_S, tC_inj, tC_B, tC_W, tC_R, tC_P, tC_S, tS_inj, tS_B, tS_W, tS_R, tS_P, tS_C, tM_inj, tM_B, tM_W, tM_R, tM_P, tM_C, tM_S, tB_M, tW_M, tR_M, tP_M, tC_M, tS_M])).1).trans q1, (w 0 (by decide)).trans q2, ?_, ?_, ?_, ?_, ?_⟩
    · rw [r 25 (by decide) (by decide) (by decide)]
      exact ((rtH_R N).trans ((D5 (tR c) (by simp [tB_inj, tB_W, tB_R, tB_P, tB_C, tB_S, tW_inj, tW_B, tW_R, tW_P, tW_C, tW_S, tR_inj, tR_B, tR_W, tR_P, tR_C, tR_S, tP_inj, tP_B, tP_W, tP_R, tP_C, tP_S, tC_inj, tC_B, tC_W, tC_R, tC_P, tC_S, tS_inj, tS_B, tS_W, tS_R, tS_P, tS_C, tM_inj, tM_B, tM_W, tM_R, tM_P, tM_C, tM_S, tB_M, tW_M, tR_M, tP_M, tC_M, tS_M])).2.2.2 1)).trans q3
    · rw [w 2 (by decide), r 26 (by decide) (by decide) (by decide)]; exact q4
    · rw [w 3 (by decide), r 27 (by decide) (by decide) (by decide)]; exact q5
    · rw [ppS_r (by decide)]; exact c1 c hc hn
    · rw [w 5 (by decide), r 29 (by decide) (by decide) (by decide)]; exact q7
  · rw [r 25 (by decide) (by decide) (by decide)] at hn
    exact ((rtH_T N).trans (D5 (tR c) (by simp [tB_inj, tB_W, tB_R, tB_P, tB_C, tB_S, tW_inj, tW_B, tW_R, tW_P, tW_C, tW_S, tR_inj, tR_B, tR_W, tR_P, tR_C, tR_S, tP_inj, tP_B, tP_W, tP_R, tP_C, tP_S, tC_inj, tC_B, tC_W, tC_R, tC_P, tC_S, tS_inj, tS_B, tS_W, tS_R, tS_P, tS_C, tM_inj, tM_B, tM_W, tM_R, tM_P, tM_C, tM_S, tB_M, tW_M, tR_M, tP_M, tC_M, tS_M])).1).trans (R.2.2 c hc hn)
  · have e1 : gR (pp6 m np N g) (tS 7) p = if p = np then some (tP np) else gR m (tS 7) p := by
      refine (rtH_R N).trans ?_
      unfold pp5
      rw [gR_sI, gR_sR]
      by_cases e : p = np
      · rw [if_pos ⟨rfl, e⟩, if_pos e]
      · rw [if_neg (fun z => e z.2), if_neg e, gR_sR, if_neg (fun z => tS_P.mp z.1), gR_nO, if_neg (fun z => tS_P.mp z)]
        exact skH_R (fun z => tS_C.mp z) N
    rw [e1, P.1 p hp]
    by_cases e : p = np
    · rw [if_pos e, if_pos (by omega), e]
    · rw [if_neg e]
      by_cases e2 : p < np
      · rw [if_pos e2, if_pos (by omega)]
      · rw [if_neg e2, if_neg (by omega)]
  · by_cases e : p = np
    · subst e
      have w : ∀ t, t = tP p ∨ t = tC p → gT (pp6 m p N g) t = gT (pp5 m p N g) t ∧ gN (pp6 m p N g) t = gN (pp5 m p N g) t ∧ (∀ k, gI (pp6 m p N g) t k = gI (pp5 m p N g) t k) ∧ ∀ k, gR (pp6 m p N g) t k = gR (pp5 m p N g) t k := fun t ht => DR t (by rcases ht with rfl | rfl <;> simp [tB_inj, tB_W, tB_R, tB_P, tB_C, tB_S, tW_inj, tW_B, tW_R, tW_P, tW_C, tW_S, tR_inj, tR_B, tR_W, tR_P, tR_C, tR_S, tP_inj, tP_B, tP_W, tP_R, tP_C, tP_S, tC_inj, tC_B, tC_W, tC_R, tC_P, tC_S, tS_inj, tS_B, tS_W, tS_R, tS_P, tS_C, tM_inj, tM_B, tM_W, tM_R, tM_P, tM_C, tM_S, tB_M, tW_M, tR_M, tP_M, tC_M, tS_M])
      obtain ⟨x1, x2, x3, x4⟩ := w _ (Or.inl rfl)
      obtain ⟨y1, y2, y3, y4⟩ := w _ (Or.inr rfl)
      have eN : ((ppS σ p N g).2 31 p).toNatClampNeg = N := by rw [ppS_31, if_pos rfl, nI_clamp (by omega)]
      unfold pP
      rw [x1, x4, y1, y2, eN]
      refine ⟨?_, ?_, ?_, ?_, fun j hj => ?_⟩
      · simp [pp5, gT_sI, gT_sR, gT_nO]
      · simp [pp5, gR_sI, gR_sR, tB_inj, tB_W, tB_R, tB_P, tB_C, tB_S, tW_inj, tW_B, tW_R, tW_P, tW_C, tW_S, tR_inj, tR_B, tR_W, tR_P, tR_C, tR_S, tP_inj, tP_B, tP_W, tP_R, tP_C, tP_S, tC_inj, tC_B, tC_W, tC_R, tC_P, tC_S, tS_inj, tS_B, tS_W, tS_R, tS_P, tS_C, tM_inj, tM_B, tM_W, tM_R, tM_P, tM_C, tM_S, tB_M, tW_M, tR_M, tP_M, tC_M, tS_M]
      · have := (skH_TC (m := m) (p := p) (N := N) (g := g) N).1
        simp [pp5, gT_sI, gT_sR, gT_nO, tB_inj, tB_W, tB_R, tB_P, tB_C, tB_S, tW_inj, tW_B, tW_R, tW_P, tW_C, tW_S, tR_inj, tR_B, tR_W, tR_P, tR_C, tR_S, tP_inj, tP_B, tP_W, tP_R, tP_C, tP_S, tC_inj, tC_B, tC_W, tC_R, tC_P, tC_S, tS_inj, tS_B, tS_W, tS_R, tS_P, tS_C, tM_inj, tM_B, tM_W, tM_R, tM_P, tM_C, tM_S, tB_M, tW_M, tR_M, tP_M, tC_M, tS_M, this]
      · have := (skH_TC (m := m) (p := p) (N := N) (g := g) N).2
        simp [pp5, gN_sI, gN_sR, gN_nO, tB_inj, tB_W, tB_R, tB_P, tB_C, tB_S, tW_inj, tW_B, tW_R, tW_P, tW_C, tW_S, tR_inj, tR_B, tR_W, tR_P, tR_C, tR_S, tP_inj, tP_B, tP_W, tP_R, tP_C, tP_S, tC_inj, tC_B, tC_W, tC_R, tC_P, tC_S, tS_inj, tS_B, tS_W, tS_R, tS_P, tS_C, tM_inj, tM_B, tM_W, tM_R, tM_P, tM_C, tM_S, tB_M, tW_M, tR_M, tP_M, tC_M, tS_M, this]
      · rw [y3, ppS_r (by decide), a5 j hj]
        have := sk_I (m := m) (p := p) (N := N) (g := g) N hj
        simp [pp5, gI_sI, gI_sR, gI_nO, tB_inj, tB_W, tB_R, tB_P, tB_C, tB_S, tW_inj, tW_B, tW_R, tW_P, tW_C, tW_S, tR_inj, tR_B, tR_W, tR_P, tR_C, tR_S, tP_inj, tP_B, tP_W, tP_R, tP_C, tP_S, tC_inj, tC_B, tC_W, tC_R, tC_P, tC_S, tS_inj, tS_B, tS_W, tS_R, tS_P, tS_C, tM_inj, tM_B, tM_W, tM_R, tM_P, tM_C, tM_S, tB_M, tW_M, tR_M, tP_M, tC_M, tS_M, this]
    · have hp2 : p < np := by omega
      have q := P.2.1 p hp2
      obtain ⟨n, hn, en⟩ := I.pl p hp2
      obtain ⟨x1, x2, x3, x4⟩ := D (tP p) (by simp [tB_inj, tB_W, tB_R, tB_P, tB_C, tB_S, tW_inj, tW_B, tW_R, tW_P, tW_C, tW_S, tR_inj, tR_B, tR_W, tR_P, tR_C, tR_S, tP_inj, tP_B, tP_W, tP_R, tP_C, tP_S, tC_inj, tC_B, tC_W, tC_R, tC_P, tC_S, tS_inj, tS_B, tS_W, tS_R, tS_P, tS_C, tM_inj, tM_B, tM_W, tM_R, tM_P, tM_C, tM_S, tB_M, tW_M, tR_M, tP_M, tC_M, tS_M, e])
      obtain ⟨y1, y2, y3, y4⟩ := D (tC p) (by simp [tB_inj, tB_W, tB_R, tB_P, tB_C, tB_S, tW_inj, tW_B, tW_R, tW_P, tW_C, tW_S, tR_inj, tR_B, tR_W, tR_P, tR_C, tR_S, tP_inj, tP_B, tP_W, tP_R, tP_C, tP_S, tC_inj, tC_B, tC_W, tC_R, tC_P, tC_S, tS_inj, tS_B, tS_W, tS_R, tS_P, tS_C, tM_inj, tM_B, tM_W, tM_R, tM_P, tM_C, tM_S, tB_M, tW_M, tR_M, tP_M, tC_M, tS_M, e])
      unfold pP at q ⊢
      rw [ppS_31, if_neg e, x1, x4, y1, y2]
      refine ⟨q.1, q.2.1, q.2.2.1, q.2.2.2.1, fun j hj => ?_⟩
      rw [y3, q.2.2.2.2 j hj, ppS_r (by decide), a6]
      rw [en, nI_clamp (by omega)] at hj
      omega
  · obtain ⟨x1, -⟩ := D (tP p) (by simp [tB_inj, tB_W, tB_R, tB_P, tB_C, tB_S, tW_inj, tW_B, tW_R, tW_P, tW_C, tW_S, tR_inj, tR_B, tR_W, tR_P, tR_C, tR_S, tP_inj, tP_B, tP_W, tP_R, tP_C, tP_S, tC_inj, tC_B, tC_W, tC_R, tC_P, tC_S, tS_inj, tS_B, tS_W, tS_R, tS_P, tS_C, tM_inj, tM_B, tM_W, tM_R, tM_P, tM_C, tM_S, tB_M, tW_M, tR_M, tP_M, tC_M, tS_M]; omega)
    obtain ⟨y1, -⟩ := D (tC p) (by simp [tB_inj, tB_W, tB_R, tB_P, tB_C, tB_S, tW_inj, tW_B, tW_R, tW_P, tW_C, tW_S, tR_inj, tR_B, tR_W, tR_P, tR_C, tR_S, tP_inj, tP_B, tP_W, tP_R, tP_C, tP_S, tC_inj, tC_B, tC_W, tC_R, tC_P, tC_S, tS_inj, tS_B, tS_W, tS_R, tS_P, tS_C, tM_inj, tM_B, tM_W, tM_R, tM_P, tM_C, tM_S, tB_M, tW_M, tR_M, tP_M, tC_M, tS_M]; omega)
    rw [x1, y1]
    exact P.2.2 p (by omega)
  · unfold hHu at c2 ⊢
    rw [et, mom_cg (σ := sPt σ g N) (ppS_r (by decide)) (ppS_r (by decide)) (ppS_r (by decide)) (ppS_r (by decide)) (ppS_r (by decide)) (ppS_r (by decide))]
    exact c2
  · exact hLe_cg (σ := σ) (r 9 (by decide) (by decide) (by decide)) (r 21 (by decide) (by decide) (by decide)) (u 6 (by decide)) (u 7 (by decide)) (hLe_d D (by simp [tB_inj, tB_W, tB_R, tB_P, tB_C, tB_S, tW_inj, tW_B, tW_R, tW_P, tW_C, tW_S, tR_inj, tR_B, tR_W, tR_P, tR_C, tR_S, tP_inj, tP_B, tP_W, tP_R, tP_C, tP_S, tC_inj, tC_B, tC_W, tC_R, tC_P, tC_S, tS_inj, tS_B, tS_W, tS_R, tS_P, tS_C, tM_inj, tM_B, tM_W, tM_R, tM_P, tM_C, tM_S, tB_M, tW_M, tR_M, tP_M, tC_M, tS_M]) (by simp [tB_inj, tB_W, tB_R, tB_P, tB_C, tB_S, tW_inj, tW_B, tW_R, tW_P, tW_C, tW_S, tR_inj, tR_B, tR_W, tR_P, tR_C, tR_S, tP_inj, tP_B, tP_W, tP_R, tP_C, tP_S, tC_inj, tC_B, tC_W, tC_R, tC_P, tC_S, tS_inj, tS_B, tS_W, tS_R, tS_P, tS_C, tM_inj, tM_B, tM_W, tM_R, tM_P, tM_C, tM_S, tB_M, tW_M, tR_M, tP_M, tC_M, tS_M]) L)


/-! WHAT ALWAYS HOLDS, 7: a part; a weld made -/
def prS (σ : MS) (a n : Nat) : MS := upA (upA σ 9 a 1) 17 a (nI n)
theorem prS_row {σ : MS} {a n k : Nat} (h1 : k ≠ 9) (h2 : k ≠ 17) : (prS σ a n).2 k = σ.2 k := by
  funext i
  show (if k = 17 ∧ i = a then _ else if k = 9 ∧ i = a then _ else σ.2 k i) = _
  rw [if_neg (fun z => h2 z.1), if_neg (fun z => h1 z.1)]
theorem prS_9 {σ : MS} {a n i : Nat} : (prS σ a n).2 9 i = if i = a then 1 else σ.2 9 i := by simp [prS, upA]
theorem prS_17 {σ : MS} {a n i : Nat} : (prS σ a n).2 17 i = if i = a then nI n else σ.2 17 i := by simp [prS, upA]
theorem prS_2 {σ : MS} {a n i : Nat} (h : σ.2 9 a = 0) : (prS σ a n).2 9 i = 2 ↔ σ.2 9 i = 2 := by
  rw [prS_9]
  by_cases e : i = a
  · rw [if_pos e, e, h]; decide
  · rw [if_neg e]
theorem whN_pr {σ : MS} {nb a n : Nat} (hc : chn σ nb) (h17 : σ.2 17 a = -1) (hn : n < nb) (hn17 : σ.2 17 n = -1) (hne : a ≠ n) (ha : a < nb) : ∀ (m j : Nat), j < nb → nb ≤ m + j → whN (prS σ a n) m (nI j) = if whN σ m (nI j) = nI a then nI n else whN σ m (nI j)
  | 0, j, hj, hm => by omega
  | m + 1, j, hj, hm => by
    have h60 := hc.1
    have e : (nI j).toNatClampNeg = j := nI_clamp (by omega)
    have en : (nI n).toNatClampNeg = n := nI_clamp (by omega)
    unfold whN
    rw [e, prS_17]
    by_cases q : j = a
    · have w : whN (prS σ a n) m (nI n) = nI n := by
        cases m with
        | zero => rfl
        | succ m =>
          unfold whN
          rw [en, show (prS σ a n).2 17 n = -1 from by rw [prS_17, if_neg (fun z => hne z.symm)]; exact hn17, if_pos rfl]
      rw [if_pos q, if_neg (nI_mm (by omega)), w, q, if_pos h17, if_pos rfl]
    · rw [if_neg q]
      rcases hc.2 j hj with h1 | ⟨k, h1, h2, h3⟩
      · rw [if_pos h1, if_pos h1, if_neg (fun z => q ((nI_eq (by omega) (by omega)).mp z))]
      · rw [h3, if_neg (nI_mm (by omega)), if_neg (nI_mm (by omega))]
        exact whN_pr hc h17 hn hn17 hne ha m k h2 (by omega)
theorem whI_pr {σ : MS} {nb a n i : Nat} (hc : chn σ nb) (h17 : σ.2 17 a = -1) (hn : n < nb) (hn17 : σ.2 17 n = -1) (hne : a ≠ n) (ha : a < nb) (hi : i < nb) : whI (prS σ a n) i = if whI σ i = a then n else whI σ i := by
  have h60 := hc.1
  have e := whN_pr hc h17 hn hn17 hne ha 60 i hi (by omega)
  have e2 : whN σ 60 (nI i) = nI (whI σ i) := (whI_rt hc hi).2.1
  have e3 := (whI_rt hc hi).1
  show (whN (prS σ a n) 60 (nI i)).toNatClampNeg = _
  rw [e, e2]
  by_cases q : whI σ i = a
  · rw [if_pos (by rw [q]), if_pos q, nI_clamp (by omega)]
  · rw [if_neg (fun z => q ((nI_eq (by omega) (by omega)).mp z)), if_neg q, nI_clamp (by omega)]
theorem tns_pr {σ : MS} {nb a n : Nat} (h0 : σ.2 9 a = 0) : tnsN (prS σ a n) nb = tnsN σ nb ∧ momN (prS σ a n) nb = momN σ nb := by
  have r : ∀ k, k ≠ 9 → k ≠ 17 → (prS σ a n).2 k = σ.2 k := fun k h h2 => prS_row h h2
  constructor
  · unfold tnsN
    rw [show fTB (prS σ a n) = fTB σ from funext fun j => by unfold fTB; simp only [prS_2 h0, r 13 (by decide) (by decide)], show fTC (prS σ a n) = fTC σ from funext fun c => by unfold fTC; rw [r 27 (by decide) (by decide), r 28 (by decide) (by decide)]]
  · unfold momN
    rw [show fMB (prS σ a n) = fMB σ from funext fun j => by unfold fMB; simp only [prS_2 h0, r 13 (by decide) (by decide), r 10 (by decide) (by decide), r 11 (by decide) (by decide)], show fMC (prS σ a n) = fMC σ from funext fun c => by unfold fMC; rw [r 27 (by decide) (by decide), r 28 (by decide) (by decide)]]
theorem nEn_pr {σ : MS} {nb nw a n : Nat} (h0 : σ.2 9 a = 0) : nEn (prS σ a n) nb nw = nEn σ nb nw := by
  unfold nEn
  rw [nSt_cg (σ := σ) (σ' := prS σ a n) nb (fun j hj => prS_2 h0), nRp_cg (σ := σ) (σ' := prS σ a n) nw (fun j hj => by rw [prS_row (by decide) (by decide)])]
  rfl
theorem IV_pr {σ : MS} {nb nw np a n : Nat} (I : IV σ nb nw np) (ha : a < n) (hn : n < nb) (h0 : σ.2 9 a = 0) (hn0 : σ.2 9 n = 0) : IV (prS σ a n) nb nw np := by
  have h8 := I.n8
  have r : ∀ k, k ≠ 9 → k ≠ 17 → (prS σ a n).2 k = σ.2 k := fun k h h2 => prS_row h h2
  have h17 := (I.bk a (by omega)).2.2 (Or.inl h0)
  have hn17 := (I.bk n hn).2.2 (Or.inl hn0)
  refine ⟨I.n8, I.e8, I.n18, I.e18, I.n30, I.e30, I.l6, I.c2, I.h1, ?_, ?_, ?_, ?_, ?_, (by unfold emp; simp only [r 25 (by decide) (by decide), r 26 (by decide) (by decide), r 27 (by decide) (by decide), r 28 (by decide) (by decide), r 29 (by decide) (by decide)]; exact I.em), (by unfold hSy hb; simp only [r 25 (by decide) (by decide), r 29 (by decide) (by decide)]; exact I.ho), (by simp only [r 22 (by decide) (by decide), r 23 (by decide) (by decide)]; exact I.wf), (by simp only [r 21 (by decide) (by decide)]; exact I.rp), (by simp only [r 27 (by decide) (by decide)]; exact I.th), (by simp only [r 28 (by decide) (by decide)]; exact I.pi), (by unfold pLn; simp only [r 31 (by decide) (by decide)]; exact I.pl), ?_⟩
  · refine ⟨I.n8, fun i hi => ?_⟩
    rw [prS_17]
    by_cases e : i = a
    · rw [if_pos e, e]; exact Or.inr ⟨n, ha, hn, rfl⟩
    · rw [if_neg e]; exact I.ch.2 i hi
  · intro i hi
    have q := I.bk i hi
    unfold bOK rsOK at q ⊢
    simp only [r 10 (by decide) (by decide), r 11 (by decide) (by decide), r 12 (by decide) (by decide), r 13 (by decide) (by decide)]
    refine ⟨q.1, q.2.1, fun z => ?_⟩
    rw [prS_9] at z
    rw [prS_17]
    by_cases e : i = a
    · rw [if_pos e] at z; exact z.elim (fun z => absurd z (by decide)) (fun z => absurd z (by decide))
    · rw [if_neg e] at z ⊢; exact q.2.2 z
  · intro i hi
    have q := I.sc i hi
    have w := whI_rt I.ch hi
    rw [whI_pr I.ch h17 hn hn17 (by omega) (by omega) hi, prS_9, prS_9]
    by_cases e : whI σ i = a
    · rw [if_pos e, if_neg (by omega), hn0]
      rw [e, h0] at q
      by_cases e2 : i = a
      · rw [if_pos e2]; decide
      · rw [if_neg e2]; exact q
    · have e2 : ¬ i = a := fun z => e (by rw [z]; exact whI_root (by omega) h17)
      rw [if_neg e, if_neg e, if_neg e2]; exact q
  · intro c hc hm
    rw [r 25 (by decide) (by decide)] at hm ⊢
    obtain ⟨j, a1, a2, a3, a4, a5, a6⟩ := I.fx c hc hm
    exact ⟨j, a1, a2, (prS_2 h0).mpr a3, by rw [r 12 (by decide) (by decide)]; exact a4, by rw [r 10 (by decide) (by decide)]; exact a5, by rw [r 11 (by decide) (by decide)]; exact a6⟩
  · intro j hj h2
    simp only [r 10 (by decide) (by decide), r 11 (by decide) (by decide), r 12 (by decide) (by decide), r 25 (by decide) (by decide)]
    exact I.fy j hj ((prS_2 h0).mp h2)
  · rw [(tns_pr h0).1, fCl_cg (r 10 (by decide) (by decide)) (r 11 (by decide) (by decide)) (r 13 (by decide) (by decide)) (r 25 (by decide) (by decide)) (r 27 (by decide) (by decide)) (r 28 (by decide) (by decide))]
    exact I.ta
def prH (κ : AH) (a n : Nat) : AH := sR (sI κ (tB a) 8 1) (tB a) 9 (some (tB n))
theorem x_pr {κ : AH} {σ : MS} {nb nw np : Nat} {wb : Nat → Nat} {T M m : Int32} {n : Nat} (h : RX κ σ nb nw np wb T M n m) {a b : Nat} (h0 : σ.2 9 a = 0) (hb : b < 2 ^ 31) : RX (prH κ a b) (prS σ a b) nb nw np wb T M n m := by
  obtain ⟨G, N, B, W, R, P, H, L⟩ := h
  have r : ∀ k, k ≠ 9 → k ≠ 17 → (prS σ a b).2 k = σ.2 k := fun k h h2 => prS_row h h2
  have D : Dif (fun t => t = tB a) κ (prH κ a b) := by
    unfold prH
    exact (by repeat' first | exact Dif.rfl' | exact rfl | exact Or.inl rfl | exact Or.inr rfl | exact Or.inr (Or.inl rfl) | exact Or.inr (Or.inr rfl) | exact Or.inr (Or.inr (Or.inl rfl)) | exact Or.inr (Or.inr (Or.inr rfl)) | exact ⟨_, rfl⟩ | apply Dif.sI | apply Dif.sR | apply Dif.nO)
  obtain ⟨b1, b2, b3⟩ := B
  obtain ⟨w1, w2, w3⟩ := W
  refine ⟨?_, ?_, ⟨fun i hi => ?_, fun i hi => ?_, fun i hi => ?_⟩, ⟨fun i hi => ?_, fun i hi => ?_, fun i hi => ?_⟩, ?_, ?_, hHu_d' D (by simp [tB_inj, tB_W, tB_R, tB_P, tB_C, tB_S, tW_inj, tW_B, tW_R, tW_P, tW_C, tW_S, tR_inj, tR_B, tR_W, tR_P, tR_C, tR_S, tP_inj, tP_B, tP_W, tP_R, tP_C, tP_S, tC_inj, tC_B, tC_W, tC_R, tC_P, tC_S, tS_inj, tS_B, tS_W, tS_R, tS_P, tS_C, tM_inj, tM_B, tM_W, tM_R, tM_P, tM_C, tM_S, tB_M, tW_M, tR_M, tP_M, tC_M, tS_M]) H, hLe_d' D (by simp [tB_inj, tB_W, tB_R, tB_P, tB_C, tB_S, tW_inj, tW_B, tW_R, tW_P, tW_C, tW_S, tR_inj, tR_B, tR_W, tR_P, tR_C, tR_S, tP_inj, tP_B, tP_W, tP_R, tP_C, tP_S, tC_inj, tC_B, tC_W, tC_R, tC_P, tC_S, tS_inj, tS_B, tS_W, tS_R, tS_P, tS_C, tM_inj, tM_B, tM_W, tM_R, tM_P, tM_C, tM_S, tB_M, tW_M, tR_M, tP_M, tC_M, tS_M]) (by simp [tB_inj, tB_W, tB_R, tB_P, tB_C, tB_S, tW_inj, tW_B, tW_R, tW_P, tW_C, tW_S, tR_inj, tR_B, tR_W, tR_P, tR_C, tR_S, tP_inj, tP_B, tP_W, tP_R, tP_C, tP_S, tC_inj, tC_B, tC_W, tC_R, tC_P, tC_S, tS_inj, tS_B, tS_W, tS_R, tS_P, tS_C, tM_inj, tM_B, tM_W, tM_R, tM_P, tM_C, tM_S, tB_M, tW_M, tR_M, tP_M, tC_M, tS_M]) L⟩
  · exact SG_d D (fun i hi z => tS_B.mp z) G
  · exact hNm_cg (σ := σ) (fun _ _ => rfl) (r 5 (by decide) (by decide)) (hNm_d D (by simp [tB_inj, tB_W, tB_R, tB_P, tB_C, tB_S, tW_inj, tW_B, tW_R, tW_P, tW_C, tW_S, tR_inj, tR_B, tR_W, tR_P, tR_C, tR_S, tP_inj, tP_B, tP_W, tP_R, tP_C, tP_S, tC_inj, tC_B, tC_W, tC_R, tC_P, tC_S, tS_inj, tS_B, tS_W, tS_R, tS_P, tS_C, tM_inj, tM_B, tM_W, tM_R, tM_P, tM_C, tM_S, tB_M, tW_M, tR_M, tP_M, tC_M, tS_M]) (by simp [tB_inj, tB_W, tB_R, tB_P, tB_C, tB_S, tW_inj, tW_B, tW_R, tW_P, tW_C, tW_S, tR_inj, tR_B, tR_W, tR_P, tR_C, tR_S, tP_inj, tP_B, tP_W, tP_R, tP_C, tP_S, tC_inj, tC_B, tC_W, tC_R, tC_P, tC_S, tS_inj, tS_B, tS_W, tS_R, tS_P, tS_C, tM_inj, tM_B, tM_W, tM_R, tM_P, tM_C, tM_S, tB_M, tW_M, tR_M, tP_M, tC_M, tS_M]) (by simp [tB_inj, tB_W, tB_R, tB_P, tB_C, tB_S, tW_inj, tW_B, tW_R, tW_P, tW_C, tW_S, tR_inj, tR_B, tR_W, tR_P, tR_C, tR_S, tP_inj, tP_B, tP_W, tP_R, tP_C, tP_S, tC_inj, tC_B, tC_W, tC_R, tC_P, tC_S, tS_inj, tS_B, tS_W, tS_R, tS_P, tS_C, tM_inj, tM_B, tM_W, tM_R, tM_P, tM_C, tM_S, tB_M, tW_M, tR_M, tP_M, tC_M, tS_M]) N)
  · exact ((D _ (by simp [tB_inj, tB_W, tB_R, tB_P, tB_C, tB_S, tW_inj, tW_B, tW_R, tW_P, tW_C, tW_S, tR_inj, tR_B, tR_W, tR_P, tR_C, tR_S, tP_inj, tP_B, tP_W, tP_R, tP_C, tP_S, tC_inj, tC_B, tC_W, tC_R, tC_P, tC_S, tS_inj, tS_B, tS_W, tS_R, tS_P, tS_C, tM_inj, tM_B, tM_W, tM_R, tM_P, tM_C, tM_S, tB_M, tW_M, tR_M, tP_M, tC_M, tS_M])).2.2.2 i).trans (b1 i hi)
  · obtain ⟨p1, p2, p3, p4, p5, p6, p7, p8, p9, p10, p11⟩ := b2 i hi
    have k : ∀ k, k ≠ 8 → gI (prH κ a b) (tB i) k = gI κ (tB i) k := fun k hk => by
      unfold prH
      rw [gI_sR, gI_sI, if_neg (fun z => hk z.2)]
    refine ⟨p1, (k 0 (by decide)).trans p2, ?_, ?_, ?_, ?_, ?_, ?_, ?_, ?_, ?_⟩
    · rw [k 1 (by decide), r 10 (by decide) (by decide)]; exact p3
    · rw [k 2 (by decide), r 11 (by decide) (by decide)]; exact p4
    · rw [k 3 (by decide), r 12 (by decide) (by decide)]; exact p5
    · rw [k 4 (by decide), r 13 (by decide) (by decide)]; exact p6
    · rw [k 5 (by decide), r 15 (by decide) (by decide)]; exact p7
    · rw [k 6 (by decide), r 14 (by decide) (by decide)]; exact p8
    · rw [k 7 (by decide), r 16 (by decide) (by decide)]; exact fun z => p9 ((prS_2 h0).mp z)
    · unfold prH
      rw [gI_sR, gI_sI, prS_9, p10]
      simp only [tB_inj, and_true]
    · unfold prH
      rw [gR_sR, gR_sI, prS_17, p11]
      simp only [tB_inj, and_true]
      by_cases e : i = a
      · rw [if_pos e, if_pos e]
        unfold refO
        rw [if_neg (nI_mm hb), nI_clamp hb]
      · rw [if_neg e, if_neg e]
  · exact b3 i hi
  · exact ((D _ (by simp [tB_inj, tB_W, tB_R, tB_P, tB_C, tB_S, tW_inj, tW_B, tW_R, tW_P, tW_C, tW_S, tR_inj, tR_B, tR_W, tR_P, tR_C, tR_S, tP_inj, tP_B, tP_W, tP_R, tP_C, tP_S, tC_inj, tC_B, tC_W, tC_R, tC_P, tC_S, tS_inj, tS_B, tS_W, tS_R, tS_P, tS_C, tM_inj, tM_B, tM_W, tM_R, tM_P, tM_C, tM_S, tB_M, tW_M, tR_M, tP_M, tC_M, tS_M])).2.2.2 i).trans (w1 i hi)
  · obtain ⟨q1, q2, q3, q4, q5⟩ := w2 i hi
    refine ⟨?_, q2, ?_, ?_, ?_⟩
    · obtain ⟨t1, t2, t3, t4⟩ := D (tW i) (by simp [tB_inj, tB_W, tB_R, tB_P, tB_C, tB_S, tW_inj, tW_B, tW_R, tW_P, tW_C, tW_S, tR_inj, tR_B, tR_W, tR_P, tR_C, tR_S, tP_inj, tP_B, tP_W, tP_R, tP_C, tP_S, tC_inj, tC_B, tC_W, tC_R, tC_P, tC_S, tS_inj, tS_B, tS_W, tS_R, tS_P, tS_C, tM_inj, tM_B, tM_W, tM_R, tM_P, tM_C, tM_S, tB_M, tW_M, tR_M, tP_M, tC_M, tS_M])
      unfold pWl at q1 ⊢
      simp only [t1, t3, t4, r 22 (by decide) (by decide), r 19 (by decide) (by decide), r 21 (by decide) (by decide), r 20 (by decide) (by decide)]
      exact q1
    · rw [r 12 (by decide) (by decide), r 23 (by decide) (by decide)]; exact q3
    · rw [r 24 (by decide) (by decide)]
      intro z
      have q9 := q4 z
      refine ⟨(prS_2 h0).mpr q9.1, ?_⟩
      rw [prS_17, if_neg (fun w => by rw [w, h0] at q9; exact absurd q9.1 (by decide))]
      exact q9.2
    · rw [r 24 (by decide) (by decide)]; exact q5
  · exact w3 i hi
  · have q := hRm_d D (by simp [tB_inj, tB_W, tB_R, tB_P, tB_C, tB_S, tW_inj, tW_B, tW_R, tW_P, tW_C, tW_S, tR_inj, tR_B, tR_W, tR_P, tR_C, tR_S, tP_inj, tP_B, tP_W, tP_R, tP_C, tP_S, tC_inj, tC_B, tC_W, tC_R, tC_P, tC_S, tS_inj, tS_B, tS_W, tS_R, tS_P, tS_C, tM_inj, tM_B, tM_W, tM_R, tM_P, tM_C, tM_S, tB_M, tW_M, tR_M, tP_M, tC_M, tS_M]) (fun i hi => by simp [tB_inj, tB_W, tB_R, tB_P, tB_C, tB_S, tW_inj, tW_B, tW_R, tW_P, tW_C, tW_S, tR_inj, tR_B, tR_W, tR_P, tR_C, tR_S, tP_inj, tP_B, tP_W, tP_R, tP_C, tP_S, tC_inj, tC_B, tC_W, tC_R, tC_P, tC_S, tS_inj, tS_B, tS_W, tS_R, tS_P, tS_C, tM_inj, tM_B, tM_W, tM_R, tM_P, tM_C, tM_S, tB_M, tW_M, tR_M, tP_M, tC_M, tS_M]) R
    unfold hRm pRm at q ⊢
    simp only [r 25 (by decide) (by decide), r 26 (by decide) (by decide), r 27 (by decide) (by decide), r 28 (by decide) (by decide), r 29 (by decide) (by decide)]
    exact q
  · have q := hPi_d D (by simp [tB_inj, tB_W, tB_R, tB_P, tB_C, tB_S, tW_inj, tW_B, tW_R, tW_P, tW_C, tW_S, tR_inj, tR_B, tR_W, tR_P, tR_C, tR_S, tP_inj, tP_B, tP_W, tP_R, tP_C, tP_S, tC_inj, tC_B, tC_W, tC_R, tC_P, tC_S, tS_inj, tS_B, tS_W, tS_R, tS_P, tS_C, tM_inj, tM_B, tM_W, tM_R, tM_P, tM_C, tM_S, tB_M, tW_M, tR_M, tP_M, tC_M, tS_M]) (fun i => by simp [tB_inj, tB_W, tB_R, tB_P, tB_C, tB_S, tW_inj, tW_B, tW_R, tW_P, tW_C, tW_S, tR_inj, tR_B, tR_W, tR_P, tR_C, tR_S, tP_inj, tP_B, tP_W, tP_R, tP_C, tP_S, tC_inj, tC_B, tC_W, tC_R, tC_P, tC_S, tS_inj, tS_B, tS_W, tS_R, tS_P, tS_C, tM_inj, tM_B, tM_W, tM_R, tM_P, tM_C, tM_S, tB_M, tW_M, tR_M, tP_M, tC_M, tS_M]) (fun i => by simp [tB_inj, tB_W, tB_R, tB_P, tB_C, tB_S, tW_inj, tW_B, tW_R, tW_P, tW_C, tW_S, tR_inj, tR_B, tR_W, tR_P, tR_C, tR_S, tP_inj, tP_B, tP_W, tP_R, tP_C, tP_S, tC_inj, tC_B, tC_W, tC_R, tC_P, tC_S, tS_inj, tS_B, tS_W, tS_R, tS_P, tS_C, tM_inj, tM_B, tM_W, tM_R, tM_P, tM_C, tM_S, tB_M, tW_M, tR_M, tP_M, tC_M, tS_M]) P
    unfold hPi pP at q ⊢
    simp only [r 31 (by decide) (by decide), r 32 (by decide) (by decide)]
    exact q
/-! a weld made -/
theorem nwS_row {σ : MS} {nw k : Nat} {f v b : Int32} (h : k < 19 ∨ 24 < k) : (nwS σ nw f v b).2 k = σ.2 k := by
  funext i
  have a : ∀ q, 19 ≤ q → q ≤ 24 → ¬ (k = q ∧ i = nw) := fun q h1 h2 z => by omega
  show (if k = 20 ∧ i = nw then 0 else if k = 19 ∧ i = nw then 0 else if k = 24 ∧ i = nw then b else if k = 23 ∧ i = nw then v else if k = 22 ∧ i = nw then f else if k = 21 ∧ i = nw then 0 else σ.2 k i) = _
  rw [if_neg (a 20 (by decide) (by decide)), if_neg (a 19 (by decide) (by decide)), if_neg (a 24 (by decide) (by decide)), if_neg (a 23 (by decide) (by decide)), if_neg (a 22 (by decide) (by decide)), if_neg (a 21 (by decide) (by decide))]
theorem nwS_o {σ : MS} {nw k i : Nat} {f v b : Int32} (h : i ≠ nw) : (nwS σ nw f v b).2 k i = σ.2 k i := by
  simp only [nwS, upS, upA, h, and_false, if_false]
theorem nwS_n {σ : MS} {nw : Nat} {f v b : Int32} : (nwS σ nw f v b).2 21 nw = 0 ∧ (nwS σ nw f v b).2 22 nw = f ∧ (nwS σ nw f v b).2 23 nw = v ∧ (nwS σ nw f v b).1 18 = nI (nw + 1) ∧ (nwS σ nw f v b).1 7 = σ.1 7 - 20 := by
  refine ⟨?_, ?_, ?_, ?_, ?_⟩ <;> simp [nwS, upS, upA]
theorem nwS_num {σ : MS} {nw k : Nat} {f v b : Int32} (h1 : k ≠ 7) (h2 : k ≠ 18) : (nwS σ nw f v b).1 k = σ.1 k := by
  show (if k = 7 then _ else if k = 18 then _ else σ.1 k) = _
  rw [if_neg h1, if_neg h2]
theorem tns_nw {σ : MS} {nb nw : Nat} {f v b : Int32} : tnsN (nwS σ nw f v b) nb = tnsN σ nb ∧ momN (nwS σ nw f v b) nb = momN σ nb := ⟨tns_cg (nwS_row (by decide)) (nwS_row (by decide)) (nwS_row (by decide)) (nwS_row (by decide)), mom_cg (nwS_row (by decide)) (nwS_row (by decide)) (nwS_row (by decide)) (nwS_row (by decide)) (nwS_row (by decide)) (nwS_row (by decide))⟩
theorem IV_nw {σ : MS} {nb nw np : Nat} {f v b : Int32} (I : IV σ nb nw np) (hn : nw < 100) (hf : 1 ≤ f ∧ f ≤ 11) (hv : 0 ≤ v ∧ v ≤ 2) : IV (nwS σ nw f v b) nb (nw + 1) np := by
  obtain ⟨s21, s22, s23, s18, s7⟩ := nwS_n (σ := σ) (nw := nw) (f := f) (v := v) (b := b)
  have r : ∀ k, k < 19 ∨ 24 < k → (nwS σ nw f v b).2 k = σ.2 k := fun k h => nwS_row h
  have u : ∀ k, k ≠ 7 → k ≠ 18 → (nwS σ nw f v b).1 k = σ.1 k := fun k h h2 => nwS_num h h2
  refine ⟨I.n8, ((u 8 (by decide) (by decide)).trans I.e8), (by omega), s18, I.n30, ((u 30 (by decide) (by decide)).trans I.e30), (by rw [u 6 (by decide) (by decide)]; exact I.l6), (by rw [u 2 (by decide) (by decide)]; exact I.c2), (by rw [u 1 (by decide) (by decide)]; exact I.h1), (by unfold chn; rw [r 17 (by decide)]; exact I.ch), (by unfold bOK rsOK; simp only [r 9 (by decide), r 10 (by decide), r 11 (by decide), r 12 (by decide), r 13 (by decide), r 17 (by decide)]; exact I.bk), (scT_cg (r 17 (by decide)) (r 9 (by decide)) I.sc), (by unfold fX; simp only [r 9 (by decide), r 10 (by decide), r 11 (by decide), r 12 (by decide), r 25 (by decide)]; exact I.fx), (by unfold fY; simp only [r 9 (by decide), r 10 (by decide), r 11 (by decide), r 12 (by decide), r 25 (by decide)]; exact I.fy), (by unfold emp; simp only [r 25 (by decide), r 26 (by decide), r 27 (by decide), r 28 (by decide), r 29 (by decide)]; exact I.em), (by unfold hSy hb; simp only [r 25 (by decide), r 29 (by decide)]; exact I.ho), ?_, ?_, (by simp only [r 27 (by decide)]; exact I.th), (by simp only [r 28 (by decide)]; exact I.pi), (by unfold pLn; simp only [r 31 (by decide)]; exact I.pl), (by rw [fCl_cg (r 10 (by decide)) (r 11 (by decide)) (r 13 (by decide)) (r 25 (by decide)) (r 27 (by decide)) (r 28 (by decide)), tns_nw.1]; exact I.ta)⟩
  · intro k hk
    by_cases e : k = nw
    · rw [e, s22, s23]; exact ⟨hf, hv⟩
    · rw [nwS_o e, nwS_o e]; exact I.wf k (by omega)
  · intro k hk
    by_cases e : k = nw
    · rw [e, s21]; decide
    · rw [nwS_o e]; exact I.rp k (by omega)
theorem nEn_nw {σ : MS} {nb nw : Nat} {f v b : Int32} : nEn (nwS σ nw f v b) nb (nw + 1) = nEn σ nb nw + 1 := by
  have s21 := (nwS_n (σ := σ) (nw := nw) (f := f) (v := v) (b := b)).1
  unfold nEn
  rw [show nRp (nwS σ nw f v b) (nw + 1) = nRp (nwS σ nw f v b) nw + 0 from by rw [nRp, s21]; rfl, nRp_cg (σ := σ) (σ' := nwS σ nw f v b) nw (fun i hi => nwS_o (by omega)), nSt_cg (σ := σ) (σ' := nwS σ nw f v b) nb (fun i hi => by rw [nwS_row (by decide)]), nwS_num (by decide) (by decide)]
  omega
theorem sDrw_num {σ : MS} {k n y : Nat} (h : n ≠ 4) : (sDrw σ k y).1 n = σ.1 n := if_neg h
theorem drw_all {σ : MS} {nb nw k y : Nat} : tnsN (sDrw σ k y) nb = tnsN σ nb ∧ momN (sDrw σ k y) nb = momN σ nb ∧ nEn (sDrw σ k y) nb nw = nEn σ nb nw := ⟨tns_cg (sDrw_row (by decide) (by decide)) (sDrw_row (by decide) (by decide)) (sDrw_row (by decide) (by decide)) (sDrw_row (by decide) (by decide)), mom_cg (sDrw_row (by decide) (by decide)) (sDrw_row (by decide) (by decide)) (sDrw_row (by decide) (by decide)) (sDrw_row (by decide) (by decide)) (sDrw_row (by decide) (by decide)) (sDrw_row (by decide) (by decide)), nEn_cg (sDrw_row (by decide) (by decide)) (sDrw_row (by decide) (by decide)) (sDrw_num (by decide))⟩
theorem sSpo_row {σ : MS} {f v : Int32} {k : Nat} (h : k ≠ 26) : (sSpo σ f v).2 k = σ.2 k := by
  funext i
  show (if k = 26 ∧ i = _ then _ else if k = 26 ∧ i = _ then _ else σ.2 k i) = _
  rw [if_neg (fun z => h z.1), if_neg (fun z => h z.1)]
theorem spo_all {σ : MS} {nb nw : Nat} {f v : Int32} : tnsN (sSpo σ f v) nb = tnsN σ nb ∧ momN (sSpo σ f v) nb = momN σ nb ∧ nEn (sSpo σ f v) nb nw = nEn σ nb nw := ⟨tns_cg (sSpo_row (by decide)) (sSpo_row (by decide)) (sSpo_row (by decide)) (sSpo_row (by decide)), mom_cg (sSpo_row (by decide)) (sSpo_row (by decide)) (sSpo_row (by decide)) (sSpo_row (by decide)) (sSpo_row (by decide)) (sSpo_row (by decide)), nEn_cg (sSpo_row (by decide)) (sSpo_row (by decide)) rfl⟩
/-- all of a weld made -/
theorem mk_all {σ : MS} {nb nw np y : Nat} {b f v : Int32} (I : IV σ nb nw np) (hn : nw < 100) (hf : 1 ≤ f ∧ f ≤ 11) (hv : 0 ≤ v ∧ v ≤ 2) : IV (sMak σ b f v y) nb (nw + 1) np ∧ tnsN (sMak σ b f v y) nb = tnsN σ nb ∧ momN (sMak σ b f v y) nb = momN σ nb ∧ nEn (sMak σ b f v y) nb (nw + 1) = nEn σ nb nw + 1 ∧ (sMak σ b f v y).1 7 = σ.1 7 + (-20) := by
  rw [sMak_nw I.e18 (by omega)]
  refine ⟨IV_drw (IV_nw I hn hf hv), ?_, ?_, ?_, ?_⟩
  · rw [(drw_all (nw := nw)).1, tns_nw.1]
  · rw [(drw_all (nw := nw)).2.1, tns_nw.2]
  · rw [drw_all.2.2, nEn_nw]
  · rw [sDrw_num (by decide), nwS_n.2.2.2.2, Int32.sub_eq_add_neg]


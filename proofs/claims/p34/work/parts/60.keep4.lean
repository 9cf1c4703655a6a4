/-! WHAT ALWAYS HOLDS, 6: scrap, hole, part -/
theorem scH_D {κ : AH} {σ : MS} {b : Int32} : ∀ n, Dif (fun t => ∃ i, t = tB i) κ (scH κ σ b n)
  | 0 => Dif.rfl'
  | n + 1 => by
    unfold scH
    split
    · exact (scH_D n).sI ⟨_, rfl⟩
    · exact scH_D n
theorem scH_8 {κ : AH} {σ : MS} {b : Int32} {i : Nat} : ∀ n, gI (scH κ σ b n) (tB i) 8 = if i < n ∧ whl σ (nI i) = b then 3 else gI κ (tB i) 8
  | 0 => by rw [if_neg (fun z => absurd z.1 (Nat.not_lt_zero _))]; rfl
  | n + 1 => by
    have ih := scH_8 (κ := κ) (σ := σ) (b := b) (i := i) n
    unfold scH
    by_cases e : i = n
    · subst e
      rw [if_neg (fun z => absurd z.1 (Nat.lt_irrefl _))] at ih
      by_cases h : whl σ (nI i) = b
      · rw [if_pos h, if_pos ⟨by omega, h⟩, gI_sI, if_pos ⟨rfl, rfl⟩]
      · rw [if_neg h, if_neg (fun z => h z.2), ih]
    · have q : (i < n + 1 ∧ whl σ (nI i) = b) ↔ (i < n ∧ whl σ (nI i) = b) := by
        constructor
        · exact fun z => ⟨by omega, z.2⟩
        · exact fun z => ⟨by omega, z.2⟩
      simp only [q]
      rw [← ih]
      split
      · rw [gI_sI, if_neg (fun z => e (tB_inj.mp z.1))]
      · rfl
theorem scH_k {κ : AH} {σ : MS} {b : Int32} {i k : Nat} (hk : k ≠ 8) : ∀ n, gI (scH κ σ b n) (tB i) k = gI κ (tB i) k
  | 0 => rfl
  | n + 1 => by
    unfold scH
    split
    · rw [gI_sI, if_neg (fun z => hk z.2)]
      exact scH_k hk n
    · exact scH_k hk n
theorem scH_cg {σ σ' : MS} {κ : AH} {b : Int32} (h : σ'.2 17 = σ.2 17) : ∀ n, scH κ σ' b n = scH κ σ b n
  | 0 => rfl
  | n + 1 => by
    unfold scH
    rw [scH_cg h n]
    unfold whl
    rw [whN_cg h]
theorem scS_row {σ : MS} {b : Int32} {n k : Nat} (h : k ≠ 9) : (scS σ b n).2 k = σ.2 k := funext fun i => if_neg (fun z => h z.1)
theorem scS_9 {σ : MS} {b : Int32} {n i : Nat} : (scS σ b n).2 9 i = if i < n ∧ whl σ (nI i) = b then 3 else σ.2 9 i := by
  show (if 9 = 9 ∧ i < n ∧ whl σ (nI i) = b then (3 : Int32) else σ.2 9 i) = _
  by_cases h : i < n ∧ whl σ (nI i) = b
  · rw [if_pos h, if_pos ⟨rfl, h⟩]
  · rw [if_neg h, if_neg (fun z => h z.2)]

theorem hNm_cg {κ : AH} {σ σ' : MS} (h1 : ∀ k, k ≤ 6 ∨ k = 8 ∨ k = 18 ∨ k = 30 → σ'.1 k = σ.1 k) (h5 : σ'.2 5 = σ.2 5) (h : hNm κ σ) : hNm κ σ' := by
  unfold hNm at h ⊢
  rw [h1 8 (by decide), h1 18 (by decide), h1 30 (by decide), h1 0 (by decide), h1 1 (by decide), h1 2 (by decide), h1 3 (by decide), h1 6 (by decide), h1 4 (by decide), h5]
  exact h
theorem scw_eq {σ : MS} {nb bb j : Nat} (hc : chn σ nb) (hb : bb < nb) (hj : j < nb) : whl σ (nI j) = nI bb ↔ whI σ j = bb := by
  have h8 := hc.1
  rw [(whI_rt hc hj).2.1]
  exact nI_eq (by have := (whI_rt hc hj).1; omega) (by omega)
theorem sc_9 {σ : MS} {nb bb j : Nat} (hc : chn σ nb) (hb : bb < nb) (hj : j < nb) : (scS σ (nI bb) nb).2 9 j = if whI σ j = bb then 3 else σ.2 9 j := by
  rw [scS_9]
  by_cases h : whI σ j = bb
  · rw [if_pos h, if_pos ⟨hj, (scw_eq hc hb hj).mpr h⟩]
  · rw [if_neg h, if_neg (fun z => h ((scw_eq hc hb hj).mp z.2))]
/-- a standing block is not touched -/
theorem sc_2 {σ : MS} {nb nw np bb j : Nat} (I : IV σ nb nw np) (hb : bb < nb) (h0 : σ.2 9 bb = 0) (hj : j < nb) : (scS σ (nI bb) nb).2 9 j = 2 ↔ σ.2 9 j = 2 := by
  have h8 := I.n8
  rw [sc_9 I.ch hb hj]
  by_cases h : whI σ j = bb
  · rw [if_pos h]
    refine ⟨fun z => absurd z (by decide), fun z => ?_⟩
    have q := whI_root (σ := σ) (by omega : j < 2 ^ 31) ((I.bk j hj).2.2 (Or.inr z))
    rw [q] at h
    rw [h, h0] at z
    exact absurd z (by decide)
  · rw [if_neg h]
theorem sc_w {σ : MS} {nb nw np bb : Nat} (I : IV σ nb nw np) (hb : bb < nb) (h0 : σ.2 9 bb = 0) : tnsN (scS σ (nI bb) nb) nb = tnsN σ nb ∧ momN (scS σ (nI bb) nb) nb = momN σ nb := by
  have r : ∀ k, k ≠ 9 → (scS σ (nI bb) nb).2 k = σ.2 k := fun k h => scS_row h
  constructor
  · unfold tnsN
    rw [sm_cg (f := fTB (scS σ (nI bb) nb)) (g := fTB σ) nb (fun j hj => by unfold fTB; simp only [sc_2 I hb h0 hj, r 13 (by decide)]), show fTC (scS σ (nI bb) nb) = fTC σ from funext fun c => by unfold fTC; rw [r 27 (by decide), r 28 (by decide)]]
  · unfold momN
    rw [sm_cg (f := fMB (scS σ (nI bb) nb)) (g := fMB σ) nb (fun j hj => by unfold fMB; simp only [sc_2 I hb h0 hj, r 13 (by decide), r 10 (by decide), r 11 (by decide)]), show fMC (scS σ (nI bb) nb) = fMC σ from funext fun c => by unfold fMC; rw [r 27 (by decide), r 28 (by decide)]]
theorem IV_sc {σ : MS} {nb nw np bb : Nat} (I : IV σ nb nw np) (hb : bb < nb) (h0 : σ.2 9 bb = 0) : IV (scS σ (nI bb) nb) nb nw np := by
  have h8 := I.n8
  have r : ∀ k, k ≠ 9 → (scS σ (nI bb) nb).2 k = σ.2 k := fun k h => scS_row h
  have hr : whI σ bb = bb := whI_root (by omega) ((I.bk bb hb).2.2 (Or.inl h0))
  have u : (scS σ (nI bb) nb).1 = σ.1 := rfl
  refine ⟨I.n8, I.e8, I.n18, I.e18, I.n30, I.e30, I.l6, I.c2, I.h1, ?_, ?_, ?_, ?_, ?_, (by unfold emp; simp only [r 25 (by decide), r 26 (by decide), r 27 (by decide), r 28 (by decide), r 29 (by decide)]; exact I.em), I.ho, (by simp only [r 22 (by decide), r 23 (by decide)]; exact I.wf), (by simp only [r 21 (by decide)]; exact I.rp), (by simp only [r 27 (by decide)]; exact I.th), (by simp only [r 28 (by decide)]; exact I.pi), (by unfold pLn; simp only [r 31 (by decide)]; exact I.pl), ?_⟩
  · unfold chn; rw [r 17 (by decide)]; exact I.ch
  · intro i hi
    have q := I.bk i hi
    unfold bOK rsOK at q ⊢
    simp only [r 10 (by decide), r 11 (by decide), r 12 (by decide), r 13 (by decide), r 17 (by decide)]
    refine ⟨q.1, q.2.1, fun z => q.2.2 ?_⟩
    rw [sc_9 I.ch hb hi] at z
    by_cases h : whI σ i = bb
    · rw [if_pos h] at z; exact z.elim (fun z => absurd z (by decide)) (fun z => absurd z (by decide))
    · rw [if_neg h] at z; exact z
  · intro i hi
    obtain ⟨a1, -, -, a4⟩ := whI_rt I.ch hi
    have q := I.sc i hi
    rw [whI_cg (r 17 (by decide)), sc_9 I.ch hb hi, sc_9 I.ch hb a1, a4]
    by_cases h : whI σ i = bb
    · rw [if_pos h, if_pos h]
    · rw [if_neg h, if_neg h]; exact q
  · intro c hc hm
    rw [r 25 (by decide)] at hm ⊢
    obtain ⟨j, a1, a2, a3, a4, a5, a6⟩ := I.fx c hc hm
    exact ⟨j, a1, a2, (sc_2 I hb h0 a1).mpr a3, by rw [r 12 (by decide)]; exact a4, by rw [r 10 (by decide)]; exact a5, by rw [r 11 (by decide)]; exact a6⟩
  · intro j hj h2
    simp only [r 10 (by decide), r 11 (by decide), r 12 (by decide), r 25 (by decide)]
    exact I.fy j hj ((sc_2 I hb h0 hj).mp h2)
  · rw [(sc_w I hb h0).1, fCl_cg (r 10 (by decide)) (r 11 (by decide)) (r 13 (by decide)) (r 25 (by decide)) (r 27 (by decide)) (r 28 (by decide))]
    exact I.ta
theorem s_scrap {κ0 κ : AH} {σ : MS} {nb nw np : Nat} {wb : Nat → Nat} (h : RI κ0 κ σ nb nw np wb) {bb : Nat} (hb : bb < nb) (h0 : σ.2 9 bb = 0) : RI κ0 (scH κ σ (nI bb) nb) (scS σ (nI bb) nb) nb nw np wb := by
  obtain ⟨I, ⟨G, N, B, W, R, P, H, L⟩, F⟩ := h
  have h8 := I.n8
  have D := scH_D (κ := κ) (σ := σ) (b := nI bb) nb
  have r : ∀ k, k ≠ 9 → (scS σ (nI bb) nb).2 k = σ.2 k := fun k h => scS_row h
  obtain ⟨b1, b2, b3⟩ := B
  obtain ⟨w1, w2, w3⟩ := W
  refine ⟨IV_sc I hb h0, ⟨?_, ?_, ⟨fun i hi => ?_, fun i hi => ?_, fun i hi => ?_⟩, ⟨fun i hi => ?_, fun i hi => ?_, fun i hi => ?_⟩, ?_, ?_, ?_, ?_⟩, F.tr (FM_d D (fun i => by simp [tB_inj, tB_W, tB_R, tB_P, tB_C, tB_S, tW_inj, tW_B, tW_R, tW_P, tW_C, tW_S, tR_inj, tR_B, tR_W, tR_P, tR_C, tR_S, tP_inj, tP_B, tP_W, tP_R, tP_C, tP_S, tC_inj, tC_B, tC_W, tC_R, tC_P, tC_S, tS_inj, tS_B, tS_W, tS_R, tS_P, tS_C, tM_inj, tM_B, tM_W, tM_R, tM_P, tM_C, tM_S, tB_M, tW_M, tR_M, tP_M, tC_M, tS_M]))⟩
  · exact SG_d D (fun i hi z => by obtain ⟨j, hj⟩ := z; exact tS_B.mp hj) G
  · exact hNm_cg (σ := σ) (fun _ _ => rfl) (r 5 (by decide)) (hNm_d D (by simp [tB_inj, tB_W, tB_R, tB_P, tB_C, tB_S, tW_inj, tW_B, tW_R, tW_P, tW_C, tW_S, tR_inj, tR_B, tR_W, tR_P, tR_C, tR_S, tP_inj, tP_B, tP_W, tP_R, tP_C, tP_S, tC_inj, tC_B, tC_W, tC_R, tC_P, tC_S, tS_inj, tS_B, tS_W, tS_R, tS_P, tS_C, tM_inj, tM_B, tM_W, tM_R, tM_P, tM_C, tM_S, tB_M, tW_M, tR_M, tP_M, tC_M, tS_M]) (by simp [tB_inj, tB_W, tB_R, tB_P, tB_C, tB_S, tW_inj, tW_B, tW_R, tW_P, tW_C, tW_S, tR_inj, tR_B, tR_W, tR_P, tR_C, tR_S, tP_inj, tP_B, tP_W, tP_R, tP_C, tP_S, tC_inj, tC_B, tC_W, tC_R, tC_P, tC_S, tS_inj, tS_B, tS_W, tS_R, tS_P, tS_C, tM_inj, tM_B, tM_W, tM_R, tM_P, tM_C, tM_S, tB_M, tW_M, tR_M, tP_M, tC_M, tS_M]) (by simp [tB_inj, tB_W, tB_R, tB_P, tB_C, tB_S, tW_inj, tW_B, tW_R, tW_P, tW_C, tW_S, tR_inj, tR_B, tR_W, tR_P, tR_C, tR_S, tP_inj, tP_B, tP_W, tP_R, tP_C, tP_S, tC_inj, tC_B, tC_W, tC_R, tC_P, tC_S, tS_inj, tS_B, tS_W, tS_R, tS_P, tS_C, tM_inj, tM_B, tM_W, tM_R, tM_P, tM_C, tM_S, tB_M, tW_M, tR_M, tP_M, tC_M, tS_M]) N)
  · exact (scH_R nb).trans (b1 i hi)
  · obtain ⟨p1, p2, p3, p4, p5, p6, p7, p8, p9, p10, p11⟩ := b2 i hi
    have k : ∀ k, k ≠ 8 → gI (scH κ σ (nI bb) nb) (tB i) k = gI κ (tB i) k := fun k hk => scH_k hk nb
    refine ⟨(scH_T nb).trans p1, (k 0 (by decide)).trans p2, ?_, ?_, ?_, ?_, ?_, ?_, ?_, ?_, ?_⟩
    · rw [k 1 (by decide), r 10 (by decide)]; exact p3
    · rw [k 2 (by decide), r 11 (by decide)]; exact p4
    · rw [k 3 (by decide), r 12 (by decide)]; exact p5
    · rw [k 4 (by decide), r 13 (by decide)]; exact p6
    · rw [k 5 (by decide), r 15 (by decide)]; exact p7
    · rw [k 6 (by decide), r 14 (by decide)]; exact p8
    · rw [k 7 (by decide), r 16 (by decide)]; exact fun z => p9 ((sc_2 I hb h0 hi).mp z)
    · rw [scH_8, scS_9, p10]
    · rw [scH_R, r 17 (by decide)]; exact p11
  · exact (scH_T nb).trans (b3 i hi)
  · exact (scH_R nb).trans (w1 i hi)
  · obtain ⟨q1, q2, q3, q4, q5⟩ := w2 i hi
    refine ⟨?_, q2, ?_, ?_, ?_⟩
    · obtain ⟨t1, t2, t3, t4⟩ := D (tW i) (by simp [tB_inj, tB_W, tB_R, tB_P, tB_C, tB_S, tW_inj, tW_B, tW_R, tW_P, tW_C, tW_S, tR_inj, tR_B, tR_W, tR_P, tR_C, tR_S, tP_inj, tP_B, tP_W, tP_R, tP_C, tP_S, tC_inj, tC_B, tC_W, tC_R, tC_P, tC_S, tS_inj, tS_B, tS_W, tS_R, tS_P, tS_C, tM_inj, tM_B, tM_W, tM_R, tM_P, tM_C, tM_S, tB_M, tW_M, tR_M, tP_M, tC_M, tS_M])
      unfold pWl at q1 ⊢
      simp only [t1, t3, t4, r 22 (by decide), r 19 (by decide), r 21 (by decide), r 20 (by decide)]
      exact q1
    · rw [r 12 (by decide), r 23 (by decide)]; exact q3
    · rw [r 24 (by decide), r 17 (by decide)]; exact fun z => ⟨(sc_2 I hb h0 q2).mpr (q4 z).1, (q4 z).2⟩
    · rw [r 24 (by decide)]; exact q5
  · exact (scH_T nb).trans (w3 i hi)
  · have q := hRm_d D (by simp [tB_inj, tB_W, tB_R, tB_P, tB_C, tB_S, tW_inj, tW_B, tW_R, tW_P, tW_C, tW_S, tR_inj, tR_B, tR_W, tR_P, tR_C, tR_S, tP_inj, tP_B, tP_W, tP_R, tP_C, tP_S, tC_inj, tC_B, tC_W, tC_R, tC_P, tC_S, tS_inj, tS_B, tS_W, tS_R, tS_P, tS_C, tM_inj, tM_B, tM_W, tM_R, tM_P, tM_C, tM_S, tB_M, tW_M, tR_M, tP_M, tC_M, tS_M]) (fun i hi => by simp [tB_inj, tB_W, tB_R, tB_P, tB_C, tB_S, tW_inj, tW_B, tW_R, tW_P, tW_C, tW_S, tR_inj, tR_B, tR_W, tR_P, tR_C, tR_S, tP_inj, tP_B, tP_W, tP_R, tP_C, tP_S, tC_inj, tC_B, tC_W, tC_R, tC_P, tC_S, tS_inj, tS_B, tS_W, tS_R, tS_P, tS_C, tM_inj, tM_B, tM_W, tM_R, tM_P, tM_C, tM_S, tB_M, tW_M, tR_M, tP_M, tC_M, tS_M]) R
    unfold hRm pRm at q ⊢
    simp only [r 25 (by decide), r 26 (by decide), r 27 (by decide), r 28 (by decide), r 29 (by decide)]
    exact q
  · have q := hPi_d D (by simp [tB_inj, tB_W, tB_R, tB_P, tB_C, tB_S, tW_inj, tW_B, tW_R, tW_P, tW_C, tW_S, tR_inj, tR_B, tR_W, tR_P, tR_C, tR_S, tP_inj, tP_B, tP_W, tP_R, tP_C, tP_S, tC_inj, tC_B, tC_W, tC_R, tC_P, tC_S, tS_inj, tS_B, tS_W, tS_R, tS_P, tS_C, tM_inj, tM_B, tM_W, tM_R, tM_P, tM_C, tM_S, tB_M, tW_M, tR_M, tP_M, tC_M, tS_M]) (fun i => by simp [tB_inj, tB_W, tB_R, tB_P, tB_C, tB_S, tW_inj, tW_B, tW_R, tW_P, tW_C, tW_S, tR_inj, tR_B, tR_W, tR_P, tR_C, tR_S, tP_inj, tP_B, tP_W, tP_R, tP_C, tP_S, tC_inj, tC_B, tC_W, tC_R, tC_P, tC_S, tS_inj, tS_B, tS_W, tS_R, tS_P, tS_C, tM_inj, tM_B, tM_W, tM_R, tM_P, tM_C, tM_S, tB_M, tW_M, tR_M, tP_M, tC_M, tS_M]) (fun i => by simp [tB_inj, tB_W, tB_R, tB_P, tB_C, tB_S, tW_inj, tW_B, tW_R, tW_P, tW_C, tW_S, tR_inj, tR_B, tR_W, tR_P, tR_C, tR_S, tP_inj, tP_B, tP_W, tP_R, tP_C, tP_S, tC_inj, tC_B, tC_W, tC_R, tC_P, tC_S, tS_inj, tS_B, tS_W, tS_R, tS_P, tS_C, tM_inj, tM_B, tM_W, tM_R, tM_P, tM_C, tM_S, tB_M, tW_M, tR_M, tP_M, tC_M, tS_M]) P
    unfold hPi pP at q ⊢
    simp only [r 31 (by decide), r 32 (by decide)]
    exact q
  · have q := hHu_d D (by simp [tB_inj, tB_W, tB_R, tB_P, tB_C, tB_S, tW_inj, tW_B, tW_R, tW_P, tW_C, tW_S, tR_inj, tR_B, tR_W, tR_P, tR_C, tR_S, tP_inj, tP_B, tP_W, tP_R, tP_C, tP_S, tC_inj, tC_B, tC_W, tC_R, tC_P, tC_S, tS_inj, tS_B, tS_W, tS_R, tS_P, tS_C, tM_inj, tM_B, tM_W, tM_R, tM_P, tM_C, tM_S, tB_M, tW_M, tR_M, tP_M, tC_M, tS_M]) H
    unfold hHu at q ⊢
    rw [(sc_w I hb h0).1, (sc_w I hb h0).2]
    exact q
  · have q := hLe_d D (by simp [tB_inj, tB_W, tB_R, tB_P, tB_C, tB_S, tW_inj, tW_B, tW_R, tW_P, tW_C, tW_S, tR_inj, tR_B, tR_W, tR_P, tR_C, tR_S, tP_inj, tP_B, tP_W, tP_R, tP_C, tP_S, tC_inj, tC_B, tC_W, tC_R, tC_P, tC_S, tS_inj, tS_B, tS_W, tS_R, tS_P, tS_C, tM_inj, tM_B, tM_W, tM_R, tM_P, tM_C, tM_S, tB_M, tW_M, tR_M, tP_M, tC_M, tS_M]) (by simp [tB_inj, tB_W, tB_R, tB_P, tB_C, tB_S, tW_inj, tW_B, tW_R, tW_P, tW_C, tW_S, tR_inj, tR_B, tR_W, tR_P, tR_C, tR_S, tP_inj, tP_B, tP_W, tP_R, tP_C, tP_S, tC_inj, tC_B, tC_W, tC_R, tC_P, tC_S, tS_inj, tS_B, tS_W, tS_R, tS_P, tS_C, tM_inj, tM_B, tM_W, tM_R, tM_P, tM_C, tM_S, tB_M, tW_M, tR_M, tP_M, tC_M, tS_M]) L
    have e : nEn (scS σ (nI bb) nb) nb nw = nEn σ nb nw := by
      unfold nEn
      rw [nSt_cg (σ := σ) (σ' := scS σ (nI bb) nb) nb (fun j hj => sc_2 I hb h0 hj), nRp_cg (σ := σ) (σ' := scS σ (nI bb) nb) nw (fun j hj => by rw [r 21 (by decide)])]
      rfl
    unfold hLe at q ⊢
    rw [e]
    exact q
/-! a hole -/
theorem or_and {x y z : Int32} : (x ||| y) &&& z = (x &&& z) ||| (y &&& z) := by
  apply Int32.toBitVec_inj.mp
  simp only [Int32.toBitVec_and, Int32.toBitVec_or]
  ext i hi
  simp [Bool.and_or_distrib_right]
theorem or_0 {x y : Int32} : x ||| y = 0 ↔ x = 0 ∧ y = 0 := Int32.or_eq_zero_iff
theorem pw_and {s t : Nat} (hs : s < 4) (ht : t < 4) : pw s &&& pw t = 0 ↔ ¬ t = s := by
  have : ∀ s, s < 4 → ∀ t, t < 4 → (pw s &&& pw t = 0 ↔ ¬ t = s) := by decide
  exact this s hs t ht
def hoS (σ : MS) (c d s : Nat) : MS := upA (upA (upA (upA σ 29 c (σ.2 29 c ||| pw s)) 29 d (σ.2 29 d ||| pw (opS s))) 26 c 0) 26 d 0
theorem hoS_row {σ : MS} {c d s k : Nat} (h1 : k ≠ 29) (h2 : k ≠ 26) : (hoS σ c d s).2 k = σ.2 k := by
  funext i
  show (if k = 26 ∧ i = d then _ else if k = 26 ∧ i = c then _ else if k = 29 ∧ i = d then _ else if k = 29 ∧ i = c then _ else σ.2 k i) = _
  rw [if_neg (fun z => h2 z.1), if_neg (fun z => h2 z.1), if_neg (fun z => h1 z.1), if_neg (fun z => h1 z.1)]
theorem hoS_29 {σ : MS} {c d s i : Nat} : (hoS σ c d s).2 29 i = if i = d then σ.2 29 d ||| pw (opS s) else if i = c then σ.2 29 c ||| pw s else σ.2 29 i := by
  simp [hoS, upA]
theorem hoS_26 {σ : MS} {c d s i : Nat} : (hoS σ c d s).2 26 i = if i = d ∨ i = c then 0 else σ.2 26 i := by
  simp only [hoS, upA]
  grind
theorem op4 {t : Nat} : opS t < 4 := by unfold opS; split <;> (try split) <;> (try split) <;> decide
theorem hoS_hb {σ : MS} {c d s i t : Nat} (hne : c ≠ d) (hs : s < 4) (ht : t < 4) : hb (hoS σ c d s) i t ↔ hb σ i t ∨ (i = c ∧ t = s) ∨ (i = d ∧ t = opS s) := by
  have ho : opS s < 4 := op4
  unfold hb
  rw [hoS_29]
  by_cases e1 : i = d
  · subst e1
    rw [if_pos rfl, or_and, or_0, pw_and ho ht]
    constructor
    · intro z
      by_cases q : σ.2 29 i &&& pw t = 0
      · exact Or.inr (Or.inr ⟨rfl, Classical.not_not.mp (fun w => z ⟨q, w⟩)⟩)
      · exact Or.inl q
    · intro z w
      rcases z with z | z | z
      · exact z w.1
      · exact hne z.1.symm
      · exact w.2 z.2
  · rw [if_neg e1]
    by_cases e2 : i = c
    · subst e2
      rw [if_pos rfl, or_and, or_0, pw_and hs ht]
      constructor
      · intro z
        by_cases q : σ.2 29 i &&& pw t = 0
        · exact Or.inr (Or.inl ⟨rfl, Classical.not_not.mp (fun w => z ⟨q, w⟩)⟩)
        · exact Or.inl q
      · intro z w
        rcases z with z | z | z
        · exact z w.1
        · exact w.2 z.2
        · exact e1 z.1
    · rw [if_neg e2]
      exact ⟨Or.inl, fun z => z.elim id (fun z => z.elim (fun q => absurd q.1 e2) (fun q => absurd q.1 e1))⟩
theorem IV_ho {σ : MS} {nb nw np c s : Nat} (I : IV σ nb nw np) (hs : s = 1 ∨ s = 3) (hc : c < 36) (hd : stp c s < 36) (hfc : ¬ σ.2 25 c = -1) (hfd : ¬ σ.2 25 (stp c s) = -1) : IV (hoS σ c (stp c s) s) nb nw np := by
  have r : ∀ k, k ≠ 29 → k ≠ 26 → (hoS σ c (stp c s) s).2 k = σ.2 k := fun k h h2 => hoS_row h h2
  have hne : c ≠ stp c s := by rcases hs with rfl | rfl <;> simp [stp]
  have hs4 : s < 4 := by omega
  have hst : stp (stp c s) (opS s) = c := by rcases hs with rfl | rfl <;> simp [stp, opS]
  have hop : opS (opS s) = s := by rcases hs with rfl | rfl <;> simp [opS]
  have ok1 : okS c s := by rcases hs with rfl | rfl <;> simp [okS, stp] at hd ⊢ <;> omega
  have ok2 : okS (stp c s) (opS s) := by rcases hs with rfl | rfl <;> simp [okS, stp, opS]
  refine ⟨I.n8, I.e8, I.n18, I.e18, I.n30, I.e30, I.l6, I.c2, I.h1, (by unfold chn; rw [r 17 (by decide) (by decide)]; exact I.ch), (by unfold bOK rsOK; simp only [r 9 (by decide) (by decide), r 10 (by decide) (by decide), r 11 (by decide) (by decide), r 12 (by decide) (by decide), r 13 (by decide) (by decide), r 17 (by decide) (by decide)]; exact I.bk), (scT_cg (r 17 (by decide) (by decide)) (r 9 (by decide) (by decide)) I.sc), (by unfold fX; simp only [r 9 (by decide) (by decide), r 10 (by decide) (by decide), r 11 (by decide) (by decide), r 12 (by decide) (by decide), r 25 (by decide) (by decide)]; exact I.fx), (by unfold fY; simp only [r 9 (by decide) (by decide), r 10 (by decide) (by decide), r 11 (by decide) (by decide), r 12 (by decide) (by decide), r 25 (by decide) (by decide)]; exact I.fy), ?_, ?_, (by simp only [r 22 (by decide) (by decide), r 23 (by decide) (by decide)]; exact I.wf), (by simp only [r 21 (by decide) (by decide)]; exact I.rp), (by simp only [r 27 (by decide) (by decide)]; exact I.th), (by simp only [r 28 (by decide) (by decide)]; exact I.pi), (by unfold pLn; simp only [r 31 (by decide) (by decide)]; exact I.pl), (by rw [fCl_cg (r 10 (by decide) (by decide)) (r 11 (by decide) (by decide)) (r 13 (by decide) (by decide)) (r 25 (by decide) (by decide)) (r 27 (by decide) (by decide)) (r 28 (by decide) (by decide)), tns_cg (r 9 (by decide) (by decide)) (r 13 (by decide) (by decide)) (r 27 (by decide) (by decide)) (r 28 (by decide) (by decide))]; exact I.ta)⟩
  · intro d hd2 hm
    rw [r 25 (by decide) (by decide)] at hm
    obtain ⟨a, b, e, f⟩ := I.em d hd2 hm
    have n1 : ¬ d = c := fun z => hfc (by rw [← z]; exact hm)
    have n2 : ¬ d = stp c s := fun z => hfd (by rw [← z]; exact hm)
    rw [hoS_26, hoS_29, r 27 (by decide) (by decide), r 28 (by decide) (by decide), if_neg (fun z => z.elim n2 n1), if_neg n2, if_neg n1]
    exact ⟨a, b, e, f⟩
  · intro k t hk ht hb1
    rw [r 25 (by decide) (by decide)]
    rw [hoS_hb hne hs4 ht] at hb1
    rcases hb1 with z | ⟨rfl, rfl⟩ | ⟨rfl, rfl⟩
    · obtain ⟨a, b, e⟩ := I.ho k t hk ht z
      exact ⟨a, b, (hoS_hb hne hs4 op4).mpr (Or.inl e)⟩
    · exact ⟨ok1, hfd, (hoS_hb hne hs4 op4).mpr (Or.inr (Or.inr ⟨rfl, rfl⟩))⟩
    · rw [hst, hop]
      exact ⟨ok2, hfc, (hoS_hb hne hs4 hs4).mpr (Or.inr (Or.inl ⟨rfl, rfl⟩))⟩
theorem s_hole {κ0 κ : AH} {σ : MS} {nb nw np : Nat} {wb : Nat → Nat} (h : RI κ0 κ σ nb nw np wb) {c s : Nat} (hs : s = 1 ∨ s = 3) (hc : c < 36) (hd : stp c s < 36) (hfc : ¬ σ.2 25 c = -1) (hfd : ¬ σ.2 25 (stp c s) = -1) : RI κ0 (sI (sI (sI (sI κ (tR c) 5 (σ.2 29 c ||| pw s)) (tR (stp c s)) 5 (σ.2 29 (stp c s) ||| pw (opS s))) (tR c) 2 0) (tR (stp c s)) 2 0) (hoS σ c (stp c s) s) nb nw np wb := by
  obtain ⟨I, ⟨G, N, B, W, R, P, H, L⟩, F⟩ := h
  have r : ∀ k, k ≠ 29 → k ≠ 26 → (hoS σ c (stp c s) s).2 k = σ.2 k := fun k h h2 => hoS_row h h2
  have hne : ¬ c = stp c s := by rcases hs with rfl | rfl <;> simp [stp]
  have hne' : ¬ stp c s = c := fun z => hne z.symm
  have D : Dif (fun t => t = tR c ∨ t = tR (stp c s)) κ (sI (sI (sI (sI κ (tR c) 5 (σ.2 29 c ||| pw s)) (tR (stp c s)) 5 (σ.2 29 (stp c s) ||| pw (opS s))) (tR c) 2 0) (tR (stp c s)) 2 0) := (by repeat' first | exact Dif.rfl' | exact rfl | exact Or.inl rfl | exact Or.inr rfl | exact Or.inr (Or.inl rfl) | exact Or.inr (Or.inr rfl) | exact Or.inr (Or.inr (Or.inl rfl)) | exact Or.inr (Or.inr (Or.inr rfl)) | exact ⟨_, rfl⟩ | apply Dif.sI | apply Dif.sR | apply Dif.nO)
  obtain ⟨r1, r2, r3⟩ := R
  refine ⟨IV_ho I hs hc hd hfc hfd, ⟨G, hNm_cg (σ := σ) (fun _ _ => rfl) (r 5 (by decide) (by decide)) (hNm_d D (by simp [tB_inj, tB_W, tB_R, tB_P, tB_C, tB_S, tW_inj, tW_B, tW_R, tW_P, tW_C, tW_S, tR_inj, tR_B, tR_W, tR_P, tR_C, tR_S, tP_inj, tP_B, tP_W, tP_R, tP_C, tP_S, tC_inj, tC_B, tC_W, tC_R, tC_P, tC_S, tS_inj, tS_B, tS_W, tS_R, tS_P, tS_C, tM_inj, tM_B, tM_W, tM_R, tM_P, tM_C, tM_S, tB_M, tW_M, tR_M, tP_M, tC_M, tS_M]) (by simp [tB_inj, tB_W, tB_R, tB_P, tB_C, tB_S, tW_inj, tW_B, tW_R, tW_P, tW_C, tW_S, tR_inj, tR_B, tR_W, tR_P, tR_C, tR_S, tP_inj, tP_B, tP_W, tP_R, tP_C, tP_S, tC_inj, tC_B, tC_W, tC_R, tC_P, tC_S, tS_inj, tS_B, tS_W, tS_R, tS_P, tS_C, tM_inj, tM_B, tM_W, tM_R, tM_P, tM_C, tM_S, tB_M, tW_M, tR_M, tP_M, tC_M, tS_M]) (by simp [tB_inj, tB_W, tB_R, tB_P, tB_C, tB_S, tW_inj, tW_B, tW_R, tW_P, tW_C, tW_S, tR_inj, tR_B, tR_W, tR_P, tR_C, tR_S, tP_inj, tP_B, tP_W, tP_R, tP_C, tP_S, tC_inj, tC_B, tC_W, tC_R, tC_P, tC_S, tS_inj, tS_B, tS_W, tS_R, tS_P, tS_C, tM_inj, tM_B, tM_W, tM_R, tM_P, tM_C, tM_S, tB_M, tW_M, tR_M, tP_M, tC_M, tS_M]) N), (by have q := hB_d D (by simp [tB_inj, tB_W, tB_R, tB_P, tB_C, tB_S, tW_inj, tW_B, tW_R, tW_P, tW_C, tW_S, tR_inj, tR_B, tR_W, tR_P, tR_C, tR_S, tP_inj, tP_B, tP_W, tP_R, tP_C, tP_S, tC_inj, tC_B, tC_W, tC_R, tC_P, tC_S, tS_inj, tS_B, tS_W, tS_R, tS_P, tS_C, tM_inj, tM_B, tM_W, tM_R, tM_P, tM_C, tM_S, tB_M, tW_M, tR_M, tP_M, tC_M, tS_M]) (fun i => by simp [tB_inj, tB_W, tB_R, tB_P, tB_C, tB_S, tW_inj, tW_B, tW_R, tW_P, tW_C, tW_S, tR_inj, tR_B, tR_W, tR_P, tR_C, tR_S, tP_inj, tP_B, tP_W, tP_R, tP_C, tP_S, tC_inj, tC_B, tC_W, tC_R, tC_P, tC_S, tS_inj, tS_B, tS_W, tS_R, tS_P, tS_C, tM_inj, tM_B, tM_W, tM_R, tM_P, tM_C, tM_S, tB_M, tW_M, tR_M, tP_M, tC_M, tS_M]) B; unfold hB pB at q ⊢; simp only [r 9 (by decide) (by decide), r 10 (by decide) (by decide), r 11 (by decide) (by decide), r 12 (by decide) (by decide), r 13 (by decide) (by decide), r 14 (by decide) (by decide), r 15 (by decide) (by decide), r 16 (by decide) (by decide), r 17 (by decide) (by decide)]; exact q), (by have q := hW_d D (by simp [tB_inj, tB_W, tB_R, tB_P, tB_C, tB_S, tW_inj, tW_B, tW_R, tW_P, tW_C, tW_S, tR_inj, tR_B, tR_W, tR_P, tR_C, tR_S, tP_inj, tP_B, tP_W, tP_R, tP_C, tP_S, tC_inj, tC_B, tC_W, tC_R, tC_P, tC_S, tS_inj, tS_B, tS_W, tS_R, tS_P, tS_C, tM_inj, tM_B, tM_W, tM_R, tM_P, tM_C, tM_S, tB_M, tW_M, tR_M, tP_M, tC_M, tS_M]) (fun i => by simp [tB_inj, tB_W, tB_R, tB_P, tB_C, tB_S, tW_inj, tW_B, tW_R, tW_P, tW_C, tW_S, tR_inj, tR_B, tR_W, tR_P, tR_C, tR_S, tP_inj, tP_B, tP_W, tP_R, tP_C, tP_S, tC_inj, tC_B, tC_W, tC_R, tC_P, tC_S, tS_inj, tS_B, tS_W, tS_R, tS_P, tS_C, tM_inj, tM_B, tM_W, tM_R, tM_P, tM_C, tM_S, tB_M, tW_M, tR_M, tP_M, tC_M, tS_M]) W; unfold hW pWl wbK at q ⊢; simp only [r 9 (by decide) (by decide), r 12 (by decide) (by decide), r 17 (by decide) (by decide), r 19 (by decide) (by decide), r 20 (by decide) (by decide), r 21 (by decide) (by decide), r 22 (by decide) (by decide), r 23 (by decide) (by decide), r 24 (by decide) (by decide)]; exact q), ?_, (by have q := hPi_d D (by simp [tB_inj, tB_W, tB_R, tB_P, tB_C, tB_S, tW_inj, tW_B, tW_R, tW_P, tW_C, tW_S, tR_inj, tR_B, tR_W, tR_P, tR_C, tR_S, tP_inj, tP_B, tP_W, tP_R, tP_C, tP_S, tC_inj, tC_B, tC_W, tC_R, tC_P, tC_S, tS_inj, tS_B, tS_W, tS_R, tS_P, tS_C, tM_inj, tM_B, tM_W, tM_R, tM_P, tM_C, tM_S, tB_M, tW_M, tR_M, tP_M, tC_M, tS_M]) (fun i => by simp [tB_inj, tB_W, tB_R, tB_P, tB_C, tB_S, tW_inj, tW_B, tW_R, tW_P, tW_C, tW_S, tR_inj, tR_B, tR_W, tR_P, tR_C, tR_S, tP_inj, tP_B, tP_W, tP_R, tP_C, tP_S, tC_inj, tC_B, tC_W, tC_R, tC_P, tC_S, tS_inj, tS_B, tS_W, tS_R, tS_P, tS_C, tM_inj, tM_B, tM_W, tM_R, tM_P, tM_C, tM_S, tB_M, tW_M, tR_M, tP_M, tC_M, tS_M]) (fun i => by simp [tB_inj, tB_W, tB_R, tB_P, tB_C, tB_S, tW_inj, tW_B, tW_R, tW_P, tW_C, tW_S, tR_inj, tR_B, tR_W, tR_P, tR_C, tR_S, tP_inj, tP_B, tP_W, tP_R, tP_C, tP_S, tC_inj, tC_B, tC_W, tC_R, tC_P, tC_S, tS_inj, tS_B, tS_W, tS_R, tS_P, tS_C, tM_inj, tM_B, tM_W, tM_R, tM_P, tM_C, tM_S, tB_M, tW_M, tR_M, tP_M, tC_M, tS_M]) P; unfold hPi pP at q ⊢; simp only [r 31 (by decide) (by decide), r 32 (by decide) (by decide)]; exact q), (by have q := hHu_d D (by simp [tB_inj, tB_W, tB_R, tB_P, tB_C, tB_S, tW_inj, tW_B, tW_R, tW_P, tW_C, tW_S, tR_inj, tR_B, tR_W, tR_P, tR_C, tR_S, tP_inj, tP_B, tP_W, tP_R, tP_C, tP_S, tC_inj, tC_B, tC_W, tC_R, tC_P, tC_S, tS_inj, tS_B, tS_W, tS_R, tS_P, tS_C, tM_inj, tM_B, tM_W, tM_R, tM_P, tM_C, tM_S, tB_M, tW_M, tR_M, tP_M, tC_M, tS_M]) H; unfold hHu at q ⊢; rw [tns_cg (r 9 (by decide) (by decide)) (r 13 (by decide) (by decide)) (r 27 (by decide) (by decide)) (r 28 (by decide) (by decide)), mom_cg (r 9 (by decide) (by decide)) (r 10 (by decide) (by decide)) (r 11 (by decide) (by decide)) (r 13 (by decide) (by decide)) (r 27 (by decide) (by decide)) (r 28 (by decide) (by decide))]; exact q), hLe_cg (σ := σ) (r 9 (by decide) (by decide)) (r 21 (by decide) (by decide)) rfl rfl (hLe_d D (by simp [tB_inj, tB_W, tB_R, tB_P, tB_C, tB_S, tW_inj, tW_B, tW_R, tW_P, tW_C, tW_S, tR_inj, tR_B, tR_W, tR_P, tR_C, tR_S, tP_inj, tP_B, tP_W, tP_R, tP_C, tP_S, tC_inj, tC_B, tC_W, tC_R, tC_P, tC_S, tS_inj, tS_B, tS_W, tS_R, tS_P, tS_C, tM_inj, tM_B, tM_W, tM_R, tM_P, tM_C, tM_S, tB_M, tW_M, tR_M, tP_M, tC_M, tS_M]) (by simp [tB_inj, tB_W, tB_R, tB_P, tB_C, tB_S, tW_inj, tW_B, tW_R, tW_P, tW_C, tW_S, tR_inj, tR_B, tR_W, tR_P, tR_C, tR_S, tP_inj, tP_B, tP_W, tP_R, tP_C, tP_S, tC_inj, tC_B, tC_W, tC_R, tC_P, tC_S, tS_inj, tS_B, tS_W, tS_R, tS_P, tS_C, tM_inj, tM_B, tM_W, tM_R, tM_P, tM_C, tM_S, tB_M, tW_M, tR_M, tP_M, tC_M, tS_M]) L)⟩, F.tr (FM_d D (fun i => by simp [tB_inj, tB_W, tB_R, tB_P, tB_C, tB_S, tW_inj, tW_B, tW_R, tW_P, tW_C, tW_S, tR_inj, tR_B, tR_W, tR_P, tR_C, tR_S, tP_inj, tP_B, tP_W, tP_R, tP_C, tP_S, tC_inj, tC_B, tC_W, tC_R, tC_P, tC_S, tS_inj, tS_B, tS_W, tS_R, tS_P, tS_C, tM_inj, tM_B, tM_W, tM_R, tM_P, tM_C, tM_S, tB_M, tW_M, tR_M, tP_M, tC_M, tS_M]))⟩
  unfold hRm
  rw [r 25 (by decide) (by decide)]
  refine ⟨r1, fun i hi hn => ⟨?_, (r2 i hi hn).2⟩, r3⟩
  obtain ⟨q1, q2, q3, q4, q5, q6, q7⟩ := (r2 i hi hn).1
  unfold pRm
  rw [r 25 (by decide) (by decide)]
  have hst : tR c = tR (stp c s) ↔ False := ⟨fun z => hne (tR_inj.mp z), False.elim⟩
  refine ⟨q1, ?_, q3, ?_, ?_, ?_, ?_⟩
  · simp [gI_sI, q2]
  · rw [hoS_26]
    simp only [gI_sI, tR_inj, q4]
    grind
  · simp [gI_sI, q5, r 27 (by decide) (by decide)]
  · simp [gI_sI, q6, r 28 (by decide) (by decide)]
  · rw [hoS_29]
    simp only [gI_sI, tR_inj, q7]
    grind


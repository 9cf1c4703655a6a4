/-! THE COMPONENT'S erect -/
theorem RX_7 {κ : AH} {σ : MS} {nb nw np : Nat} {wb : Nat → Nat} {T M m x : Int32} {n : Nat} (h : RX κ σ nb nw np wb T M n m) : RX κ (upS σ 7 x) nb nw np wb T M n m := by
  obtain ⟨G, N, B, W, R, P, H, L⟩ := h
  exact ⟨G, hNm_cg (σ := σ) (fun k hk => if_neg (by omega)) rfl N, B, W, R, P, H, L⟩
theorem erA_14 {σ : MS} {i : Nat} {a c : Int32} : (erA σ i a c).2 14 i = σ.2 14 i - cutE σ i a c := by
  unfold erA
  by_cases h : ¬ a = -1 ∧ ¬ c = -1
  · rw [if_pos h]
    simp [upA]
  · rw [if_neg h]
    unfold cutE
    rw [if_neg h]
    grind
theorem erA_o {σ : MS} {i j k : Nat} {a c : Int32} (h : j ≠ i) : (erA σ i a c).2 k j = σ.2 k j := by
  unfold erA
  split
  · simp [upA, h]
  · rfl
theorem erB_o {σ : MS} {i j k : Nat} {a c : Int32} (h : j ≠ i) : (erB σ i a c).2 k j = σ.2 k j := by
  simp only [erB, upA, h, and_false, if_false]
  exact erA_o h
theorem erB_14 {σ : MS} {i : Nat} {a c : Int32} : (erB σ i a c).2 14 i = σ.2 14 i - cutE σ i a c := by
  rw [← erA_14]
  simp [erB, upA]
theorem erB_16 {σ : MS} {i : Nat} {a c : Int32} : (erB σ i a c).2 16 i = begE (erA σ i a c) i a c := by
  simp [erB, upA]
def erH1 (κ : AH) (σ : MS) (i : Nat) (a c : Int32) : AH := sI (sI (sI κ (tB i) 6 (gI κ (tB i) 6 - cutE σ i a c)) (tB i) 7 (begE (erA σ i a c) i a c)) (tB i) 8 2
theorem e1_D {κ : AH} {σ : MS} {i : Nat} {a c : Int32} : Dif (fun t => t = tB i) κ (erH1 κ σ i a c) := by
  unfold erH1
  exact (by repeat' first | exact Dif.rfl' | exact rfl | exact Or.inl rfl | exact Or.inr rfl | exact Or.inr (Or.inl rfl) | exact Or.inr (Or.inr rfl) | exact Or.inr (Or.inr (Or.inl rfl)) | exact Or.inr (Or.inr (Or.inr rfl)) | exact ⟨_, rfl⟩ | apply Dif.sI | apply Dif.sR | apply Dif.nO)
theorem x_e1 {κ : AH} {σ : MS} {nb nw np : Nat} {wb : Nat → Nat} {T M m : Int32} {n : Nat} (h : RX κ σ nb nw np wb T M n m) {i : Nat} {a c : Int32} (h0 : σ.2 9 i = 0) : RX (erH1 κ σ i a c) (erB σ i a c) nb nw np wb T M n m := by
  obtain ⟨G, N, B, W, R, P, H, L⟩ := h
  have r : ∀ k, k ≠ 14 → k ≠ 16 → k ≠ 9 → (erB σ i a c).2 k = σ.2 k := fun k a b c => erB_row a b c
  have D := e1_D (κ := κ) (σ := σ) (i := i) (a := a) (c := c)
  obtain ⟨b1, b2, b3⟩ := B
  obtain ⟨w1, w2, w3⟩ := W
  refine ⟨?_, ?_, ⟨fun j hj => ?_, fun j hj => ?_, fun j hj => ?_⟩, ⟨fun j hj => ?_, fun j hj => ?_, fun j hj => ?_⟩, ?_, ?_, hHu_d' D (by simp [tB_inj, tB_W, tB_R, tB_P, tB_C, tB_S, tW_inj, tW_B, tW_R, tW_P, tW_C, tW_S, tR_inj, tR_B, tR_W, tR_P, tR_C, tR_S, tP_inj, tP_B, tP_W, tP_R, tP_C, tP_S, tC_inj, tC_B, tC_W, tC_R, tC_P, tC_S, tS_inj, tS_B, tS_W, tS_R, tS_P, tS_C, tM_inj, tM_B, tM_W, tM_R, tM_P, tM_C, tM_S, tB_M, tW_M, tR_M, tP_M, tC_M, tS_M]) H, hLe_d' D (by simp [tB_inj, tB_W, tB_R, tB_P, tB_C, tB_S, tW_inj, tW_B, tW_R, tW_P, tW_C, tW_S, tR_inj, tR_B, tR_W, tR_P, tR_C, tR_S, tP_inj, tP_B, tP_W, tP_R, tP_C, tP_S, tC_inj, tC_B, tC_W, tC_R, tC_P, tC_S, tS_inj, tS_B, tS_W, tS_R, tS_P, tS_C, tM_inj, tM_B, tM_W, tM_R, tM_P, tM_C, tM_S, tB_M, tW_M, tR_M, tP_M, tC_M, tS_M]) (by simp [tB_inj, tB_W, tB_R, tB_P, tB_C, tB_S, tW_inj, tW_B, tW_R, tW_P, tW_C, tW_S, tR_inj, tR_B, tR_W, tR_P, tR_C, tR_S, tP_inj, tP_B, tP_W, tP_R, tP_C, tP_S, tC_inj, tC_B, tC_W, tC_R, tC_P, tC_S, tS_inj, tS_B, tS_W, tS_R, tS_P, tS_C, tM_inj, tM_B, tM_W, tM_R, tM_P, tM_C, tM_S, tB_M, tW_M, tR_M, tP_M, tC_M, tS_M]) L⟩
  · exact SG_d D (fun i hi z => tS_B.mp z) G
  · exact hNm_cg (σ := σ) (fun _ _ => by rw [erB_num]) (r 5 (by decide) (by decide) (by decide)) (hNm_d D (by simp [tB_inj, tB_W, tB_R, tB_P, tB_C, tB_S, tW_inj, tW_B, tW_R, tW_P, tW_C, tW_S, tR_inj, tR_B, tR_W, tR_P, tR_C, tR_S, tP_inj, tP_B, tP_W, tP_R, tP_C, tP_S, tC_inj, tC_B, tC_W, tC_R, tC_P, tC_S, tS_inj, tS_B, tS_W, tS_R, tS_P, tS_C, tM_inj, tM_B, tM_W, tM_R, tM_P, tM_C, tM_S, tB_M, tW_M, tR_M, tP_M, tC_M, tS_M]) (by simp [tB_inj, tB_W, tB_R, tB_P, tB_C, tB_S, tW_inj, tW_B, tW_R, tW_P, tW_C, tW_S, tR_inj, tR_B, tR_W, tR_P, tR_C, tR_S, tP_inj, tP_B, tP_W, tP_R, tP_C, tP_S, tC_inj, tC_B, tC_W, tC_R, tC_P, tC_S, tS_inj, tS_B, tS_W, tS_R, tS_P, tS_C, tM_inj, tM_B, tM_W, tM_R, tM_P, tM_C, tM_S, tB_M, tW_M, tR_M, tP_M, tC_M, tS_M]) (by simp [tB_inj, tB_W, tB_R, tB_P, tB_C, tB_S, tW_inj, tW_B, tW_R, tW_P, tW_C, tW_S, tR_inj, tR_B, tR_W, tR_P, tR_C, tR_S, tP_inj, tP_B, tP_W, tP_R, tP_C, tP_S, tC_inj, tC_B, tC_W, tC_R, tC_P, tC_S, tS_inj, tS_B, tS_W, tS_R, tS_P, tS_C, tM_inj, tM_B, tM_W, tM_R, tM_P, tM_C, tM_S, tB_M, tW_M, tR_M, tP_M, tC_M, tS_M]) N)
  · exact ((D _ (by simp [tB_inj, tB_W, tB_R, tB_P, tB_C, tB_S, tW_inj, tW_B, tW_R, tW_P, tW_C, tW_S, tR_inj, tR_B, tR_W, tR_P, tR_C, tR_S, tP_inj, tP_B, tP_W, tP_R, tP_C, tP_S, tC_inj, tC_B, tC_W, tC_R, tC_P, tC_S, tS_inj, tS_B, tS_W, tS_R, tS_P, tS_C, tM_inj, tM_B, tM_W, tM_R, tM_P, tM_C, tM_S, tB_M, tW_M, tR_M, tP_M, tC_M, tS_M])).2.2.2 j).trans (b1 j hj)
  · obtain ⟨p1, p2, p3, p4, p5, p6, p7, p8, p9, p10, p11⟩ := b2 j hj
    by_cases e : j = i
    · subst e
      have k : ∀ k, k ≠ 6 → k ≠ 7 → k ≠ 8 → gI (erH1 κ σ j a c) (tB j) k = gI κ (tB j) k := fun k h6 h7 h8 => by
        unfold erH1
        rw [gI_sI, if_neg (fun z => h8 z.2), gI_sI, if_neg (fun z => h7 z.2), gI_sI, if_neg (fun z => h6 z.2)]
      refine ⟨p1, (k 0 (by decide) (by decide) (by decide)).trans p2, ?_, ?_, ?_, ?_, ?_, ?_, ?_, ?_, ?_⟩
      · rw [k 1 (by decide) (by decide) (by decide), r 10 (by decide) (by decide) (by decide)]; exact p3
      · rw [k 2 (by decide) (by decide) (by decide), r 11 (by decide) (by decide) (by decide)]; exact p4
      · rw [k 3 (by decide) (by decide) (by decide), r 12 (by decide) (by decide) (by decide)]; exact p5
      · rw [k 4 (by decide) (by decide) (by decide), r 13 (by decide) (by decide) (by decide)]; exact p6
      · rw [k 5 (by decide) (by decide) (by decide), r 15 (by decide) (by decide) (by decide)]; exact p7
      · rw [erB_14, ← p8]; simp [erH1, gI_sI]
      · intro _
        rw [erB_16]; simp [erH1, gI_sI]
      · rw [erB_9, if_pos rfl]; simp [erH1, gI_sI]
      · rw [r 17 (by decide) (by decide) (by decide)]; exact p11
    · obtain ⟨t1, t2, t3, t4⟩ := D (tB j) (by simp [tB_inj, e])
      have q := b2 j hj
      unfold pB at q ⊢
      simp only [t1, t3, t4, erB_o e]
      exact q
  · exact b3 j hj
  · exact ((D _ (by simp [tB_inj, tB_W, tB_R, tB_P, tB_C, tB_S, tW_inj, tW_B, tW_R, tW_P, tW_C, tW_S, tR_inj, tR_B, tR_W, tR_P, tR_C, tR_S, tP_inj, tP_B, tP_W, tP_R, tP_C, tP_S, tC_inj, tC_B, tC_W, tC_R, tC_P, tC_S, tS_inj, tS_B, tS_W, tS_R, tS_P, tS_C, tM_inj, tM_B, tM_W, tM_R, tM_P, tM_C, tM_S, tB_M, tW_M, tR_M, tP_M, tC_M, tS_M])).2.2.2 j).trans (w1 j hj)
  · obtain ⟨q1, q2, q3, q4, q5⟩ := w2 j hj
    refine ⟨?_, q2, ?_, ?_, ?_⟩
    · obtain ⟨t1, t2, t3, t4⟩ := D (tW j) (by simp [tB_inj, tB_W, tB_R, tB_P, tB_C, tB_S, tW_inj, tW_B, tW_R, tW_P, tW_C, tW_S, tR_inj, tR_B, tR_W, tR_P, tR_C, tR_S, tP_inj, tP_B, tP_W, tP_R, tP_C, tP_S, tC_inj, tC_B, tC_W, tC_R, tC_P, tC_S, tS_inj, tS_B, tS_W, tS_R, tS_P, tS_C, tM_inj, tM_B, tM_W, tM_R, tM_P, tM_C, tM_S, tB_M, tW_M, tR_M, tP_M, tC_M, tS_M])
      unfold pWl at q1 ⊢
      simp only [t1, t3, t4, r 22 (by decide) (by decide) (by decide), r 19 (by decide) (by decide) (by decide), r 21 (by decide) (by decide) (by decide), r 20 (by decide) (by decide) (by decide)]
      exact q1
    · rw [r 12 (by decide) (by decide) (by decide), r 23 (by decide) (by decide) (by decide)]; exact q3
    · rw [r 24 (by decide) (by decide) (by decide), r 17 (by decide) (by decide) (by decide), erB_9]
      intro z
      refine ⟨?_, (q4 z).2⟩
      split
      · rfl
      · exact (q4 z).1
    · rw [r 24 (by decide) (by decide) (by decide)]; exact q5
  · exact w3 j hj
  · have q := hRm_d D (by simp [tB_inj, tB_W, tB_R, tB_P, tB_C, tB_S, tW_inj, tW_B, tW_R, tW_P, tW_C, tW_S, tR_inj, tR_B, tR_W, tR_P, tR_C, tR_S, tP_inj, tP_B, tP_W, tP_R, tP_C, tP_S, tC_inj, tC_B, tC_W, tC_R, tC_P, tC_S, tS_inj, tS_B, tS_W, tS_R, tS_P, tS_C, tM_inj, tM_B, tM_W, tM_R, tM_P, tM_C, tM_S, tB_M, tW_M, tR_M, tP_M, tC_M, tS_M]) (fun i hi => by simp [tB_inj, tB_W, tB_R, tB_P, tB_C, tB_S, tW_inj, tW_B, tW_R, tW_P, tW_C, tW_S, tR_inj, tR_B, tR_W, tR_P, tR_C, tR_S, tP_inj, tP_B, tP_W, tP_R, tP_C, tP_S, tC_inj, tC_B, tC_W, tC_R, tC_P, tC_S, tS_inj, tS_B, tS_W, tS_R, tS_P, tS_C, tM_inj, tM_B, tM_W, tM_R, tM_P, tM_C, tM_S, tB_M, tW_M, tR_M, tP_M, tC_M, tS_M]) R
    unfold hRm pRm at q ⊢
    simp only [r 25 (by decide) (by decide) (by decide), r 26 (by decide) (by decide) (by decide), r 27 (by decide) (by decide) (by decide), r 28 (by decide) (by decide) (by decide), r 29 (by decide) (by decide) (by decide)]
    exact q
  · have q := hPi_d D (by simp [tB_inj, tB_W, tB_R, tB_P, tB_C, tB_S, tW_inj, tW_B, tW_R, tW_P, tW_C, tW_S, tR_inj, tR_B, tR_W, tR_P, tR_C, tR_S, tP_inj, tP_B, tP_W, tP_R, tP_C, tP_S, tC_inj, tC_B, tC_W, tC_R, tC_P, tC_S, tS_inj, tS_B, tS_W, tS_R, tS_P, tS_C, tM_inj, tM_B, tM_W, tM_R, tM_P, tM_C, tM_S, tB_M, tW_M, tR_M, tP_M, tC_M, tS_M]) (fun i => by simp [tB_inj, tB_W, tB_R, tB_P, tB_C, tB_S, tW_inj, tW_B, tW_R, tW_P, tW_C, tW_S, tR_inj, tR_B, tR_W, tR_P, tR_C, tR_S, tP_inj, tP_B, tP_W, tP_R, tP_C, tP_S, tC_inj, tC_B, tC_W, tC_R, tC_P, tC_S, tS_inj, tS_B, tS_W, tS_R, tS_P, tS_C, tM_inj, tM_B, tM_W, tM_R, tM_P, tM_C, tM_S, tB_M, tW_M, tR_M, tP_M, tC_M, tS_M]) (fun i => by simp [tB_inj, tB_W, tB_R, tB_P, tB_C, tB_S, tW_inj, tW_B, tW_R, tW_P, tW_C, tW_S, tR_inj, tR_B, tR_W, tR_P, tR_C, tR_S, tP_inj, tP_B, tP_W, tP_R, tP_C, tP_S, tC_inj, tC_B, tC_W, tC_R, tC_P, tC_S, tS_inj, tS_B, tS_W, tS_R, tS_P, tS_C, tM_inj, tM_B, tM_W, tM_R, tM_P, tM_C, tM_S, tB_M, tW_M, tR_M, tP_M, tC_M, tS_M]) P
    unfold hPi pP at q ⊢
    simp only [r 31 (by decide) (by decide) (by decide), r 32 (by decide) (by decide) (by decide)]
    exact q
theorem f1_D {κ : AH} {c j : Nat} : Dif (fun t => t = tR c ∨ t = tS 8) κ (f1H κ c j) := by
  unfold f1H rmI
  exact (by repeat' first | exact Dif.rfl' | exact rfl | exact Or.inl rfl | exact Or.inr rfl | exact Or.inr (Or.inl rfl) | exact Or.inr (Or.inr rfl) | exact Or.inr (Or.inr (Or.inl rfl)) | exact Or.inr (Or.inr (Or.inr rfl)) | exact ⟨_, rfl⟩ | apply Dif.sI | apply Dif.sR | apply Dif.nO)
theorem fi_D {κ : AH} {c j : Nat} : ∀ n, Dif (fun t => (∃ d, t = tR d) ∨ t = tS 8) κ (fiH κ c j n)
  | 0 => Dif.rfl'
  | n + 1 => (fi_D n).tr (f1_D.mono fun t z => z.imp (fun q => ⟨_, q⟩) id)
theorem x_f1 {κ : AH} {σ : MS} {nb nw np : Nat} {wb : Nat → Nat} {T M m : Int32} {n : Nat} (h : RX κ σ nb nw np wb T M n m) {c i : Nat} (hib : i < nb) (hnb : nb ≤ 60) (hm : σ.2 26 c = 0 ∧ σ.2 27 c = 0 ∧ σ.2 28 c = 0 ∧ σ.2 29 c = 0) : RX (f1H κ c i) (upA σ 25 c (nI i)) nb nw np wb T M n m := by
  obtain ⟨G, N, B, W, R, P, H, L⟩ := h
  have D := f1_D (κ := κ) (c := c) (j := i)
  obtain ⟨r1, r2, r3⟩ := R
  have m1 := nI_mm (k := i) (by omega)
  have u : ∀ d, (upA σ 25 c (nI i)).2 25 d = if d = c then nI i else σ.2 25 d := fun d => by simp [upA]
  have r : ∀ k, k ≠ 25 → (upA σ 25 c (nI i)).2 k = σ.2 k := fun k hk => funext fun d => if_neg (fun z => hk z.1)
  refine ⟨f1H_SG G, hNm_d D (by simp [tB_inj, tB_W, tB_R, tB_P, tB_C, tB_S, tW_inj, tW_B, tW_R, tW_P, tW_C, tW_S, tR_inj, tR_B, tR_W, tR_P, tR_C, tR_S, tP_inj, tP_B, tP_W, tP_R, tP_C, tP_S, tC_inj, tC_B, tC_W, tC_R, tC_P, tC_S, tS_inj, tS_B, tS_W, tS_R, tS_P, tS_C, tM_inj, tM_B, tM_W, tM_R, tM_P, tM_C, tM_S, tB_M, tW_M, tR_M, tP_M, tC_M, tS_M]) (by simp [tB_inj, tB_W, tB_R, tB_P, tB_C, tB_S, tW_inj, tW_B, tW_R, tW_P, tW_C, tW_S, tR_inj, tR_B, tR_W, tR_P, tR_C, tR_S, tP_inj, tP_B, tP_W, tP_R, tP_C, tP_S, tC_inj, tC_B, tC_W, tC_R, tC_P, tC_S, tS_inj, tS_B, tS_W, tS_R, tS_P, tS_C, tM_inj, tM_B, tM_W, tM_R, tM_P, tM_C, tM_S, tB_M, tW_M, tR_M, tP_M, tC_M, tS_M]) (by simp [tB_inj, tB_W, tB_R, tB_P, tB_C, tB_S, tW_inj, tW_B, tW_R, tW_P, tW_C, tW_S, tR_inj, tR_B, tR_W, tR_P, tR_C, tR_S, tP_inj, tP_B, tP_W, tP_R, tP_C, tP_S, tC_inj, tC_B, tC_W, tC_R, tC_P, tC_S, tS_inj, tS_B, tS_W, tS_R, tS_P, tS_C, tM_inj, tM_B, tM_W, tM_R, tM_P, tM_C, tM_S, tB_M, tW_M, tR_M, tP_M, tC_M, tS_M]) N, hB_d D (by simp [tB_inj, tB_W, tB_R, tB_P, tB_C, tB_S, tW_inj, tW_B, tW_R, tW_P, tW_C, tW_S, tR_inj, tR_B, tR_W, tR_P, tR_C, tR_S, tP_inj, tP_B, tP_W, tP_R, tP_C, tP_S, tC_inj, tC_B, tC_W, tC_R, tC_P, tC_S, tS_inj, tS_B, tS_W, tS_R, tS_P, tS_C, tM_inj, tM_B, tM_W, tM_R, tM_P, tM_C, tM_S, tB_M, tW_M, tR_M, tP_M, tC_M, tS_M]) (fun i => by simp [tB_inj, tB_W, tB_R, tB_P, tB_C, tB_S, tW_inj, tW_B, tW_R, tW_P, tW_C, tW_S, tR_inj, tR_B, tR_W, tR_P, tR_C, tR_S, tP_inj, tP_B, tP_W, tP_R, tP_C, tP_S, tC_inj, tC_B, tC_W, tC_R, tC_P, tC_S, tS_inj, tS_B, tS_W, tS_R, tS_P, tS_C, tM_inj, tM_B, tM_W, tM_R, tM_P, tM_C, tM_S, tB_M, tW_M, tR_M, tP_M, tC_M, tS_M]) B, hW_d D (by simp [tB_inj, tB_W, tB_R, tB_P, tB_C, tB_S, tW_inj, tW_B, tW_R, tW_P, tW_C, tW_S, tR_inj, tR_B, tR_W, tR_P, tR_C, tR_S, tP_inj, tP_B, tP_W, tP_R, tP_C, tP_S, tC_inj, tC_B, tC_W, tC_R, tC_P, tC_S, tS_inj, tS_B, tS_W, tS_R, tS_P, tS_C, tM_inj, tM_B, tM_W, tM_R, tM_P, tM_C, tM_S, tB_M, tW_M, tR_M, tP_M, tC_M, tS_M]) (fun i => by simp [tB_inj, tB_W, tB_R, tB_P, tB_C, tB_S, tW_inj, tW_B, tW_R, tW_P, tW_C, tW_S, tR_inj, tR_B, tR_W, tR_P, tR_C, tR_S, tP_inj, tP_B, tP_W, tP_R, tP_C, tP_S, tC_inj, tC_B, tC_W, tC_R, tC_P, tC_S, tS_inj, tS_B, tS_W, tS_R, tS_P, tS_C, tM_inj, tM_B, tM_W, tM_R, tM_P, tM_C, tM_S, tB_M, tW_M, tR_M, tP_M, tC_M, tS_M]) W, ⟨fun d hd => ?_, fun d hd hf => ?_, fun d hd hf => ?_⟩, hPi_d D (by simp [tB_inj, tB_W, tB_R, tB_P, tB_C, tB_S, tW_inj, tW_B, tW_R, tW_P, tW_C, tW_S, tR_inj, tR_B, tR_W, tR_P, tR_C, tR_S, tP_inj, tP_B, tP_W, tP_R, tP_C, tP_S, tC_inj, tC_B, tC_W, tC_R, tC_P, tC_S, tS_inj, tS_B, tS_W, tS_R, tS_P, tS_C, tM_inj, tM_B, tM_W, tM_R, tM_P, tM_C, tM_S, tB_M, tW_M, tR_M, tP_M, tC_M, tS_M]) (fun i => by simp [tB_inj, tB_W, tB_R, tB_P, tB_C, tB_S, tW_inj, tW_B, tW_R, tW_P, tW_C, tW_S, tR_inj, tR_B, tR_W, tR_P, tR_C, tR_S, tP_inj, tP_B, tP_W, tP_R, tP_C, tP_S, tC_inj, tC_B, tC_W, tC_R, tC_P, tC_S, tS_inj, tS_B, tS_W, tS_R, tS_P, tS_C, tM_inj, tM_B, tM_W, tM_R, tM_P, tM_C, tM_S, tB_M, tW_M, tR_M, tP_M, tC_M, tS_M]) (fun i => by simp [tB_inj, tB_W, tB_R, tB_P, tB_C, tB_S, tW_inj, tW_B, tW_R, tW_P, tW_C, tW_S, tR_inj, tR_B, tR_W, tR_P, tR_C, tR_S, tP_inj, tP_B, tP_W, tP_R, tP_C, tP_S, tC_inj, tC_B, tC_W, tC_R, tC_P, tC_S, tS_inj, tS_B, tS_W, tS_R, tS_P, tS_C, tM_inj, tM_B, tM_W, tM_R, tM_P, tM_C, tM_S, tB_M, tW_M, tR_M, tP_M, tC_M, tS_M]) P, hHu_d' D (by simp [tB_inj, tB_W, tB_R, tB_P, tB_C, tB_S, tW_inj, tW_B, tW_R, tW_P, tW_C, tW_S, tR_inj, tR_B, tR_W, tR_P, tR_C, tR_S, tP_inj, tP_B, tP_W, tP_R, tP_C, tP_S, tC_inj, tC_B, tC_W, tC_R, tC_P, tC_S, tS_inj, tS_B, tS_W, tS_R, tS_P, tS_C, tM_inj, tM_B, tM_W, tM_R, tM_P, tM_C, tM_S, tB_M, tW_M, tR_M, tP_M, tC_M, tS_M]) H, hLe_d' D (by simp [tB_inj, tB_W, tB_R, tB_P, tB_C, tB_S, tW_inj, tW_B, tW_R, tW_P, tW_C, tW_S, tR_inj, tR_B, tR_W, tR_P, tR_C, tR_S, tP_inj, tP_B, tP_W, tP_R, tP_C, tP_S, tC_inj, tC_B, tC_W, tC_R, tC_P, tC_S, tS_inj, tS_B, tS_W, tS_R, tS_P, tS_C, tM_inj, tM_B, tM_W, tM_R, tM_P, tM_C, tM_S, tB_M, tW_M, tR_M, tP_M, tC_M, tS_M]) (by simp [tB_inj, tB_W, tB_R, tB_P, tB_C, tB_S, tW_inj, tW_B, tW_R, tW_P, tW_C, tW_S, tR_inj, tR_B, tR_W, tR_P, tR_C, tR_S, tP_inj, tP_B, tP_W, tP_R, tP_C, tP_S, tC_inj, tC_B, tC_W, tC_R, tC_P, tC_S, tS_inj, tS_B, tS_W, tS_R, tS_P, tS_C, tM_inj, tM_B, tM_W, tM_R, tM_P, tM_C, tM_S, tB_M, tW_M, tR_M, tP_M, tC_M, tS_M]) L⟩
  · rw [u]
    unfold f1H
    rw [gR_sR]
    by_cases e : d = c
    · rw [if_pos ⟨rfl, e⟩, if_pos e, if_neg m1, e]
    · rw [if_neg (fun z => e z.2), if_neg e]
      have q : gR (rmI κ c i) (tS 8) d = gR κ (tS 8) d := by simp [rmI, gR_sI, gR_sR, gR_nO, tB_inj, tB_W, tB_R, tB_P, tB_C, tB_S, tW_inj, tW_B, tW_R, tW_P, tW_C, tW_S, tR_inj, tR_B, tR_W, tR_P, tR_C, tR_S, tP_inj, tP_B, tP_W, tP_R, tP_C, tP_S, tC_inj, tC_B, tC_W, tC_R, tC_P, tC_S, tS_inj, tS_B, tS_W, tS_R, tS_P, tS_C, tM_inj, tM_B, tM_W, tM_R, tM_P, tM_C, tM_S, tB_M, tW_M, tR_M, tP_M, tC_M, tS_M]
      rw [q]; exact r1 d hd
  · rw [u] at hf
    by_cases e : d = c
    · subst e
      refine ⟨⟨?_, ?_, ?_, ?_, ?_, ?_, ?_⟩, i, hib, by rw [u, if_pos rfl]⟩
      · simp [f1H, rmI, gT_sI, gT_sR, gT_nO]
      · simp [f1H, rmI, gI_sI, gI_sR, gI_nO]
      · rw [u, if_pos rfl, nI_clamp (by omega)]
        simp [f1H, rmI, gR_sI, gR_sR, gR_nO, tB_inj, tB_W, tB_R, tB_P, tB_C, tB_S, tW_inj, tW_B, tW_R, tW_P, tW_C, tW_S, tR_inj, tR_B, tR_W, tR_P, tR_C, tR_S, tP_inj, tP_B, tP_W, tP_R, tP_C, tP_S, tC_inj, tC_B, tC_W, tC_R, tC_P, tC_S, tS_inj, tS_B, tS_W, tS_R, tS_P, tS_C, tM_inj, tM_B, tM_W, tM_R, tM_P, tM_C, tM_S, tB_M, tW_M, tR_M, tP_M, tC_M, tS_M]
      · rw [r 26 (by decide), hm.1]; simp [f1H, rmI, gI_sI, gI_sR, gI_nO]
      · rw [r 27 (by decide), hm.2.1]; simp [f1H, rmI, gI_sI, gI_sR, gI_nO]
      · rw [r 28 (by decide), hm.2.2.1]; simp [f1H, rmI, gI_sI, gI_sR, gI_nO]
      · rw [r 29 (by decide), hm.2.2.2]; simp [f1H, rmI, gI_sI, gI_sR, gI_nO]
    · rw [if_neg e] at hf
      obtain ⟨q, j, hj, ej⟩ := r2 d hd hf
      obtain ⟨t1, t2, t3, t4⟩ := D (tR d) (by simp [tB_inj, tB_W, tB_R, tB_P, tB_C, tB_S, tW_inj, tW_B, tW_R, tW_P, tW_C, tW_S, tR_inj, tR_B, tR_W, tR_P, tR_C, tR_S, tP_inj, tP_B, tP_W, tP_R, tP_C, tP_S, tC_inj, tC_B, tC_W, tC_R, tC_P, tC_S, tS_inj, tS_B, tS_W, tS_R, tS_P, tS_C, tM_inj, tM_B, tM_W, tM_R, tM_P, tM_C, tM_S, tB_M, tW_M, tR_M, tP_M, tC_M, tS_M, e])
      refine ⟨?_, j, hj, by rw [u, if_neg e]; exact ej⟩
      unfold pRm at q ⊢
      rw [u, if_neg e]
      simp only [t1, t3, t4, r 26 (by decide), r 27 (by decide), r 28 (by decide), r 29 (by decide)]
      exact q
  · rw [u] at hf
    by_cases e : d = c
    · rw [if_pos e] at hf; exact absurd hf m1
    · rw [if_neg e] at hf
      exact ((D (tR d) (by simp [tB_inj, tB_W, tB_R, tB_P, tB_C, tB_S, tW_inj, tW_B, tW_R, tW_P, tW_C, tW_S, tR_inj, tR_B, tR_W, tR_P, tR_C, tR_S, tP_inj, tP_B, tP_W, tP_R, tP_C, tP_S, tC_inj, tC_B, tC_W, tC_R, tC_P, tC_S, tS_inj, tS_B, tS_W, tS_R, tS_P, tS_C, tM_inj, tM_B, tM_W, tM_R, tM_P, tM_C, tM_S, tB_M, tW_M, tR_M, tP_M, tC_M, tS_M, e])).1).trans (r3 d hd hf)
theorem x_fn {κ : AH} {σ : MS} {nb nw np : Nat} {wb : Nat → Nat} {T M m : Int32} {n : Nat} (h : RX κ σ nb nw np wb T M n m) {lo hi v i : Nat} (hib : i < nb) (hnb : nb ≤ 60) (hv : v < 3) (hhi : hi < 12) (he : ∀ c, 12 * v + lo ≤ c → c ≤ 12 * v + hi → σ.2 26 c = 0 ∧ σ.2 27 c = 0 ∧ σ.2 28 c = 0 ∧ σ.2 29 c = 0) : ∀ k, lo + k ≤ hi + 1 → RX (fiH κ (12 * v + lo) i k) (flS σ (nI v) (nI i) lo k) nb nw np wb T M n m
  | 0, _ => h
  | k + 1, hk => by
    have ih := x_fn h hib hnb hv hhi he k (by omega)
    have e : (12 * nI v + nI (lo + k)).toNatClampNeg = 12 * v + lo + k := by
      rw [show (12 : Int32) = nI 12 from rfl, nI_mul, nI_add, nI_clamp (by omega)]
      omega
    have q := x_f1 (c := 12 * v + lo + k) ih hib hnb (by rw [flS_row (by decide), flS_row (by decide), flS_row (by decide), flS_row (by decide)]; exact he _ (by omega) (by omega))
    unfold flS
    rw [e]
    exact RX_7 q
theorem x_ld {κ : AH} {σ : MS} {nb nw np : Nat} {wb : Nat → Nat} {T M m t u : Int32} {n : Nat} (h : RX κ σ nb nw np wb T M n m) : RX (sI (sI κ (tS 0) 1 t) (tS 0) 2 u) σ nb nw np wb t u n m := by
  obtain ⟨G, N, B, W, R, P, H, L⟩ := h
  have D : Dif (fun t => t = tS 0) κ (sI (sI κ (tS 0) 1 t) (tS 0) 2 u) := (by repeat' first | exact Dif.rfl' | exact rfl | exact Or.inl rfl | exact Or.inr rfl | exact Or.inr (Or.inl rfl) | exact Or.inr (Or.inr rfl) | exact Or.inr (Or.inr (Or.inl rfl)) | exact Or.inr (Or.inr (Or.inr rfl)) | exact ⟨_, rfl⟩ | apply Dif.sI | apply Dif.sR | apply Dif.nO)
  exact ⟨G, hNm_d D (by simp [tB_inj, tB_W, tB_R, tB_P, tB_C, tB_S, tW_inj, tW_B, tW_R, tW_P, tW_C, tW_S, tR_inj, tR_B, tR_W, tR_P, tR_C, tR_S, tP_inj, tP_B, tP_W, tP_R, tP_C, tP_S, tC_inj, tC_B, tC_W, tC_R, tC_P, tC_S, tS_inj, tS_B, tS_W, tS_R, tS_P, tS_C, tM_inj, tM_B, tM_W, tM_R, tM_P, tM_C, tM_S, tB_M, tW_M, tR_M, tP_M, tC_M, tS_M]) (by simp [tB_inj, tB_W, tB_R, tB_P, tB_C, tB_S, tW_inj, tW_B, tW_R, tW_P, tW_C, tW_S, tR_inj, tR_B, tR_W, tR_P, tR_C, tR_S, tP_inj, tP_B, tP_W, tP_R, tP_C, tP_S, tC_inj, tC_B, tC_W, tC_R, tC_P, tC_S, tS_inj, tS_B, tS_W, tS_R, tS_P, tS_C, tM_inj, tM_B, tM_W, tM_R, tM_P, tM_C, tM_S, tB_M, tW_M, tR_M, tP_M, tC_M, tS_M]) (by simp [tB_inj, tB_W, tB_R, tB_P, tB_C, tB_S, tW_inj, tW_B, tW_R, tW_P, tW_C, tW_S, tR_inj, tR_B, tR_W, tR_P, tR_C, tR_S, tP_inj, tP_B, tP_W, tP_R, tP_C, tP_S, tC_inj, tC_B, tC_W, tC_R, tC_P, tC_S, tS_inj, tS_B, tS_W, tS_R, tS_P, tS_C, tM_inj, tM_B, tM_W, tM_R, tM_P, tM_C, tM_S, tB_M, tW_M, tR_M, tP_M, tC_M, tS_M]) N, hB_d D (by simp [tB_inj, tB_W, tB_R, tB_P, tB_C, tB_S, tW_inj, tW_B, tW_R, tW_P, tW_C, tW_S, tR_inj, tR_B, tR_W, tR_P, tR_C, tR_S, tP_inj, tP_B, tP_W, tP_R, tP_C, tP_S, tC_inj, tC_B, tC_W, tC_R, tC_P, tC_S, tS_inj, tS_B, tS_W, tS_R, tS_P, tS_C, tM_inj, tM_B, tM_W, tM_R, tM_P, tM_C, tM_S, tB_M, tW_M, tR_M, tP_M, tC_M, tS_M]) (fun i => by simp [tB_inj, tB_W, tB_R, tB_P, tB_C, tB_S, tW_inj, tW_B, tW_R, tW_P, tW_C, tW_S, tR_inj, tR_B, tR_W, tR_P, tR_C, tR_S, tP_inj, tP_B, tP_W, tP_R, tP_C, tP_S, tC_inj, tC_B, tC_W, tC_R, tC_P, tC_S, tS_inj, tS_B, tS_W, tS_R, tS_P, tS_C, tM_inj, tM_B, tM_W, tM_R, tM_P, tM_C, tM_S, tB_M, tW_M, tR_M, tP_M, tC_M, tS_M]) B, hW_d D (by simp [tB_inj, tB_W, tB_R, tB_P, tB_C, tB_S, tW_inj, tW_B, tW_R, tW_P, tW_C, tW_S, tR_inj, tR_B, tR_W, tR_P, tR_C, tR_S, tP_inj, tP_B, tP_W, tP_R, tP_C, tP_S, tC_inj, tC_B, tC_W, tC_R, tC_P, tC_S, tS_inj, tS_B, tS_W, tS_R, tS_P, tS_C, tM_inj, tM_B, tM_W, tM_R, tM_P, tM_C, tM_S, tB_M, tW_M, tR_M, tP_M, tC_M, tS_M]) (fun i => by simp [tB_inj, tB_W, tB_R, tB_P, tB_C, tB_S, tW_inj, tW_B, tW_R, tW_P, tW_C, tW_S, tR_inj, tR_B, tR_W, tR_P, tR_C, tR_S, tP_inj, tP_B, tP_W, tP_R, tP_C, tP_S, tC_inj, tC_B, tC_W, tC_R, tC_P, tC_S, tS_inj, tS_B, tS_W, tS_R, tS_P, tS_C, tM_inj, tM_B, tM_W, tM_R, tM_P, tM_C, tM_S, tB_M, tW_M, tR_M, tP_M, tC_M, tS_M]) W, hRm_d D (by simp [tB_inj, tB_W, tB_R, tB_P, tB_C, tB_S, tW_inj, tW_B, tW_R, tW_P, tW_C, tW_S, tR_inj, tR_B, tR_W, tR_P, tR_C, tR_S, tP_inj, tP_B, tP_W, tP_R, tP_C, tP_S, tC_inj, tC_B, tC_W, tC_R, tC_P, tC_S, tS_inj, tS_B, tS_W, tS_R, tS_P, tS_C, tM_inj, tM_B, tM_W, tM_R, tM_P, tM_C, tM_S, tB_M, tW_M, tR_M, tP_M, tC_M, tS_M]) (fun i hi => by simp [tB_inj, tB_W, tB_R, tB_P, tB_C, tB_S, tW_inj, tW_B, tW_R, tW_P, tW_C, tW_S, tR_inj, tR_B, tR_W, tR_P, tR_C, tR_S, tP_inj, tP_B, tP_W, tP_R, tP_C, tP_S, tC_inj, tC_B, tC_W, tC_R, tC_P, tC_S, tS_inj, tS_B, tS_W, tS_R, tS_P, tS_C, tM_inj, tM_B, tM_W, tM_R, tM_P, tM_C, tM_S, tB_M, tW_M, tR_M, tP_M, tC_M, tS_M]) R, hPi_d D (by simp [tB_inj, tB_W, tB_R, tB_P, tB_C, tB_S, tW_inj, tW_B, tW_R, tW_P, tW_C, tW_S, tR_inj, tR_B, tR_W, tR_P, tR_C, tR_S, tP_inj, tP_B, tP_W, tP_R, tP_C, tP_S, tC_inj, tC_B, tC_W, tC_R, tC_P, tC_S, tS_inj, tS_B, tS_W, tS_R, tS_P, tS_C, tM_inj, tM_B, tM_W, tM_R, tM_P, tM_C, tM_S, tB_M, tW_M, tR_M, tP_M, tC_M, tS_M]) (fun i => by simp [tB_inj, tB_W, tB_R, tB_P, tB_C, tB_S, tW_inj, tW_B, tW_R, tW_P, tW_C, tW_S, tR_inj, tR_B, tR_W, tR_P, tR_C, tR_S, tP_inj, tP_B, tP_W, tP_R, tP_C, tP_S, tC_inj, tC_B, tC_W, tC_R, tC_P, tC_S, tS_inj, tS_B, tS_W, tS_R, tS_P, tS_C, tM_inj, tM_B, tM_W, tM_R, tM_P, tM_C, tM_S, tB_M, tW_M, tR_M, tP_M, tC_M, tS_M]) (fun i => by simp [tB_inj, tB_W, tB_R, tB_P, tB_C, tB_S, tW_inj, tW_B, tW_R, tW_P, tW_C, tW_S, tR_inj, tR_B, tR_W, tR_P, tR_C, tR_S, tP_inj, tP_B, tP_W, tP_R, tP_C, tP_S, tC_inj, tC_B, tC_W, tC_R, tC_P, tC_S, tS_inj, tS_B, tS_W, tS_R, tS_P, tS_C, tM_inj, tM_B, tM_W, tM_R, tM_P, tM_C, tM_S, tB_M, tW_M, tR_M, tP_M, tC_M, tS_M]) P, ⟨by simp [gI_sI], by simp [gI_sI]⟩, hLe_d' D (by simp [tB_inj, tB_W, tB_R, tB_P, tB_C, tB_S, tW_inj, tW_B, tW_R, tW_P, tW_C, tW_S, tR_inj, tR_B, tR_W, tR_P, tR_C, tR_S, tP_inj, tP_B, tP_W, tP_R, tP_C, tP_S, tC_inj, tC_B, tC_W, tC_R, tC_P, tC_S, tS_inj, tS_B, tS_W, tS_R, tS_P, tS_C, tM_inj, tM_B, tM_W, tM_R, tM_P, tM_C, tM_S, tB_M, tW_M, tR_M, tP_M, tC_M, tS_M]) (by simp [tB_inj, tB_W, tB_R, tB_P, tB_C, tB_S, tW_inj, tW_B, tW_R, tW_P, tW_C, tW_S, tR_inj, tR_B, tR_W, tR_P, tR_C, tR_S, tP_inj, tP_B, tP_W, tP_R, tP_C, tP_S, tC_inj, tC_B, tC_W, tC_R, tC_P, tC_S, tS_inj, tS_B, tS_W, tS_R, tS_P, tS_C, tM_inj, tM_B, tM_W, tM_R, tM_P, tM_C, tM_S, tB_M, tW_M, tR_M, tP_M, tC_M, tS_M]) L⟩
/-- the heap behind the filling and the payment -/
def erF0 (κ : AH) (σ : MS) (i lo hi v : Nat) (a c : Int32) : AH := sI (sI (fiH (erH1 κ σ i a c) (12 * v + lo) i (hi + 1 - lo)) (tS 0) 1 (gI (erH1 κ σ i a c) (tS 0) 1 + gI (erH1 κ σ i a c) (tB i) 4)) (tS 0) 2 (gI (erH1 κ σ i a c) (tS 0) 2 + gI (erH1 κ σ i a c) (tB i) 4 * (nI lo + nI hi))
def erF (κ : AH) (σ : MS) (nb nw i lo hi v : Nat) (a c : Int32) : AH := enH (erF0 κ σ i lo hi v a c) (nEn σ nb nw) (100 * (σ.2 11 i - σ.2 10 i + 1))
theorem er0_D {κ : AH} {σ : MS} {i lo hi v : Nat} {a c : Int32} : Dif (fun t => t = tB i ∨ ((∃ d, t = tR d) ∨ t = tS 8) ∨ t = tS 0) κ (erF0 κ σ i lo hi v a c) := by
  unfold erF0
  refine Dif.sI (Dif.sI ?_ (Or.inr (Or.inr rfl))) (Or.inr (Or.inr rfl))
  exact (e1_D.mono fun t z => Or.inl z).tr ((fi_D _).mono fun t z => Or.inr (Or.inl z))
theorem er_D {κ : AH} {σ : MS} {nb nw i lo hi v : Nat} {a c : Int32} : Dif (fun t => (t = tB i ∨ ((∃ d, t = tR d) ∨ t = tS 8) ∨ t = tS 0) ∨ (t = tS 10 ∨ t = tS 1)) κ (erF κ σ nb nw i lo hi v a c) := (er0_D.mono fun t z => Or.inl z).tr (enH_D.mono fun t z => Or.inr z)
theorem s_er {κ0 κ : AH} {σ : MS} {nb nw np : Nat} {wb : Nat → Nat} (h : RI κ0 κ σ nb nw np wb) {i lo hi v : Nat} {a c : Int32} (hib : i < nb) (h0 : σ.2 9 i = 0) (hp : pos σ i lo hi v) (hu : ∀ c, 12 * v + lo ≤ c → c ≤ 12 * v + hi → σ.2 25 c = -1) : RI κ0 (erF κ σ nb nw i lo hi v a c) (erC σ i (nI i) a c) nb nw np wb := by
  obtain ⟨I, C, F⟩ := h
  obtain ⟨e1, e2, e3, h1, h2, h3⟩ := id hp
  have r : ∀ k, k ≠ 14 → k ≠ 16 → k ≠ 9 → (erB σ i a c).2 k = σ.2 k := fun k a b c => erB_row a b c
  have X1 := x_e1 (i := i) (a := a) (c := c) (RC_RX C) h0
  have X2 := x_fn (lo := lo) (hi := hi) (v := v) (i := i) X1 hib I.n8 h3 h2 (by rw [r 26 (by decide) (by decide) (by decide), r 27 (by decide) (by decide) (by decide), r 28 (by decide) (by decide) (by decide), r 29 (by decide) (by decide) (by decide)]; exact fun d a b => I.em d (by omega) (hu d a b)) (hi + 1 - lo) (by omega)
  have X3 := x_en (x := 100 * (σ.2 11 i - σ.2 10 i + 1)) (x_ld (t := gI (erH1 κ σ i a c) (tS 0) 1 + gI (erH1 κ σ i a c) (tB i) 4) (u := gI (erH1 κ σ i a c) (tS 0) 2 + gI (erH1 κ σ i a c) (tB i) 4 * (nI lo + nI hi)) X2)
  have q4 : gI (erH1 κ σ i a c) (tB i) 4 = σ.2 13 i := by
    rw [← (C.2.2.1.2.1 i hib).2.2.2.2.2.1]
    simp [erH1, gI_sI]
  have eS : flS (erB σ i a c) (nI v) (nI i) lo (hi + 1 - lo) = erC σ i (nI i) a c := by
    unfold erC
    rw [e1, e2, e3, nI_clamp (by omega), nI_clamp (by omega)]
  rw [eS] at X3
  refine ⟨IV_er I hib h0 hp hu, RX_RC X3 ?_ ?_ (nEn_er hib h0).symm (erC_7 hp).symm, F.tr (FM_d er_D (fun i => by simp [tB_inj, tB_W, tB_R, tB_P, tB_C, tB_S, tW_inj, tW_B, tW_R, tW_P, tW_C, tW_S, tR_inj, tR_B, tR_W, tR_P, tR_C, tR_S, tP_inj, tP_B, tP_W, tP_R, tP_C, tP_S, tC_inj, tC_B, tC_W, tC_R, tC_P, tC_S, tS_inj, tS_B, tS_W, tS_R, tS_P, tS_C, tM_inj, tM_B, tM_W, tM_R, tM_P, tM_C, tM_S, tB_M, tW_M, tR_M, tP_M, tC_M, tS_M]))⟩
  · rw [X1.2.2.2.2.2.2.1.1, q4, (tns_er hib h0).1]
  · rw [X1.2.2.2.2.2.2.1.2, q4, (tns_er hib h0).2, e1, e2]
/-- a weld at a standing block -/
theorem s_mk {κ0 κ : AH} {σ : MS} {nb nw np : Nat} {wb : Nat → Nat} (h : RI κ0 κ σ nb nw np wb) {j : Nat} {f v y : Int32} (hn : nw < 100) (hj : j < nb) (hy : vp_in y 4) (hv : σ.2 12 j = v) (hf : 1 ≤ f ∧ f ≤ 11) (hv2 : 0 ≤ v ∧ v ≤ 2) (h9 : σ.2 9 j = 2) : RI κ0 (mwH κ σ nw j f y (nEn σ nb nw)) (sSpo (sMak σ (-1) f v y.toNatClampNeg) f v) nb (nw + 1) np (fun k => if k = nw then j else wb k) := by
  obtain ⟨I, C, F⟩ := h
  obtain ⟨a1, a2, a3, a4, a5⟩ := mk_all (b := -1) (f := f) (v := v) (y := y.toNatClampNeg) I hn hf hv2
  have X := x_mwS (RC_RX C) I.e18 hn I.n8 hj hy hv hf hv2 h9 ((I.bk j hj).2.2 (Or.inr h9))
  refine ⟨IV_spo a1, RX_RC X ?_ ?_ ?_ ?_, F.tr FM_mw⟩
  · rw [(spo_all (nw := nw + 1)).1, a2]
  · rw [(spo_all (nw := nw + 1)).2.1, a3]
  · rw [spo_all.2.2, a4]
  · show _ = (sMak σ (-1) f v y.toNatClampNeg).1 7
    rw [a5]
theorem e_mk {w : W0} {κ0 κ : AH} {σ : MS} {nb nw np : Nat} {wb : Nat → Nat} (h : RI κ0 κ σ nb nw np wb) {j : Nat} {f y : Int32} (hn : nw < 100) (hj : j < nb) (hy : vp_in y 4) : CY w yX8_makeWeld mX8_makeWeld [.ref (tS 4), .ref (tB j), .int f, .int y] κ (fun v κ' => v = none ∧ κ' = mwH κ σ nw j f y (nEn σ nb nw)) := by
  obtain ⟨I, C, F⟩ := h
  exact c_X8_makeWeld (nb := nb) C.1 (hRm_t C.2.2.2.2.1) I.ch (hB.ch C.2.2.1) (fun i hi => (C.2.2.1.2.1 i hi).2.2.2.2.2.2.2.2.2.1) hj hy (C.2.1.1.2.1.trans I.e18) hn (C.2.2.2.1.2.2 nw (Nat.le_refl _)) (by have := nEn_lt I hn; omega) C.2.2.2.2.2.2.2.1
/-- the neighbours -/
theorem nb_at {σ : MS} {nb nw np i lo hi v : Nat} (I : IV σ nb nw np) (hp : pos σ i lo hi v) (hu : ∀ c, 12 * v + lo ≤ c → c ≤ 12 * v + hi → σ.2 25 c = -1) : (¬ nbA σ i = -1 → 1 ≤ lo ∧ ∃ j, j < nb ∧ nbA σ i = nI j ∧ σ.2 9 j = 2) ∧ (¬ nbB σ i = -1 → hi < 11 ∧ ∃ j, j < nb ∧ nbB σ i = nI j ∧ σ.2 9 j = 2 ∧ σ.2 10 j = nI (hi + 1)) := by
  obtain ⟨e1, e2, e3, h1, h2, h3⟩ := hp
  constructor
  · intro z
    have hl : 1 ≤ lo := Nat.one_le_iff_ne_zero.mpr fun q => z (by
      unfold nbA bAt
      rw [e1, q]
      exact if_neg (fun w => absurd w.1 (by decide)))
    refine ⟨hl, ?_⟩
    unfold nbA at z ⊢
    rw [e1, e3, nI_s1 hl, bAt_n (by omega) h3] at z ⊢
    obtain ⟨j, a1, a2, a3, -⟩ := I.fx _ (by omega) z
    exact ⟨j, a1, a2, a3⟩
  · intro z
    have hl : hi < 11 := Nat.lt_of_not_le fun q => z (by
      unfold nbB bAt
      rw [e2, nI_1]
      exact if_neg (fun w => by have := (nI_leI (b := 11) (by omega) (by decide)).mp w.2; omega))
    refine ⟨hl, ?_⟩
    unfold nbB at z ⊢
    rw [e2, e3, nI_1, bAt_n (by omega) h3] at z ⊢
    obtain ⟨j, a1, a2, a3, a4, a5, a6⟩ := I.fx _ (by omega) z
    refine ⟨j, a1, a2, a3, ?_⟩
    obtain ⟨lo2, hi2, v2, f1, f2, f3, g1, g2, g3⟩ := pos_of (I.rs j a1)
    rw [f3] at a4
    rw [f1] at a5
    rw [f2] at a6
    have b4 := (nI_eq (by omega) (by omega)).mp a4
    have b5 := (nI_leI (by omega) (by omega)).mp a5
    have b6 := (nI_leI (by omega) (by omega)).mp a6
    rw [f1]
    by_cases e : lo2 = hi + 1
    · rw [e]
    · exfalso
      have q := I.fy j a1 a3 hi v (by omega) h3 (by rw [f3]; congr 1; omega) (by rw [f1]; exact nI_le (by omega) (by omega)) (by rw [f2]; exact nI_le (by omega) (by omega))
      rw [hu (12 * v + hi) (by omega) (by omega)] at q
      exact nI_mm (by have := I.n8; omega) q.symm
theorem rsn_ge {σ : MS} {i : Nat} : ¬ 0 < rsn σ i ↔ rsn σ i = 0 := by
  have : 0 ≤ rsn σ i := by
    unfold rsn rsn2
    repeat' split
    all_goals decide
  constructor
  · exact fun z => Int32.le_antisymm (Int32.not_lt.mp z) this
  · exact fun z q => by rw [z] at q; exact absurd q (by decide)
theorem rsn_0 {σ : MS} {i : Nat} (h : rsn σ i = 0) : σ.2 9 i = 0 ∧ σ.1 6 = 0 ∧ flN σ i = false := by
  unfold rsn at h
  by_cases h1 : ¬ σ.2 9 i = 0 ∨ ¬ σ.1 6 = 0
  · rw [if_pos h1] at h; exact absurd h (by decide)
  · rw [if_neg h1] at h
    refine ⟨Classical.byContradiction fun z => h1 (Or.inl z), Classical.byContradiction fun z => h1 (Or.inr z), ?_⟩
    cases e : flN σ i with
    | false => rfl
    | true => rw [e, if_pos rfl] at h; exact absurd h (by decide)


/-! WHAT ALWAYS HOLDS, 4: launch, repair, block, scrap, hole -/
theorem FM_en {κ : AH} {n : Nat} {x : Int32} : FM κ (enH κ n x) := FM_d enH_D (fun i => by simp [tB_inj, tB_W, tB_R, tB_P, tB_C, tB_S, tW_inj, tW_B, tW_R, tW_P, tW_C, tW_S, tR_inj, tR_B, tR_W, tR_P, tR_C, tR_S, tP_inj, tP_B, tP_W, tP_R, tP_C, tP_S, tC_inj, tC_B, tC_W, tC_R, tC_P, tC_S, tS_inj, tS_B, tS_W, tS_R, tS_P, tS_C, tM_inj, tM_B, tM_W, tM_R, tM_P, tM_C, tM_S, tB_M, tW_M, tR_M, tP_M, tC_M, tS_M])
theorem FM_wn {κ : AH} {σ : MS} {k j : Nat} {y : Int32} : FM κ (wnH κ σ k j y) := by
  have D : Dif (fun t => (t = tS 3 ∨ t = tW k) ∨ ∃ c, t = tR c) κ (wnH κ σ k j y) := by
    have D1 : Dif (fun t => (t = tS 3 ∨ t = tW k) ∨ ∃ c, t = tR c) κ (wdH κ k y) := ((Dif.rfl'.sI (Or.inl (Or.inl rfl))).sI (Or.inl (Or.inr rfl))).sI (Or.inl (Or.inr rfl))
    unfold wnH
    split
    · exact (D1.tr (spR_D.mono fun t z => Or.inr z)).tr (spR_D.mono fun t z => Or.inr z)
    · exact D1
  exact FM_d D (fun i => by simp [tB_inj, tB_W, tB_R, tB_P, tB_C, tB_S, tW_inj, tW_B, tW_R, tW_P, tW_C, tW_S, tR_inj, tR_B, tR_W, tR_P, tR_C, tR_S, tP_inj, tP_B, tP_W, tP_R, tP_C, tP_S, tC_inj, tC_B, tC_W, tC_R, tC_P, tC_S, tS_inj, tS_B, tS_W, tS_R, tS_P, tS_C, tM_inj, tM_B, tM_W, tM_R, tM_P, tM_C, tM_S, tB_M, tW_M, tR_M, tP_M, tC_M, tS_M])
theorem FM_mw {κ : AH} {σ : MS} {nw j n : Nat} {f y : Int32} : FM κ (mwH κ σ nw j f y n) := by
  have D : Dif (fun t => t = tW nw ∨ t = tS 6 ∨ t = tS 4) κ (a2H κ nw j f) := (by repeat' first | exact Dif.rfl' | exact rfl | exact Or.inl rfl | exact Or.inr rfl | exact Or.inr (Or.inl rfl) | exact Or.inr (Or.inr rfl) | exact Or.inr (Or.inr (Or.inl rfl)) | exact Or.inr (Or.inr (Or.inr rfl)) | exact ⟨_, rfl⟩ | apply Dif.sI | apply Dif.sR | apply Dif.nO)
  exact ((FM_d D (fun i => by simp [tB_inj, tB_W, tB_R, tB_P, tB_C, tB_S, tW_inj, tW_B, tW_R, tW_P, tW_C, tW_S, tR_inj, tR_B, tR_W, tR_P, tR_C, tR_S, tP_inj, tP_B, tP_W, tP_R, tP_C, tP_S, tC_inj, tC_B, tC_W, tC_R, tC_P, tC_S, tS_inj, tS_B, tS_W, tS_R, tS_P, tS_C, tM_inj, tM_B, tM_W, tM_R, tM_P, tM_C, tM_S, tB_M, tW_M, tR_M, tP_M, tC_M, tS_M])).tr FM_wn).tr FM_en
theorem IV_drw {σ : MS} {nb nw np k y : Nat} (I : IV σ nb nw np) : IV (sDrw σ k y) nb nw np := ⟨I.n8, I.e8, I.n18, I.e18, I.n30, I.e30, I.l6, I.c2, I.h1, I.ch, I.bk, scT_cg rfl rfl I.sc, I.fx, I.fy, I.em, I.ho, I.wf, I.rp, I.th, I.pi, I.pl, I.ta⟩
theorem IV_spo {σ : MS} {nb nw np : Nat} {f v : Int32} (I : IV σ nb nw np) : IV (sSpo σ f v) nb nw np := ⟨I.n8, I.e8, I.n18, I.e18, I.n30, I.e30, I.l6, I.c2, I.h1, I.ch, I.bk, scT_cg rfl rfl I.sc, I.fx, I.fy, fun c hc hn => ⟨by simp only [sSpo, upA]; have := (I.em c hc hn).1; grind, (I.em c hc hn).2⟩, I.ho, I.wf, I.rp, I.th, I.pi, I.pl, I.ta⟩
theorem x_14 {κ : AH} {σ : MS} {nb nw np : Nat} {wb : Nat → Nat} {T M m : Int32} {n : Nat} (h : RX κ σ nb nw np wb T M n m) : RX (sI κ (tS 4) 14 1) (upS σ 6 1) nb nw np wb T M n m := by
  obtain ⟨G, N, B, W, R, P, H, L⟩ := h
  obtain ⟨⟨n7, n8, n9⟩, ⟨n10, n11, n12, n13, n14⟩, n3, n5⟩ := N
  have D : Dif (fun t => t = tS 4) κ (sI κ (tS 4) 14 1) := (by repeat' first | exact Dif.rfl' | exact rfl | exact Or.inl rfl | exact Or.inr rfl | exact Or.inr (Or.inl rfl) | exact Or.inr (Or.inr rfl) | exact Or.inr (Or.inr (Or.inl rfl)) | exact Or.inr (Or.inr (Or.inr rfl)) | exact ⟨_, rfl⟩ | apply Dif.sI | apply Dif.sR | apply Dif.nO)
  exact ⟨G, ⟨⟨(by simp [gI_sI, upS, upA, n7, n8, n9, n10, n11, n12, n13, n14, n3, tB_inj, tB_W, tB_R, tB_P, tB_C, tB_S, tW_inj, tW_B, tW_R, tW_P, tW_C, tW_S, tR_inj, tR_B, tR_W, tR_P, tR_C, tR_S, tP_inj, tP_B, tP_W, tP_R, tP_C, tP_S, tC_inj, tC_B, tC_W, tC_R, tC_P, tC_S, tS_inj, tS_B, tS_W, tS_R, tS_P, tS_C, tM_inj, tM_B, tM_W, tM_R, tM_P, tM_C, tM_S, tB_M, tW_M, tR_M, tP_M, tC_M, tS_M]), (by simp [gI_sI, upS, upA, n7, n8, n9, n10, n11, n12, n13, n14, n3, tB_inj, tB_W, tB_R, tB_P, tB_C, tB_S, tW_inj, tW_B, tW_R, tW_P, tW_C, tW_S, tR_inj, tR_B, tR_W, tR_P, tR_C, tR_S, tP_inj, tP_B, tP_W, tP_R, tP_C, tP_S, tC_inj, tC_B, tC_W, tC_R, tC_P, tC_S, tS_inj, tS_B, tS_W, tS_R, tS_P, tS_C, tM_inj, tM_B, tM_W, tM_R, tM_P, tM_C, tM_S, tB_M, tW_M, tR_M, tP_M, tC_M, tS_M]), (by simp [gI_sI, upS, upA, n7, n8, n9, n10, n11, n12, n13, n14, n3, tB_inj, tB_W, tB_R, tB_P, tB_C, tB_S, tW_inj, tW_B, tW_R, tW_P, tW_C, tW_S, tR_inj, tR_B, tR_W, tR_P, tR_C, tR_S, tP_inj, tP_B, tP_W, tP_R, tP_C, tP_S, tC_inj, tC_B, tC_W, tC_R, tC_P, tC_S, tS_inj, tS_B, tS_W, tS_R, tS_P, tS_C, tM_inj, tM_B, tM_W, tM_R, tM_P, tM_C, tM_S, tB_M, tW_M, tR_M, tP_M, tC_M, tS_M])⟩, ⟨(by simp [gI_sI, upS, upA, n7, n8, n9, n10, n11, n12, n13, n14, n3, tB_inj, tB_W, tB_R, tB_P, tB_C, tB_S, tW_inj, tW_B, tW_R, tW_P, tW_C, tW_S, tR_inj, tR_B, tR_W, tR_P, tR_C, tR_S, tP_inj, tP_B, tP_W, tP_R, tP_C, tP_S, tC_inj, tC_B, tC_W, tC_R, tC_P, tC_S, tS_inj, tS_B, tS_W, tS_R, tS_P, tS_C, tM_inj, tM_B, tM_W, tM_R, tM_P, tM_C, tM_S, tB_M, tW_M, tR_M, tP_M, tC_M, tS_M]), (by simp [gI_sI, upS, upA, n7, n8, n9, n10, n11, n12, n13, n14, n3, tB_inj, tB_W, tB_R, tB_P, tB_C, tB_S, tW_inj, tW_B, tW_R, tW_P, tW_C, tW_S, tR_inj, tR_B, tR_W, tR_P, tR_C, tR_S, tP_inj, tP_B, tP_W, tP_R, tP_C, tP_S, tC_inj, tC_B, tC_W, tC_R, tC_P, tC_S, tS_inj, tS_B, tS_W, tS_R, tS_P, tS_C, tM_inj, tM_B, tM_W, tM_R, tM_P, tM_C, tM_S, tB_M, tW_M, tR_M, tP_M, tC_M, tS_M]), (by simp [gI_sI, upS, upA, n7, n8, n9, n10, n11, n12, n13, n14, n3, tB_inj, tB_W, tB_R, tB_P, tB_C, tB_S, tW_inj, tW_B, tW_R, tW_P, tW_C, tW_S, tR_inj, tR_B, tR_W, tR_P, tR_C, tR_S, tP_inj, tP_B, tP_W, tP_R, tP_C, tP_S, tC_inj, tC_B, tC_W, tC_R, tC_P, tC_S, tS_inj, tS_B, tS_W, tS_R, tS_P, tS_C, tM_inj, tM_B, tM_W, tM_R, tM_P, tM_C, tM_S, tB_M, tW_M, tR_M, tP_M, tC_M, tS_M]), (by simp [gI_sI, upS, upA, n7, n8, n9, n10, n11, n12, n13, n14, n3, tB_inj, tB_W, tB_R, tB_P, tB_C, tB_S, tW_inj, tW_B, tW_R, tW_P, tW_C, tW_S, tR_inj, tR_B, tR_W, tR_P, tR_C, tR_S, tP_inj, tP_B, tP_W, tP_R, tP_C, tP_S, tC_inj, tC_B, tC_W, tC_R, tC_P, tC_S, tS_inj, tS_B, tS_W, tS_R, tS_P, tS_C, tM_inj, tM_B, tM_W, tM_R, tM_P, tM_C, tM_S, tB_M, tW_M, tR_M, tP_M, tC_M, tS_M]), (by simp [gI_sI, upS, upA, n7, n8, n9, n10, n11, n12, n13, n14, n3, tB_inj, tB_W, tB_R, tB_P, tB_C, tB_S, tW_inj, tW_B, tW_R, tW_P, tW_C, tW_S, tR_inj, tR_B, tR_W, tR_P, tR_C, tR_S, tP_inj, tP_B, tP_W, tP_R, tP_C, tP_S, tC_inj, tC_B, tC_W, tC_R, tC_P, tC_S, tS_inj, tS_B, tS_W, tS_R, tS_P, tS_C, tM_inj, tM_B, tM_W, tM_R, tM_P, tM_C, tM_S, tB_M, tW_M, tR_M, tP_M, tC_M, tS_M])⟩, (by simp [gI_sI, upS, upA, n7, n8, n9, n10, n11, n12, n13, n14, n3, tB_inj, tB_W, tB_R, tB_P, tB_C, tB_S, tW_inj, tW_B, tW_R, tW_P, tW_C, tW_S, tR_inj, tR_B, tR_W, tR_P, tR_C, tR_S, tP_inj, tP_B, tP_W, tP_R, tP_C, tP_S, tC_inj, tC_B, tC_W, tC_R, tC_P, tC_S, tS_inj, tS_B, tS_W, tS_R, tS_P, tS_C, tM_inj, tM_B, tM_W, tM_R, tM_P, tM_C, tM_S, tB_M, tW_M, tR_M, tP_M, tC_M, tS_M]), fun j hj => (by simp [gI_sI, upS, upA, n5 j hj, tB_inj, tB_W, tB_R, tB_P, tB_C, tB_S, tW_inj, tW_B, tW_R, tW_P, tW_C, tW_S, tR_inj, tR_B, tR_W, tR_P, tR_C, tR_S, tP_inj, tP_B, tP_W, tP_R, tP_C, tP_S, tC_inj, tC_B, tC_W, tC_R, tC_P, tC_S, tS_inj, tS_B, tS_W, tS_R, tS_P, tS_C, tM_inj, tM_B, tM_W, tM_R, tM_P, tM_C, tM_S, tB_M, tW_M, tR_M, tP_M, tC_M, tS_M])⟩, hB_d D (by simp [tB_inj, tB_W, tB_R, tB_P, tB_C, tB_S, tW_inj, tW_B, tW_R, tW_P, tW_C, tW_S, tR_inj, tR_B, tR_W, tR_P, tR_C, tR_S, tP_inj, tP_B, tP_W, tP_R, tP_C, tP_S, tC_inj, tC_B, tC_W, tC_R, tC_P, tC_S, tS_inj, tS_B, tS_W, tS_R, tS_P, tS_C, tM_inj, tM_B, tM_W, tM_R, tM_P, tM_C, tM_S, tB_M, tW_M, tR_M, tP_M, tC_M, tS_M]) (fun i => by simp [tB_inj, tB_W, tB_R, tB_P, tB_C, tB_S, tW_inj, tW_B, tW_R, tW_P, tW_C, tW_S, tR_inj, tR_B, tR_W, tR_P, tR_C, tR_S, tP_inj, tP_B, tP_W, tP_R, tP_C, tP_S, tC_inj, tC_B, tC_W, tC_R, tC_P, tC_S, tS_inj, tS_B, tS_W, tS_R, tS_P, tS_C, tM_inj, tM_B, tM_W, tM_R, tM_P, tM_C, tM_S, tB_M, tW_M, tR_M, tP_M, tC_M, tS_M]) B, hW_d D (by simp [tB_inj, tB_W, tB_R, tB_P, tB_C, tB_S, tW_inj, tW_B, tW_R, tW_P, tW_C, tW_S, tR_inj, tR_B, tR_W, tR_P, tR_C, tR_S, tP_inj, tP_B, tP_W, tP_R, tP_C, tP_S, tC_inj, tC_B, tC_W, tC_R, tC_P, tC_S, tS_inj, tS_B, tS_W, tS_R, tS_P, tS_C, tM_inj, tM_B, tM_W, tM_R, tM_P, tM_C, tM_S, tB_M, tW_M, tR_M, tP_M, tC_M, tS_M]) (fun i => by simp [tB_inj, tB_W, tB_R, tB_P, tB_C, tB_S, tW_inj, tW_B, tW_R, tW_P, tW_C, tW_S, tR_inj, tR_B, tR_W, tR_P, tR_C, tR_S, tP_inj, tP_B, tP_W, tP_R, tP_C, tP_S, tC_inj, tC_B, tC_W, tC_R, tC_P, tC_S, tS_inj, tS_B, tS_W, tS_R, tS_P, tS_C, tM_inj, tM_B, tM_W, tM_R, tM_P, tM_C, tM_S, tB_M, tW_M, tR_M, tP_M, tC_M, tS_M]) W, hRm_d D (by simp [tB_inj, tB_W, tB_R, tB_P, tB_C, tB_S, tW_inj, tW_B, tW_R, tW_P, tW_C, tW_S, tR_inj, tR_B, tR_W, tR_P, tR_C, tR_S, tP_inj, tP_B, tP_W, tP_R, tP_C, tP_S, tC_inj, tC_B, tC_W, tC_R, tC_P, tC_S, tS_inj, tS_B, tS_W, tS_R, tS_P, tS_C, tM_inj, tM_B, tM_W, tM_R, tM_P, tM_C, tM_S, tB_M, tW_M, tR_M, tP_M, tC_M, tS_M]) (fun i hi => by simp [tB_inj, tB_W, tB_R, tB_P, tB_C, tB_S, tW_inj, tW_B, tW_R, tW_P, tW_C, tW_S, tR_inj, tR_B, tR_W, tR_P, tR_C, tR_S, tP_inj, tP_B, tP_W, tP_R, tP_C, tP_S, tC_inj, tC_B, tC_W, tC_R, tC_P, tC_S, tS_inj, tS_B, tS_W, tS_R, tS_P, tS_C, tM_inj, tM_B, tM_W, tM_R, tM_P, tM_C, tM_S, tB_M, tW_M, tR_M, tP_M, tC_M, tS_M]) R, hPi_d D (by simp [tB_inj, tB_W, tB_R, tB_P, tB_C, tB_S, tW_inj, tW_B, tW_R, tW_P, tW_C, tW_S, tR_inj, tR_B, tR_W, tR_P, tR_C, tR_S, tP_inj, tP_B, tP_W, tP_R, tP_C, tP_S, tC_inj, tC_B, tC_W, tC_R, tC_P, tC_S, tS_inj, tS_B, tS_W, tS_R, tS_P, tS_C, tM_inj, tM_B, tM_W, tM_R, tM_P, tM_C, tM_S, tB_M, tW_M, tR_M, tP_M, tC_M, tS_M]) (fun i => by simp [tB_inj, tB_W, tB_R, tB_P, tB_C, tB_S, tW_inj, tW_B, tW_R, tW_P, tW_C, tW_S, tR_inj, tR_B, tR_W, tR_P, tR_C, tR_S, tP_inj, tP_B, tP_W, tP_R, tP_C, tP_S, tC_inj, tC_B, tC_W, tC_R, tC_P, tC_S, tS_inj, tS_B, tS_W, tS_R, tS_P, tS_C, tM_inj, tM_B, tM_W, tM_R, tM_P, tM_C, tM_S, tB_M, tW_M, tR_M, tP_M, tC_M, tS_M]) (fun i => by simp [tB_inj, tB_W, tB_R, tB_P, tB_C, tB_S, tW_inj, tW_B, tW_R, tW_P, tW_C, tW_S, tR_inj, tR_B, tR_W, tR_P, tR_C, tR_S, tP_inj, tP_B, tP_W, tP_R, tP_C, tP_S, tC_inj, tC_B, tC_W, tC_R, tC_P, tC_S, tS_inj, tS_B, tS_W, tS_R, tS_P, tS_C, tM_inj, tM_B, tM_W, tM_R, tM_P, tM_C, tM_S, tB_M, tW_M, tR_M, tP_M, tC_M, tS_M]) P, hHu_d' D (by simp [tB_inj, tB_W, tB_R, tB_P, tB_C, tB_S, tW_inj, tW_B, tW_R, tW_P, tW_C, tW_S, tR_inj, tR_B, tR_W, tR_P, tR_C, tR_S, tP_inj, tP_B, tP_W, tP_R, tP_C, tP_S, tC_inj, tC_B, tC_W, tC_R, tC_P, tC_S, tS_inj, tS_B, tS_W, tS_R, tS_P, tS_C, tM_inj, tM_B, tM_W, tM_R, tM_P, tM_C, tM_S, tB_M, tW_M, tR_M, tP_M, tC_M, tS_M]) H, hLe_d' D (by simp [tB_inj, tB_W, tB_R, tB_P, tB_C, tB_S, tW_inj, tW_B, tW_R, tW_P, tW_C, tW_S, tR_inj, tR_B, tR_W, tR_P, tR_C, tR_S, tP_inj, tP_B, tP_W, tP_R, tP_C, tP_S, tC_inj, tC_B, tC_W, tC_R, tC_P, tC_S, tS_inj, tS_B, tS_W, tS_R, tS_P, tS_C, tM_inj, tM_B, tM_W, tM_R, tM_P, tM_C, tM_S, tB_M, tW_M, tR_M, tP_M, tC_M, tS_M]) (by simp [tB_inj, tB_W, tB_R, tB_P, tB_C, tB_S, tW_inj, tW_B, tW_R, tW_P, tW_C, tW_S, tR_inj, tR_B, tR_W, tR_P, tR_C, tR_S, tP_inj, tP_B, tP_W, tP_R, tP_C, tP_S, tC_inj, tC_B, tC_W, tC_R, tC_P, tC_S, tS_inj, tS_B, tS_W, tS_R, tS_P, tS_C, tM_inj, tM_B, tM_W, tM_R, tM_P, tM_C, tM_S, tB_M, tW_M, tR_M, tP_M, tC_M, tS_M]) L⟩
theorem s_launch {κ0 κ : AH} {σ : MS} {nb nw np : Nat} {wb : Nat → Nat} (h : RI κ0 κ σ nb nw np wb) (h6 : σ.1 6 = 0) : RI κ0 (enH (sI κ (tS 4) 14 1) (nEn σ nb nw) 5000) (sLau (upS σ 34 0)) nb nw np wb := by
  obtain ⟨I, C, F⟩ := h
  have D : Dif (fun t => t = tS 4) κ (sI κ (tS 4) 14 1) := (by repeat' first | exact Dif.rfl' | exact rfl | exact Or.inl rfl | exact Or.inr rfl | exact Or.inr (Or.inl rfl) | exact Or.inr (Or.inr rfl) | exact Or.inr (Or.inr (Or.inl rfl)) | exact Or.inr (Or.inr (Or.inr rfl)) | exact ⟨_, rfl⟩ | apply Dif.sI | apply Dif.sR | apply Dif.nO)
  refine ⟨⟨I.n8, I.e8, I.n18, I.e18, I.n30, I.e30, Or.inr rfl, I.c2, I.h1, I.ch, I.bk, scT_cg rfl rfl I.sc, I.fx, I.fy, I.em, I.ho, I.wf, I.rp, I.th, I.pi, I.pl, I.ta⟩, RX_RC (n := nEn σ nb nw + 1) (m := σ.1 7 + 5000) (x_en (x_14 (RC_RX C))) rfl rfl ?_ rfl, (F.tr (FM_d D (fun i => by simp [tB_inj, tB_W, tB_R, tB_P, tB_C, tB_S, tW_inj, tW_B, tW_R, tW_P, tW_C, tW_S, tR_inj, tR_B, tR_W, tR_P, tR_C, tR_S, tP_inj, tP_B, tP_W, tP_R, tP_C, tP_S, tC_inj, tC_B, tC_W, tC_R, tC_P, tC_S, tS_inj, tS_B, tS_W, tS_R, tS_P, tS_C, tM_inj, tM_B, tM_W, tM_R, tM_P, tM_C, tM_S, tB_M, tW_M, tR_M, tP_M, tC_M, tS_M]))).tr FM_en⟩
  unfold nEn
  rw [nSt_cg (σ := σ) (σ' := sLau (upS σ 34 0)) nb (fun i _ => Iff.rfl), nRp_cg (σ := σ) (σ' := sLau (upS σ 34 0)) nw (fun i _ => rfl), h6]
  rfl

theorem tns_cg {σ σ' : MS} {nb : Nat} (h9 : σ'.2 9 = σ.2 9) (h13 : σ'.2 13 = σ.2 13) (h27 : σ'.2 27 = σ.2 27) (h28 : σ'.2 28 = σ.2 28) : tnsN σ' nb = tnsN σ nb := by
  have e1 : fTB σ' = fTB σ := funext fun j => by unfold fTB; rw [h9, h13]
  have e2 : fTC σ' = fTC σ := funext fun j => by unfold fTC; rw [h27, h28]
  unfold tnsN
  rw [e1, e2]
theorem mom_cg {σ σ' : MS} {nb : Nat} (h9 : σ'.2 9 = σ.2 9) (h10 : σ'.2 10 = σ.2 10) (h11 : σ'.2 11 = σ.2 11) (h13 : σ'.2 13 = σ.2 13) (h27 : σ'.2 27 = σ.2 27) (h28 : σ'.2 28 = σ.2 28) : momN σ' nb = momN σ nb := by
  have e1 : fMB σ' = fMB σ := funext fun j => by unfold fMB; rw [h9, h10, h11, h13]
  have e2 : fMC σ' = fMC σ := funext fun j => by unfold fMC; rw [h27, h28]
  unfold momN
  rw [e1, e2]
theorem fCl_cg {σ σ' : MS} (h10 : σ'.2 10 = σ.2 10) (h11 : σ'.2 11 = σ.2 11) (h13 : σ'.2 13 = σ.2 13) (h25 : σ'.2 25 = σ.2 25) (h27 : σ'.2 27 = σ.2 27) (h28 : σ'.2 28 = σ.2 28) : fCl σ' = fCl σ := funext fun j => by unfold fCl; rw [h10, h11, h13, h25, h27, h28]
theorem wnS_row {σ : MS} {k j n : Nat} {y : Int32} (h1 : n ≠ 19) (h2 : n ≠ 20) (h3 : n ≠ 26) : (wnS σ k j y).2 n = σ.2 n := by
  unfold wnS
  split
  · funext i
    show (if n = 26 ∧ i = _ then _ else if n = 26 ∧ i = _ then _ else (sDrw σ k y.toNatClampNeg).2 n i) = _
    rw [if_neg (fun z => h3 z.1), if_neg (fun z => h3 z.1), sDrw_row h1 h2]
  · exact sDrw_row h1 h2
theorem wnS_num {σ : MS} {k j n : Nat} {y : Int32} (h1 : n ≠ 4) : (wnS σ k j y).1 n = σ.1 n := by
  unfold wnS
  split
  · show (if n = 4 then _ else σ.1 n) = _
    rw [if_neg h1]
  · show (if n = 4 then _ else σ.1 n) = _
    rw [if_neg h1]

theorem nRp_up {σ σ' : MS} {k : Nat} (h1 : (σ'.2 21 k).toNatClampNeg = (σ.2 21 k).toNatClampNeg + 1) (h2 : ∀ i, i ≠ k → σ'.2 21 i = σ.2 21 i) : ∀ nw, k < nw → nRp σ' nw = nRp σ nw + 1
  | 0, h => by omega
  | n + 1, h => by
    unfold nRp
    by_cases e : n = k
    · subst e
      rw [nRp_cg n (fun i hi => h2 i (by omega)), h1]
      omega
    · rw [nRp_up h1 h2 n (by omega), h2 n e]
      omega
theorem up_2 {x : Int32} (h : 0 ≤ x ∧ x ≤ 2) (h2 : ¬ x = 2) : (0 ≤ x + 1 ∧ x + 1 ≤ 2) ∧ (x + 1).toNatClampNeg = x.toNatClampNeg + 1 := by
  obtain ⟨j, hj, rfl⟩ := vp_in_of (in_c (c := 2) (n := 3) (by decide) h) (by decide)
  have : ¬ j = 2 := fun z => h2 (by rw [z]; rfl)
  rw [nI_1, nI_clamp (by omega), nI_clamp (by omega)]
  exact ⟨⟨nI_pos' (by omega), nI_le (b := 2) (by omega) (by decide)⟩, rfl⟩
theorem x_21 {κ : AH} {σ : MS} {nb nw np : Nat} {wb : Nat → Nat} {T M m : Int32} {n : Nat} (h : RX κ σ nb nw np wb T M n m) {k : Nat} : RX (sI κ (tW k) 3 (σ.2 21 k + 1)) (upS (upA σ 21 k (σ.2 21 k + 1)) 7 (σ.1 7 - 30)) nb nw np wb T M n m := by
  obtain ⟨G, N, B, W, R, P, H, L⟩ := h
  have D : Dif (fun t => t = tW k) κ (sI κ (tW k) 3 (σ.2 21 k + 1)) := (by repeat' first | exact Dif.rfl' | exact rfl | exact Or.inl rfl | exact Or.inr rfl | exact Or.inr (Or.inl rfl) | exact Or.inr (Or.inr rfl) | exact Or.inr (Or.inr (Or.inl rfl)) | exact Or.inr (Or.inr (Or.inr rfl)) | exact ⟨_, rfl⟩ | apply Dif.sI | apply Dif.sR | apply Dif.nO)
  obtain ⟨w1, w2, w3⟩ := W
  refine ⟨G, hNm_d D (by simp [tB_inj, tB_W, tB_R, tB_P, tB_C, tB_S, tW_inj, tW_B, tW_R, tW_P, tW_C, tW_S, tR_inj, tR_B, tR_W, tR_P, tR_C, tR_S, tP_inj, tP_B, tP_W, tP_R, tP_C, tP_S, tC_inj, tC_B, tC_W, tC_R, tC_P, tC_S, tS_inj, tS_B, tS_W, tS_R, tS_P, tS_C, tM_inj, tM_B, tM_W, tM_R, tM_P, tM_C, tM_S, tB_M, tW_M, tR_M, tP_M, tC_M, tS_M]) (by simp [tB_inj, tB_W, tB_R, tB_P, tB_C, tB_S, tW_inj, tW_B, tW_R, tW_P, tW_C, tW_S, tR_inj, tR_B, tR_W, tR_P, tR_C, tR_S, tP_inj, tP_B, tP_W, tP_R, tP_C, tP_S, tC_inj, tC_B, tC_W, tC_R, tC_P, tC_S, tS_inj, tS_B, tS_W, tS_R, tS_P, tS_C, tM_inj, tM_B, tM_W, tM_R, tM_P, tM_C, tM_S, tB_M, tW_M, tR_M, tP_M, tC_M, tS_M]) (by simp [tB_inj, tB_W, tB_R, tB_P, tB_C, tB_S, tW_inj, tW_B, tW_R, tW_P, tW_C, tW_S, tR_inj, tR_B, tR_W, tR_P, tR_C, tR_S, tP_inj, tP_B, tP_W, tP_R, tP_C, tP_S, tC_inj, tC_B, tC_W, tC_R, tC_P, tC_S, tS_inj, tS_B, tS_W, tS_R, tS_P, tS_C, tM_inj, tM_B, tM_W, tM_R, tM_P, tM_C, tM_S, tB_M, tW_M, tR_M, tP_M, tC_M, tS_M]) N, hB_d D (by simp [tB_inj, tB_W, tB_R, tB_P, tB_C, tB_S, tW_inj, tW_B, tW_R, tW_P, tW_C, tW_S, tR_inj, tR_B, tR_W, tR_P, tR_C, tR_S, tP_inj, tP_B, tP_W, tP_R, tP_C, tP_S, tC_inj, tC_B, tC_W, tC_R, tC_P, tC_S, tS_inj, tS_B, tS_W, tS_R, tS_P, tS_C, tM_inj, tM_B, tM_W, tM_R, tM_P, tM_C, tM_S, tB_M, tW_M, tR_M, tP_M, tC_M, tS_M]) (fun i => by simp [tB_inj, tB_W, tB_R, tB_P, tB_C, tB_S, tW_inj, tW_B, tW_R, tW_P, tW_C, tW_S, tR_inj, tR_B, tR_W, tR_P, tR_C, tR_S, tP_inj, tP_B, tP_W, tP_R, tP_C, tP_S, tC_inj, tC_B, tC_W, tC_R, tC_P, tC_S, tS_inj, tS_B, tS_W, tS_R, tS_P, tS_C, tM_inj, tM_B, tM_W, tM_R, tM_P, tM_C, tM_S, tB_M, tW_M, tR_M, tP_M, tC_M, tS_M]) B, ⟨w1, fun i hi => ⟨?_, (w2 i hi).2⟩, w3⟩, hRm_d D (by simp [tB_inj, tB_W, tB_R, tB_P, tB_C, tB_S, tW_inj, tW_B, tW_R, tW_P, tW_C, tW_S, tR_inj, tR_B, tR_W, tR_P, tR_C, tR_S, tP_inj, tP_B, tP_W, tP_R, tP_C, tP_S, tC_inj, tC_B, tC_W, tC_R, tC_P, tC_S, tS_inj, tS_B, tS_W, tS_R, tS_P, tS_C, tM_inj, tM_B, tM_W, tM_R, tM_P, tM_C, tM_S, tB_M, tW_M, tR_M, tP_M, tC_M, tS_M]) (fun i hi => by simp [tB_inj, tB_W, tB_R, tB_P, tB_C, tB_S, tW_inj, tW_B, tW_R, tW_P, tW_C, tW_S, tR_inj, tR_B, tR_W, tR_P, tR_C, tR_S, tP_inj, tP_B, tP_W, tP_R, tP_C, tP_S, tC_inj, tC_B, tC_W, tC_R, tC_P, tC_S, tS_inj, tS_B, tS_W, tS_R, tS_P, tS_C, tM_inj, tM_B, tM_W, tM_R, tM_P, tM_C, tM_S, tB_M, tW_M, tR_M, tP_M, tC_M, tS_M]) R, hPi_d D (by simp [tB_inj, tB_W, tB_R, tB_P, tB_C, tB_S, tW_inj, tW_B, tW_R, tW_P, tW_C, tW_S, tR_inj, tR_B, tR_W, tR_P, tR_C, tR_S, tP_inj, tP_B, tP_W, tP_R, tP_C, tP_S, tC_inj, tC_B, tC_W, tC_R, tC_P, tC_S, tS_inj, tS_B, tS_W, tS_R, tS_P, tS_C, tM_inj, tM_B, tM_W, tM_R, tM_P, tM_C, tM_S, tB_M, tW_M, tR_M, tP_M, tC_M, tS_M]) (fun i => by simp [tB_inj, tB_W, tB_R, tB_P, tB_C, tB_S, tW_inj, tW_B, tW_R, tW_P, tW_C, tW_S, tR_inj, tR_B, tR_W, tR_P, tR_C, tR_S, tP_inj, tP_B, tP_W, tP_R, tP_C, tP_S, tC_inj, tC_B, tC_W, tC_R, tC_P, tC_S, tS_inj, tS_B, tS_W, tS_R, tS_P, tS_C, tM_inj, tM_B, tM_W, tM_R, tM_P, tM_C, tM_S, tB_M, tW_M, tR_M, tP_M, tC_M, tS_M]) (fun i => by simp [tB_inj, tB_W, tB_R, tB_P, tB_C, tB_S, tW_inj, tW_B, tW_R, tW_P, tW_C, tW_S, tR_inj, tR_B, tR_W, tR_P, tR_C, tR_S, tP_inj, tP_B, tP_W, tP_R, tP_C, tP_S, tC_inj, tC_B, tC_W, tC_R, tC_P, tC_S, tS_inj, tS_B, tS_W, tS_R, tS_P, tS_C, tM_inj, tM_B, tM_W, tM_R, tM_P, tM_C, tM_S, tB_M, tW_M, tR_M, tP_M, tC_M, tS_M]) P, hHu_d' D (by simp [tB_inj, tB_W, tB_R, tB_P, tB_C, tB_S, tW_inj, tW_B, tW_R, tW_P, tW_C, tW_S, tR_inj, tR_B, tR_W, tR_P, tR_C, tR_S, tP_inj, tP_B, tP_W, tP_R, tP_C, tP_S, tC_inj, tC_B, tC_W, tC_R, tC_P, tC_S, tS_inj, tS_B, tS_W, tS_R, tS_P, tS_C, tM_inj, tM_B, tM_W, tM_R, tM_P, tM_C, tM_S, tB_M, tW_M, tR_M, tP_M, tC_M, tS_M]) H, hLe_d' D (by simp [tB_inj, tB_W, tB_R, tB_P, tB_C, tB_S, tW_inj, tW_B, tW_R, tW_P, tW_C, tW_S, tR_inj, tR_B, tR_W, tR_P, tR_C, tR_S, tP_inj, tP_B, tP_W, tP_R, tP_C, tP_S, tC_inj, tC_B, tC_W, tC_R, tC_P, tC_S, tS_inj, tS_B, tS_W, tS_R, tS_P, tS_C, tM_inj, tM_B, tM_W, tM_R, tM_P, tM_C, tM_S, tB_M, tW_M, tR_M, tP_M, tC_M, tS_M]) (by simp [tB_inj, tB_W, tB_R, tB_P, tB_C, tB_S, tW_inj, tW_B, tW_R, tW_P, tW_C, tW_S, tR_inj, tR_B, tR_W, tR_P, tR_C, tR_S, tP_inj, tP_B, tP_W, tP_R, tP_C, tP_S, tC_inj, tC_B, tC_W, tC_R, tC_P, tC_S, tS_inj, tS_B, tS_W, tS_R, tS_P, tS_C, tM_inj, tM_B, tM_W, tM_R, tM_P, tM_C, tM_S, tB_M, tW_M, tR_M, tP_M, tC_M, tS_M]) L⟩
  obtain ⟨a, b, c, d, e, f⟩ := (w2 i hi).1
  refine ⟨a, b, ?_, ?_, ?_, ?_⟩ <;> simp [upS, upA, gI_sI, tB_inj, tB_W, tB_R, tB_P, tB_C, tB_S, tW_inj, tW_B, tW_R, tW_P, tW_C, tW_S, tR_inj, tR_B, tR_W, tR_P, tR_C, tR_S, tP_inj, tP_B, tP_W, tP_R, tP_C, tP_S, tC_inj, tC_B, tC_W, tC_R, tC_P, tC_S, tS_inj, tS_B, tS_W, tS_R, tS_P, tS_C, tM_inj, tM_B, tM_W, tM_R, tM_P, tM_C, tM_S, tB_M, tW_M, tR_M, tP_M, tC_M, tS_M, c, d, e, f]
def rpS (σ : MS) (k : Nat) : MS := (upS (upA σ 21 k (σ.2 21 k + 1)) 7 (σ.1 7 - 30))

theorem rpS_row {σ : MS} {k n : Nat} (h : n ≠ 21) : (rpS σ k).2 n = σ.2 n := by
  funext i
  show (if n = 21 ∧ i = k then _ else σ.2 n i) = _
  rw [if_neg (fun z => h z.1)]
theorem rpS_num {σ : MS} {k n : Nat} (h : n ≠ 7) : (rpS σ k).1 n = σ.1 n := if_neg h
theorem rpS_7 {σ : MS} {k : Nat} : (rpS σ k).1 7 = σ.1 7 - 30 := rfl
theorem rpS_21 {σ : MS} {k : Nat} : (rpS σ k).2 21 k = σ.2 21 k + 1 := if_pos ⟨rfl, rfl⟩
theorem rpS_21' {σ : MS} {k i : Nat} (h : i ≠ k) : (rpS σ k).2 21 i = σ.2 21 i := if_neg (fun z => h z.2)
theorem sRep_rp {σ : MS} {k y : Nat} (hk : k < 2 ^ 31) : sRep σ (nI k) y = sDrw (rpS σ k) k y := by
  have hcl : (nI k).toNatClampNeg = k := nI_clamp hk
  unfold sRep rpS
  simp only [hcl]
theorem wnS_rep {σ : MS} {nb k j : Nat} {y : Int32} (hn : nb ≤ 60) (hk : k < 2 ^ 31) (hw : wbK σ nb k j) : wnS (rpS σ k) k j y = sRep3 σ (nI k) y.toNatClampNeg := by
  have hcl : (nI k).toNatClampNeg = k := nI_clamp hk
  have r := fun (n : Nat) (h1 : n ≠ 19) (h2 : n ≠ 20) (h3 : n ≠ 21) => (sDrw_row (σ := rpS σ k) (j := k) (y := y.toNatClampNeg) h1 h2).trans (rpS_row h3)
  have hw2 : wbK (sDrw (rpS σ k) k y.toNatClampNeg) nb k j := by
    unfold wbK at hw ⊢
    rw [r 12 (by decide) (by decide) (by decide), r 23 (by decide) (by decide) (by decide), r 24 (by decide) (by decide) (by decide), r 9 (by decide) (by decide) (by decide), r 17 (by decide) (by decide) (by decide)]
    exact hw
  have e := iSta_eq (x := nI k) hn hw2 hcl
  rw [whI_cg (r 17 (by decide) (by decide) (by decide)), r 9 (by decide) (by decide) (by decide)] at e
  have e0 : (rpS σ k).2 9 (whI (rpS σ k) j) = σ.2 9 (whI σ j) := by rw [whI_cg (rpS_row (by decide)), rpS_row (by decide)]
  unfold wnS sRep3
  rw [sRep_rp hk]
  by_cases hs : σ.2 9 (whI σ j) = 2
  · rw [if_pos (e0.trans hs), if_pos (e.mpr hs), hcl, sDrw_row (by decide) (by decide), sDrw_row (by decide) (by decide)]
  · rw [if_neg (fun z => hs (e0.symm.trans z)), if_neg (fun z => hs (e.mp z))]
theorem x_21r {κ : AH} {σ : MS} {nb nw np : Nat} {wb : Nat → Nat} {T M m : Int32} {n : Nat} (h : RX κ σ nb nw np wb T M n m) {k : Nat} : RX (sI κ (tW k) 3 (σ.2 21 k + 1)) (rpS σ k) nb nw np wb T M n m := by
  exact x_21 h

theorem IV_rp {σ : MS} {nb nw np k : Nat} (I : IV σ nb nw np) (hk : k < nw) (h2 : ¬ σ.2 21 k = 2) : IV (rpS σ k) nb nw np := by
  obtain ⟨u1, u2⟩ := up_2 (I.rp k hk) h2
  have r9 : ∀ i, i < nw → 0 ≤ (rpS σ k).2 21 i ∧ (rpS σ k).2 21 i ≤ 2 := by
    intro i hi
    by_cases e : i = k
    · rw [e, rpS_21]; exact u1
    · rw [rpS_21' e]; exact I.rp i hi
  exact ⟨I.n8, I.e8, I.n18, I.e18, I.n30, I.e30, I.l6, I.c2, I.h1, I.ch, I.bk, scT_cg rfl rfl I.sc, I.fx, I.fy, I.em, I.ho, I.wf, r9, I.th, I.pi, I.pl, I.ta⟩
theorem IV_wn {σ : MS} {nb nw np k j : Nat} {y : Int32} (I : IV σ nb nw np) : IV (wnS σ k j y) nb nw np := by
  unfold wnS
  split
  · exact IV_spo (IV_drw I)
  · exact IV_drw I
theorem nEn_rp {σ : MS} {nb nw np k j : Nat} {y : Int32} (I : IV σ nb nw np) (hk : k < nw) (h2 : ¬ σ.2 21 k = 2) : nEn σ nb nw + 1 = nEn (wnS (rpS σ k) k j y) nb nw := by
  obtain ⟨u1, u2⟩ := up_2 (I.rp k hk) h2
  rw [nEn_cg (σ := rpS σ k) (wnS_row (by decide) (by decide) (by decide)) (wnS_row (by decide) (by decide) (by decide)) (wnS_num (by decide))]
  unfold nEn
  rw [nSt_cg (σ := σ) (σ' := rpS σ k) nb (fun i _ => by rw [rpS_row (by decide)]), nRp_up (σ := σ) (σ' := rpS σ k) (k := k) (by rw [rpS_21]; exact u2) (fun i hi => rpS_21' hi) nw hk, rpS_num (by decide)]
  omega
theorem s_repair {κ0 κ : AH} {σ : MS} {nb nw np : Nat} {wb : Nat → Nat} (h : RI κ0 κ σ nb nw np wb) {k : Nat} {y : Int32} (hk : k < nw) (hy : vp_in y 4) (h2 : ¬ σ.2 21 k = 2) : RI κ0 (enH (wnH (sI κ (tW k) 3 (σ.2 21 k + 1)) σ k (wb k) y) (nEn σ nb nw) (-30)) (sRep3 σ (nI k) y.toNatClampNeg) nb nw np wb := by
  obtain ⟨I, C, F⟩ := h
  have D : Dif (fun t => t = tW k) κ (sI κ (tW k) 3 (σ.2 21 k + 1)) := (by repeat' first | exact Dif.rfl' | exact rfl | exact Or.inl rfl | exact Or.inr rfl | exact Or.inr (Or.inl rfl) | exact Or.inr (Or.inr rfl) | exact Or.inr (Or.inr (Or.inl rfl)) | exact Or.inr (Or.inr (Or.inr rfl)) | exact ⟨_, rfl⟩ | apply Dif.sI | apply Dif.sR | apply Dif.nO)
  have hn := I.n18
  have hw := C.2.2.2.1.2.1 k hk
  have h8 := x_wn (k := k) (x_21r (k := k) (RC_RX C)) hk hy (by rw [rpS_row (by decide)]; exact (I.wf k hk).1) (by rw [rpS_row (by decide)]; exact (I.wf k hk).2)
  rw [wnH_cg (σ := σ) (rpS_row (by decide)) (rpS_row (by decide)) (rpS_row (by decide))] at h8
  have h9 := x_en (x := -30) h8
  rw [← wnS_rep I.n8 (by omega) hw.2]
  have em : σ.1 7 + (-30) = (wnS (rpS σ k) k (wb k) y).1 7 := by rw [wnS_num (by decide), rpS_7, Int32.sub_eq_add_neg]
  have et : tnsN σ nb = tnsN (wnS (rpS σ k) k (wb k) y) nb := (tns_cg ((wnS_row (by decide) (by decide) (by decide)).trans (rpS_row (by decide))) ((wnS_row (by decide) (by decide) (by decide)).trans (rpS_row (by decide))) ((wnS_row (by decide) (by decide) (by decide)).trans (rpS_row (by decide))) ((wnS_row (by decide) (by decide) (by decide)).trans (rpS_row (by decide)))).symm
  have eo : momN σ nb = momN (wnS (rpS σ k) k (wb k) y) nb := (mom_cg ((wnS_row (by decide) (by decide) (by decide)).trans (rpS_row (by decide))) ((wnS_row (by decide) (by decide) (by decide)).trans (rpS_row (by decide))) ((wnS_row (by decide) (by decide) (by decide)).trans (rpS_row (by decide))) ((wnS_row (by decide) (by decide) (by decide)).trans (rpS_row (by decide))) ((wnS_row (by decide) (by decide) (by decide)).trans (rpS_row (by decide))) ((wnS_row (by decide) (by decide) (by decide)).trans (rpS_row (by decide)))).symm
  exact ⟨IV_wn (IV_rp I hk h2), RX_RC h9 et eo (nEn_rp I hk h2) em, ((F.tr (FM_d D (fun i => by simp [tB_inj, tB_W, tB_R, tB_P, tB_C, tB_S, tW_inj, tW_B, tW_R, tW_P, tW_C, tW_S, tR_inj, tR_B, tR_W, tR_P, tR_C, tR_S, tP_inj, tP_B, tP_W, tP_R, tP_C, tP_S, tC_inj, tC_B, tC_W, tC_R, tC_P, tC_S, tS_inj, tS_B, tS_W, tS_R, tS_P, tS_C, tM_inj, tM_B, tM_W, tM_R, tM_P, tM_C, tM_S, tB_M, tW_M, tR_M, tP_M, tC_M, tS_M]))).tr FM_wn).tr FM_en⟩


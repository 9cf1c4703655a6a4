/-! RX: the heap's part with weight, moment, entries told apart; weldNow, enter, a new weld -/
def RX (κ : AH) (σ : MS) (nb nw np : Nat) (wb : Nat → Nat) (T M : Int32) (n : Nat) (m : Int32) : Prop := SG κ ∧ hNm κ σ ∧ hB κ σ nb ∧ hW κ σ nb nw wb ∧ hRm κ σ nb ∧ hPi κ σ np ∧ (gI κ (tS 0) 1 = T ∧ gI κ (tS 0) 2 = M) ∧ (gI κ (tS 1) 1 = nI n ∧ gI κ (tS 1) 2 = m ∧ sm (fun j => gI κ (tS 10) j) n = m)
theorem RC_RX {κ : AH} {σ : MS} {nb nw np : Nat} {wb : Nat → Nat} (h : RC κ σ nb nw np wb) : RX κ σ nb nw np wb (tnsN σ nb) (momN σ nb) (nEn σ nb nw) (σ.1 7) := h
theorem RX_RC {κ : AH} {σ : MS} {nb nw np : Nat} {wb : Nat → Nat} {T M m : Int32} {n : Nat} (h : RX κ σ nb nw np wb T M n m) (hT : T = tnsN σ nb) (hM : M = momN σ nb) (hn : n = nEn σ nb nw) (hm : m = σ.1 7) : RC κ σ nb nw np wb := by
  subst hT hM hn hm
  exact h
theorem hLe_d' {S : Nat → Prop} {κ κ' : AH} {n : Nat} {m : Int32} (D : Dif S κ κ') (h1 : ¬ S (tS 1)) (h10 : ¬ S (tS 10)) (h : gI κ (tS 1) 1 = nI n ∧ gI κ (tS 1) 2 = m ∧ sm (fun j => gI κ (tS 10) j) n = m) : gI κ' (tS 1) 1 = nI n ∧ gI κ' (tS 1) 2 = m ∧ sm (fun j => gI κ' (tS 10) j) n = m := by
  simp only [(D _ h1).2.2.1, (D _ h10).2.2.1]
  exact h
theorem hHu_d' {S : Nat → Prop} {κ κ' : AH} {T M : Int32} (D : Dif S κ κ') (h0 : ¬ S (tS 0)) (h : gI κ (tS 0) 1 = T ∧ gI κ (tS 0) 2 = M) : gI κ' (tS 0) 1 = T ∧ gI κ' (tS 0) 2 = M := by
  simp only [(D _ h0).2.2.1]
  exact h

theorem enH_D {κ : AH} {n : Nat} {x : Int32} : Dif (fun t => t = tS 10 ∨ t = tS 1) κ (enH κ n x) := ((Dif.rfl'.sI (Or.inl rfl)).sI (Or.inr rfl)).sI (Or.inr rfl)
theorem x_en {κ : AH} {σ : MS} {nb nw np : Nat} {wb : Nat → Nat} {T M m : Int32} {n : Nat} (h : RX κ σ nb nw np wb T M n m) {x : Int32} : RX (enH κ n x) σ nb nw np wb T M (n + 1) (m + x) := by
  obtain ⟨G, N, B, W, R, P, H, L⟩ := h
  have D := enH_D (κ := κ) (n := n) (x := x)
  obtain ⟨l1, l2, l3⟩ := L
  refine ⟨G, hNm_d D (by simp [tB_inj, tB_W, tB_R, tB_P, tB_C, tB_S, tW_inj, tW_B, tW_R, tW_P, tW_C, tW_S, tR_inj, tR_B, tR_W, tR_P, tR_C, tR_S, tP_inj, tP_B, tP_W, tP_R, tP_C, tP_S, tC_inj, tC_B, tC_W, tC_R, tC_P, tC_S, tS_inj, tS_B, tS_W, tS_R, tS_P, tS_C, tM_inj, tM_B, tM_W, tM_R, tM_P, tM_C, tM_S, tB_M, tW_M, tR_M, tP_M, tC_M, tS_M]) (by simp [tB_inj, tB_W, tB_R, tB_P, tB_C, tB_S, tW_inj, tW_B, tW_R, tW_P, tW_C, tW_S, tR_inj, tR_B, tR_W, tR_P, tR_C, tR_S, tP_inj, tP_B, tP_W, tP_R, tP_C, tP_S, tC_inj, tC_B, tC_W, tC_R, tC_P, tC_S, tS_inj, tS_B, tS_W, tS_R, tS_P, tS_C, tM_inj, tM_B, tM_W, tM_R, tM_P, tM_C, tM_S, tB_M, tW_M, tR_M, tP_M, tC_M, tS_M]) (by simp [tB_inj, tB_W, tB_R, tB_P, tB_C, tB_S, tW_inj, tW_B, tW_R, tW_P, tW_C, tW_S, tR_inj, tR_B, tR_W, tR_P, tR_C, tR_S, tP_inj, tP_B, tP_W, tP_R, tP_C, tP_S, tC_inj, tC_B, tC_W, tC_R, tC_P, tC_S, tS_inj, tS_B, tS_W, tS_R, tS_P, tS_C, tM_inj, tM_B, tM_W, tM_R, tM_P, tM_C, tM_S, tB_M, tW_M, tR_M, tP_M, tC_M, tS_M]) N, hB_d D (by simp [tB_inj, tB_W, tB_R, tB_P, tB_C, tB_S, tW_inj, tW_B, tW_R, tW_P, tW_C, tW_S, tR_inj, tR_B, tR_W, tR_P, tR_C, tR_S, tP_inj, tP_B, tP_W, tP_R, tP_C, tP_S, tC_inj, tC_B, tC_W, tC_R, tC_P, tC_S, tS_inj, tS_B, tS_W, tS_R, tS_P, tS_C, tM_inj, tM_B, tM_W, tM_R, tM_P, tM_C, tM_S, tB_M, tW_M, tR_M, tP_M, tC_M, tS_M]) (fun i => by simp [tB_inj, tB_W, tB_R, tB_P, tB_C, tB_S, tW_inj, tW_B, tW_R, tW_P, tW_C, tW_S, tR_inj, tR_B, tR_W, tR_P, tR_C, tR_S, tP_inj, tP_B, tP_W, tP_R, tP_C, tP_S, tC_inj, tC_B, tC_W, tC_R, tC_P, tC_S, tS_inj, tS_B, tS_W, tS_R, tS_P, tS_C, tM_inj, tM_B, tM_W, tM_R, tM_P, tM_C, tM_S, tB_M, tW_M, tR_M, tP_M, tC_M, tS_M]) B, hW_d D (by simp [tB_inj, tB_W, tB_R, tB_P, tB_C, tB_S, tW_inj, tW_B, tW_R, tW_P, tW_C, tW_S, tR_inj, tR_B, tR_W, tR_P, tR_C, tR_S, tP_inj, tP_B, tP_W, tP_R, tP_C, tP_S, tC_inj, tC_B, tC_W, tC_R, tC_P, tC_S, tS_inj, tS_B, tS_W, tS_R, tS_P, tS_C, tM_inj, tM_B, tM_W, tM_R, tM_P, tM_C, tM_S, tB_M, tW_M, tR_M, tP_M, tC_M, tS_M]) (fun i => by simp [tB_inj, tB_W, tB_R, tB_P, tB_C, tB_S, tW_inj, tW_B, tW_R, tW_P, tW_C, tW_S, tR_inj, tR_B, tR_W, tR_P, tR_C, tR_S, tP_inj, tP_B, tP_W, tP_R, tP_C, tP_S, tC_inj, tC_B, tC_W, tC_R, tC_P, tC_S, tS_inj, tS_B, tS_W, tS_R, tS_P, tS_C, tM_inj, tM_B, tM_W, tM_R, tM_P, tM_C, tM_S, tB_M, tW_M, tR_M, tP_M, tC_M, tS_M]) W, hRm_d D (by simp [tB_inj, tB_W, tB_R, tB_P, tB_C, tB_S, tW_inj, tW_B, tW_R, tW_P, tW_C, tW_S, tR_inj, tR_B, tR_W, tR_P, tR_C, tR_S, tP_inj, tP_B, tP_W, tP_R, tP_C, tP_S, tC_inj, tC_B, tC_W, tC_R, tC_P, tC_S, tS_inj, tS_B, tS_W, tS_R, tS_P, tS_C, tM_inj, tM_B, tM_W, tM_R, tM_P, tM_C, tM_S, tB_M, tW_M, tR_M, tP_M, tC_M, tS_M]) (fun i hi => by simp [tB_inj, tB_W, tB_R, tB_P, tB_C, tB_S, tW_inj, tW_B, tW_R, tW_P, tW_C, tW_S, tR_inj, tR_B, tR_W, tR_P, tR_C, tR_S, tP_inj, tP_B, tP_W, tP_R, tP_C, tP_S, tC_inj, tC_B, tC_W, tC_R, tC_P, tC_S, tS_inj, tS_B, tS_W, tS_R, tS_P, tS_C, tM_inj, tM_B, tM_W, tM_R, tM_P, tM_C, tM_S, tB_M, tW_M, tR_M, tP_M, tC_M, tS_M]) R, hPi_d D (by simp [tB_inj, tB_W, tB_R, tB_P, tB_C, tB_S, tW_inj, tW_B, tW_R, tW_P, tW_C, tW_S, tR_inj, tR_B, tR_W, tR_P, tR_C, tR_S, tP_inj, tP_B, tP_W, tP_R, tP_C, tP_S, tC_inj, tC_B, tC_W, tC_R, tC_P, tC_S, tS_inj, tS_B, tS_W, tS_R, tS_P, tS_C, tM_inj, tM_B, tM_W, tM_R, tM_P, tM_C, tM_S, tB_M, tW_M, tR_M, tP_M, tC_M, tS_M]) (fun i => by simp [tB_inj, tB_W, tB_R, tB_P, tB_C, tB_S, tW_inj, tW_B, tW_R, tW_P, tW_C, tW_S, tR_inj, tR_B, tR_W, tR_P, tR_C, tR_S, tP_inj, tP_B, tP_W, tP_R, tP_C, tP_S, tC_inj, tC_B, tC_W, tC_R, tC_P, tC_S, tS_inj, tS_B, tS_W, tS_R, tS_P, tS_C, tM_inj, tM_B, tM_W, tM_R, tM_P, tM_C, tM_S, tB_M, tW_M, tR_M, tP_M, tC_M, tS_M]) (fun i => by simp [tB_inj, tB_W, tB_R, tB_P, tB_C, tB_S, tW_inj, tW_B, tW_R, tW_P, tW_C, tW_S, tR_inj, tR_B, tR_W, tR_P, tR_C, tR_S, tP_inj, tP_B, tP_W, tP_R, tP_C, tP_S, tC_inj, tC_B, tC_W, tC_R, tC_P, tC_S, tS_inj, tS_B, tS_W, tS_R, tS_P, tS_C, tM_inj, tM_B, tM_W, tM_R, tM_P, tM_C, tM_S, tB_M, tW_M, tR_M, tP_M, tC_M, tS_M]) P, hHu_d' D (by simp [tB_inj, tB_W, tB_R, tB_P, tB_C, tB_S, tW_inj, tW_B, tW_R, tW_P, tW_C, tW_S, tR_inj, tR_B, tR_W, tR_P, tR_C, tR_S, tP_inj, tP_B, tP_W, tP_R, tP_C, tP_S, tC_inj, tC_B, tC_W, tC_R, tC_P, tC_S, tS_inj, tS_B, tS_W, tS_R, tS_P, tS_C, tM_inj, tM_B, tM_W, tM_R, tM_P, tM_C, tM_S, tB_M, tW_M, tR_M, tP_M, tC_M, tS_M]) H, ⟨?_, ?_, ?_⟩⟩
  · simp [enH, gI_sI, tB_inj, tB_W, tB_R, tB_P, tB_C, tB_S, tW_inj, tW_B, tW_R, tW_P, tW_C, tW_S, tR_inj, tR_B, tR_W, tR_P, tR_C, tR_S, tP_inj, tP_B, tP_W, tP_R, tP_C, tP_S, tC_inj, tC_B, tC_W, tC_R, tC_P, tC_S, tS_inj, tS_B, tS_W, tS_R, tS_P, tS_C, tM_inj, tM_B, tM_W, tM_R, tM_P, tM_C, tM_S, tB_M, tW_M, tR_M, tP_M, tC_M, tS_M]
  · simp [enH, gI_sI, tB_inj, tB_W, tB_R, tB_P, tB_C, tB_S, tW_inj, tW_B, tW_R, tW_P, tW_C, tW_S, tR_inj, tR_B, tR_W, tR_P, tR_C, tR_S, tP_inj, tP_B, tP_W, tP_R, tP_C, tP_S, tC_inj, tC_B, tC_W, tC_R, tC_P, tC_S, tS_inj, tS_B, tS_W, tS_R, tS_P, tS_C, tM_inj, tM_B, tM_W, tM_R, tM_P, tM_C, tM_S, tB_M, tW_M, tR_M, tP_M, tC_M, tS_M, l2]
  · show sm (fun j => gI (enH κ n x) (tS 10) j) n + gI (enH κ n x) (tS 10) n = m + x
    rw [sm_cg (g := fun j => gI κ (tS 10) j) n (fun i hi => by have : ¬ i = n := (by omega); simp [enH, gI_sI, tB_inj, tB_W, tB_R, tB_P, tB_C, tB_S, tW_inj, tW_B, tW_R, tW_P, tW_C, tW_S, tR_inj, tR_B, tR_W, tR_P, tR_C, tR_S, tP_inj, tP_B, tP_W, tP_R, tP_C, tP_S, tC_inj, tC_B, tC_W, tC_R, tC_P, tC_S, tS_inj, tS_B, tS_W, tS_R, tS_P, tS_C, tM_inj, tM_B, tM_W, tM_R, tM_P, tM_C, tM_S, tB_M, tW_M, tR_M, tP_M, tC_M, tS_M, this]), l3]
    simp [enH, gI_sI, tB_inj, tB_W, tB_R, tB_P, tB_C, tB_S, tW_inj, tW_B, tW_R, tW_P, tW_C, tW_S, tR_inj, tR_B, tR_W, tR_P, tR_C, tR_S, tP_inj, tP_B, tP_W, tP_R, tP_C, tP_S, tC_inj, tC_B, tC_W, tC_R, tC_P, tC_S, tS_inj, tS_B, tS_W, tS_R, tS_P, tS_C, tM_inj, tM_B, tM_W, tM_R, tM_P, tM_C, tM_S, tB_M, tW_M, tR_M, tP_M, tC_M, tS_M]

theorem in_lt4 {y : Int32} {n : Nat} (h : vp_in y n) (hn : n < 2 ^ 31) : y.toNatClampNeg < n := by
  obtain ⟨j, hj, rfl⟩ := vp_in_of h hn
  rw [nI_clamp (by omega)]
  exact hj
theorem x_wd {κ : AH} {σ : MS} {nb nw np : Nat} {wb : Nat → Nat} {T M m : Int32} {n : Nat} (h : RX κ σ nb nw np wb T M n m) {k : Nat} {y : Int32} (hy : vp_in y 4) : RX (wdH κ k y) (sDrw σ k y.toNatClampNeg) nb nw np wb T M n m := by
  obtain ⟨G, N, B, W, R, P, H, L⟩ := h
  obtain ⟨⟨n7, n8, n9⟩, ⟨n10, n11, n12, n13, n14⟩, n3, n5⟩ := N
  have D : Dif (fun t => t = tS 3 ∨ t = tW k) κ (wdH κ k y) := (by repeat' first | exact Dif.rfl' | exact rfl | exact Or.inl rfl | exact Or.inr rfl | exact Or.inr (Or.inl rfl) | exact Or.inr (Or.inr rfl) | exact Or.inr (Or.inr (Or.inl rfl)) | exact Or.inr (Or.inr (Or.inr rfl)) | exact ⟨_, rfl⟩ | apply Dif.sI | apply Dif.sR | apply Dif.nO)
  obtain ⟨w1, w2, w3⟩ := W
  refine ⟨G, ⟨⟨?_, ?_, ?_⟩, ⟨?_, ?_, ?_, ?_, ?_⟩, ?_, fun j hj => ?_⟩, hB_d D (by simp [tB_inj, tB_W, tB_R, tB_P, tB_C, tB_S, tW_inj, tW_B, tW_R, tW_P, tW_C, tW_S, tR_inj, tR_B, tR_W, tR_P, tR_C, tR_S, tP_inj, tP_B, tP_W, tP_R, tP_C, tP_S, tC_inj, tC_B, tC_W, tC_R, tC_P, tC_S, tS_inj, tS_B, tS_W, tS_R, tS_P, tS_C, tM_inj, tM_B, tM_W, tM_R, tM_P, tM_C, tM_S, tB_M, tW_M, tR_M, tP_M, tC_M, tS_M]) (fun i => by simp [tB_inj, tB_W, tB_R, tB_P, tB_C, tB_S, tW_inj, tW_B, tW_R, tW_P, tW_C, tW_S, tR_inj, tR_B, tR_W, tR_P, tR_C, tR_S, tP_inj, tP_B, tP_W, tP_R, tP_C, tP_S, tC_inj, tC_B, tC_W, tC_R, tC_P, tC_S, tS_inj, tS_B, tS_W, tS_R, tS_P, tS_C, tM_inj, tM_B, tM_W, tM_R, tM_P, tM_C, tM_S, tB_M, tW_M, tR_M, tP_M, tC_M, tS_M]) B, ⟨w1, fun i hi => ⟨?_, (w2 i hi).2⟩, w3⟩, hRm_d D (by simp [tB_inj, tB_W, tB_R, tB_P, tB_C, tB_S, tW_inj, tW_B, tW_R, tW_P, tW_C, tW_S, tR_inj, tR_B, tR_W, tR_P, tR_C, tR_S, tP_inj, tP_B, tP_W, tP_R, tP_C, tP_S, tC_inj, tC_B, tC_W, tC_R, tC_P, tC_S, tS_inj, tS_B, tS_W, tS_R, tS_P, tS_C, tM_inj, tM_B, tM_W, tM_R, tM_P, tM_C, tM_S, tB_M, tW_M, tR_M, tP_M, tC_M, tS_M]) (fun i hi => by simp [tB_inj, tB_W, tB_R, tB_P, tB_C, tB_S, tW_inj, tW_B, tW_R, tW_P, tW_C, tW_S, tR_inj, tR_B, tR_W, tR_P, tR_C, tR_S, tP_inj, tP_B, tP_W, tP_R, tP_C, tP_S, tC_inj, tC_B, tC_W, tC_R, tC_P, tC_S, tS_inj, tS_B, tS_W, tS_R, tS_P, tS_C, tM_inj, tM_B, tM_W, tM_R, tM_P, tM_C, tM_S, tB_M, tW_M, tR_M, tP_M, tC_M, tS_M]) R, hPi_d D (by simp [tB_inj, tB_W, tB_R, tB_P, tB_C, tB_S, tW_inj, tW_B, tW_R, tW_P, tW_C, tW_S, tR_inj, tR_B, tR_W, tR_P, tR_C, tR_S, tP_inj, tP_B, tP_W, tP_R, tP_C, tP_S, tC_inj, tC_B, tC_W, tC_R, tC_P, tC_S, tS_inj, tS_B, tS_W, tS_R, tS_P, tS_C, tM_inj, tM_B, tM_W, tM_R, tM_P, tM_C, tM_S, tB_M, tW_M, tR_M, tP_M, tC_M, tS_M]) (fun i => by simp [tB_inj, tB_W, tB_R, tB_P, tB_C, tB_S, tW_inj, tW_B, tW_R, tW_P, tW_C, tW_S, tR_inj, tR_B, tR_W, tR_P, tR_C, tR_S, tP_inj, tP_B, tP_W, tP_R, tP_C, tP_S, tC_inj, tC_B, tC_W, tC_R, tC_P, tC_S, tS_inj, tS_B, tS_W, tS_R, tS_P, tS_C, tM_inj, tM_B, tM_W, tM_R, tM_P, tM_C, tM_S, tB_M, tW_M, tR_M, tP_M, tC_M, tS_M]) (fun i => by simp [tB_inj, tB_W, tB_R, tB_P, tB_C, tB_S, tW_inj, tW_B, tW_R, tW_P, tW_C, tW_S, tR_inj, tR_B, tR_W, tR_P, tR_C, tR_S, tP_inj, tP_B, tP_W, tP_R, tP_C, tP_S, tC_inj, tC_B, tC_W, tC_R, tC_P, tC_S, tS_inj, tS_B, tS_W, tS_R, tS_P, tS_C, tM_inj, tM_B, tM_W, tM_R, tM_P, tM_C, tM_S, tB_M, tW_M, tR_M, tP_M, tC_M, tS_M]) P, hHu_d' D (by simp [tB_inj, tB_W, tB_R, tB_P, tB_C, tB_S, tW_inj, tW_B, tW_R, tW_P, tW_C, tW_S, tR_inj, tR_B, tR_W, tR_P, tR_C, tR_S, tP_inj, tP_B, tP_W, tP_R, tP_C, tP_S, tC_inj, tC_B, tC_W, tC_R, tC_P, tC_S, tS_inj, tS_B, tS_W, tS_R, tS_P, tS_C, tM_inj, tM_B, tM_W, tM_R, tM_P, tM_C, tM_S, tB_M, tW_M, tR_M, tP_M, tC_M, tS_M]) H, hLe_d' D (by simp [tB_inj, tB_W, tB_R, tB_P, tB_C, tB_S, tW_inj, tW_B, tW_R, tW_P, tW_C, tW_S, tR_inj, tR_B, tR_W, tR_P, tR_C, tR_S, tP_inj, tP_B, tP_W, tP_R, tP_C, tP_S, tC_inj, tC_B, tC_W, tC_R, tC_P, tC_S, tS_inj, tS_B, tS_W, tS_R, tS_P, tS_C, tM_inj, tM_B, tM_W, tM_R, tM_P, tM_C, tM_S, tB_M, tW_M, tR_M, tP_M, tC_M, tS_M]) (by simp [tB_inj, tB_W, tB_R, tB_P, tB_C, tB_S, tW_inj, tW_B, tW_R, tW_P, tW_C, tW_S, tR_inj, tR_B, tR_W, tR_P, tR_C, tR_S, tP_inj, tP_B, tP_W, tP_R, tP_C, tP_S, tC_inj, tC_B, tC_W, tC_R, tC_P, tC_S, tS_inj, tS_B, tS_W, tS_R, tS_P, tS_C, tM_inj, tM_B, tM_W, tM_R, tM_P, tM_C, tM_S, tB_M, tW_M, tR_M, tP_M, tC_M, tS_M]) L⟩
  · simp [wdH, sDrw, upS, upA, gI_sI, tB_inj, tB_W, tB_R, tB_P, tB_C, tB_S, tW_inj, tW_B, tW_R, tW_P, tW_C, tW_S, tR_inj, tR_B, tR_W, tR_P, tR_C, tR_S, tP_inj, tP_B, tP_W, tP_R, tP_C, tP_S, tC_inj, tC_B, tC_W, tC_R, tC_P, tC_S, tS_inj, tS_B, tS_W, tS_R, tS_P, tS_C, tM_inj, tM_B, tM_W, tM_R, tM_P, tM_C, tM_S, tB_M, tW_M, tR_M, tP_M, tC_M, tS_M, n7]
  · simp [wdH, sDrw, upS, upA, gI_sI, tB_inj, tB_W, tB_R, tB_P, tB_C, tB_S, tW_inj, tW_B, tW_R, tW_P, tW_C, tW_S, tR_inj, tR_B, tR_W, tR_P, tR_C, tR_S, tP_inj, tP_B, tP_W, tP_R, tP_C, tP_S, tC_inj, tC_B, tC_W, tC_R, tC_P, tC_S, tS_inj, tS_B, tS_W, tS_R, tS_P, tS_C, tM_inj, tM_B, tM_W, tM_R, tM_P, tM_C, tM_S, tB_M, tW_M, tR_M, tP_M, tC_M, tS_M, n8]
  · simp [wdH, sDrw, upS, upA, gI_sI, tB_inj, tB_W, tB_R, tB_P, tB_C, tB_S, tW_inj, tW_B, tW_R, tW_P, tW_C, tW_S, tR_inj, tR_B, tR_W, tR_P, tR_C, tR_S, tP_inj, tP_B, tP_W, tP_R, tP_C, tP_S, tC_inj, tC_B, tC_W, tC_R, tC_P, tC_S, tS_inj, tS_B, tS_W, tS_R, tS_P, tS_C, tM_inj, tM_B, tM_W, tM_R, tM_P, tM_C, tM_S, tB_M, tW_M, tR_M, tP_M, tC_M, tS_M, n9]
  · simp [wdH, sDrw, upS, upA, gI_sI, tB_inj, tB_W, tB_R, tB_P, tB_C, tB_S, tW_inj, tW_B, tW_R, tW_P, tW_C, tW_S, tR_inj, tR_B, tR_W, tR_P, tR_C, tR_S, tP_inj, tP_B, tP_W, tP_R, tP_C, tP_S, tC_inj, tC_B, tC_W, tC_R, tC_P, tC_S, tS_inj, tS_B, tS_W, tS_R, tS_P, tS_C, tM_inj, tM_B, tM_W, tM_R, tM_P, tM_C, tM_S, tB_M, tW_M, tR_M, tP_M, tC_M, tS_M, n10]
  · simp [wdH, sDrw, upS, upA, gI_sI, tB_inj, tB_W, tB_R, tB_P, tB_C, tB_S, tW_inj, tW_B, tW_R, tW_P, tW_C, tW_S, tR_inj, tR_B, tR_W, tR_P, tR_C, tR_S, tP_inj, tP_B, tP_W, tP_R, tP_C, tP_S, tC_inj, tC_B, tC_W, tC_R, tC_P, tC_S, tS_inj, tS_B, tS_W, tS_R, tS_P, tS_C, tM_inj, tM_B, tM_W, tM_R, tM_P, tM_C, tM_S, tB_M, tW_M, tR_M, tP_M, tC_M, tS_M, n11]
  · simp [wdH, sDrw, upS, upA, gI_sI, tB_inj, tB_W, tB_R, tB_P, tB_C, tB_S, tW_inj, tW_B, tW_R, tW_P, tW_C, tW_S, tR_inj, tR_B, tR_W, tR_P, tR_C, tR_S, tP_inj, tP_B, tP_W, tP_R, tP_C, tP_S, tC_inj, tC_B, tC_W, tC_R, tC_P, tC_S, tS_inj, tS_B, tS_W, tS_R, tS_P, tS_C, tM_inj, tM_B, tM_W, tM_R, tM_P, tM_C, tM_S, tB_M, tW_M, tR_M, tP_M, tC_M, tS_M, n12]
  · simp [wdH, sDrw, upS, upA, gI_sI, tB_inj, tB_W, tB_R, tB_P, tB_C, tB_S, tW_inj, tW_B, tW_R, tW_P, tW_C, tW_S, tR_inj, tR_B, tR_W, tR_P, tR_C, tR_S, tP_inj, tP_B, tP_W, tP_R, tP_C, tP_S, tC_inj, tC_B, tC_W, tC_R, tC_P, tC_S, tS_inj, tS_B, tS_W, tS_R, tS_P, tS_C, tM_inj, tM_B, tM_W, tM_R, tM_P, tM_C, tM_S, tB_M, tW_M, tR_M, tP_M, tC_M, tS_M, n13]
  · simp [wdH, sDrw, upS, upA, gI_sI, tB_inj, tB_W, tB_R, tB_P, tB_C, tB_S, tW_inj, tW_B, tW_R, tW_P, tW_C, tW_S, tR_inj, tR_B, tR_W, tR_P, tR_C, tR_S, tP_inj, tP_B, tP_W, tP_R, tP_C, tP_S, tC_inj, tC_B, tC_W, tC_R, tC_P, tC_S, tS_inj, tS_B, tS_W, tS_R, tS_P, tS_C, tM_inj, tM_B, tM_W, tM_R, tM_P, tM_C, tM_S, tB_M, tW_M, tR_M, tP_M, tC_M, tS_M, n14]
  · show gI (wdH κ k y) (tS 3) 1 = rnd (σ.1 4)
    simp [wdH, gI_sI, tB_inj, tB_W, tB_R, tB_P, tB_C, tB_S, tW_inj, tW_B, tW_R, tW_P, tW_C, tW_S, tR_inj, tR_B, tR_W, tR_P, tR_C, tR_S, tP_inj, tP_B, tP_W, tP_R, tP_C, tP_S, tC_inj, tC_B, tC_W, tC_R, tC_P, tC_S, tS_inj, tS_B, tS_W, tS_R, tS_P, tS_C, tM_inj, tM_B, tM_W, tM_R, tM_P, tM_C, tM_S, tB_M, tW_M, tR_M, tP_M, tC_M, tS_M, n3]
  · simp [wdH, sDrw, upS, upA, gI_sI, tB_inj, tB_W, tB_R, tB_P, tB_C, tB_S, tW_inj, tW_B, tW_R, tW_P, tW_C, tW_S, tR_inj, tR_B, tR_W, tR_P, tR_C, tR_S, tP_inj, tP_B, tP_W, tP_R, tP_C, tP_S, tC_inj, tC_B, tC_W, tC_R, tC_P, tC_S, tS_inj, tS_B, tS_W, tS_R, tS_P, tS_C, tM_inj, tM_B, tM_W, tM_R, tM_P, tM_C, tM_S, tB_M, tW_M, tR_M, tP_M, tC_M, tS_M, n5 j hj]
  · obtain ⟨a, b, c, d, e, f⟩ := (w2 i hi).1
    by_cases hk : i = k
    · subst hk
      have hf : gI (wdH κ i y) (tW i) 4 = (if p100 (rnd (σ.1 4)) < σ.2 5 y.toNatClampNeg then 1 else 0) := by
        rw [← n3, ← n5 y.toNatClampNeg (in_lt4 hy (by decide))]
        simp [wdH, flw, gI_sI, tB_inj, tB_W, tB_R, tB_P, tB_C, tB_S, tW_inj, tW_B, tW_R, tW_P, tW_C, tW_S, tR_inj, tR_B, tR_W, tR_P, tR_C, tR_S, tP_inj, tP_B, tP_W, tP_R, tP_C, tP_S, tC_inj, tC_B, tC_W, tC_R, tC_P, tC_S, tS_inj, tS_B, tS_W, tS_R, tS_P, tS_C, tM_inj, tM_B, tM_W, tM_R, tM_P, tM_C, tM_S, tB_M, tW_M, tR_M, tP_M, tC_M, tS_M]
      refine ⟨a, b, ?_, ?_, ?_, ?_⟩
      · simp [wdH, sDrw, upS, upA, gI_sI, tB_inj, tB_W, tB_R, tB_P, tB_C, tB_S, tW_inj, tW_B, tW_R, tW_P, tW_C, tW_S, tR_inj, tR_B, tR_W, tR_P, tR_C, tR_S, tP_inj, tP_B, tP_W, tP_R, tP_C, tP_S, tC_inj, tC_B, tC_W, tC_R, tC_P, tC_S, tS_inj, tS_B, tS_W, tS_R, tS_P, tS_C, tM_inj, tM_B, tM_W, tM_R, tM_P, tM_C, tM_S, tB_M, tW_M, tR_M, tP_M, tC_M, tS_M, c]
      · simp [wdH, sDrw, upS, upA, gI_sI, tB_inj, tB_W, tB_R, tB_P, tB_C, tB_S, tW_inj, tW_B, tW_R, tW_P, tW_C, tW_S, tR_inj, tR_B, tR_W, tR_P, tR_C, tR_S, tP_inj, tP_B, tP_W, tP_R, tP_C, tP_S, tC_inj, tC_B, tC_W, tC_R, tC_P, tC_S, tS_inj, tS_B, tS_W, tS_R, tS_P, tS_C, tM_inj, tM_B, tM_W, tM_R, tM_P, tM_C, tM_S, tB_M, tW_M, tR_M, tP_M, tC_M, tS_M]
      · simp [wdH, sDrw, upS, upA, gI_sI, tB_inj, tB_W, tB_R, tB_P, tB_C, tB_S, tW_inj, tW_B, tW_R, tW_P, tW_C, tW_S, tR_inj, tR_B, tR_W, tR_P, tR_C, tR_S, tP_inj, tP_B, tP_W, tP_R, tP_C, tP_S, tC_inj, tC_B, tC_W, tC_R, tC_P, tC_S, tS_inj, tS_B, tS_W, tS_R, tS_P, tS_C, tM_inj, tM_B, tM_W, tM_R, tM_P, tM_C, tM_S, tB_M, tW_M, tR_M, tP_M, tC_M, tS_M, e]
      · rw [hf]
        show _ = (if 20 = 19 ∧ i = i then 0 else if 20 = 20 ∧ i = i then (if p100 (rnd (σ.1 4)) < σ.2 5 y.toNatClampNeg then 1 else 0) else σ.2 20 i)
        simp
    · refine ⟨a, b, ?_, ?_, ?_, ?_⟩ <;> simp [wdH, sDrw, upS, upA, gI_sI, tB_inj, tB_W, tB_R, tB_P, tB_C, tB_S, tW_inj, tW_B, tW_R, tW_P, tW_C, tW_S, tR_inj, tR_B, tR_W, tR_P, tR_C, tR_S, tP_inj, tP_B, tP_W, tP_R, tP_C, tP_S, tC_inj, tC_B, tC_W, tC_R, tC_P, tC_S, tS_inj, tS_B, tS_W, tS_R, tS_P, tS_C, tM_inj, tM_B, tM_W, tM_R, tM_P, tM_C, tM_S, tB_M, tW_M, tR_M, tP_M, tC_M, tS_M, hk, c, d, e, f]

theorem spR_D {σ : MS} {κ : AH} {x : Int32} : Dif (fun t => ∃ c, t = tR c) κ (spR σ κ x) := by
  unfold spR
  split
  · exact Dif.rfl'.sI ⟨_, rfl⟩
  · exact Dif.rfl'
theorem x_sp {κ : AH} {σ : MS} {nb nw np : Nat} {wb : Nat → Nat} {T M m : Int32} {n : Nat} (h : RX κ σ nb nw np wb T M n m) {c : Nat} (hc : c < 36) : RX (spR σ κ (nI c)) (upA σ 26 c 0) nb nw np wb T M n m := by
  obtain ⟨G, N, B, W, R, P, H, L⟩ := h
  have D := spR_D (σ := σ) (κ := κ) (x := nI c)
  obtain ⟨r1, r2, r3⟩ := R
  refine ⟨spR_SG G, hNm_d D (by simp [tB_inj, tB_W, tB_R, tB_P, tB_C, tB_S, tW_inj, tW_B, tW_R, tW_P, tW_C, tW_S, tR_inj, tR_B, tR_W, tR_P, tR_C, tR_S, tP_inj, tP_B, tP_W, tP_R, tP_C, tP_S, tC_inj, tC_B, tC_W, tC_R, tC_P, tC_S, tS_inj, tS_B, tS_W, tS_R, tS_P, tS_C, tM_inj, tM_B, tM_W, tM_R, tM_P, tM_C, tM_S, tB_M, tW_M, tR_M, tP_M, tC_M, tS_M]) (by simp [tB_inj, tB_W, tB_R, tB_P, tB_C, tB_S, tW_inj, tW_B, tW_R, tW_P, tW_C, tW_S, tR_inj, tR_B, tR_W, tR_P, tR_C, tR_S, tP_inj, tP_B, tP_W, tP_R, tP_C, tP_S, tC_inj, tC_B, tC_W, tC_R, tC_P, tC_S, tS_inj, tS_B, tS_W, tS_R, tS_P, tS_C, tM_inj, tM_B, tM_W, tM_R, tM_P, tM_C, tM_S, tB_M, tW_M, tR_M, tP_M, tC_M, tS_M]) (by simp [tB_inj, tB_W, tB_R, tB_P, tB_C, tB_S, tW_inj, tW_B, tW_R, tW_P, tW_C, tW_S, tR_inj, tR_B, tR_W, tR_P, tR_C, tR_S, tP_inj, tP_B, tP_W, tP_R, tP_C, tP_S, tC_inj, tC_B, tC_W, tC_R, tC_P, tC_S, tS_inj, tS_B, tS_W, tS_R, tS_P, tS_C, tM_inj, tM_B, tM_W, tM_R, tM_P, tM_C, tM_S, tB_M, tW_M, tR_M, tP_M, tC_M, tS_M]) N, hB_d D (by simp [tB_inj, tB_W, tB_R, tB_P, tB_C, tB_S, tW_inj, tW_B, tW_R, tW_P, tW_C, tW_S, tR_inj, tR_B, tR_W, tR_P, tR_C, tR_S, tP_inj, tP_B, tP_W, tP_R, tP_C, tP_S, tC_inj, tC_B, tC_W, tC_R, tC_P, tC_S, tS_inj, tS_B, tS_W, tS_R, tS_P, tS_C, tM_inj, tM_B, tM_W, tM_R, tM_P, tM_C, tM_S, tB_M, tW_M, tR_M, tP_M, tC_M, tS_M]) (fun i => by simp [tB_inj, tB_W, tB_R, tB_P, tB_C, tB_S, tW_inj, tW_B, tW_R, tW_P, tW_C, tW_S, tR_inj, tR_B, tR_W, tR_P, tR_C, tR_S, tP_inj, tP_B, tP_W, tP_R, tP_C, tP_S, tC_inj, tC_B, tC_W, tC_R, tC_P, tC_S, tS_inj, tS_B, tS_W, tS_R, tS_P, tS_C, tM_inj, tM_B, tM_W, tM_R, tM_P, tM_C, tM_S, tB_M, tW_M, tR_M, tP_M, tC_M, tS_M]) B, hW_d D (by simp [tB_inj, tB_W, tB_R, tB_P, tB_C, tB_S, tW_inj, tW_B, tW_R, tW_P, tW_C, tW_S, tR_inj, tR_B, tR_W, tR_P, tR_C, tR_S, tP_inj, tP_B, tP_W, tP_R, tP_C, tP_S, tC_inj, tC_B, tC_W, tC_R, tC_P, tC_S, tS_inj, tS_B, tS_W, tS_R, tS_P, tS_C, tM_inj, tM_B, tM_W, tM_R, tM_P, tM_C, tM_S, tB_M, tW_M, tR_M, tP_M, tC_M, tS_M]) (fun i => by simp [tB_inj, tB_W, tB_R, tB_P, tB_C, tB_S, tW_inj, tW_B, tW_R, tW_P, tW_C, tW_S, tR_inj, tR_B, tR_W, tR_P, tR_C, tR_S, tP_inj, tP_B, tP_W, tP_R, tP_C, tP_S, tC_inj, tC_B, tC_W, tC_R, tC_P, tC_S, tS_inj, tS_B, tS_W, tS_R, tS_P, tS_C, tM_inj, tM_B, tM_W, tM_R, tM_P, tM_C, tM_S, tB_M, tW_M, tR_M, tP_M, tC_M, tS_M]) W, ⟨fun i hi => (spR_R.trans (r1 i hi)), fun i hi hn => ⟨?_, (r2 i hi hn).2⟩, fun i hi hn => spR_T.trans (r3 i hi hn)⟩, hPi_d D (by simp [tB_inj, tB_W, tB_R, tB_P, tB_C, tB_S, tW_inj, tW_B, tW_R, tW_P, tW_C, tW_S, tR_inj, tR_B, tR_W, tR_P, tR_C, tR_S, tP_inj, tP_B, tP_W, tP_R, tP_C, tP_S, tC_inj, tC_B, tC_W, tC_R, tC_P, tC_S, tS_inj, tS_B, tS_W, tS_R, tS_P, tS_C, tM_inj, tM_B, tM_W, tM_R, tM_P, tM_C, tM_S, tB_M, tW_M, tR_M, tP_M, tC_M, tS_M]) (fun i => by simp [tB_inj, tB_W, tB_R, tB_P, tB_C, tB_S, tW_inj, tW_B, tW_R, tW_P, tW_C, tW_S, tR_inj, tR_B, tR_W, tR_P, tR_C, tR_S, tP_inj, tP_B, tP_W, tP_R, tP_C, tP_S, tC_inj, tC_B, tC_W, tC_R, tC_P, tC_S, tS_inj, tS_B, tS_W, tS_R, tS_P, tS_C, tM_inj, tM_B, tM_W, tM_R, tM_P, tM_C, tM_S, tB_M, tW_M, tR_M, tP_M, tC_M, tS_M]) (fun i => by simp [tB_inj, tB_W, tB_R, tB_P, tB_C, tB_S, tW_inj, tW_B, tW_R, tW_P, tW_C, tW_S, tR_inj, tR_B, tR_W, tR_P, tR_C, tR_S, tP_inj, tP_B, tP_W, tP_R, tP_C, tP_S, tC_inj, tC_B, tC_W, tC_R, tC_P, tC_S, tS_inj, tS_B, tS_W, tS_R, tS_P, tS_C, tM_inj, tM_B, tM_W, tM_R, tM_P, tM_C, tM_S, tB_M, tW_M, tR_M, tP_M, tC_M, tS_M]) P, hHu_d' D (by simp [tB_inj, tB_W, tB_R, tB_P, tB_C, tB_S, tW_inj, tW_B, tW_R, tW_P, tW_C, tW_S, tR_inj, tR_B, tR_W, tR_P, tR_C, tR_S, tP_inj, tP_B, tP_W, tP_R, tP_C, tP_S, tC_inj, tC_B, tC_W, tC_R, tC_P, tC_S, tS_inj, tS_B, tS_W, tS_R, tS_P, tS_C, tM_inj, tM_B, tM_W, tM_R, tM_P, tM_C, tM_S, tB_M, tW_M, tR_M, tP_M, tC_M, tS_M]) H, hLe_d' D (by simp [tB_inj, tB_W, tB_R, tB_P, tB_C, tB_S, tW_inj, tW_B, tW_R, tW_P, tW_C, tW_S, tR_inj, tR_B, tR_W, tR_P, tR_C, tR_S, tP_inj, tP_B, tP_W, tP_R, tP_C, tP_S, tC_inj, tC_B, tC_W, tC_R, tC_P, tC_S, tS_inj, tS_B, tS_W, tS_R, tS_P, tS_C, tM_inj, tM_B, tM_W, tM_R, tM_P, tM_C, tM_S, tB_M, tW_M, tR_M, tP_M, tC_M, tS_M]) (by simp [tB_inj, tB_W, tB_R, tB_P, tB_C, tB_S, tW_inj, tW_B, tW_R, tW_P, tW_C, tW_S, tR_inj, tR_B, tR_W, tR_P, tR_C, tR_S, tP_inj, tP_B, tP_W, tP_R, tP_C, tP_S, tC_inj, tC_B, tC_W, tC_R, tC_P, tC_S, tS_inj, tS_B, tS_W, tS_R, tS_P, tS_C, tM_inj, tM_B, tM_W, tM_R, tM_P, tM_C, tM_S, tB_M, tW_M, tR_M, tP_M, tC_M, tS_M]) L⟩
  obtain ⟨q1, q2, q3, q4, q5, q6, q7⟩ := (r2 i hi hn).1
  have hcl : (nI c).toNatClampNeg = c := nI_clamp (by omega)
  unfold spR
  by_cases e : isRm σ (nI c)
  · rw [if_pos e, hcl]
    refine ⟨q1, ?_, q3, ?_, ?_, ?_, ?_⟩ <;> simp [upA, gI_sI, tB_inj, tB_W, tB_R, tB_P, tB_C, tB_S, tW_inj, tW_B, tW_R, tW_P, tW_C, tW_S, tR_inj, tR_B, tR_W, tR_P, tR_C, tR_S, tP_inj, tP_B, tP_W, tP_R, tP_C, tP_S, tC_inj, tC_B, tC_W, tC_R, tC_P, tC_S, tS_inj, tS_B, tS_W, tS_R, tS_P, tS_C, tM_inj, tM_B, tM_W, tM_R, tM_P, tM_C, tM_S, tB_M, tW_M, tR_M, tP_M, tC_M, tS_M, q2, q4, q5, q6, q7]
  · rw [if_neg e]
    have hne : ¬ i = c := by
      intro z
      subst z
      exact e ⟨⟨nI_pos' (by omega), nI_le (b := 35) (by omega) (by decide)⟩, by rw [hcl]; exact hn⟩
    refine ⟨q1, ?_, q3, ?_, ?_, ?_, ?_⟩ <;> simp [upA, gI_sI, tB_inj, tB_W, tB_R, tB_P, tB_C, tB_S, tW_inj, tW_B, tW_R, tW_P, tW_C, tW_S, tR_inj, tR_B, tR_W, tR_P, tR_C, tR_S, tP_inj, tP_B, tP_W, tP_R, tP_C, tP_S, tC_inj, tC_B, tC_W, tC_R, tC_P, tC_S, tS_inj, tS_B, tS_W, tS_R, tS_P, tS_C, tM_inj, tM_B, tM_W, tM_R, tM_P, tM_C, tM_S, tB_M, tW_M, tR_M, tP_M, tC_M, tS_M, q2, q4, q5, q6, q7, hne]

theorem fv_of {f v : Int32} (hf : 1 ≤ f ∧ f ≤ 11) (hv : 0 ≤ v ∧ v ≤ 2) : ∃ a b : Nat, f = nI a ∧ v = nI b ∧ 1 ≤ a ∧ a < 12 ∧ b < 3 := by
  obtain ⟨a, ha, rfl⟩ := vp_in_of (in_c (c := 11) (n := 12) (by decide) ⟨Int32.le_trans (by decide) hf.1, hf.2⟩) (by decide)
  obtain ⟨b, hb, rfl⟩ := vp_in_of (in_c (c := 2) (n := 3) (by decide) hv) (by decide)
  refine ⟨a, b, rfl, rfl, ?_, ha, hb⟩
  exact (nI_leI (a := 1) (by decide) (by omega)).mp hf.1
theorem fv_at {a b : Nat} (h1 : 1 ≤ a) (h2 : a < 12) (h3 : b < 3) : clO (nI a - 1) (nI b) = nI (12 * b + (a - 1)) ∧ clO (nI a) (nI b) = nI (12 * b + a) ∧ (12 * nI b + nI a - 1).toNatClampNeg = 12 * b + (a - 1) ∧ (12 * nI b + nI a).toNatClampNeg = 12 * b + a := by
  refine ⟨by rw [nI_s1 h1]; exact clO_n (by omega) h3, clO_n h2 h3, ?_, ?_⟩
  · rw [show (12 : Int32) = nI 12 from rfl, nI_mul, nI_add, nI_s1 (by omega), nI_clamp (by omega)]
    omega
  · rw [show (12 : Int32) = nI 12 from rfl, nI_mul, nI_add, nI_clamp (by omega)]
def wnS (σ : MS) (k j : Nat) (y : Int32) : MS := if σ.2 9 (whI σ j) = 2 then sSpo (sDrw σ k y.toNatClampNeg) (σ.2 22 k) (σ.2 23 k) else sDrw σ k y.toNatClampNeg
theorem x_wn {κ : AH} {σ : MS} {nb nw np : Nat} {wb : Nat → Nat} {T M m : Int32} {n : Nat} (h : RX κ σ nb nw np wb T M n m) {k : Nat} {y : Int32} (hk : k < nw) (hy : vp_in y 4) (hf : 1 ≤ σ.2 22 k ∧ σ.2 22 k ≤ 11) (hv : 0 ≤ σ.2 23 k ∧ σ.2 23 k ≤ 2) : RX (wnH κ σ k (wb k) y) (wnS σ k (wb k) y) nb nw np wb T M n m := by
  have hw := h.2.2.2.1.2.1 k hk
  have hb := h.2.2.1.2.1 (wb k) hw.2.1
  have h9 := x_wd (k := k) h hy
  obtain ⟨a, b, ef, ev, h1, h2, h3⟩ := fv_of hf hv
  obtain ⟨e1, e2, e3, e4⟩ := fv_at h1 h2 h3
  unfold wnH wnS
  by_cases hs : σ.2 9 (whI σ (wb k)) = 2
  · rw [if_pos hs, if_pos hs, hw.1.2.2.1, hb.2.2.2.2.1, hw.2.2.1, ef, ev, e1, e2]
    unfold sSpo
    rw [e3, e4]
    exact x_sp (x_sp h9 (c := 12 * b + (a - 1)) (by omega)) (c := 12 * b + a) (by omega)
  · rw [if_neg hs, if_neg hs]
    exact h9

/-- a new weld nw of block j -/
def nwS (σ : MS) (nw : Nat) (f v b : Int32) : MS := upA (upA (upS (upS (upA (upA (upA (upA σ 21 nw 0) 22 nw f) 23 nw v) 24 nw b) 18 (nI (nw + 1))) 7 (σ.1 7 - 20)) 19 nw 0) 20 nw 0
theorem sMak_nw {σ : MS} {nw y : Nat} {b f v : Int32} (ew : σ.1 18 = nI nw) (hn : nw ≤ 100) : sMak σ b f v y = sDrw (nwS σ nw f v b) nw y := by
  have e : (σ.1 18).toNatClampNeg = nw := by rw [ew, nI_clamp (by omega)]
  have e1 : σ.1 18 + 1 = nI (nw + 1) := by rw [ew, nI_1]
  unfold sMak
  rw [e, e1]
  refine Prod.ext rfl (funext fun j => funext fun i => ?_)
  show (if j = 19 ∧ i = nw then (0 : Int32) else if j = 20 ∧ i = nw then _ else _) = (if j = 19 ∧ i = nw then (0 : Int32) else if j = 20 ∧ i = nw then _ else if j = 20 ∧ i = nw then 0 else if j = 19 ∧ i = nw then 0 else _)
  by_cases h19 : j = 19 ∧ i = nw
  · rw [if_pos h19, if_pos h19]
  · by_cases h20 : j = 20 ∧ i = nw
    · rw [if_neg h19, if_neg h19, if_pos h20, if_pos h20]
      rfl
    · simp only [if_neg h19, if_neg h20]
      rfl
theorem x_a2 {κ : AH} {σ : MS} {nb nw np : Nat} {wb : Nat → Nat} {T M m : Int32} {n : Nat} (h : RX κ σ nb nw np wb T M n m) {j : Nat} {f v b : Int32} (hn : nw < 100) (hj : j < nb) (hv : σ.2 12 j = v) (h1 : b = -1 → σ.2 9 j = 2 ∧ σ.2 17 j = -1) (h2 : ¬ b = -1 → b = nI j) : RX (a2H κ nw j f) (nwS σ nw f v b) nb (nw + 1) np (fun k => if k = nw then j else wb k) T M n m := by
  obtain ⟨G, N, B, W, R, P, H, L⟩ := h
  obtain ⟨⟨n7, n8, n9⟩, ⟨n10, n11, n12, n13, n14⟩, n3, n5⟩ := N
  have D : Dif (fun t => t = tW nw ∨ t = tS 6 ∨ t = tS 4) κ (a2H κ nw j f) := (by repeat' first | exact Dif.rfl' | exact rfl | exact Or.inl rfl | exact Or.inr rfl | exact Or.inr (Or.inl rfl) | exact Or.inr (Or.inr rfl) | exact Or.inr (Or.inr (Or.inl rfl)) | exact Or.inr (Or.inr (Or.inr rfl)) | exact ⟨_, rfl⟩ | apply Dif.sI | apply Dif.sR | apply Dif.nO)
  obtain ⟨w1, w2, w3⟩ := W
  refine ⟨a2_SG G, ⟨⟨?_, ?_, ?_⟩, ⟨?_, ?_, ?_, ?_, ?_⟩, ?_, fun j hj => ?_⟩, hB_d D (by simp [tB_inj, tB_W, tB_R, tB_P, tB_C, tB_S, tW_inj, tW_B, tW_R, tW_P, tW_C, tW_S, tR_inj, tR_B, tR_W, tR_P, tR_C, tR_S, tP_inj, tP_B, tP_W, tP_R, tP_C, tP_S, tC_inj, tC_B, tC_W, tC_R, tC_P, tC_S, tS_inj, tS_B, tS_W, tS_R, tS_P, tS_C, tM_inj, tM_B, tM_W, tM_R, tM_P, tM_C, tM_S, tB_M, tW_M, tR_M, tP_M, tC_M, tS_M]) (fun i => by simp [tB_inj, tB_W, tB_R, tB_P, tB_C, tB_S, tW_inj, tW_B, tW_R, tW_P, tW_C, tW_S, tR_inj, tR_B, tR_W, tR_P, tR_C, tR_S, tP_inj, tP_B, tP_W, tP_R, tP_C, tP_S, tC_inj, tC_B, tC_W, tC_R, tC_P, tC_S, tS_inj, tS_B, tS_W, tS_R, tS_P, tS_C, tM_inj, tM_B, tM_W, tM_R, tM_P, tM_C, tM_S, tB_M, tW_M, tR_M, tP_M, tC_M, tS_M]) B, ⟨fun i hi => ?_, fun i hi => ?_, fun i hi => ?_⟩, hRm_d D (by simp [tB_inj, tB_W, tB_R, tB_P, tB_C, tB_S, tW_inj, tW_B, tW_R, tW_P, tW_C, tW_S, tR_inj, tR_B, tR_W, tR_P, tR_C, tR_S, tP_inj, tP_B, tP_W, tP_R, tP_C, tP_S, tC_inj, tC_B, tC_W, tC_R, tC_P, tC_S, tS_inj, tS_B, tS_W, tS_R, tS_P, tS_C, tM_inj, tM_B, tM_W, tM_R, tM_P, tM_C, tM_S, tB_M, tW_M, tR_M, tP_M, tC_M, tS_M]) (fun i hi => by simp [tB_inj, tB_W, tB_R, tB_P, tB_C, tB_S, tW_inj, tW_B, tW_R, tW_P, tW_C, tW_S, tR_inj, tR_B, tR_W, tR_P, tR_C, tR_S, tP_inj, tP_B, tP_W, tP_R, tP_C, tP_S, tC_inj, tC_B, tC_W, tC_R, tC_P, tC_S, tS_inj, tS_B, tS_W, tS_R, tS_P, tS_C, tM_inj, tM_B, tM_W, tM_R, tM_P, tM_C, tM_S, tB_M, tW_M, tR_M, tP_M, tC_M, tS_M]) R, hPi_d D (by simp [tB_inj, tB_W, tB_R, tB_P, tB_C, tB_S, tW_inj, tW_B, tW_R, tW_P, tW_C, tW_S, tR_inj, tR_B, tR_W, tR_P, tR_C, tR_S, tP_inj, tP_B, tP_W, tP_R, tP_C, tP_S, tC_inj, tC_B, tC_W, tC_R, tC_P, tC_S, tS_inj, tS_B, tS_W, tS_R, tS_P, tS_C, tM_inj, tM_B, tM_W, tM_R, tM_P, tM_C, tM_S, tB_M, tW_M, tR_M, tP_M, tC_M, tS_M]) (fun i => by simp [tB_inj, tB_W, tB_R, tB_P, tB_C, tB_S, tW_inj, tW_B, tW_R, tW_P, tW_C, tW_S, tR_inj, tR_B, tR_W, tR_P, tR_C, tR_S, tP_inj, tP_B, tP_W, tP_R, tP_C, tP_S, tC_inj, tC_B, tC_W, tC_R, tC_P, tC_S, tS_inj, tS_B, tS_W, tS_R, tS_P, tS_C, tM_inj, tM_B, tM_W, tM_R, tM_P, tM_C, tM_S, tB_M, tW_M, tR_M, tP_M, tC_M, tS_M]) (fun i => by simp [tB_inj, tB_W, tB_R, tB_P, tB_C, tB_S, tW_inj, tW_B, tW_R, tW_P, tW_C, tW_S, tR_inj, tR_B, tR_W, tR_P, tR_C, tR_S, tP_inj, tP_B, tP_W, tP_R, tP_C, tP_S, tC_inj, tC_B, tC_W, tC_R, tC_P, tC_S, tS_inj, tS_B, tS_W, tS_R, tS_P, tS_C, tM_inj, tM_B, tM_W, tM_R, tM_P, tM_C, tM_S, tB_M, tW_M, tR_M, tP_M, tC_M, tS_M]) P, hHu_d' D (by simp [tB_inj, tB_W, tB_R, tB_P, tB_C, tB_S, tW_inj, tW_B, tW_R, tW_P, tW_C, tW_S, tR_inj, tR_B, tR_W, tR_P, tR_C, tR_S, tP_inj, tP_B, tP_W, tP_R, tP_C, tP_S, tC_inj, tC_B, tC_W, tC_R, tC_P, tC_S, tS_inj, tS_B, tS_W, tS_R, tS_P, tS_C, tM_inj, tM_B, tM_W, tM_R, tM_P, tM_C, tM_S, tB_M, tW_M, tR_M, tP_M, tC_M, tS_M]) H, hLe_d' D (by simp [tB_inj, tB_W, tB_R, tB_P, tB_C, tB_S, tW_inj, tW_B, tW_R, tW_P, tW_C, tW_S, tR_inj, tR_B, tR_W, tR_P, tR_C, tR_S, tP_inj, tP_B, tP_W, tP_R, tP_C, tP_S, tC_inj, tC_B, tC_W, tC_R, tC_P, tC_S, tS_inj, tS_B, tS_W, tS_R, tS_P, tS_C, tM_inj, tM_B, tM_W, tM_R, tM_P, tM_C, tM_S, tB_M, tW_M, tR_M, tP_M, tC_M, tS_M]) (by simp [tB_inj, tB_W, tB_R, tB_P, tB_C, tB_S, tW_inj, tW_B, tW_R, tW_P, tW_C, tW_S, tR_inj, tR_B, tR_W, tR_P, tR_C, tR_S, tP_inj, tP_B, tP_W, tP_R, tP_C, tP_S, tC_inj, tC_B, tC_W, tC_R, tC_P, tC_S, tS_inj, tS_B, tS_W, tS_R, tS_P, tS_C, tM_inj, tM_B, tM_W, tM_R, tM_P, tM_C, tM_S, tB_M, tW_M, tR_M, tP_M, tC_M, tS_M]) L⟩
  · simp [a2H, a1H, nwS, upS, upA, gI_sI, gI_sR, gI_nO, tB_inj, tB_W, tB_R, tB_P, tB_C, tB_S, tW_inj, tW_B, tW_R, tW_P, tW_C, tW_S, tR_inj, tR_B, tR_W, tR_P, tR_C, tR_S, tP_inj, tP_B, tP_W, tP_R, tP_C, tP_S, tC_inj, tC_B, tC_W, tC_R, tC_P, tC_S, tS_inj, tS_B, tS_W, tS_R, tS_P, tS_C, tM_inj, tM_B, tM_W, tM_R, tM_P, tM_C, tM_S, tB_M, tW_M, tR_M, tP_M, tC_M, tS_M, n7]
  · simp [a2H, a1H, nwS, upS, upA, gI_sI, gI_sR, gI_nO, tB_inj, tB_W, tB_R, tB_P, tB_C, tB_S, tW_inj, tW_B, tW_R, tW_P, tW_C, tW_S, tR_inj, tR_B, tR_W, tR_P, tR_C, tR_S, tP_inj, tP_B, tP_W, tP_R, tP_C, tP_S, tC_inj, tC_B, tC_W, tC_R, tC_P, tC_S, tS_inj, tS_B, tS_W, tS_R, tS_P, tS_C, tM_inj, tM_B, tM_W, tM_R, tM_P, tM_C, tM_S, tB_M, tW_M, tR_M, tP_M, tC_M, tS_M, n8]
  · simp [a2H, a1H, nwS, upS, upA, gI_sI, gI_sR, gI_nO, tB_inj, tB_W, tB_R, tB_P, tB_C, tB_S, tW_inj, tW_B, tW_R, tW_P, tW_C, tW_S, tR_inj, tR_B, tR_W, tR_P, tR_C, tR_S, tP_inj, tP_B, tP_W, tP_R, tP_C, tP_S, tC_inj, tC_B, tC_W, tC_R, tC_P, tC_S, tS_inj, tS_B, tS_W, tS_R, tS_P, tS_C, tM_inj, tM_B, tM_W, tM_R, tM_P, tM_C, tM_S, tB_M, tW_M, tR_M, tP_M, tC_M, tS_M, n9]
  · simp [a2H, a1H, nwS, upS, upA, gI_sI, gI_sR, gI_nO, tB_inj, tB_W, tB_R, tB_P, tB_C, tB_S, tW_inj, tW_B, tW_R, tW_P, tW_C, tW_S, tR_inj, tR_B, tR_W, tR_P, tR_C, tR_S, tP_inj, tP_B, tP_W, tP_R, tP_C, tP_S, tC_inj, tC_B, tC_W, tC_R, tC_P, tC_S, tS_inj, tS_B, tS_W, tS_R, tS_P, tS_C, tM_inj, tM_B, tM_W, tM_R, tM_P, tM_C, tM_S, tB_M, tW_M, tR_M, tP_M, tC_M, tS_M, n10]
  · simp [a2H, a1H, nwS, upS, upA, gI_sI, gI_sR, gI_nO, tB_inj, tB_W, tB_R, tB_P, tB_C, tB_S, tW_inj, tW_B, tW_R, tW_P, tW_C, tW_S, tR_inj, tR_B, tR_W, tR_P, tR_C, tR_S, tP_inj, tP_B, tP_W, tP_R, tP_C, tP_S, tC_inj, tC_B, tC_W, tC_R, tC_P, tC_S, tS_inj, tS_B, tS_W, tS_R, tS_P, tS_C, tM_inj, tM_B, tM_W, tM_R, tM_P, tM_C, tM_S, tB_M, tW_M, tR_M, tP_M, tC_M, tS_M, n11]
  · simp [a2H, a1H, nwS, upS, upA, gI_sI, gI_sR, gI_nO, tB_inj, tB_W, tB_R, tB_P, tB_C, tB_S, tW_inj, tW_B, tW_R, tW_P, tW_C, tW_S, tR_inj, tR_B, tR_W, tR_P, tR_C, tR_S, tP_inj, tP_B, tP_W, tP_R, tP_C, tP_S, tC_inj, tC_B, tC_W, tC_R, tC_P, tC_S, tS_inj, tS_B, tS_W, tS_R, tS_P, tS_C, tM_inj, tM_B, tM_W, tM_R, tM_P, tM_C, tM_S, tB_M, tW_M, tR_M, tP_M, tC_M, tS_M, n12]
  · simp [a2H, a1H, nwS, upS, upA, gI_sI, gI_sR, gI_nO, tB_inj, tB_W, tB_R, tB_P, tB_C, tB_S, tW_inj, tW_B, tW_R, tW_P, tW_C, tW_S, tR_inj, tR_B, tR_W, tR_P, tR_C, tR_S, tP_inj, tP_B, tP_W, tP_R, tP_C, tP_S, tC_inj, tC_B, tC_W, tC_R, tC_P, tC_S, tS_inj, tS_B, tS_W, tS_R, tS_P, tS_C, tM_inj, tM_B, tM_W, tM_R, tM_P, tM_C, tM_S, tB_M, tW_M, tR_M, tP_M, tC_M, tS_M, n13]
  · simp [a2H, a1H, nwS, upS, upA, gI_sI, gI_sR, gI_nO, tB_inj, tB_W, tB_R, tB_P, tB_C, tB_S, tW_inj, tW_B, tW_R, tW_P, tW_C, tW_S, tR_inj, tR_B, tR_W, tR_P, tR_C, tR_S, tP_inj, tP_B, tP_W, tP_R, tP_C, tP_S, tC_inj, tC_B, tC_W, tC_R, tC_P, tC_S, tS_inj, tS_B, tS_W, tS_R, tS_P, tS_C, tM_inj, tM_B, tM_W, tM_R, tM_P, tM_C, tM_S, tB_M, tW_M, tR_M, tP_M, tC_M, tS_M, n14]
  · simp [a2H, a1H, nwS, upS, upA, gI_sI, gI_sR, gI_nO, tB_inj, tB_W, tB_R, tB_P, tB_C, tB_S, tW_inj, tW_B, tW_R, tW_P, tW_C, tW_S, tR_inj, tR_B, tR_W, tR_P, tR_C, tR_S, tP_inj, tP_B, tP_W, tP_R, tP_C, tP_S, tC_inj, tC_B, tC_W, tC_R, tC_P, tC_S, tS_inj, tS_B, tS_W, tS_R, tS_P, tS_C, tM_inj, tM_B, tM_W, tM_R, tM_P, tM_C, tM_S, tB_M, tW_M, tR_M, tP_M, tC_M, tS_M, n3]
  · simp [a2H, a1H, nwS, upS, upA, gI_sI, gI_sR, gI_nO, tB_inj, tB_W, tB_R, tB_P, tB_C, tB_S, tW_inj, tW_B, tW_R, tW_P, tW_C, tW_S, tR_inj, tR_B, tR_W, tR_P, tR_C, tR_S, tP_inj, tP_B, tP_W, tP_R, tP_C, tP_S, tC_inj, tC_B, tC_W, tC_R, tC_P, tC_S, tS_inj, tS_B, tS_W, tS_R, tS_P, tS_C, tM_inj, tM_B, tM_W, tM_R, tM_P, tM_C, tM_S, tB_M, tW_M, tR_M, tP_M, tC_M, tS_M, n5 j hj]
  · show gR (sR (a1H κ nw j f) (tS 6) nw (some (tW nw))) (tS 6) i = _
    rw [gR_sR]
    by_cases e : i = nw
    · rw [if_pos ⟨rfl, e⟩, if_pos (by omega), e]
    · rw [if_neg (fun z => e z.2)]
      have : gR (a1H κ nw j f) (tS 6) i = gR κ (tS 6) i := by simp [a1H, gR_sI, gR_sR, gR_nO, tB_inj, tB_W, tB_R, tB_P, tB_C, tB_S, tW_inj, tW_B, tW_R, tW_P, tW_C, tW_S, tR_inj, tR_B, tR_W, tR_P, tR_C, tR_S, tP_inj, tP_B, tP_W, tP_R, tP_C, tP_S, tC_inj, tC_B, tC_W, tC_R, tC_P, tC_S, tS_inj, tS_B, tS_W, tS_R, tS_P, tS_C, tM_inj, tM_B, tM_W, tM_R, tM_P, tM_C, tM_S, tB_M, tW_M, tR_M, tP_M, tC_M, tS_M]
      rw [this, w1 i hi]
      by_cases e2 : i < nw
      · rw [if_pos e2, if_pos (by omega)]
      · rw [if_neg e2, if_neg (by omega)]
  · by_cases e : i = nw
    · subst e
      simp only [if_true]
      refine ⟨⟨a2_TW, a2_R0, ?_, ?_, ?_, ?_⟩, hj, ?_, ?_, ?_⟩
      · simp [a2H, a1H, nwS, upS, upA, gI_sI, gI_sR, gI_nO, tB_inj, tB_W, tB_R, tB_P, tB_C, tB_S, tW_inj, tW_B, tW_R, tW_P, tW_C, tW_S, tR_inj, tR_B, tR_W, tR_P, tR_C, tR_S, tP_inj, tP_B, tP_W, tP_R, tP_C, tP_S, tC_inj, tC_B, tC_W, tC_R, tC_P, tC_S, tS_inj, tS_B, tS_W, tS_R, tS_P, tS_C, tM_inj, tM_B, tM_W, tM_R, tM_P, tM_C, tM_S, tB_M, tW_M, tR_M, tP_M, tC_M, tS_M]
      · simp [a2H, a1H, nwS, upS, upA, gI_sI, gI_sR, gI_nO, tB_inj, tB_W, tB_R, tB_P, tB_C, tB_S, tW_inj, tW_B, tW_R, tW_P, tW_C, tW_S, tR_inj, tR_B, tR_W, tR_P, tR_C, tR_S, tP_inj, tP_B, tP_W, tP_R, tP_C, tP_S, tC_inj, tC_B, tC_W, tC_R, tC_P, tC_S, tS_inj, tS_B, tS_W, tS_R, tS_P, tS_C, tM_inj, tM_B, tM_W, tM_R, tM_P, tM_C, tM_S, tB_M, tW_M, tR_M, tP_M, tC_M, tS_M]
      · simp [a2H, a1H, nwS, upS, upA, gI_sI, gI_sR, gI_nO, tB_inj, tB_W, tB_R, tB_P, tB_C, tB_S, tW_inj, tW_B, tW_R, tW_P, tW_C, tW_S, tR_inj, tR_B, tR_W, tR_P, tR_C, tR_S, tP_inj, tP_B, tP_W, tP_R, tP_C, tP_S, tC_inj, tC_B, tC_W, tC_R, tC_P, tC_S, tS_inj, tS_B, tS_W, tS_R, tS_P, tS_C, tM_inj, tM_B, tM_W, tM_R, tM_P, tM_C, tM_S, tB_M, tW_M, tR_M, tP_M, tC_M, tS_M]
      · simp [a2H, a1H, nwS, upS, upA, gI_sI, gI_sR, gI_nO, tB_inj, tB_W, tB_R, tB_P, tB_C, tB_S, tW_inj, tW_B, tW_R, tW_P, tW_C, tW_S, tR_inj, tR_B, tR_W, tR_P, tR_C, tR_S, tP_inj, tP_B, tP_W, tP_R, tP_C, tP_S, tC_inj, tC_B, tC_W, tC_R, tC_P, tC_S, tS_inj, tS_B, tS_W, tS_R, tS_P, tS_C, tM_inj, tM_B, tM_W, tM_R, tM_P, tM_C, tM_S, tB_M, tW_M, tR_M, tP_M, tC_M, tS_M]
      · simp [nwS, upS, upA, hv]
      · simp only [nwS, upS, upA]
        simpa using h1
      · simp only [nwS, upS, upA]
        simpa using h2
    · obtain ⟨⟨p1, p2, p3, p4, p5, p6⟩, p7, p8, p9, p10⟩ := w2 i (by omega)
      simp only [if_neg e]
      obtain ⟨t1, t2, t3, t4⟩ := D (tW i) (by simp [tB_inj, tB_W, tB_R, tB_P, tB_C, tB_S, tW_inj, tW_B, tW_R, tW_P, tW_C, tW_S, tR_inj, tR_B, tR_W, tR_P, tR_C, tR_S, tP_inj, tP_B, tP_W, tP_R, tP_C, tP_S, tC_inj, tC_B, tC_W, tC_R, tC_P, tC_S, tS_inj, tS_B, tS_W, tS_R, tS_P, tS_C, tM_inj, tM_B, tM_W, tM_R, tM_P, tM_C, tM_S, tB_M, tW_M, tR_M, tP_M, tC_M, tS_M, e])
      refine ⟨⟨t1.trans p1, (t4 _).trans p2, ?_, ?_, ?_, ?_⟩, p7, ?_, ?_, ?_⟩
      · rw [t3, p3]; simp [nwS, upS, upA, e]
      · rw [t3, p4]; simp [nwS, upS, upA, e]
      · rw [t3, p5]; simp [nwS, upS, upA, e]
      · rw [t3, p6]; simp [nwS, upS, upA, e]
      · simpa [nwS, upS, upA, e] using p8
      · simp only [nwS, upS, upA]
        simpa [e] using p9
      · simp only [nwS, upS, upA]
        simpa [e] using p10
  · exact (a2_T (fun z => absurd (tW_inj.mp z) (by omega))).trans (w3 i (by omega))

theorem spR_cg {σ σ' : MS} {κ : AH} {x : Int32} (h : σ'.2 25 = σ.2 25) : spR σ' κ x = spR σ κ x := by
  unfold spR isRm
  rw [h]
theorem wnH_cg {σ σ' : MS} {κ : AH} {k j : Nat} {y : Int32} (h17 : σ'.2 17 = σ.2 17) (h9 : σ'.2 9 = σ.2 9) (h25 : σ'.2 25 = σ.2 25) : wnH κ σ' k j y = wnH κ σ k j y := by
  unfold wnH
  rw [whI_cg h17, h9]
  simp only [spR_cg (σ' := σ') h25]
theorem x_mwS {κ : AH} {σ : MS} {nb nw np : Nat} {wb : Nat → Nat} {T M m : Int32} {n : Nat} (h : RX κ σ nb nw np wb T M n m) {j : Nat} {f v y : Int32} (ew : σ.1 18 = nI nw) (hn : nw < 100) (hnb : nb ≤ 60) (hj : j < nb) (hy : vp_in y 4) (hv : σ.2 12 j = v) (hf : 1 ≤ f ∧ f ≤ 11) (hv2 : 0 ≤ v ∧ v ≤ 2) (h9 : σ.2 9 j = 2) (h17 : σ.2 17 j = -1) : RX (mwH κ σ nw j f y n) (sSpo (sMak σ (-1) f v y.toNatClampNeg) f v) nb (nw + 1) np (fun k => if k = nw then j else wb k) T M (n + 1) (m + (-20)) := by
  have h1 := x_a2 (f := f) (v := v) (b := (-1)) h hn hj hv (fun _ => ⟨h9, h17⟩) (fun z => absurd rfl z)
  have e22 : (nwS σ nw f v (-1)).2 22 nw = f := by simp [nwS, upS, upA]
  have e23 : (nwS σ nw f v (-1)).2 23 nw = v := by simp [nwS, upS, upA]
  have h2 := x_wn (k := nw) h1 (by omega) hy (by rw [e22]; exact hf) (by rw [e23]; exact hv2)
  simp only [if_true] at h2
  have e0 : wnH (a2H κ nw j f) (nwS σ nw f v (-1)) nw j y = wnH (a2H κ nw j f) σ nw j y := wnH_cg rfl rfl rfl
  have e1 : whI (nwS σ nw f v (-1)) j = j := whI_root (by omega) h17
  have e2 : wnS (nwS σ nw f v (-1)) nw j y = (sSpo (sMak σ (-1) f v y.toNatClampNeg) f v) := by
    unfold wnS
    rw [e1, if_pos (show (nwS σ nw f v (-1)).2 9 j = 2 from h9), e22, e23, sMak_nw ew (by omega)]
  rw [e0, e2] at h2
  exact x_en h2
theorem x_mwN {κ : AH} {σ : MS} {nb nw np : Nat} {wb : Nat → Nat} {T M m : Int32} {n : Nat} (h : RX κ σ nb nw np wb T M n m) {j : Nat} {f v y : Int32} (ew : σ.1 18 = nI nw) (hn : nw < 100) (hnb : nb ≤ 60) (hj : j < nb) (hy : vp_in y 4) (hv : σ.2 12 j = v) (hf : 1 ≤ f ∧ f ≤ 11) (hv2 : 0 ≤ v ∧ v ≤ 2) (h9 : ¬ σ.2 9 j = 2) (h17 : σ.2 17 j = -1) : RX (mwH κ σ nw j f y n) (sMak σ (nI j) f v y.toNatClampNeg) nb (nw + 1) np (fun k => if k = nw then j else wb k) T M (n + 1) (m + (-20)) := by
  have h1 := x_a2 (f := f) (v := v) (b := (nI j)) h hn hj hv (fun z => absurd z (nI_mm (by omega))) (fun _ => rfl)
  have e22 : (nwS σ nw f v (nI j)).2 22 nw = f := by simp [nwS, upS, upA]
  have e23 : (nwS σ nw f v (nI j)).2 23 nw = v := by simp [nwS, upS, upA]
  have h2 := x_wn (k := nw) h1 (by omega) hy (by rw [e22]; exact hf) (by rw [e23]; exact hv2)
  simp only [if_true] at h2
  have e0 : wnH (a2H κ nw j f) (nwS σ nw f v (nI j)) nw j y = wnH (a2H κ nw j f) σ nw j y := wnH_cg rfl rfl rfl
  have e1 : whI (nwS σ nw f v (nI j)) j = j := whI_root (by omega) h17
  have e2 : wnS (nwS σ nw f v (nI j)) nw j y = (sMak σ (nI j) f v y.toNatClampNeg) := by
    unfold wnS
    rw [e1, if_neg (show ¬ (nwS σ nw f v (nI j)).2 9 j = 2 from h9), sMak_nw ew (by omega)]
  rw [e0, e2] at h2
  exact x_en h2


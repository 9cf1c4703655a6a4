/-! WHAT ALWAYS HOLDS, 5: a new block; a block becomes part -/
def nbS (σ : MS) (nb : Nat) (f l v t e g : Int32) : MS := upS (upA (upA (upA (upA (upA (upA (upA (upA (upA σ 9 nb 0) 10 nb f) 11 nb l) 12 nb v) 13 nb t) 14 nb e) 15 nb g) 16 nb (-1)) 17 nb (-1)) 8 (nI (nb + 1))
theorem sAdds_nb {σ : MS} {nb : Nat} {f l v t e g : Int32} (h : σ.1 8 = nI nb) (hn : nb ≤ 60) : sAdds σ f l v t e g = nbS σ nb f l v t e g := by
  unfold sAdds nbS
  simp only [h, nI_clamp (n := nb) (by omega), nI_1]
theorem nbS_o {σ : MS} {nb k i : Nat} {f l v t e g : Int32} (h : i ≠ nb) : (nbS σ nb f l v t e g).2 k i = σ.2 k i := by
  simp only [nbS, upS, upA, h, and_false, if_false]
theorem nbS_row {σ : MS} {nb k : Nat} {f l v t e g : Int32} (h : k < 9 ∨ 17 < k) : (nbS σ nb f l v t e g).2 k = σ.2 k := by
  funext i
  have a : ∀ q, 9 ≤ q → q ≤ 17 → ¬ (k = q ∧ i = nb) := fun q h1 h2 z => by omega
  show (if k = 17 ∧ i = nb then (-1) else if k = 16 ∧ i = nb then (-1) else if k = 15 ∧ i = nb then g else if k = 14 ∧ i = nb then e else if k = 13 ∧ i = nb then t else if k = 12 ∧ i = nb then v else if k = 11 ∧ i = nb then l else if k = 10 ∧ i = nb then f else if k = 9 ∧ i = nb then 0 else σ.2 k i) = _
  rw [if_neg (a 17 (by decide) (by decide)), if_neg (a 16 (by decide) (by decide)), if_neg (a 15 (by decide) (by decide)), if_neg (a 14 (by decide) (by decide)), if_neg (a 13 (by decide) (by decide)), if_neg (a 12 (by decide) (by decide)), if_neg (a 11 (by decide) (by decide)), if_neg (a 10 (by decide) (by decide)), if_neg (a 9 (by decide) (by decide))]
theorem nbS_n {σ : MS} {nb : Nat} {f l v t e g : Int32} : (nbS σ nb f l v t e g).2 9 nb = 0 ∧ (nbS σ nb f l v t e g).2 10 nb = f ∧ (nbS σ nb f l v t e g).2 11 nb = l ∧ (nbS σ nb f l v t e g).2 12 nb = v ∧ (nbS σ nb f l v t e g).2 13 nb = t ∧ (nbS σ nb f l v t e g).2 14 nb = e ∧ (nbS σ nb f l v t e g).2 15 nb = g ∧ (nbS σ nb f l v t e g).2 17 nb = -1 := by
  refine ⟨?_, ?_, ?_, ?_, ?_, ?_, ?_, ?_⟩ <;> simp [nbS, upS, upA]
theorem nbS_num {σ : MS} {nb k : Nat} {f l v t e g : Int32} (h : k ≠ 8) : (nbS σ nb f l v t e g).1 k = σ.1 k := if_neg h
theorem nbS_8 {σ : MS} {nb : Nat} {f l v t e g : Int32} : (nbS σ nb f l v t e g).1 8 = nI (nb + 1) := rfl
theorem whN_lt {σ σ' : MS} {nb : Nat} (hc : chn σ nb) (h : ∀ i, i < nb → σ'.2 17 i = σ.2 17 i) : ∀ (n j : Nat), j < nb → whN σ' n (nI j) = whN σ n (nI j)
  | 0, _, _ => rfl
  | n + 1, j, hj => by
    have e : (nI j).toNatClampNeg = j := nI_clamp (by have := hc.1; omega)
    unfold whN
    rw [e, h j hj]
    rcases hc.2 j hj with h1 | ⟨k, h1, h2, h3⟩
    · rw [if_pos h1, if_pos h1]
    · rw [h3, whN_lt hc h n k h2]
theorem whI_lt2 {σ σ' : MS} {nb : Nat} (hc : chn σ nb) (h : ∀ i, i < nb → σ'.2 17 i = σ.2 17 i) {i : Nat} (hi : i < nb) : whI σ' i = whI σ i := by
  unfold whI whl
  rw [whN_lt hc h _ _ hi]
theorem whN_root {σ : MS} {nb : Nat} (hc : chn σ nb) : ∀ (n j : Nat), j < nb → nb ≤ n + j → ∃ k, j ≤ k ∧ k < nb ∧ whN σ n (nI j) = nI k ∧ σ.2 17 k = -1
  | 0, j, hj, hm => by omega
  | n + 1, j, hj, hm => by
    have e : (nI j).toNatClampNeg = j := nI_clamp (by have := hc.1; omega)
    unfold whN
    rw [e]
    rcases hc.2 j hj with h1 | ⟨k, h1, h2, h3⟩
    · rw [if_pos h1]
      exact ⟨j, Nat.le_refl _, hj, rfl, h1⟩
    · rw [h3, if_neg (nI_mm (by have := hc.1; omega))]
      obtain ⟨q, a, b, c, d⟩ := whN_root hc n k h2 (by omega)
      exact ⟨q, by omega, b, c, d⟩
theorem whI_rt {σ : MS} {nb i : Nat} (hc : chn σ nb) (hi : i < nb) : whI σ i < nb ∧ whl σ (nI i) = nI (whI σ i) ∧ σ.2 17 (whI σ i) = -1 ∧ whI σ (whI σ i) = whI σ i := by
  have h60 := hc.1
  obtain ⟨k, a, b, c, d⟩ := whN_root hc 60 i hi (by omega)
  have e : whI σ i = k := by
    unfold whI whl
    rw [c, nI_clamp (by omega)]
  rw [e]
  exact ⟨b, c, d, whI_root (by omega) d⟩
theorem nb_D {κ : AH} {nb : Nat} {f l v t e g : Int32} : Dif (fun t => t = tB nb ∨ t = tS 5 ∨ t = tS 4) κ (nbH κ nb f l v t e g) := by
  unfold nbH kpH inH
  exact (by repeat' first | exact Dif.rfl' | exact rfl | exact Or.inl rfl | exact Or.inr rfl | exact Or.inr (Or.inl rfl) | exact Or.inr (Or.inr rfl) | exact Or.inr (Or.inr (Or.inl rfl)) | exact Or.inr (Or.inr (Or.inr rfl)) | exact ⟨_, rfl⟩ | apply Dif.sI | apply Dif.sR | apply Dif.nO)
theorem x_nb {κ : AH} {σ : MS} {nb nw np : Nat} {wb : Nat → Nat} {T M m : Int32} {n : Nat} (h : RX κ σ nb nw np wb T M n m) {f l v t e g : Int32} (hn : nb < 60) : RX (nbH κ nb f l v t e g) (nbS σ nb f l v t e g) (nb + 1) nw np wb T M n m := by
  obtain ⟨G, N, B, W, R, P, H, L⟩ := h
  obtain ⟨⟨n7, n8, n9⟩, ⟨n10, n11, n12, n13, n14⟩, n3, n5⟩ := N
  have D := nb_D (κ := κ) (nb := nb) (f := f) (l := l) (v := v) (t := t) (e := e) (g := g)
  obtain ⟨b1, b2, b3⟩ := B
  obtain ⟨w1, w2, w3⟩ := W
  obtain ⟨r1, r2, r3⟩ := R
  have DB : ∀ i, i ≠ nb → gT (nbH κ nb f l v t e g) (tB i) = gT κ (tB i) ∧ gN (nbH κ nb f l v t e g) (tB i) = gN κ (tB i) ∧ (∀ k, gI (nbH κ nb f l v t e g) (tB i) k = gI κ (tB i) k) ∧ ∀ k, gR (nbH κ nb f l v t e g) (tB i) k = gR κ (tB i) k := fun i hi => D (tB i) (by simp [tB_inj, tB_W, tB_R, tB_P, tB_C, tB_S, tW_inj, tW_B, tW_R, tW_P, tW_C, tW_S, tR_inj, tR_B, tR_W, tR_P, tR_C, tR_S, tP_inj, tP_B, tP_W, tP_R, tP_C, tP_S, tC_inj, tC_B, tC_W, tC_R, tC_P, tC_S, tS_inj, tS_B, tS_W, tS_R, tS_P, tS_C, tM_inj, tM_B, tM_W, tM_R, tM_P, tM_C, tM_S, tB_M, tW_M, tR_M, tP_M, tC_M, tS_M, hi])
  have G0 : SG (nO κ (tB nb) 1 0) := SG_nO G (fun i _ z => tB_S.mp z)
  refine ⟨?_, ⟨⟨?_, ?_, ?_⟩, ⟨?_, ?_, ?_, ?_, ?_⟩, ?_, fun j hj => ?_⟩, ⟨fun i hi => ?_, fun i hi => ?_, fun i hi => ?_⟩, ⟨fun i hi => ((D _ (by simp [tB_inj, tB_W, tB_R, tB_P, tB_C, tB_S, tW_inj, tW_B, tW_R, tW_P, tW_C, tW_S, tR_inj, tR_B, tR_W, tR_P, tR_C, tR_S, tP_inj, tP_B, tP_W, tP_R, tP_C, tP_S, tC_inj, tC_B, tC_W, tC_R, tC_P, tC_S, tS_inj, tS_B, tS_W, tS_R, tS_P, tS_C, tM_inj, tM_B, tM_W, tM_R, tM_P, tM_C, tM_S, tB_M, tW_M, tR_M, tP_M, tC_M, tS_M])).2.2.2 i).trans (w1 i hi), fun i hi => ?_, fun i hi => (D _ (by simp [tB_inj, tB_W, tB_R, tB_P, tB_C, tB_S, tW_inj, tW_B, tW_R, tW_P, tW_C, tW_S, tR_inj, tR_B, tR_W, tR_P, tR_C, tR_S, tP_inj, tP_B, tP_W, tP_R, tP_C, tP_S, tC_inj, tC_B, tC_W, tC_R, tC_P, tC_S, tS_inj, tS_B, tS_W, tS_R, tS_P, tS_C, tM_inj, tM_B, tM_W, tM_R, tM_P, tM_C, tM_S, tB_M, tW_M, tR_M, tP_M, tC_M, tS_M])).1.trans (w3 i hi)⟩, ⟨fun i hi => ?_, fun i hi hq => ?_, fun i hi hq => ?_⟩, ?_, hHu_d' D (by simp [tB_inj, tB_W, tB_R, tB_P, tB_C, tB_S, tW_inj, tW_B, tW_R, tW_P, tW_C, tW_S, tR_inj, tR_B, tR_W, tR_P, tR_C, tR_S, tP_inj, tP_B, tP_W, tP_R, tP_C, tP_S, tC_inj, tC_B, tC_W, tC_R, tC_P, tC_S, tS_inj, tS_B, tS_W, tS_R, tS_P, tS_C, tM_inj, tM_B, tM_W, tM_R, tM_P, tM_C, tM_S, tB_M, tW_M, tR_M, tP_M, tC_M, tS_M]) H, hLe_d' D (by simp [tB_inj, tB_W, tB_R, tB_P, tB_C, tB_S, tW_inj, tW_B, tW_R, tW_P, tW_C, tW_S, tR_inj, tR_B, tR_W, tR_P, tR_C, tR_S, tP_inj, tP_B, tP_W, tP_R, tP_C, tP_S, tC_inj, tC_B, tC_W, tC_R, tC_P, tC_S, tS_inj, tS_B, tS_W, tS_R, tS_P, tS_C, tM_inj, tM_B, tM_W, tM_R, tM_P, tM_C, tM_S, tB_M, tW_M, tR_M, tP_M, tC_M, tS_M]) (by simp [tB_inj, tB_W, tB_R, tB_P, tB_C, tB_S, tW_inj, tW_B, tW_R, tW_P, tW_C, tW_S, tR_inj, tR_B, tR_W, tR_P, tR_C, tR_S, tP_inj, tP_B, tP_W, tP_R, tP_C, tP_S, tC_inj, tC_B, tC_W, tC_R, tC_P, tC_S, tS_inj, tS_B, tS_W, tS_R, tS_P, tS_C, tM_inj, tM_B, tM_W, tM_R, tM_P, tM_C, tM_S, tB_M, tW_M, tR_M, tP_M, tC_M, tS_M]) L⟩
  · exact SG_sR (SG_sR G0 (fun i _ z => tB_S.mp z) : SG (inH (nO κ (tB nb) 1 0) (tB nb) (nI nb) f l v t e g)) (fun i hi z => by have := tS_inj.mp z; omega)
  · rw [nbS_8]
    unfold nbH kpH
    rw [gI_sI, if_pos ⟨rfl, rfl⟩]
  · refine Eq.trans ?_ (n8.trans (nbS_num (by decide)).symm)
    simp [nbH, kpH, inH, gI_sI, gI_sR, gI_nO, gR_sI, gR_sR, gR_nO, gT_sI, gT_sR, gT_nO, tB_inj, tB_W, tB_R, tB_P, tB_C, tB_S, tW_inj, tW_B, tW_R, tW_P, tW_C, tW_S, tR_inj, tR_B, tR_W, tR_P, tR_C, tR_S, tP_inj, tP_B, tP_W, tP_R, tP_C, tP_S, tC_inj, tC_B, tC_W, tC_R, tC_P, tC_S, tS_inj, tS_B, tS_W, tS_R, tS_P, tS_C, tM_inj, tM_B, tM_W, tM_R, tM_P, tM_C, tM_S, tB_M, tW_M, tR_M, tP_M, tC_M, tS_M]
  · refine Eq.trans ?_ (n9.trans (nbS_num (by decide)).symm)
    simp [nbH, kpH, inH, gI_sI, gI_sR, gI_nO, gR_sI, gR_sR, gR_nO, gT_sI, gT_sR, gT_nO, tB_inj, tB_W, tB_R, tB_P, tB_C, tB_S, tW_inj, tW_B, tW_R, tW_P, tW_C, tW_S, tR_inj, tR_B, tR_W, tR_P, tR_C, tR_S, tP_inj, tP_B, tP_W, tP_R, tP_C, tP_S, tC_inj, tC_B, tC_W, tC_R, tC_P, tC_S, tS_inj, tS_B, tS_W, tS_R, tS_P, tS_C, tM_inj, tM_B, tM_W, tM_R, tM_P, tM_C, tM_S, tB_M, tW_M, tR_M, tP_M, tC_M, tS_M]
  · refine Eq.trans ?_ (n10.trans (nbS_num (by decide)).symm)
    simp [nbH, kpH, inH, gI_sI, gI_sR, gI_nO, gR_sI, gR_sR, gR_nO, gT_sI, gT_sR, gT_nO, tB_inj, tB_W, tB_R, tB_P, tB_C, tB_S, tW_inj, tW_B, tW_R, tW_P, tW_C, tW_S, tR_inj, tR_B, tR_W, tR_P, tR_C, tR_S, tP_inj, tP_B, tP_W, tP_R, tP_C, tP_S, tC_inj, tC_B, tC_W, tC_R, tC_P, tC_S, tS_inj, tS_B, tS_W, tS_R, tS_P, tS_C, tM_inj, tM_B, tM_W, tM_R, tM_P, tM_C, tM_S, tB_M, tW_M, tR_M, tP_M, tC_M, tS_M]
  · refine Eq.trans ?_ (n11.trans (nbS_num (by decide)).symm)
    simp [nbH, kpH, inH, gI_sI, gI_sR, gI_nO, gR_sI, gR_sR, gR_nO, gT_sI, gT_sR, gT_nO, tB_inj, tB_W, tB_R, tB_P, tB_C, tB_S, tW_inj, tW_B, tW_R, tW_P, tW_C, tW_S, tR_inj, tR_B, tR_W, tR_P, tR_C, tR_S, tP_inj, tP_B, tP_W, tP_R, tP_C, tP_S, tC_inj, tC_B, tC_W, tC_R, tC_P, tC_S, tS_inj, tS_B, tS_W, tS_R, tS_P, tS_C, tM_inj, tM_B, tM_W, tM_R, tM_P, tM_C, tM_S, tB_M, tW_M, tR_M, tP_M, tC_M, tS_M]
  · refine Eq.trans ?_ (n12.trans (nbS_num (by decide)).symm)
    simp [nbH, kpH, inH, gI_sI, gI_sR, gI_nO, gR_sI, gR_sR, gR_nO, gT_sI, gT_sR, gT_nO, tB_inj, tB_W, tB_R, tB_P, tB_C, tB_S, tW_inj, tW_B, tW_R, tW_P, tW_C, tW_S, tR_inj, tR_B, tR_W, tR_P, tR_C, tR_S, tP_inj, tP_B, tP_W, tP_R, tP_C, tP_S, tC_inj, tC_B, tC_W, tC_R, tC_P, tC_S, tS_inj, tS_B, tS_W, tS_R, tS_P, tS_C, tM_inj, tM_B, tM_W, tM_R, tM_P, tM_C, tM_S, tB_M, tW_M, tR_M, tP_M, tC_M, tS_M]
  · refine Eq.trans ?_ (n13.trans (nbS_num (by decide)).symm)
    simp [nbH, kpH, inH, gI_sI, gI_sR, gI_nO, gR_sI, gR_sR, gR_nO, gT_sI, gT_sR, gT_nO, tB_inj, tB_W, tB_R, tB_P, tB_C, tB_S, tW_inj, tW_B, tW_R, tW_P, tW_C, tW_S, tR_inj, tR_B, tR_W, tR_P, tR_C, tR_S, tP_inj, tP_B, tP_W, tP_R, tP_C, tP_S, tC_inj, tC_B, tC_W, tC_R, tC_P, tC_S, tS_inj, tS_B, tS_W, tS_R, tS_P, tS_C, tM_inj, tM_B, tM_W, tM_R, tM_P, tM_C, tM_S, tB_M, tW_M, tR_M, tP_M, tC_M, tS_M]
  · refine Eq.trans ?_ (n14.trans (nbS_num (by decide)).symm)
    simp [nbH, kpH, inH, gI_sI, gI_sR, gI_nO, gR_sI, gR_sR, gR_nO, gT_sI, gT_sR, gT_nO, tB_inj, tB_W, tB_R, tB_P, tB_C, tB_S, tW_inj, tW_B, tW_R, tW_P, tW_C, tW_S, tR_inj, tR_B, tR_W, tR_P, tR_C, tR_S, tP_inj, tP_B, tP_W, tP_R, tP_C, tP_S, tC_inj, tC_B, tC_W, tC_R, tC_P, tC_S, tS_inj, tS_B, tS_W, tS_R, tS_P, tS_C, tM_inj, tM_B, tM_W, tM_R, tM_P, tM_C, tM_S, tB_M, tW_M, tR_M, tP_M, tC_M, tS_M]
  · refine Eq.trans ?_ (n3.trans (nbS_num (by decide)).symm)
    simp [nbH, kpH, inH, gI_sI, gI_sR, gI_nO, gR_sI, gR_sR, gR_nO, gT_sI, gT_sR, gT_nO, tB_inj, tB_W, tB_R, tB_P, tB_C, tB_S, tW_inj, tW_B, tW_R, tW_P, tW_C, tW_S, tR_inj, tR_B, tR_W, tR_P, tR_C, tR_S, tP_inj, tP_B, tP_W, tP_R, tP_C, tP_S, tC_inj, tC_B, tC_W, tC_R, tC_P, tC_S, tS_inj, tS_B, tS_W, tS_R, tS_P, tS_C, tM_inj, tM_B, tM_W, tM_R, tM_P, tM_C, tM_S, tB_M, tW_M, tR_M, tP_M, tC_M, tS_M]
  · refine Eq.trans ?_ ((n5 j hj).trans (by rw [nbS_row (by decide)]))
    simp [nbH, kpH, inH, gI_sI, gI_sR, gI_nO, gR_sI, gR_sR, gR_nO, gT_sI, gT_sR, gT_nO, tB_inj, tB_W, tB_R, tB_P, tB_C, tB_S, tW_inj, tW_B, tW_R, tW_P, tW_C, tW_S, tR_inj, tR_B, tR_W, tR_P, tR_C, tR_S, tP_inj, tP_B, tP_W, tP_R, tP_C, tP_S, tC_inj, tC_B, tC_W, tC_R, tC_P, tC_S, tS_inj, tS_B, tS_W, tS_R, tS_P, tS_C, tM_inj, tM_B, tM_W, tM_R, tM_P, tM_C, tM_S, tB_M, tW_M, tR_M, tP_M, tC_M, tS_M]
  · show gR (sR _ (tS 5) nb (some (tB nb))) (tS 5) i = _
    rw [gR_sR]
    by_cases e1 : i = nb
    · rw [if_pos ⟨rfl, e1⟩, if_pos (by omega), e1]
    · rw [if_neg (fun z => e1 z.2)]
      have : gR (inH (nO κ (tB nb) 1 0) (tB nb) (nI nb) f l v t e g) (tS 5) i = gR κ (tS 5) i := by simp [kpH, inH, gI_sI, gI_sR, gI_nO, gR_sI, gR_sR, gR_nO, gT_sI, gT_sR, gT_nO, tB_inj, tB_W, tB_R, tB_P, tB_C, tB_S, tW_inj, tW_B, tW_R, tW_P, tW_C, tW_S, tR_inj, tR_B, tR_W, tR_P, tR_C, tR_S, tP_inj, tP_B, tP_W, tP_R, tP_C, tP_S, tC_inj, tC_B, tC_W, tC_R, tC_P, tC_S, tS_inj, tS_B, tS_W, tS_R, tS_P, tS_C, tM_inj, tM_B, tM_W, tM_R, tM_P, tM_C, tM_S, tB_M, tW_M, tR_M, tP_M, tC_M, tS_M]
      rw [this, b1 i hi]
      by_cases e2 : i < nb
      · rw [if_pos e2, if_pos (by omega)]
      · rw [if_neg e2, if_neg (by omega)]
  · by_cases e1 : i = nb
    · subst e1
      obtain ⟨s9, s10, s11, s12, s13, s14, s15, s17⟩ := nbS_n (σ := σ) (nb := i) (f := f) (l := l) (v := v) (t := t) (e := e) (g := g)
      refine ⟨?_, ?_, ?_, ?_, ?_, ?_, ?_, ?_, ?_, ?_, ?_⟩
      · simp [nbH, kpH, inH, gI_sI, gI_sR, gI_nO, gR_sI, gR_sR, gR_nO, gT_sI, gT_sR, gT_nO, tB_inj, tB_W, tB_R, tB_P, tB_C, tB_S, tW_inj, tW_B, tW_R, tW_P, tW_C, tW_S, tR_inj, tR_B, tR_W, tR_P, tR_C, tR_S, tP_inj, tP_B, tP_W, tP_R, tP_C, tP_S, tC_inj, tC_B, tC_W, tC_R, tC_P, tC_S, tS_inj, tS_B, tS_W, tS_R, tS_P, tS_C, tM_inj, tM_B, tM_W, tM_R, tM_P, tM_C, tM_S, tB_M, tW_M, tR_M, tP_M, tC_M, tS_M]
      · simp [nbH, kpH, inH, gI_sI, gI_sR, gI_nO, gR_sI, gR_sR, gR_nO, gT_sI, gT_sR, gT_nO, tB_inj, tB_W, tB_R, tB_P, tB_C, tB_S, tW_inj, tW_B, tW_R, tW_P, tW_C, tW_S, tR_inj, tR_B, tR_W, tR_P, tR_C, tR_S, tP_inj, tP_B, tP_W, tP_R, tP_C, tP_S, tC_inj, tC_B, tC_W, tC_R, tC_P, tC_S, tS_inj, tS_B, tS_W, tS_R, tS_P, tS_C, tM_inj, tM_B, tM_W, tM_R, tM_P, tM_C, tM_S, tB_M, tW_M, tR_M, tP_M, tC_M, tS_M]
      · rw [s10]; simp [nbH, kpH, inH, gI_sI, gI_sR, gI_nO, gR_sI, gR_sR, gR_nO, gT_sI, gT_sR, gT_nO, tB_inj, tB_W, tB_R, tB_P, tB_C, tB_S, tW_inj, tW_B, tW_R, tW_P, tW_C, tW_S, tR_inj, tR_B, tR_W, tR_P, tR_C, tR_S, tP_inj, tP_B, tP_W, tP_R, tP_C, tP_S, tC_inj, tC_B, tC_W, tC_R, tC_P, tC_S, tS_inj, tS_B, tS_W, tS_R, tS_P, tS_C, tM_inj, tM_B, tM_W, tM_R, tM_P, tM_C, tM_S, tB_M, tW_M, tR_M, tP_M, tC_M, tS_M]
      · rw [s11]; simp [nbH, kpH, inH, gI_sI, gI_sR, gI_nO, gR_sI, gR_sR, gR_nO, gT_sI, gT_sR, gT_nO, tB_inj, tB_W, tB_R, tB_P, tB_C, tB_S, tW_inj, tW_B, tW_R, tW_P, tW_C, tW_S, tR_inj, tR_B, tR_W, tR_P, tR_C, tR_S, tP_inj, tP_B, tP_W, tP_R, tP_C, tP_S, tC_inj, tC_B, tC_W, tC_R, tC_P, tC_S, tS_inj, tS_B, tS_W, tS_R, tS_P, tS_C, tM_inj, tM_B, tM_W, tM_R, tM_P, tM_C, tM_S, tB_M, tW_M, tR_M, tP_M, tC_M, tS_M]
      · rw [s12]; simp [nbH, kpH, inH, gI_sI, gI_sR, gI_nO, gR_sI, gR_sR, gR_nO, gT_sI, gT_sR, gT_nO, tB_inj, tB_W, tB_R, tB_P, tB_C, tB_S, tW_inj, tW_B, tW_R, tW_P, tW_C, tW_S, tR_inj, tR_B, tR_W, tR_P, tR_C, tR_S, tP_inj, tP_B, tP_W, tP_R, tP_C, tP_S, tC_inj, tC_B, tC_W, tC_R, tC_P, tC_S, tS_inj, tS_B, tS_W, tS_R, tS_P, tS_C, tM_inj, tM_B, tM_W, tM_R, tM_P, tM_C, tM_S, tB_M, tW_M, tR_M, tP_M, tC_M, tS_M]
      · rw [s13]; simp [nbH, kpH, inH, gI_sI, gI_sR, gI_nO, gR_sI, gR_sR, gR_nO, gT_sI, gT_sR, gT_nO, tB_inj, tB_W, tB_R, tB_P, tB_C, tB_S, tW_inj, tW_B, tW_R, tW_P, tW_C, tW_S, tR_inj, tR_B, tR_W, tR_P, tR_C, tR_S, tP_inj, tP_B, tP_W, tP_R, tP_C, tP_S, tC_inj, tC_B, tC_W, tC_R, tC_P, tC_S, tS_inj, tS_B, tS_W, tS_R, tS_P, tS_C, tM_inj, tM_B, tM_W, tM_R, tM_P, tM_C, tM_S, tB_M, tW_M, tR_M, tP_M, tC_M, tS_M]
      · rw [s15]; simp [nbH, kpH, inH, gI_sI, gI_sR, gI_nO, gR_sI, gR_sR, gR_nO, gT_sI, gT_sR, gT_nO, tB_inj, tB_W, tB_R, tB_P, tB_C, tB_S, tW_inj, tW_B, tW_R, tW_P, tW_C, tW_S, tR_inj, tR_B, tR_W, tR_P, tR_C, tR_S, tP_inj, tP_B, tP_W, tP_R, tP_C, tP_S, tC_inj, tC_B, tC_W, tC_R, tC_P, tC_S, tS_inj, tS_B, tS_W, tS_R, tS_P, tS_C, tM_inj, tM_B, tM_W, tM_R, tM_P, tM_C, tM_S, tB_M, tW_M, tR_M, tP_M, tC_M, tS_M]
      · rw [s14]; simp [nbH, kpH, inH, gI_sI, gI_sR, gI_nO, gR_sI, gR_sR, gR_nO, gT_sI, gT_sR, gT_nO, tB_inj, tB_W, tB_R, tB_P, tB_C, tB_S, tW_inj, tW_B, tW_R, tW_P, tW_C, tW_S, tR_inj, tR_B, tR_W, tR_P, tR_C, tR_S, tP_inj, tP_B, tP_W, tP_R, tP_C, tP_S, tC_inj, tC_B, tC_W, tC_R, tC_P, tC_S, tS_inj, tS_B, tS_W, tS_R, tS_P, tS_C, tM_inj, tM_B, tM_W, tM_R, tM_P, tM_C, tM_S, tB_M, tW_M, tR_M, tP_M, tC_M, tS_M]
      · rw [s9]; exact fun z => absurd z (by decide)
      · rw [s9]; simp [nbH, kpH, inH, gI_sI, gI_sR, gI_nO, gR_sI, gR_sR, gR_nO, gT_sI, gT_sR, gT_nO, tB_inj, tB_W, tB_R, tB_P, tB_C, tB_S, tW_inj, tW_B, tW_R, tW_P, tW_C, tW_S, tR_inj, tR_B, tR_W, tR_P, tR_C, tR_S, tP_inj, tP_B, tP_W, tP_R, tP_C, tP_S, tC_inj, tC_B, tC_W, tC_R, tC_P, tC_S, tS_inj, tS_B, tS_W, tS_R, tS_P, tS_C, tM_inj, tM_B, tM_W, tM_R, tM_P, tM_C, tM_S, tB_M, tW_M, tR_M, tP_M, tC_M, tS_M]
      · rw [s17]; simp [nbH, kpH, inH, gI_sI, gI_sR, gI_nO, gR_sI, gR_sR, gR_nO, gT_sI, gT_sR, gT_nO, tB_inj, tB_W, tB_R, tB_P, tB_C, tB_S, tW_inj, tW_B, tW_R, tW_P, tW_C, tW_S, tR_inj, tR_B, tR_W, tR_P, tR_C, tR_S, tP_inj, tP_B, tP_W, tP_R, tP_C, tP_S, tC_inj, tC_B, tC_W, tC_R, tC_P, tC_S, tS_inj, tS_B, tS_W, tS_R, tS_P, tS_C, tM_inj, tM_B, tM_W, tM_R, tM_P, tM_C, tM_S, tB_M, tW_M, tR_M, tP_M, tC_M, tS_M, refO]
    · obtain ⟨t1, t2, t3, t4⟩ := DB i e1
      have q := b2 i (by omega)
      unfold pB at q ⊢
      simp only [t1, t3, t4, nbS_o e1]
      exact q
  · exact ((DB i (by omega)).1).trans (b3 i (by omega))
  · obtain ⟨⟨p1, p2, p3, p4, p5, p6⟩, p7, p8, p9, p10⟩ := w2 i hi
    obtain ⟨t1, t2, t3, t4⟩ := D (tW i) (by simp [tB_inj, tB_W, tB_R, tB_P, tB_C, tB_S, tW_inj, tW_B, tW_R, tW_P, tW_C, tW_S, tR_inj, tR_B, tR_W, tR_P, tR_C, tR_S, tP_inj, tP_B, tP_W, tP_R, tP_C, tP_S, tC_inj, tC_B, tC_W, tC_R, tC_P, tC_S, tS_inj, tS_B, tS_W, tS_R, tS_P, tS_C, tM_inj, tM_B, tM_W, tM_R, tM_P, tM_C, tM_S, tB_M, tW_M, tR_M, tP_M, tC_M, tS_M])
    refine ⟨⟨t1.trans p1, (t4 _).trans p2, ?_, ?_, ?_, ?_⟩, by omega, ?_, ?_, ?_⟩
    · rw [t3, p3, nbS_row (by decide)]
    · rw [t3, p4, nbS_row (by decide)]
    · rw [t3, p5, nbS_row (by decide)]
    · rw [t3, p6, nbS_row (by decide)]
    · rw [nbS_o (by omega), p8, nbS_row (by decide)]
    · rw [nbS_row (k := 24) (by decide), nbS_o (by omega), nbS_o (by omega)]
      exact p9
    · rw [nbS_row (k := 24) (by decide)]
      exact p10
  · rw [nbS_row (k := 25) (by decide)]
    exact ((D _ (by simp [tB_inj, tB_W, tB_R, tB_P, tB_C, tB_S, tW_inj, tW_B, tW_R, tW_P, tW_C, tW_S, tR_inj, tR_B, tR_W, tR_P, tR_C, tR_S, tP_inj, tP_B, tP_W, tP_R, tP_C, tP_S, tC_inj, tC_B, tC_W, tC_R, tC_P, tC_S, tS_inj, tS_B, tS_W, tS_R, tS_P, tS_C, tM_inj, tM_B, tM_W, tM_R, tM_P, tM_C, tM_S, tB_M, tW_M, tR_M, tP_M, tC_M, tS_M])).2.2.2 i).trans (r1 i hi)
  · rw [nbS_row (k := 25) (by decide)] at hq
    obtain ⟨q, j, hj, ej⟩ := r2 i hi hq
    obtain ⟨t1, t2, t3, t4⟩ := D (tR i) (by simp [tB_inj, tB_W, tB_R, tB_P, tB_C, tB_S, tW_inj, tW_B, tW_R, tW_P, tW_C, tW_S, tR_inj, tR_B, tR_W, tR_P, tR_C, tR_S, tP_inj, tP_B, tP_W, tP_R, tP_C, tP_S, tC_inj, tC_B, tC_W, tC_R, tC_P, tC_S, tS_inj, tS_B, tS_W, tS_R, tS_P, tS_C, tM_inj, tM_B, tM_W, tM_R, tM_P, tM_C, tM_S, tB_M, tW_M, tR_M, tP_M, tC_M, tS_M])
    refine ⟨?_, j, by omega, by rw [nbS_row (k := 25) (by decide)]; exact ej⟩
    unfold pRm at q ⊢
    simp only [t1, t3, t4, nbS_row (k := 25) (by decide), nbS_row (k := 26) (by decide), nbS_row (k := 27) (by decide), nbS_row (k := 28) (by decide), nbS_row (k := 29) (by decide)]
    exact q
  · rw [nbS_row (k := 25) (by decide)] at hq
    exact (D _ (by simp [tB_inj, tB_W, tB_R, tB_P, tB_C, tB_S, tW_inj, tW_B, tW_R, tW_P, tW_C, tW_S, tR_inj, tR_B, tR_W, tR_P, tR_C, tR_S, tP_inj, tP_B, tP_W, tP_R, tP_C, tP_S, tC_inj, tC_B, tC_W, tC_R, tC_P, tC_S, tS_inj, tS_B, tS_W, tS_R, tS_P, tS_C, tM_inj, tM_B, tM_W, tM_R, tM_P, tM_C, tM_S, tB_M, tW_M, tR_M, tP_M, tC_M, tS_M])).1.trans (r3 i hi hq)
  · have P9 := hPi_d D (by simp [tB_inj, tB_W, tB_R, tB_P, tB_C, tB_S, tW_inj, tW_B, tW_R, tW_P, tW_C, tW_S, tR_inj, tR_B, tR_W, tR_P, tR_C, tR_S, tP_inj, tP_B, tP_W, tP_R, tP_C, tP_S, tC_inj, tC_B, tC_W, tC_R, tC_P, tC_S, tS_inj, tS_B, tS_W, tS_R, tS_P, tS_C, tM_inj, tM_B, tM_W, tM_R, tM_P, tM_C, tM_S, tB_M, tW_M, tR_M, tP_M, tC_M, tS_M]) (fun i => by simp [tB_inj, tB_W, tB_R, tB_P, tB_C, tB_S, tW_inj, tW_B, tW_R, tW_P, tW_C, tW_S, tR_inj, tR_B, tR_W, tR_P, tR_C, tR_S, tP_inj, tP_B, tP_W, tP_R, tP_C, tP_S, tC_inj, tC_B, tC_W, tC_R, tC_P, tC_S, tS_inj, tS_B, tS_W, tS_R, tS_P, tS_C, tM_inj, tM_B, tM_W, tM_R, tM_P, tM_C, tM_S, tB_M, tW_M, tR_M, tP_M, tC_M, tS_M]) (fun i => by simp [tB_inj, tB_W, tB_R, tB_P, tB_C, tB_S, tW_inj, tW_B, tW_R, tW_P, tW_C, tW_S, tR_inj, tR_B, tR_W, tR_P, tR_C, tR_S, tP_inj, tP_B, tP_W, tP_R, tP_C, tP_S, tC_inj, tC_B, tC_W, tC_R, tC_P, tC_S, tS_inj, tS_B, tS_W, tS_R, tS_P, tS_C, tM_inj, tM_B, tM_W, tM_R, tM_P, tM_C, tM_S, tB_M, tW_M, tR_M, tP_M, tC_M, tS_M]) P
    unfold hPi pP at P9 ⊢
    simp only [nbS_row (k := 31) (by decide), nbS_row (k := 32) (by decide)]
    exact P9

theorem fCl_nb {σ : MS} {nb : Nat} {f l v t e g : Int32} (hx : fX σ nb) (hn : nb ≤ 60) (c : Nat) (hc : c < 36) : fCl (nbS σ nb f l v t e g) c = fCl σ c := by
  unfold fCl
  rw [nbS_row (k := 25) (by decide), nbS_row (k := 27) (by decide), nbS_row (k := 28) (by decide)]
  by_cases h : σ.2 25 c = -1
  · rw [if_pos h, if_pos h]
  · obtain ⟨j, hj, ej, -⟩ := hx c hc h
    rw [if_neg h, if_neg h, ej, nI_clamp (n := j) (by omega)]
    rw [nbS_o (by omega), nbS_o (by omega), nbS_o (by omega)]
theorem tns_nb {σ : MS} {nb : Nat} {f l v t e g : Int32} : tnsN (nbS σ nb f l v t e g) (nb + 1) = tnsN σ nb ∧ momN (nbS σ nb f l v t e g) (nb + 1) = momN σ nb := by
  have s9 := (nbS_n (σ := σ) (nb := nb) (f := f) (l := l) (v := v) (t := t) (e := e) (g := g)).1
  have e1 : fTB (nbS σ nb f l v t e g) nb = 0 := by unfold fTB; rw [s9, if_neg (by decide)]
  have e2 : fMB (nbS σ nb f l v t e g) nb = 0 := by unfold fMB; rw [s9, if_neg (by decide)]
  have c1 : fTC (nbS σ nb f l v t e g) = fTC σ := funext fun c => by unfold fTC; rw [nbS_row (by decide), nbS_row (by decide)]
  have c2 : fMC (nbS σ nb f l v t e g) = fMC σ := funext fun c => by unfold fMC; rw [nbS_row (by decide), nbS_row (by decide)]
  constructor
  · show sm (fTB _) nb + fTB _ nb + sm (fTC _) 36 = _
    rw [e1, c1, Int32.add_zero, sm_cg (g := fTB σ) nb (fun i hi => by unfold fTB; rw [nbS_o (by omega), nbS_o (by omega)])]
    rfl
  · show sm (fMB _) nb + fMB _ nb + sm (fMC _) 36 = _
    rw [e2, c2, Int32.add_zero, sm_cg (g := fMB σ) nb (fun i hi => by unfold fMB; rw [nbS_o (by omega), nbS_o (by omega), nbS_o (by omega), nbS_o (by omega)])]
    rfl
theorem nEn_nb {σ : MS} {nb nw : Nat} {f l v t e g : Int32} : nEn (nbS σ nb f l v t e g) (nb + 1) nw = nEn σ nb nw := by
  have s9 := (nbS_n (σ := σ) (nb := nb) (f := f) (l := l) (v := v) (t := t) (e := e) (g := g)).1
  unfold nEn
  rw [show nSt (nbS σ nb f l v t e g) (nb + 1) = nSt (nbS σ nb f l v t e g) nb + 0 from by rw [nSt, s9, if_neg (by decide)], nSt_cg (σ := σ) (σ' := nbS σ nb f l v t e g) nb (fun i hi => by rw [nbS_o (by omega)]), nRp_cg (σ := σ) (σ' := nbS σ nb f l v t e g) nw (fun i hi => by rw [nbS_row (by decide)]), nbS_num (by decide), Nat.add_zero]
theorem IV_nb {σ : MS} {nb nw np : Nat} {f l v t e g : Int32} (I : IV σ nb nw np) (hn : nb < 60) (hf : 0 ≤ f ∧ f ≤ 11) (hl : 0 ≤ l ∧ l ≤ 11) (hfl : f.toNatClampNeg ≤ l.toNatClampNeg) (hv : 0 ≤ v ∧ v ≤ 2) (ht : 0 ≤ t ∧ t ≤ 1000) : IV (nbS σ nb f l v t e g) (nb + 1) nw np := by
  obtain ⟨s9, s10, s11, s12, s13, s14, s15, s17⟩ := nbS_n (σ := σ) (nb := nb) (f := f) (l := l) (v := v) (t := t) (e := e) (g := g)
  have r : ∀ k, k < 9 ∨ 17 < k → (nbS σ nb f l v t e g).2 k = σ.2 k := fun k h => nbS_row h
  have u : ∀ k, k ≠ 8 → (nbS σ nb f l v t e g).1 k = σ.1 k := fun k h => nbS_num h
  have ch : chn (nbS σ nb f l v t e g) (nb + 1) := by
    refine ⟨by omega, fun i hi => ?_⟩
    by_cases e1 : i = nb
    · rw [e1, s17]; exact Or.inl rfl
    · rw [nbS_o e1]
      rcases I.ch.2 i (by omega) with h1 | ⟨j, h1, h2, h3⟩
      · exact Or.inl h1
      · exact Or.inr ⟨j, h1, by omega, h3⟩
  refine ⟨(by omega), nbS_8, I.n18, ((u 18 (by decide)).trans I.e18), I.n30, ((u 30 (by decide)).trans I.e30), (by rw [u 6 (by decide)]; exact I.l6), (by rw [u 2 (by decide)]; exact I.c2), (by rw [u 1 (by decide)]; exact I.h1), ch, ?_, ?_, ?_, ?_, (by unfold emp; simp only [r 25 (by decide), r 26 (by decide), r 27 (by decide), r 28 (by decide), r 29 (by decide)] ; exact I.em), (by unfold hSy; simp only [hb, r 25 (by decide), r 29 (by decide)]; exact I.ho), (by simp only [r 22 (by decide), r 23 (by decide)] ; exact I.wf), (by simp only [r 21 (by decide)] ; exact I.rp), (by simp only [r 27 (by decide)] ; exact I.th), (by simp only [r 28 (by decide)] ; exact I.pi), (by unfold pLn; simp only [r 31 (by decide)]; exact I.pl), ?_⟩
  · intro i hi
    by_cases e1 : i = nb
    · rw [e1]
      unfold bOK rsOK
      rw [s9, s10, s11, s12, s13, s17]
      exact ⟨⟨hf, hl, hfl, hv⟩, ht, fun _ => rfl⟩
    · have q := I.bk i (by omega)
      unfold bOK rsOK at q ⊢
      simp only [nbS_o e1]
      exact q
  · intro i hi
    by_cases e1 : i = nb
    · rw [e1, whI_root (by omega) s17]
    · have q := I.sc i (by omega)
      have d := (whI_rt I.ch (by omega : i < nb)).1
      rw [whI_lt2 I.ch (fun j hj => nbS_o (by omega)) (by omega : i < nb), nbS_o e1, nbS_o (by omega)]
      exact q
  · intro c hc hm
    rw [r 25 (by decide)] at hm ⊢
    obtain ⟨j, a1, a2, a3, a4, a5, a6⟩ := I.fx c hc hm
    refine ⟨j, by omega, a2, ?_, ?_, ?_, ?_⟩ <;> rw [nbS_o (by omega)] <;> assumption
  · intro j hj h2
    by_cases e1 : j = nb
    · rw [e1, s9] at h2; exact absurd h2 (by decide)
    · simp only [nbS_o e1, r 25 (by decide)] at h2 ⊢
      exact I.fy j (by omega) h2
  · rw [sm_cg 36 (fun c hc => fCl_nb I.fx (by omega) c hc), tns_nb.1]
    exact I.ta
theorem s_block {κ0 κ : AH} {σ : MS} {nb nw np : Nat} {wb : Nat → Nat} (h : RI κ0 κ σ nb nw np wb) {f l v t e g : Int32} (hn : nb < 60) (hf : 0 ≤ f ∧ f ≤ 11) (hl : 0 ≤ l ∧ l ≤ 11) (hfl : f.toNatClampNeg ≤ l.toNatClampNeg) (hv : 0 ≤ v ∧ v ≤ 2) (ht : 0 ≤ t ∧ t ≤ 1000) : RI κ0 (nbH κ nb f l v t e g) (nbS σ nb f l v t e g) (nb + 1) nw np wb := by
  obtain ⟨I, C, F⟩ := h
  exact ⟨IV_nb I hn hf hl hfl hv ht, RX_RC (x_nb (RC_RX C) hn) tns_nb.1.symm tns_nb.2.symm nEn_nb.symm (nbS_num (by decide)).symm, F.tr (FM_d nb_D (fun i => by simp [tB_inj, tB_W, tB_R, tB_P, tB_C, tB_S, tW_inj, tW_B, tW_R, tW_P, tW_C, tW_S, tR_inj, tR_B, tR_W, tR_P, tR_C, tR_S, tP_inj, tP_B, tP_W, tP_R, tP_C, tP_S, tC_inj, tC_B, tC_W, tC_R, tC_P, tC_S, tS_inj, tS_B, tS_W, tS_R, tS_P, tS_C, tM_inj, tM_B, tM_W, tM_R, tM_P, tM_C, tM_S, tB_M, tW_M, tR_M, tP_M, tC_M, tS_M]))⟩


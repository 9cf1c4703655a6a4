/-! THE COMPONENT'S WAYS, 2 -/
def lnP (κ : AH) (σ : MS) (c s : Nat) : Prop := thC σ c s ∧ gI κ (tR (stp c (sd s))) 6 = gI κ (tR c) 6 - 1
theorem thC_T {κ : AH} {σ : MS} {nb c s : Nat} (hR : hRm κ σ nb) (ho : hOK σ) (hc : c < 36) (h : thC σ c s) : gT κ (tR (stp c (sd s))) = 5 ∧ stp c (sd s) < 36 ∧ ¬ σ.2 25 (stp c (sd s)) = -1 := by
  have h1 := stp_lt hc (ho c (sd s) hc sd_lt h.1) sd_lt
  have h2 := h.2.1.2
  rw [nI_clamp (n := stp c (sd s)) (by omega)] at h2
  exact ⟨(hR.2.1 _ h1 h2).1.1, h1, h2⟩
set_option maxRecDepth 20000 in
theorem c_X5_lowestNearer {w : W0} {κ : AH} {c : Nat} {σ : MS} {nb : Nat} (hG : SG κ) (hR : hRm κ σ nb) (ho : hOK σ) (h : pRm κ σ c) (hc : c < 36) : CY w yX5_lowestNearer mX5_lowestNearer [.ref (tS 2), .ref (tR c)] κ (fun v κ' => ((∃ s, s < 4 ∧ lnP κ σ c s ∧ (∀ r, r < s → ¬ lnP κ σ c r) ∧ v = some (.ref (tR (stp c (sd s))))) ∨ ((∀ s, s < 4 → ¬ lnP κ σ c s) ∧ v = some .null)) ∧ κ' = κ) := by
  refine CY_of mcX5_lowestNearer (Nat.le_of_ble_eq_true rfl) (cat1 rfl) (fun θ0 => ?_)
  have loop2 : ∀ (m s : Nat) (x3 : Option Value), s ≤ 4 → 4 ≤ m + s → (∀ r, r < s → ¬ lnP κ σ c r) → Y w mX5_lowestNearer θ0 κ (fun v κ' => ((∃ s, s < 4 ∧ lnP κ σ c s ∧ (∀ r, r < s → ¬ lnP κ σ c r) ∧ v = some (.ref (tR (stp c (sd s))))) ∨ ((∀ s, s < 4 → ¬ lnP κ σ c s) ∧ v = some .null)) ∧ κ' = κ) (fun _ _ => False) 0 0 2 [some (.ref (tS 2)), some (.ref (tR c)), some (.int (nI s)), x3] [] κ := by
    intro m
    induction m with
    | zero =>
      intro s x3 hk1 hk2 hn
      have hex : nI 4 ≤ nI s → s = 4 := by intro z; have := (nI_leI (by omega) (by omega)).mp z; omega
      have hlt : ¬ nI 4 ≤ nI s → s < 4 := by intro z; exact Nat.lt_of_not_le (fun q => z (nI_le q (by omega)))
      refine runY_go rkX5_lowestNearer (fun p => Nat.beq p 2 || Nat.beq p 36) 200 rfl ?_
      refine pX5_lowestNearer_3 ?_
      refine runY_ok rkX5_lowestNearer (fun p => Nat.beq p 2 || Nat.beq p 36) 200 _ _ _ _ _ _ ?_
      refine And.intro (fun c0 => ?_) (fun c0 => ?_)
      · rw [show Int32.ofNat 4 = nI 4 from rfl] at c0
        refine And.intro ⟨Nat.le_of_ble_eq_true rfl, Nat.le_of_ble_eq_true rfl⟩ ?_
        have hs := hex (by assumption)
        subst hs
        exact ⟨Or.inr ⟨hn, rfl⟩, rfl⟩
      · exact absurd (hlt c0) (by omega)
    | succ m ih =>
      intro s x3 hk1 hk2 hn
      have hex : nI 4 ≤ nI s → s = 4 := by intro z; have := (nI_leI (by omega) (by omega)).mp z; omega
      have hlt : ¬ nI 4 ≤ nI s → s < 4 := by intro z; exact Nat.lt_of_not_le (fun q => z (nI_le q (by omega)))
      have K36 : ∀ x3 : Option Value, s < 4 → ¬ lnP κ σ c s → Y w mX5_lowestNearer θ0 κ (fun v κ' => ((∃ s, s < 4 ∧ lnP κ σ c s ∧ (∀ r, r < s → ¬ lnP κ σ c r) ∧ v = some (.ref (tR (stp c (sd s))))) ∨ ((∀ s, s < 4 → ¬ lnP κ σ c s) ∧ v = some .null)) ∧ κ' = κ) (fun _ _ => False) 0 0 36 [some (.ref (tS 2)), some (.ref (tR c)), some (.int (nI s)), x3] [] κ := by
        intro x3 hs hno
        refine runY_go rkX5_lowestNearer (fun p => Nat.beq p 2 || Nat.beq p 36) 200 rfl ?_
        have e9 := ih (s + 1) x3 (by omega) (by omega) (fun r hr => (Nat.lt_succ_iff_lt_or_eq.mp hr).elim (hn r) (fun e => e ▸ hno))
        rw [← nI_1 s] at e9
        exact e9
      refine runY_go rkX5_lowestNearer (fun p => Nat.beq p 2 || Nat.beq p 36) 200 rfl ?_
      refine pX5_lowestNearer_3 ?_
      refine runY_ok rkX5_lowestNearer (fun p => Nat.beq p 2 || Nat.beq p 36) 200 _ _ _ _ _ _ ?_
      refine And.intro (fun c1 => ?_) (fun c1 => ?_)
      · rw [show Int32.ofNat 4 = nI 4 from rfl] at c1
        refine And.intro ⟨Nat.le_of_ble_eq_true rfl, Nat.le_of_ble_eq_true rfl⟩ ?_
        have hs := hex (by assumption)
        subst hs
        exact ⟨Or.inr ⟨hn, rfl⟩, rfl⟩
      · rw [show Int32.ofNat 4 = nI 4 from rfl] at c1
        refine pX5_lowestNearer_13 rfl rfl rfl hG.t2 (c_X5_through hG hR ho h hc (hlt (by assumption))) (fun v κ1 hq2 ho2 hk2 => ?_)
        by_cases hs2 : thC σ c s
        · skip
          simp only [hs2, not_true_eq_false, false_and, true_and, false_or] at hq2
          obtain ⟨rfl, ehq2⟩ := hq2
          rw [ehq2]
          refine runY_ok rkX5_lowestNearer (fun p => Nat.beq p 2 || Nat.beq p 36) 200 _ _ _ _ _ _ ?_
          refine And.intro (thC_T hR ho hc (by assumption)).1 ?_
          refine And.intro h.1 ?_
          refine And.intro (fun c3 => ?_) (fun c3 => ?_)
          · skip
            first
            | exact K36 _ (hlt (by assumption)) (fun z => absurd z.1 (by assumption))
            | exact K36 _ (hlt (by assumption)) (fun z => absurd z.2 (by assumption))
          · skip
            refine And.intro ⟨Nat.le_of_ble_eq_true rfl, Nat.le_of_ble_eq_true rfl⟩ ?_
            refine ⟨Or.inl ⟨s, hlt (by assumption), ⟨by assumption, by assumption⟩, hn, rfl⟩, rfl⟩
        · skip
          simp only [hs2, not_false_eq_true, false_and, true_and, or_false] at hq2
          obtain ⟨rfl, ehq2⟩ := hq2
          rw [ehq2]
          refine runY_ok rkX5_lowestNearer (fun p => Nat.beq p 2 || Nat.beq p 36) 200 _ _ _ _ _ _ ?_
          first
          | exact K36 _ (hlt (by assumption)) (fun z => absurd z.1 (by assumption))
          | exact K36 _ (hlt (by assumption)) (fun z => absurd z.2 (by assumption))
  refine runY_ok rkX5_lowestNearer (fun p => Nat.beq p 2 || Nat.beq p 36) 200 _ _ _ _ _ _ ?_
  exact loop2 4 0 none (by omega) (by omega) (fun r hr => absurd hr (Nat.not_lt_zero r))



/-! THE MODEL'S CONTRACTS, 6: weights, draughts, the launch -/
def sm (g : Nat → Int32) : Nat → Int32
  | 0 => 0
  | n + 1 => sm g n + g n
def fTB (σ : MS) (j : Nat) : Int32 := if σ.2 9 j = 2 then σ.2 13 j else 0
def fTC (σ : MS) (c : Nat) : Int32 := σ.2 27 c + σ.2 28 c
def tnsN (σ : MS) (nb : Nat) : Int32 := sm (fTB σ) nb + sm (fTC σ) 36
def fMB (σ : MS) (j : Nat) : Int32 := if σ.2 9 j = 2 then σ.2 13 j * (σ.2 10 j + σ.2 11 j) else 0
def fMC (σ : MS) (c : Nat) : Int32 := (σ.2 27 c + σ.2 28 c) * 2 * nI (c % 12)
def momN (σ : MS) (nb : Nat) : Int32 := sm (fMB σ) nb + sm (fMC σ) 36
def cenN (σ : MS) (nb : Nat) : Int32 := if tnsN σ nb = 0 then 0 else 50 * momN σ nb / tnsN σ nb
def trmN (σ : MS) (nb : Nat) : Int32 := (cenN σ nb - 550) * tnsN σ nb / 1000
def draN (σ : MS) (nb : Nat) (u : Int32) : Int32 := tnsN σ nb / 2 + (if ¬ u = 0 then trmN σ nb else -trmN σ nb)
def greN (σ : MS) (nb : Nat) : Int32 := if draN σ nb 1 < draN σ nb 0 then draN σ nb 0 else draN σ nb 1
theorem nI_rem12 (k : Nat) (hk : k < 36) : nI k - nI k / 12 * 12 = nI (k % 12) := pk_rem (a := k) (d := 12) (by omega) (by decide) (by decide)
set_option maxRecDepth 20000 in
theorem c_X9_tonsOf {w : W0} {m : Nat} {iv : Nat → Nat} {h : AH} {σ : MS} (hm : MOK m iv h) {nb : Nat} (hnb : nb ≤ 60) (eb : σ.1 8 = nI nb) : CM w yX9_tonsOf mX9_tonsOf m iv h [] σ (fun r σ' => r = some (tnsN σ nb) ∧ σ' = σ) := by
  refine CM_of mcX9_tonsOf (Nat.le_of_ble_eq_true rfl) ?_
  have K71 : ∀ x1 x2 : Int32, x1 = tnsN σ nb → XM w mX9_tonsOf m iv h (fun r σ' => r = some (tnsN σ nb) ∧ σ' = σ) 71 [some (.inr 0), some (.inl x1), some (.inl x2)] [] σ := by
    intro x1 x2 hx1
    refine runM_go rkX9_tonsOf hm (fun p => Nat.beq p 4 || Nat.beq p 33 || Nat.beq p 41 || Nat.beq p 43 || Nat.beq p 71) 200 ?_
    exact ⟨by rw [hx1], rfl⟩
  have loop43 : ∀ (n k : Nat) (x1 : Int32), k ≤ 36 → 36 ≤ n + k → (x1 = sm (fTB σ) nb + sm (fTC σ) k) → XM w mX9_tonsOf m iv h (fun r σ' => r = some (tnsN σ nb) ∧ σ' = σ) 43 [some (.inr 0), some (.inl x1), some (.inl (nI k))] [] σ := by
    intro n
    induction n with
    | zero =>
      intro k x1 hk1 hk2 hx1
      have hex : 36 ≤ nI k → k = 36 := by intro z; rw [(show (36 : Int32) = nI 36 from rfl)] at z; have := (nI_leI (by omega) (by omega)).mp z; omega
      have hlt : ¬ 36 ≤ nI k → k < 36 := by intro z; rw [(show (36 : Int32) = nI 36 from rfl)] at z; exact Nat.lt_of_not_le (fun q => z (nI_le q (by omega)))
      refine runM_go rkX9_tonsOf hm (fun p => Nat.beq p 4 || Nat.beq p 33 || Nat.beq p 41 || Nat.beq p 43 || Nat.beq p 71) 200 ?_
      refine And.intro (fun c0 => ?_) (fun c0 => ?_)
      · skip
        exact K71 _ _ (by rw [hx1, hex ‹_›]; rfl)
      · exact absurd (hlt c0) (by omega)
    | succ n ih =>
      intro k x1 hk1 hk2 hx1
      have hex : 36 ≤ nI k → k = 36 := by intro z; rw [(show (36 : Int32) = nI 36 from rfl)] at z; have := (nI_leI (by omega) (by omega)).mp z; omega
      have hlt : ¬ 36 ≤ nI k → k < 36 := by intro z; rw [(show (36 : Int32) = nI 36 from rfl)] at z; exact Nat.lt_of_not_le (fun q => z (nI_le q (by omega)))
      refine runM_go rkX9_tonsOf hm (fun p => Nat.beq p 4 || Nat.beq p 33 || Nat.beq p 41 || Nat.beq p 43 || Nat.beq p 71) 200 ?_
      refine And.intro (fun c1 => ?_) (fun c1 => ?_)
      · try simp only [b01_eq, b01_ne, Classical.not_not, upS_row] at c1
        exact K71 _ _ (by rw [hx1, hex ‹_›]; rfl)
      · try simp only [b01_eq, b01_ne, Classical.not_not, upS_row] at c1
        refine And.intro (vp_in_nI (N := 36) (by have := hlt ‹_›; omega) (by decide)) ?_
        refine And.intro (vp_in_nI (N := 36) (by have := hlt ‹_›; omega) (by decide)) ?_
        have hk36 := hlt ‹_›
        have e9 := ih (k + 1) _ (by omega) (by omega) (by show _ = sm (fTB σ) nb + (sm (fTC σ) k + fTC σ k); rw [← Int32.add_assoc, ← hx1])
        rw [← nI_1 k] at e9
        unfold fTC at e9
        rw [← nI_clamp (n := k) (by omega)] at e9
        rw [nI_clamp (n := k) (by omega)] at e9 ⊢
        exact e9
  have K41 : ∀ x1 x2 : Int32, x1 = sm (fTB σ) nb → XM w mX9_tonsOf m iv h (fun r σ' => r = some (tnsN σ nb) ∧ σ' = σ) 41 [some (.inr 0), some (.inl x1), some (.inl x2)] [] σ := by
    intro x1 x2 hx1
    refine runM_go rkX9_tonsOf hm (fun p => Nat.beq p 4 || Nat.beq p 33 || Nat.beq p 41 || Nat.beq p 43 || Nat.beq p 71) 200 ?_
    have e9 := loop43 36 0 _ (by omega) (by omega) (by show _ = sm (fTB σ) nb + 0; rw [Int32.add_zero, ← hx1])
    exact e9
  have loop4 : ∀ (n k : Nat) (x1 : Int32), k ≤ nb → nb ≤ n + k → (x1 = sm (fTB σ) k) → XM w mX9_tonsOf m iv h (fun r σ' => r = some (tnsN σ nb) ∧ σ' = σ) 4 [some (.inr 0), some (.inl x1), some (.inl (nI k))] [] σ := by
    intro n
    induction n with
    | zero =>
      intro k x1 hk1 hk2 hx1
      have hex : σ.1 8 ≤ nI k → k = nb := by intro z; rw [eb] at z; have := (nI_leI (by omega) (by omega)).mp z; omega
      have hlt : ¬ σ.1 8 ≤ nI k → k < nb := by intro z; rw [eb] at z; exact Nat.lt_of_not_le (fun q => z (nI_le q (by omega)))
      refine runM_go rkX9_tonsOf hm (fun p => Nat.beq p 4 || Nat.beq p 33 || Nat.beq p 41 || Nat.beq p 43 || Nat.beq p 71) 200 ?_
      refine And.intro (fun c0 => ?_) (fun c0 => ?_)
      · skip
        exact K41 _ _ (by rw [hx1, hex ‹_›])
      · exact absurd (hlt c0) (by omega)
    | succ n ih =>
      intro k x1 hk1 hk2 hx1
      have hex : σ.1 8 ≤ nI k → k = nb := by intro z; rw [eb] at z; have := (nI_leI (by omega) (by omega)).mp z; omega
      have hlt : ¬ σ.1 8 ≤ nI k → k < nb := by intro z; rw [eb] at z; exact Nat.lt_of_not_le (fun q => z (nI_le q (by omega)))
      have K33 : ∀ x : Int32, k < nb → x = fTB σ k → XM w mX9_tonsOf m iv h (fun r σ' => r = some (tnsN σ nb) ∧ σ' = σ) 33 [some (.inr 0), some (.inl x1), some (.inl (nI k))] [.inl x, .inl x1] σ := by
        intro x hkl hx
        refine runM_go rkX9_tonsOf hm (fun p => Nat.beq p 4 || Nat.beq p 33 || Nat.beq p 41 || Nat.beq p 43 || Nat.beq p 71) 200 ?_
        have e9 := ih (k + 1) _ (by omega) (by omega) (by show _ = sm (fTB σ) k + fTB σ k; rw [← hx1, ← hx])
        rw [← nI_1 k] at e9
        exact e9
      refine runM_go rkX9_tonsOf hm (fun p => Nat.beq p 4 || Nat.beq p 33 || Nat.beq p 41 || Nat.beq p 43 || Nat.beq p 71) 200 ?_
      refine And.intro (fun c2 => ?_) (fun c2 => ?_)
      · try simp only [b01_eq, b01_ne, Classical.not_not, upS_row] at c2
        exact K41 _ _ (by rw [hx1, hex ‹_›])
      · try simp only [b01_eq, b01_ne, Classical.not_not, upS_row] at c2
        refine And.intro (vp_in_nI (N := 60) (by have := hlt ‹_›; omega) (by decide)) ?_
        refine And.intro (fun c3 => ?_) (fun c3 => ?_)
        · try simp only [b01_eq, b01_ne, Classical.not_not, upS_row] at c3
          exact K33 _ (hlt ‹_›) (by have e : (nI k).toNatClampNeg = k := nI_clamp (by have := hlt ‹_›; omega); simp only [e] at *; unfold fTB; grind)
        · try simp only [b01_eq, b01_ne, Classical.not_not, upS_row] at c3
          refine And.intro (vp_in_nI (N := 60) (by have := hlt ‹_›; omega) (by decide)) ?_
          exact K33 _ (hlt ‹_›) (by have e : (nI k).toNatClampNeg = k := nI_clamp (by have := hlt ‹_›; omega); simp only [e] at *; unfold fTB; grind)
  refine runM_ok rkX9_tonsOf hm (fun p => Nat.beq p 4 || Nat.beq p 33 || Nat.beq p 41 || Nat.beq p 43 || Nat.beq p 71) 200 _ _ _ _ ?_
  exact loop4 nb 0 0 (by omega) (by omega) rfl
set_option maxRecDepth 20000 in
theorem c_X9_centreOf {w : W0} {m : Nat} {iv : Nat → Nat} {h : AH} {σ : MS} (hm : MOK m iv h) {nb : Nat} (hnb : nb ≤ 60) (eb : σ.1 8 = nI nb) : CM w yX9_centreOf mX9_centreOf m iv h [] σ (fun r σ' => r = some (cenN σ nb) ∧ σ' = σ) := by
  refine CM_of mcX9_centreOf (Nat.le_of_ble_eq_true rfl) ?_
  have K92 : ∀ x1 x2 : Int32, x1 = momN σ nb → XM w mX9_centreOf m iv h (fun r σ' => r = some (cenN σ nb) ∧ σ' = σ) 92 [some (.inr 0), some (.inl x1), some (.inl x2)] [] σ := by
    intro x1 x2 hx1
    refine runM_go rkX9_centreOf hm (fun p => Nat.beq p 4 || Nat.beq p 47 || Nat.beq p 55 || Nat.beq p 57 || Nat.beq p 92) 200 ?_
    refine qX9_centreOf_93 hm rfl (c_X9_tonsOf hm hnb eb) (fun r σ1 hq => ?_)
    obtain ⟨rfl, rfl⟩ := hq
    refine runM_ok rkX9_centreOf hm (fun p => Nat.beq p 4 || Nat.beq p 47 || Nat.beq p 55 || Nat.beq p 57 || Nat.beq p 92) 200 _ _ _ _ ?_
    refine And.intro (fun c1 => ?_) (fun c1 => ?_)
    · try simp only [b01_eq, b01_ne, Classical.not_not, upS_row] at c1
      refine And.intro ‹_› ?_
      first | exact ⟨by unfold cenN; rw [if_pos ‹_›], rfl⟩ | exact ⟨by unfold cenN; rw [if_neg ‹_›, hx1], rfl⟩
    · try simp only [b01_eq, b01_ne, Classical.not_not, upS_row] at c1
      first | exact ⟨by unfold cenN; rw [if_pos ‹_›], rfl⟩ | exact ⟨by unfold cenN; rw [if_neg ‹_›, hx1], rfl⟩
  have loop57 : ∀ (n k : Nat) (x1 : Int32), k ≤ 36 → 36 ≤ n + k → (x1 = sm (fMB σ) nb + sm (fMC σ) k) → XM w mX9_centreOf m iv h (fun r σ' => r = some (cenN σ nb) ∧ σ' = σ) 57 [some (.inr 0), some (.inl x1), some (.inl (nI k))] [] σ := by
    intro n
    induction n with
    | zero =>
      intro k x1 hk1 hk2 hx1
      have hex : 36 ≤ nI k → k = 36 := by intro z; rw [(show (36 : Int32) = nI 36 from rfl)] at z; have := (nI_leI (by omega) (by omega)).mp z; omega
      have hlt : ¬ 36 ≤ nI k → k < 36 := by intro z; rw [(show (36 : Int32) = nI 36 from rfl)] at z; exact Nat.lt_of_not_le (fun q => z (nI_le q (by omega)))
      refine runM_go rkX9_centreOf hm (fun p => Nat.beq p 4 || Nat.beq p 47 || Nat.beq p 55 || Nat.beq p 57 || Nat.beq p 92) 200 ?_
      refine And.intro (fun c0 => ?_) (fun c0 => ?_)
      · skip
        exact K92 _ _ (by rw [hx1, hex ‹_›]; rfl)
      · exact absurd (hlt c0) (by omega)
    | succ n ih =>
      intro k x1 hk1 hk2 hx1
      have hex : 36 ≤ nI k → k = 36 := by intro z; rw [(show (36 : Int32) = nI 36 from rfl)] at z; have := (nI_leI (by omega) (by omega)).mp z; omega
      have hlt : ¬ 36 ≤ nI k → k < 36 := by intro z; rw [(show (36 : Int32) = nI 36 from rfl)] at z; exact Nat.lt_of_not_le (fun q => z (nI_le q (by omega)))
      refine runM_go rkX9_centreOf hm (fun p => Nat.beq p 4 || Nat.beq p 47 || Nat.beq p 55 || Nat.beq p 57 || Nat.beq p 92) 200 ?_
      refine And.intro (fun c2 => ?_) (fun c2 => ?_)
      · try simp only [b01_eq, b01_ne, Classical.not_not, upS_row] at c2
        exact K92 _ _ (by rw [hx1, hex ‹_›]; rfl)
      · try simp only [b01_eq, b01_ne, Classical.not_not, upS_row] at c2
        refine And.intro (vp_in_nI (N := 36) (by have := hlt ‹_›; omega) (by decide)) ?_
        refine And.intro (vp_in_nI (N := 36) (by have := hlt ‹_›; omega) (by decide)) ?_
        refine And.intro (by decide) ?_
        have hk36 := hlt ‹_›
        have e9 := ih (k + 1) _ (by omega) (by omega) (by show _ = sm (fMB σ) nb + (sm (fMC σ) k + fMC σ k); rw [← Int32.add_assoc, ← hx1])
        rw [← nI_1 k] at e9
        unfold fMC at e9
        rw [← nI_rem12 k hk36] at e9
        rw [nI_clamp (n := k) (by omega)]
        exact e9
  have K55 : ∀ x1 x2 : Int32, x1 = sm (fMB σ) nb → XM w mX9_centreOf m iv h (fun r σ' => r = some (cenN σ nb) ∧ σ' = σ) 55 [some (.inr 0), some (.inl x1), some (.inl x2)] [] σ := by
    intro x1 x2 hx1
    refine runM_go rkX9_centreOf hm (fun p => Nat.beq p 4 || Nat.beq p 47 || Nat.beq p 55 || Nat.beq p 57 || Nat.beq p 92) 200 ?_
    have e9 := loop57 36 0 _ (by omega) (by omega) (by show _ = sm (fMB σ) nb + 0; rw [Int32.add_zero, ← hx1])
    exact e9
  have loop4 : ∀ (n k : Nat) (x1 : Int32), k ≤ nb → nb ≤ n + k → (x1 = sm (fMB σ) k) → XM w mX9_centreOf m iv h (fun r σ' => r = some (cenN σ nb) ∧ σ' = σ) 4 [some (.inr 0), some (.inl x1), some (.inl (nI k))] [] σ := by
    intro n
    induction n with
    | zero =>
      intro k x1 hk1 hk2 hx1
      have hex : σ.1 8 ≤ nI k → k = nb := by intro z; rw [eb] at z; have := (nI_leI (by omega) (by omega)).mp z; omega
      have hlt : ¬ σ.1 8 ≤ nI k → k < nb := by intro z; rw [eb] at z; exact Nat.lt_of_not_le (fun q => z (nI_le q (by omega)))
      refine runM_go rkX9_centreOf hm (fun p => Nat.beq p 4 || Nat.beq p 47 || Nat.beq p 55 || Nat.beq p 57 || Nat.beq p 92) 200 ?_
      refine And.intro (fun c0 => ?_) (fun c0 => ?_)
      · skip
        exact K55 _ _ (by rw [hx1, hex ‹_›])
      · exact absurd (hlt c0) (by omega)
    | succ n ih =>
      intro k x1 hk1 hk2 hx1
      have hex : σ.1 8 ≤ nI k → k = nb := by intro z; rw [eb] at z; have := (nI_leI (by omega) (by omega)).mp z; omega
      have hlt : ¬ σ.1 8 ≤ nI k → k < nb := by intro z; rw [eb] at z; exact Nat.lt_of_not_le (fun q => z (nI_le q (by omega)))
      have K47 : ∀ x : Int32, k < nb → x = fMB σ k → XM w mX9_centreOf m iv h (fun r σ' => r = some (cenN σ nb) ∧ σ' = σ) 47 [some (.inr 0), some (.inl x1), some (.inl (nI k))] [.inl x, .inl x1] σ := by
        intro x hkl hx
        refine runM_go rkX9_centreOf hm (fun p => Nat.beq p 4 || Nat.beq p 47 || Nat.beq p 55 || Nat.beq p 57 || Nat.beq p 92) 200 ?_
        have e9 := ih (k + 1) _ (by omega) (by omega) (by show _ = sm (fMB σ) k + fMB σ k; rw [← hx1, ← hx])
        rw [← nI_1 k] at e9
        exact e9
      refine runM_go rkX9_centreOf hm (fun p => Nat.beq p 4 || Nat.beq p 47 || Nat.beq p 55 || Nat.beq p 57 || Nat.beq p 92) 200 ?_
      refine And.intro (fun c3 => ?_) (fun c3 => ?_)
      · try simp only [b01_eq, b01_ne, Classical.not_not, upS_row] at c3
        exact K55 _ _ (by rw [hx1, hex ‹_›])
      · try simp only [b01_eq, b01_ne, Classical.not_not, upS_row] at c3
        refine And.intro (vp_in_nI (N := 60) (by have := hlt ‹_›; omega) (by decide)) ?_
        refine And.intro (fun c4 => ?_) (fun c4 => ?_)
        · try simp only [b01_eq, b01_ne, Classical.not_not, upS_row] at c4
          exact K47 _ (hlt ‹_›) (by have e : (nI k).toNatClampNeg = k := nI_clamp (by have := hlt ‹_›; omega); simp only [e] at *; unfold fMB; grind)
        · try simp only [b01_eq, b01_ne, Classical.not_not, upS_row] at c4
          refine And.intro (vp_in_nI (N := 60) (by have := hlt ‹_›; omega) (by decide)) ?_
          refine And.intro (vp_in_nI (N := 60) (by have := hlt ‹_›; omega) (by decide)) ?_
          refine And.intro (vp_in_nI (N := 60) (by have := hlt ‹_›; omega) (by decide)) ?_
          exact K47 _ (hlt ‹_›) (by have e : (nI k).toNatClampNeg = k := nI_clamp (by have := hlt ‹_›; omega); simp only [e] at *; unfold fMB; grind)
  refine runM_ok rkX9_centreOf hm (fun p => Nat.beq p 4 || Nat.beq p 47 || Nat.beq p 55 || Nat.beq p 57 || Nat.beq p 92) 200 _ _ _ _ ?_
  exact loop4 nb 0 0 (by omega) (by omega) rfl
set_option maxRecDepth 20000 in
theorem c_X9_draughtOf {w : W0} {m : Nat} {iv : Nat → Nat} {h : AH} {σ : MS} {u : Int32} (hm : MOK m iv h) {nb : Nat} (hnb : nb ≤ 60) (eb : σ.1 8 = nI nb) : CM w yX9_draughtOf mX9_draughtOf m iv h [u] σ (fun r σ' => r = some (draN σ nb u) ∧ σ' = σ) := by
  refine CM_of mcX9_draughtOf (Nat.le_of_ble_eq_true rfl) ?_
  refine runM_ok rkX9_draughtOf hm noCut 200 _ _ _ _ ?_
  refine qX9_draughtOf_1 hm rfl (c_X9_tonsOf hm hnb eb) (fun r σ1 hq => ?_)
  obtain ⟨rfl, rfl⟩ := hq
  refine runM_ok rkX9_draughtOf hm noCut 200 _ _ _ _ ?_
  refine qX9_draughtOf_6 hm rfl (c_X9_centreOf hm hnb eb) (fun r σ1 hq => ?_)
  obtain ⟨rfl, rfl⟩ := hq
  refine runM_ok rkX9_draughtOf hm noCut 200 _ _ _ _ ?_
  refine And.intro (by decide) ?_
  refine And.intro (by decide) ?_
  refine And.intro (fun c1 => ?_) (fun c1 => ?_)
  · try simp only [b01_eq, b01_ne, Classical.not_not, upS_row] at c1
    first | exact ⟨by unfold draN; rw [if_pos ‹_›]; rfl, rfl⟩ | exact ⟨by unfold draN; rw [if_neg (fun z => z ‹_›)]; rfl, rfl⟩
  · try simp only [b01_eq, b01_ne, Classical.not_not, upS_row] at c1
    first | exact ⟨by unfold draN; rw [if_pos ‹_›]; rfl, rfl⟩ | exact ⟨by unfold draN; rw [if_neg (fun z => z ‹_›)]; rfl, rfl⟩
set_option maxRecDepth 20000 in
theorem c_X9_greater {w : W0} {m : Nat} {iv : Nat → Nat} {h : AH} {σ : MS} (hm : MOK m iv h) {nb : Nat} (hnb : nb ≤ 60) (eb : σ.1 8 = nI nb) : CM w yX9_greater mX9_greater m iv h [] σ (fun r σ' => r = some (greN σ nb) ∧ σ' = σ) := by
  refine CM_of mcX9_greater (Nat.le_of_ble_eq_true rfl) ?_
  refine runM_ok rkX9_greater hm noCut 200 _ _ _ _ ?_
  refine qX9_greater_2 hm rfl (c_X9_draughtOf hm hnb eb) (fun r σ1 hq => ?_)
  obtain ⟨rfl, rfl⟩ := hq
  refine runM_ok rkX9_greater hm noCut 200 _ _ _ _ ?_
  refine qX9_greater_8 hm rfl (c_X9_draughtOf hm hnb eb) (fun r σ1 hq => ?_)
  obtain ⟨rfl, rfl⟩ := hq
  refine runM_ok rkX9_greater hm noCut 200 _ _ _ _ ?_
  refine And.intro (fun c1 => ?_) (fun c1 => ?_)
  · try simp only [b01_eq, b01_ne, Classical.not_not, upS_row] at c1
    first | exact ⟨by unfold greN; rw [if_pos (Int32.not_le.mp ‹_›)], rfl⟩ | exact ⟨by unfold greN; rw [if_neg (Int32.not_lt.mpr ‹_›)], rfl⟩
  · try simp only [b01_eq, b01_ne, Classical.not_not, upS_row] at c1
    first | exact ⟨by unfold greN; rw [if_pos (Int32.not_le.mp ‹_›)], rfl⟩ | exact ⟨by unfold greN; rw [if_neg (Int32.not_lt.mpr ‹_›)], rfl⟩
set_option maxRecDepth 20000 in
theorem c_X9_tons {w : W0} {m : Nat} {iv : Nat → Nat} {h : AH} {σ : MS} (hm : MOK m iv h) {nb : Nat} (hnb : nb ≤ 60) (eb : σ.1 8 = nI nb) : CM w yX9_tons mX9_tons m iv h [] σ (fun r σ' => r = some (tnsN σ nb) ∧ σ' = upS σ 34 0) := by
  refine CM_of mcX9_tons (Nat.le_of_ble_eq_true rfl) ?_
  refine runM_ok rkX9_tons hm noCut 200 _ _ _ _ ?_
  refine qX9_tons_2 hm rfl (c_X9_tonsOf hm hnb eb) (fun r σ1 hq => ?_)
  obtain ⟨rfl, rfl⟩ := hq
  refine runM_ok rkX9_tons hm noCut 200 _ _ _ _ ?_
  refine qX9_tons_5 hm rfl (c_X9_tells hm) (fun r σ1 hq => ?_)
  obtain ⟨rfl, rfl⟩ := hq
  refine runM_ok rkX9_tons hm noCut 200 _ _ _ _ ?_
  exact ⟨rfl, rfl⟩
set_option maxRecDepth 20000 in
theorem c_X9_tonsAnew {w : W0} {m : Nat} {iv : Nat → Nat} {h : AH} {σ : MS} (hm : MOK m iv h) {nb : Nat} (hnb : nb ≤ 60) (eb : σ.1 8 = nI nb) : CM w yX9_tonsAnew mX9_tonsAnew m iv h [] σ (fun r σ' => r = some (tnsN σ nb) ∧ σ' = upS σ 34 0) := by
  refine CM_of mcX9_tonsAnew (Nat.le_of_ble_eq_true rfl) ?_
  refine runM_ok rkX9_tonsAnew hm noCut 200 _ _ _ _ ?_
  refine qX9_tonsAnew_2 hm rfl (c_X9_tonsOf hm hnb eb) (fun r σ1 hq => ?_)
  obtain ⟨rfl, rfl⟩ := hq
  refine runM_ok rkX9_tonsAnew hm noCut 200 _ _ _ _ ?_
  refine qX9_tonsAnew_5 hm rfl (c_X9_tells hm) (fun r σ1 hq => ?_)
  obtain ⟨rfl, rfl⟩ := hq
  refine runM_ok rkX9_tonsAnew hm noCut 200 _ _ _ _ ?_
  exact ⟨rfl, rfl⟩
set_option maxRecDepth 20000 in
theorem c_X9_centre {w : W0} {m : Nat} {iv : Nat → Nat} {h : AH} {σ : MS} (hm : MOK m iv h) {nb : Nat} (hnb : nb ≤ 60) (eb : σ.1 8 = nI nb) : CM w yX9_centre mX9_centre m iv h [] σ (fun r σ' => r = some (cenN σ nb) ∧ σ' = upS σ 34 0) := by
  refine CM_of mcX9_centre (Nat.le_of_ble_eq_true rfl) ?_
  refine runM_ok rkX9_centre hm noCut 200 _ _ _ _ ?_
  refine qX9_centre_2 hm rfl (c_X9_centreOf hm hnb eb) (fun r σ1 hq => ?_)
  obtain ⟨rfl, rfl⟩ := hq
  refine runM_ok rkX9_centre hm noCut 200 _ _ _ _ ?_
  refine qX9_centre_5 hm rfl (c_X9_tells hm) (fun r σ1 hq => ?_)
  obtain ⟨rfl, rfl⟩ := hq
  refine runM_ok rkX9_centre hm noCut 200 _ _ _ _ ?_
  exact ⟨rfl, rfl⟩
set_option maxRecDepth 20000 in
theorem c_X9_draught {w : W0} {m : Nat} {iv : Nat → Nat} {h : AH} {σ : MS} {u : Int32} (hm : MOK m iv h) {nb : Nat} (hnb : nb ≤ 60) (eb : σ.1 8 = nI nb) : CM w yX9_draught mX9_draught m iv h [u] σ (fun r σ' => r = some (draN σ nb u) ∧ σ' = upS σ 34 0) := by
  refine CM_of mcX9_draught (Nat.le_of_ble_eq_true rfl) ?_
  refine runM_ok rkX9_draught hm noCut 200 _ _ _ _ ?_
  refine qX9_draught_3 hm rfl (c_X9_draughtOf hm hnb eb) (fun r σ1 hq => ?_)
  obtain ⟨rfl, rfl⟩ := hq
  refine runM_ok rkX9_draught hm noCut 200 _ _ _ _ ?_
  refine qX9_draught_6 hm rfl (c_X9_tells hm) (fun r σ1 hq => ?_)
  obtain ⟨rfl, rfl⟩ := hq
  refine runM_ok rkX9_draught hm noCut 200 _ _ _ _ ?_
  exact ⟨rfl, rfl⟩

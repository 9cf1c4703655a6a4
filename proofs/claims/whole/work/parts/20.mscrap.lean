
/-! THE MODEL'S CONTRACTS, 8: scrap -/
def kScr (σ : MS) (b : Int32) : Int32 := if isBlk σ b then if σ.2 9 b.toNatClampNeg = 0 then 0 else 2 else 1
def scS (σ : MS) (b : Int32) (n : Nat) : MS := (σ.1, fun j i => if j = 9 ∧ i < n ∧ whl σ (nI i) = b then 3 else σ.2 j i)
def fSc (σ : MS) (b : Int32) (i : Nat) : Int32 := if whl σ (nI i) = b then 1 else 0
def mScr (σ : MS) (nb : Nat) (b : Int32) : Int32 × MS := if kScr σ b = 0 then (sm (fSc σ b) nb, scS (upS σ 34 0) b nb) else (0, upS σ 34 (kScr σ b))
theorem whN_row {σ σ' : MS} (h : σ'.2 17 = σ.2 17) : ∀ (n : Nat) (b : Int32), whN σ' n b = whN σ n b
  | 0, _ => rfl
  | n + 1, b => by simp only [whN, h, whN_row h n]
theorem whl_row {σ σ' : MS} (h : σ'.2 17 = σ.2 17) (b : Int32) : whl σ' b = whl σ b := whN_row h 60 b
theorem chn_row {σ σ' : MS} {nb : Nat} (h : σ'.2 17 = σ.2 17) (hc : chn σ nb) : chn σ' nb := ⟨hc.1, fun i hi => by rw [h]; exact hc.2 i hi⟩
theorem scS_17 (σ : MS) (b : Int32) (n : Nat) : (scS σ b n).2 17 = σ.2 17 := by funext i; simp [scS]
theorem scS_0 (σ : MS) (b : Int32) : scS σ b 0 = σ := by simp [scS]
theorem scS_hit {σ : MS} {b : Int32} {n : Nat} (h : whl σ (nI n) = b) : upA (scS σ b n) 9 n 3 = scS σ b (n + 1) := by
  unfold upA scS
  refine Prod.ext rfl ?_
  funext j i
  show (if j = 9 ∧ i = n then 3 else if j = 9 ∧ i < n ∧ whl σ (nI i) = b then 3 else σ.2 j i) = if j = 9 ∧ i < n + 1 ∧ whl σ (nI i) = b then 3 else σ.2 j i
  by_cases h1 : j = 9 ∧ i = n
  · obtain ⟨rfl, rfl⟩ := h1
    simp [h]
  · rw [if_neg h1]
    by_cases h2 : j = 9 ∧ i < n ∧ whl σ (nI i) = b
    · rw [if_pos h2, if_pos ⟨h2.1, by omega, h2.2.2⟩]
    · rw [if_neg h2, if_neg (fun z => h2 ⟨z.1, by have := z.2.1; have h3 : i ≠ n := fun q => h1 ⟨z.1, q⟩; omega, z.2.2⟩)]
theorem fSc_hit {σ : MS} {b : Int32} {n : Nat} (h : whl σ (nI n) = b) : fSc σ b n = 1 := if_pos h
theorem fSc_miss {σ : MS} {b : Int32} {n : Nat} (h : ¬ whl σ (nI n) = b) : fSc σ b n = 0 := if_neg h
theorem scS_miss {σ : MS} {b : Int32} {n : Nat} (h : ¬ whl σ (nI n) = b) : scS σ b n = scS σ b (n + 1) := by
  unfold scS
  refine Prod.ext rfl ?_
  funext j i
  show (if j = 9 ∧ i < n ∧ whl σ (nI i) = b then 3 else σ.2 j i) = if j = 9 ∧ i < n + 1 ∧ whl σ (nI i) = b then 3 else σ.2 j i
  by_cases h2 : j = 9 ∧ i < n ∧ whl σ (nI i) = b
  · rw [if_pos h2, if_pos ⟨h2.1, by omega, h2.2.2⟩]
  · rw [if_neg h2, if_neg (fun z => h2 ⟨z.1, by have := z.2.1; have h3 : i ≠ n := (fun q => h (q ▸ z.2.2)); omega, z.2.2⟩)]
set_option maxRecDepth 20000 in
theorem c_X9_scrap {w : W0} {m : Nat} {iv : Nat → Nat} {h : AH} {σ : MS} {b : Int32} (hm : MOK m iv h) {nb : Nat} (hc : chn σ nb) (eb : σ.1 8 = nI nb) : CM w yX9_scrap mX9_scrap m iv h [b] σ (fun r σ' => r = some (mScr σ nb b).1 ∧ σ' = (mScr σ nb b).2) := by
  refine CM_of mcX9_scrap (Nat.le_of_ble_eq_true rfl) ?_
  have hb0 : 0 ≤ σ.1 8 := by rw [eb]; exact nI_pos' (by have := hc.1; omega)
  have hb1 : σ.1 8 ≤ 60 := by rw [eb]; exact nI_le (b := 60) hc.1 (by decide)
  have K72 : ∀ x1 x2 : Int32, kScr σ b = 0 → x1 = sm (fSc σ b) nb → XM w mX9_scrap m iv h (fun r σ' => r = some (mScr σ nb b).1 ∧ σ' = (mScr σ nb b).2) 72 [some (.inr 0), some (.inl b), some (.inl x1), some (.inl x2)] [] (scS (upS σ 34 0) b nb) := by
    intro x1 x2 hk0 hx1
    refine runM_go rkX9_scrap hm (fun p => Nat.beq p 27 || Nat.beq p 39 || Nat.beq p 66 || Nat.beq p 72) 200 ?_
    refine eP ?_; unfold mScr; rw [if_pos hk0, hx1]
  have loop39 : ∀ (n k : Nat) (x1 : Int32), k ≤ nb → nb ≤ n + k → (kScr σ b = 0) → (x1 = sm (fSc σ b) k) → XM w mX9_scrap m iv h (fun r σ' => r = some (mScr σ nb b).1 ∧ σ' = (mScr σ nb b).2) 39 [some (.inr 0), some (.inl b), some (.inl x1), some (.inl (nI k))] [] (scS (upS σ 34 0) b k) := by
    intro n
    induction n with
    | zero =>
      intro k x1 hk1 hk2 hk0 hx1
      have hex : σ.1 8 ≤ nI k → k = nb := by intro z; rw [eb] at z; have := (nI_leI (by have := hc.1; omega) (by have := hc.1; omega)).mp z; omega
      have hlt : ¬ σ.1 8 ≤ nI k → k < nb := by intro z; rw [eb] at z; exact Nat.lt_of_not_le (fun q => z (nI_le q (by have := hc.1; omega)))
      refine runM_go rkX9_scrap hm (fun p => Nat.beq p 27 || Nat.beq p 39 || Nat.beq p 66 || Nat.beq p 72) 200 ?_
      refine And.intro (fun c0 => ?_) (fun c0 => ?_)
      · skip
        have hkn := hex ‹_›
        subst hkn
        exact K72 _ _ hk0 hx1
      · exact absurd (hlt c0) (by omega)
    | succ n ih =>
      intro k x1 hk1 hk2 hk0 hx1
      have hex : σ.1 8 ≤ nI k → k = nb := by intro z; rw [eb] at z; have := (nI_leI (by have := hc.1; omega) (by have := hc.1; omega)).mp z; omega
      have hlt : ¬ σ.1 8 ≤ nI k → k < nb := by intro z; rw [eb] at z; exact Nat.lt_of_not_le (fun q => z (nI_le q (by have := hc.1; omega)))
      have K66 : ∀ x1 : Int32, k < nb → kScr σ b = 0 → x1 = sm (fSc σ b) (k + 1) → XM w mX9_scrap m iv h (fun r σ' => r = some (mScr σ nb b).1 ∧ σ' = (mScr σ nb b).2) 66 [some (.inr 0), some (.inl b), some (.inl x1), some (.inl (nI k))] [] (scS (upS σ 34 0) b (k + 1)) := by
        intro x1 hkl hk0 hx1
        refine runM_go rkX9_scrap hm (fun p => Nat.beq p 27 || Nat.beq p 39 || Nat.beq p 66 || Nat.beq p 72) 200 ?_
        have e9 := ih (k + 1) _ (by omega) (by omega) hk0 hx1
        rw [← nI_1 k] at e9
        exact e9
      refine runM_go rkX9_scrap hm (fun p => Nat.beq p 27 || Nat.beq p 39 || Nat.beq p 66 || Nat.beq p 72) 200 ?_
      refine And.intro (fun c1 => ?_) (fun c1 => ?_)
      · try simp only [b01_eq, b01_ne, Classical.not_not, upS_row] at c1
        have hkn := hex ‹_›
        subst hkn
        exact K72 _ _ hk0 hx1
      · try simp only [b01_eq, b01_ne, Classical.not_not, upS_row] at c1
        refine qX9_scrap_49 hm rfl (show CM w yX9_whole mX9_whole m iv h [nI k] (scS (upS σ 34 0) b k) (fun r σ' => r = some (whl σ (nI k)) ∧ σ' = scS (upS σ 34 0) b k) from (whl_row (scS_17 (upS σ 34 0) b k) (nI k)).trans rfl ▸ c_X9_whole hm (chn_row (scS_17 (upS σ 34 0) b k) hc) (hlt ‹_›)) (fun r σ1 hq => ?_)
        obtain ⟨rfl, rfl⟩ := hq
        refine runM_ok rkX9_scrap hm (fun p => Nat.beq p 27 || Nat.beq p 39 || Nat.beq p 66 || Nat.beq p 72) 200 _ _ _ _ ?_
        refine And.intro (fun c2 => ?_) (fun c2 => ?_)
        · try simp only [b01_eq, b01_ne, Classical.not_not, upS_row] at c2
          have hkl := hlt ‹_›
          have e : (nI k).toNatClampNeg = k := nI_clamp (by have := hc.1; omega)
          have hw : whl (upS σ 34 0) (nI k) = whl σ (nI k) := whl_row rfl _
          first
          | (have e9 := K66 (x1 + 1) hkl hk0 (by show _ = sm (fSc σ b) k + fSc σ b k; rw [fSc_hit (by assumption), ← hx1]); rw [← scS_hit (σ := upS σ 34 0) (by rw [hw]; assumption)] at e9; rw [e]; exact e9)
          | (have e9 := K66 x1 hkl hk0 (by show _ = sm (fSc σ b) k + fSc σ b k; rw [fSc_miss (by assumption), Int32.add_zero, ← hx1]); rw [← scS_miss (σ := upS σ 34 0) (by rw [hw]; assumption)] at e9; exact e9)
        · try simp only [b01_eq, b01_ne, Classical.not_not, upS_row] at c2
          refine And.intro (vp_in_nI (N := 60) (by have := hlt ‹_›; have := hc.1; omega) (by decide)) ?_
          have hkl := hlt ‹_›
          have e : (nI k).toNatClampNeg = k := nI_clamp (by have := hc.1; omega)
          have hw : whl (upS σ 34 0) (nI k) = whl σ (nI k) := whl_row rfl _
          first
          | (have e9 := K66 (x1 + 1) hkl hk0 (by show _ = sm (fSc σ b) k + fSc σ b k; rw [fSc_hit (by assumption), ← hx1]); rw [← scS_hit (σ := upS σ 34 0) (by rw [hw]; assumption)] at e9; rw [e]; exact e9)
          | (have e9 := K66 x1 hkl hk0 (by show _ = sm (fSc σ b) k + fSc σ b k; rw [fSc_miss (by assumption), Int32.add_zero, ← hx1]); rw [← scS_miss (σ := upS σ 34 0) (by rw [hw]; assumption)] at e9; exact e9)
  have K27 : ∀ x : Int32, x = kScr σ b → XM w mX9_scrap m iv h (fun r σ' => r = some (mScr σ nb b).1 ∧ σ' = (mScr σ nb b).2) 27 [some (.inr 0), some (.inl b), none, none] [.inl x, .inr 0] σ := by
    intro x hx
    have h01 : x = 0 ∨ 0 < x := by unfold kScr at hx; grind
    refine qX9_scrap_27 hm rfl (c_X9_fails hm) (fun r σ1 hq => ?_)
    obtain ⟨rfl, rfl⟩ := hq
    refine runM_ok rkX9_scrap hm (fun p => Nat.beq p 27 || Nat.beq p 39 || Nat.beq p 66 || Nat.beq p 72) 200 _ _ _ _ ?_
    refine And.intro (fun c3 => ?_) (fun c3 => ?_)
    · try simp only [b01_eq, b01_ne, Classical.not_not, upS_row] at c3
      have h0 : x = 0 := by grind
      subst h0
      have e9 := loop39 nb 0 0 (by omega) (by omega) hx.symm rfl
      rw [scS_0] at e9
      exact e9
    · try simp only [b01_eq, b01_ne, Classical.not_not, upS_row] at c3
      refine eP ?_; unfold mScr; rw [if_neg (by grind), ← hx]
  refine runM_ok rkX9_scrap hm (fun p => Nat.beq p 27 || Nat.beq p 39 || Nat.beq p 66 || Nat.beq p 72) 200 _ _ _ _ ?_
  refine qX9_scrap_3 hm rfl (c_X9_isBlock hm) (fun r σ1 hq => ?_)
  obtain ⟨rfl, rfl⟩ := hq
  refine runM_ok rkX9_scrap hm (fun p => Nat.beq p 27 || Nat.beq p 39 || Nat.beq p 66 || Nat.beq p 72) 200 _ _ _ _ ?_
  refine And.intro (fun c4 => ?_) (fun c4 => ?_)
  · try simp only [b01_eq, b01_ne, Classical.not_not, upS_row] at c4
    refine And.intro (blk_in (N := 60) hb0 (Int32.le_iff_toInt_le.mp hb1) (by decide) (by grind)) ?_
    refine And.intro (fun c5 => ?_) (fun c5 => ?_)
    · try simp only [b01_eq, b01_ne, Classical.not_not, upS_row] at c5
      exact K27 _ (by unfold kScr; grind)
    · try simp only [b01_eq, b01_ne, Classical.not_not, upS_row] at c5
      exact K27 _ (by unfold kScr; grind)
  · try simp only [b01_eq, b01_ne, Classical.not_not, upS_row] at c4
    exact K27 _ (by unfold kScr; grind)

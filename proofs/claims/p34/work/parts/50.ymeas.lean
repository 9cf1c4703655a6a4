/-! THE COMPONENT'S WAYS, 5: measure -/
def zrH (κ : AH) (σ : MS) : Nat → AH
  | 0 => κ
  | c + 1 => if σ.2 25 c = -1 then zrH κ σ c else sI (zrH κ σ c) (tR c) 6 0
theorem zrH_SG {κ : AH} {σ : MS} (h : SG κ) : ∀ c, SG (zrH κ σ c)
  | 0 => h
  | c + 1 => by unfold zrH; split <;> exact zrH_SG h c
theorem zrH_R {κ : AH} {σ : MS} {nb : Nat} (hR : hRm κ σ nb) : ∀ c, hRm (zrH κ σ c) σ nb
  | 0 => hR
  | c + 1 => by
    unfold zrH
    split
    · exact zrH_R hR c
    · exact hRm_a (zrH_R hR c)
/-- heap and flag after k rounds -/
def bfH (κ : AH) (σ : MS) : Nat → AH × Int32
  | 0 => (κ, 1)
  | k + 1 => if (bfH κ σ k).2 = 0 then bfH κ σ k else (saH (bfH κ σ k).1 σ (nI (k + 1)) 36, saB (bfH κ σ k).1 σ (nI (k + 1)) 36)
theorem bfH_SG {κ : AH} {σ : MS} (h : SG κ) : ∀ k, SG (bfH κ σ k).1
  | 0 => h
  | k + 1 => by
    unfold bfH
    split
    · exact bfH_SG h k
    · exact saH_SG (bfH_SG h k) 36
theorem bfH_R {κ : AH} {σ : MS} {nb : Nat} (hR : hRm κ σ nb) : ∀ k, hRm (bfH κ σ k).1 σ nb
  | 0 => hR
  | k + 1 => by
    unfold bfH
    split
    · exact bfH_R hR k
    · exact saH_R (bfH_R hR k) 36
theorem bfH_end {κ : AH} {σ : MS} {k : Nat} (h : (bfH κ σ k).2 = 0) : ∀ n, bfH κ σ (k + n) = bfH κ σ k
  | 0 => rfl
  | n + 1 => by
    have e := bfH_end h n
    have e2 : bfH κ σ (k + n + 1) = if (bfH κ σ (k + n)).2 = 0 then bfH κ σ (k + n) else (saH (bfH κ σ (k + n)).1 σ (nI (k + n + 1)) 36, saB (bfH κ σ (k + n)).1 σ (nI (k + n + 1)) 36) := rfl
    show bfH κ σ (k + n + 1) = _
    rw [e2, e, if_pos h]
def meH (κ : AH) (σ : MS) (t : Nat) : AH := if 3 ≤ σ.2 28 t then zrH κ σ 36 else (bfH (sI (zrH κ σ 36) (tR t) 6 1) σ 35).1
set_option maxRecDepth 20000 in
theorem c_X5_measure {w : W0} {κ : AH} {t : Nat} {σ : MS} {nb : Nat} (hG : SG κ) (hR : hRm κ σ nb) (ho : hOK σ) (ht : t < 36) (hf : ¬ σ.2 25 t = -1) : CY w yX5_measure mX5_measure [.ref (tS 2), .ref (tR t)] κ (fun v κ' => v = none ∧ κ' = meH κ σ t) := by
  refine CY_of mcX5_measure (Nat.le_of_ble_eq_true rfl) (cat1 rfl) (fun θ0 => ?_)
  have hz := ((zrH_R (nb := nb) hR 36).2.1 t ht hf).1
  have hG1 : SG (sI (zrH κ σ 36) (tR t) 6 1) := (zrH_SG hG 36 : SG (zrH κ σ 36))
  have hR1 : hRm (sI (zrH κ σ 36) (tR t) 6 1) σ nb := hRm_a (zrH_R hR 36)
  have loop60 : ¬ 3 ≤ σ.2 28 t → ∀ (m k : Nat) (x4 x5 : Option Value), k ≤ 35 → 35 ≤ m + k → Y w mX5_measure θ0 κ (fun v κ' => v = none ∧ κ' = meH κ σ t) (fun _ _ => False) 0 0 60 [some (.ref (tS 2)), some (.ref (tR t)), some (.int (bfH (sI (zrH κ σ 36) (tR t) 6 1) σ k).2), some (.int (nI (k + 1))), x4, x5] [] (bfH (sI (zrH κ σ 36) (tR t) 6 1) σ k).1 := by
    intro h3 m
    induction m with
    | zero =>
      intro k x4 x5 hk1 hk2
      have hex : 36 ≤ nI (k + 1) → k = 35 := by intro z; have := (nI_leI (a := 36) (by omega) (by omega)).mp z; omega
      have hlt : ¬ 36 ≤ nI (k + 1) → k < 35 := by intro z; have := Nat.lt_of_not_le (fun q => z (nI_le (a := 36) q (by omega))); omega
      refine runY_go rkX5_measure (fun p => Nat.beq p 14 || Nat.beq p 37 || Nat.beq p 60 || Nat.beq p 82) 200 rfl ?_
      have hk35 : k = 35 := by omega
      refine And.intro (fun c0 => ?_) (fun c0 => ?_)
      · skip
        refine runY_go rkX5_measure noCut 3 rfl ?_
        refine And.intro ⟨Nat.le_of_ble_eq_true rfl, Nat.le_of_ble_eq_true rfl⟩ ?_
        refine ⟨rfl, ?_⟩
        unfold meH
        rw [if_neg h3]
        first
        | (have hk := hex (by assumption); subst hk; rfl)
        | (have e := bfH_end (by assumption : (bfH (sI (zrH κ σ 36) (tR t) 6 1) σ k).2 = 0) (35 - k); rw [show k + (35 - k) = 35 from by omega] at e; rw [e])
      · skip
        refine And.intro (fun c1 => ?_) (fun c1 => ?_)
        · skip
          refine runY_go rkX5_measure noCut 3 rfl ?_
          refine And.intro ⟨Nat.le_of_ble_eq_true rfl, Nat.le_of_ble_eq_true rfl⟩ ?_
          refine ⟨rfl, ?_⟩
          unfold meH
          rw [if_neg h3]
          first
          | (have hk := hex (by assumption); subst hk; rfl)
          | (have e := bfH_end (by assumption : (bfH (sI (zrH κ σ 36) (tR t) 6 1) σ k).2 = 0) (35 - k); rw [show k + (35 - k) = 35 from by omega] at e; rw [e])
        · exact absurd (hlt c1) (by omega)
    | succ m ih =>
      intro k x4 x5 hk1 hk2
      have hex : 36 ≤ nI (k + 1) → k = 35 := by intro z; have := (nI_leI (a := 36) (by omega) (by omega)).mp z; omega
      have hlt : ¬ 36 ≤ nI (k + 1) → k < 35 := by intro z; have := Nat.lt_of_not_le (fun q => z (nI_le (a := 36) q (by omega))); omega
      refine runY_go rkX5_measure (fun p => Nat.beq p 14 || Nat.beq p 37 || Nat.beq p 60 || Nat.beq p 82) 200 rfl ?_
      refine And.intro (fun c1 => ?_) (fun c1 => ?_)
      · skip
        refine runY_go rkX5_measure noCut 3 rfl ?_
        refine And.intro ⟨Nat.le_of_ble_eq_true rfl, Nat.le_of_ble_eq_true rfl⟩ ?_
        refine ⟨rfl, ?_⟩
        unfold meH
        rw [if_neg h3]
        first
        | (have hk := hex (by assumption); subst hk; rfl)
        | (have e := bfH_end (by assumption : (bfH (sI (zrH κ σ 36) (tR t) 6 1) σ k).2 = 0) (35 - k); rw [show k + (35 - k) = 35 from by omega] at e; rw [e])
      · skip
        refine And.intro (fun c2 => ?_) (fun c2 => ?_)
        · skip
          refine runY_go rkX5_measure noCut 3 rfl ?_
          refine And.intro ⟨Nat.le_of_ble_eq_true rfl, Nat.le_of_ble_eq_true rfl⟩ ?_
          refine ⟨rfl, ?_⟩
          unfold meH
          rw [if_neg h3]
          first
          | (have hk := hex (by assumption); subst hk; rfl)
          | (have e := bfH_end (by assumption : (bfH (sI (zrH κ σ 36) (tR t) 6 1) σ k).2 = 0) (35 - k); rw [show k + (35 - k) = 35 from by omega] at e; rw [e])
        · skip
          refine pX5_measure_72 rfl rfl rfl (by first | exact hG.t2 | exact (bfH_SG hG1 k).t2) (c_X5_spreadAll (a := nI (k + 1)) (bfH_SG hG1 k) (bfH_R hR1 k) ho) (fun v κ1 hq3 ho3 hk3 => ?_)
          obtain ⟨rfl, ehq3⟩ := hq3
          rw [ehq3]
          refine runY_ok rkX5_measure (fun p => Nat.beq p 14 || Nat.beq p 37 || Nat.beq p 60 || Nat.beq p 82) 200 _ _ _ _ _ _ ?_
          have hkl := hlt (by assumption)
          have e9 := ih (k + 1) x4 x5 (by omega) (by omega)
          rw [← nI_1 (k + 1)] at e9
          have eb : bfH (sI (zrH κ σ 36) (tR t) 6 1) σ (k + 1) = (saH (bfH (sI (zrH κ σ 36) (tR t) 6 1) σ k).1 σ (nI (k + 1)) 36, saB (bfH (sI (zrH κ σ 36) (tR t) 6 1) σ k).1 σ (nI (k + 1)) 36) := if_neg (by assumption : ¬ (bfH (sI (zrH κ σ 36) (tR t) 6 1) σ k).2 = 0)
          rw [eb] at e9
          exact e9
  have K43 : ∀ x5 : Option Value, Y w mX5_measure θ0 κ (fun v κ' => v = none ∧ κ' = meH κ σ t) (fun _ _ => False) 0 0 43 [some (.ref (tS 2)), some (.ref (tR t)), some (.ref (tS 8)), some (.int (Int32.ofNat (gN κ (tS 8)))), some (.int (nI 36)), x5] [] (zrH κ σ 36) := by
    intro x5
    refine runY_go rkX5_measure (fun p => Nat.beq p 14 || Nat.beq p 37 || Nat.beq p 60 || Nat.beq p 82) 200 rfl ?_
    refine pX5_measure_44 rfl rfl rfl hz.1 (show CY w yX4_hasAllPipes mX4_hasAllPipes [.ref (tR t)] (zrH κ σ 36) (fun v κ' => v = some (.int (if 3 ≤ σ.2 28 t then 1 else 0)) ∧ κ' = (zrH κ σ 36)) from by have h9 := c_X4_hasAllPipes (w := w) hz.1; rw [hz.2.2.2.2.2.1] at h9; exact h9) (fun v κ1 hq4 ho4 hk4 => ?_)
    obtain ⟨rfl, ehq4⟩ := hq4
    rw [ehq4]
    refine runY_ok rkX5_measure (fun p => Nat.beq p 14 || Nat.beq p 37 || Nat.beq p 60 || Nat.beq p 82) 200 _ _ _ _ _ _ ?_
    refine And.intro (fun c5 => ?_) (fun c5 => ?_)
    · simp only [b01_eq, b01_ne, Classical.not_not] at c5
      refine And.intro hz.1 ?_
      exact loop60 (by assumption) 35 0 _ _ (by omega) (by omega)
    · simp only [b01_eq, b01_ne, Classical.not_not] at c5
      refine And.intro ⟨Nat.le_of_ble_eq_true rfl, Nat.le_of_ble_eq_true rfl⟩ ?_
      exact ⟨rfl, (if_pos (by assumption)).symm⟩
  have loop14 : ∀ (n k : Nat) (x5 : Option Value), k ≤ 36 → 36 ≤ n + k → Y w mX5_measure θ0 κ (fun v κ' => v = none ∧ κ' = meH κ σ t) (fun _ _ => False) 0 0 14 [some (.ref (tS 2)), some (.ref (tR t)), some (.ref (tS 8)), some (.int (Int32.ofNat (gN κ (tS 8)))), some (.int (nI k)), x5] [] (zrH κ σ k) := by
    intro n
    induction n with
    | zero =>
      intro k x5 hk1 hk2 
      have hex : Int32.ofNat (gN κ (tS 8)) ≤ nI k → k = 36 := by rw [hG.n8]; intro z; have := (nI_leI (a := 36) (by omega) (by omega)).mp z; omega
      have hlt : ¬ Int32.ofNat (gN κ (tS 8)) ≤ nI k → k < 36 := by rw [hG.n8]; intro z; exact Nat.lt_of_not_le (fun q => z (nI_le (a := 36) q (by omega)))
      refine runY_go rkX5_measure (fun p => Nat.beq p 14 || Nat.beq p 37 || Nat.beq p 60 || Nat.beq p 82 || Nat.beq p 43) 200 rfl ?_
      refine And.intro (fun c0 => ?_) (fun c0 => ?_)
      · skip
        have hk := hex (by assumption)
        subst hk
        exact K43 _
      · exact absurd (hlt c0) (by omega)
    | succ n ih =>
      intro k x5 hk1 hk2 
      have hex : Int32.ofNat (gN κ (tS 8)) ≤ nI k → k = 36 := by rw [hG.n8]; intro z; have := (nI_leI (a := 36) (by omega) (by omega)).mp z; omega
      have hlt : ¬ Int32.ofNat (gN κ (tS 8)) ≤ nI k → k < 36 := by rw [hG.n8]; intro z; exact Nat.lt_of_not_le (fun q => z (nI_le (a := 36) q (by omega)))
      have K37 : ∀ x5 : Option Value, k < 36 → Y w mX5_measure θ0 κ (fun v κ' => v = none ∧ κ' = meH κ σ t) (fun _ _ => False) 0 0 37 [some (.ref (tS 2)), some (.ref (tR t)), some (.ref (tS 8)), some (.int (Int32.ofNat (gN κ (tS 8)))), some (.int (nI k)), x5] [] (zrH κ σ (k + 1)) := by
        intro x5 hk
        refine runY_go rkX5_measure (fun p => Nat.beq p 14 || Nat.beq p 37 || Nat.beq p 60 || Nat.beq p 82 || Nat.beq p 43) 200 rfl ?_
        have e9 := ih (k + 1) x5 (by omega) (by omega)
        rw [← nI_1 k] at e9
        exact e9
      refine runY_go rkX5_measure (fun p => Nat.beq p 14 || Nat.beq p 37 || Nat.beq p 60 || Nat.beq p 82 || Nat.beq p 43) 200 rfl ?_
      refine And.intro (fun c6 => ?_) (fun c6 => ?_)
      · skip
        have hk := hex (by assumption)
        subst hk
        exact K43 _
      · skip
        by_cases hs7 : σ.2 25 k = -1
        · skip
          refine And.intro ⟨(by rw [(zrH_SG hG k).t8]; decide), (by rw [(zrH_SG hG k).n8]; exact (vp_in_nI (N := 36) (hlt (by assumption)) (by decide)))⟩ ⟨none, (by have ek : (nI k).toNatClampNeg = k := nI_clamp (by omega); rw [ek]; exact ((zrH_R hR k).1 _ (hlt (by assumption))).trans (if_pos hs7)), ?_⟩
          have hk4 := hlt (by assumption)
          first
          | (have e9 := fun x5 => K37 x5 hk4; unfold zrH at e9; rw [if_neg (by assumption)] at e9; exact e9 _)
          | (have e9 := fun x5 => K37 x5 hk4; unfold zrH at e9; rw [if_pos (by assumption)] at e9; exact e9 _)
        · skip
          refine And.intro ⟨(by rw [(zrH_SG hG k).t8]; decide), (by rw [(zrH_SG hG k).n8]; exact (vp_in_nI (N := 36) (hlt (by assumption)) (by decide)))⟩ ⟨some (tR k), (by have ek : (nI k).toNatClampNeg = k := nI_clamp (by omega); rw [ek]; exact ((zrH_R hR k).1 _ (hlt (by assumption))).trans (if_neg hs7)), ?_⟩
          refine And.intro ((zrH_R hR k).2.1 k (hlt (by assumption)) (by assumption)).1.1 ?_
          have hk4 := hlt (by assumption)
          first
          | (have e9 := fun x5 => K37 x5 hk4; unfold zrH at e9; rw [if_neg (by assumption)] at e9; exact e9 _)
          | (have e9 := fun x5 => K37 x5 hk4; unfold zrH at e9; rw [if_pos (by assumption)] at e9; exact e9 _)
  refine runY_ok rkX5_measure (fun p => Nat.beq p 14 || Nat.beq p 37 || Nat.beq p 60 || Nat.beq p 82 || Nat.beq p 43) 200 _ _ _ _ _ _ ?_
  refine And.intro (by first | exact hG.t2 | exact (bfH_SG hG1 k).t2) ⟨some (tS 0), hG.r20, ?_⟩
  refine And.intro hG.t0 ⟨some (tS 8), hG.r00, ?_⟩
  refine And.intro (by rw [hG.t8]; decide) ?_
  exact loop14 36 0 none (by omega) (by omega)


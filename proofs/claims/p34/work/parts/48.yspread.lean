/-! THE COMPONENT'S WAYS, 3: spread -/
def thB (σ : MS) (c s : Nat) : Bool := decide (hb σ c (sd s)) && (decide (isRm σ (nI (stp c (sd s)))) && decide (opn σ (stp c (sd s))))
theorem thB_iff {σ : MS} {c s : Nat} : thB σ c s = true ↔ thC σ c s := by
  unfold thB thC
  rw [Bool.and_eq_true, Bool.and_eq_true, decide_eq_true_eq, decide_eq_true_eq, decide_eq_true_eq]
/-- the first s sides spread -/
def spH (κ : AH) (σ : MS) (c : Nat) : Nat → AH
  | 0 => κ
  | s + 1 => if thB σ c s = true ∧ gI (spH κ σ c s) (tR (stp c (sd s))) 6 = 0 then sI (spH κ σ c s) (tR (stp c (sd s))) 6 (gI (spH κ σ c s) (tR c) 6 + 1) else spH κ σ c s
def spB (κ : AH) (σ : MS) (c : Nat) : Nat → Int32
  | 0 => 0
  | s + 1 => if thB σ c s = true ∧ gI (spH κ σ c s) (tR (stp c (sd s))) 6 = 0 then 1 else spB κ σ c s
theorem spH_SG {κ : AH} {σ : MS} {c : Nat} (h : SG κ) : ∀ s, SG (spH κ σ c s)
  | 0 => h
  | s + 1 => by unfold spH; split <;> exact spH_SG h s
theorem spH_T {κ : AH} {σ : MS} {c t : Nat} : ∀ s, gT (spH κ σ c s) t = gT κ t
  | 0 => rfl
  | s + 1 => by unfold spH; split <;> exact spH_T s
theorem hRm_a {κ : AH} {σ : MS} {nb c : Nat} {v : Int32} (hR : hRm κ σ nb) : hRm (sI κ (tR c) 6 v) σ nb := by
  obtain ⟨a, b, d⟩ := hR
  refine ⟨a, fun x hx hne => ?_, d⟩
  obtain ⟨⟨p0, p1, p2, p3, p4, p5, p6⟩, j, hj⟩ := b x hx hne
  exact ⟨⟨p0, by simp [gI_sI, p1], p2, by simp [gI_sI, p3], by simp [gI_sI, p4], by simp [gI_sI, p5], by simp [gI_sI, p6]⟩, j, hj⟩
theorem spH_R {κ : AH} {σ : MS} {nb c : Nat} (hR : hRm κ σ nb) : ∀ s, hRm (spH κ σ c s) σ nb
  | 0 => hR
  | s + 1 => by
    unfold spH
    split
    · exact hRm_a (spH_R hR s)
    · exact spH_R hR s
theorem spB_01 {κ : AH} {σ : MS} {c : Nat} : ∀ s, spB κ σ c s = 0 ∨ spB κ σ c s = 1
  | 0 => Or.inl rfl
  | s + 1 => by unfold spB; split; exact Or.inr rfl; exact spB_01 s
set_option maxRecDepth 20000 in
theorem c_X5_spread {w : W0} {κ : AH} {c : Nat} {σ : MS} {nb : Nat} (hG : SG κ) (hR : hRm κ σ nb) (ho : hOK σ) (hc : c < 36) (hf : ¬ σ.2 25 c = -1) : CY w yX5_spread mX5_spread [.ref (tS 2), .ref (tR c)] κ (fun v κ' => v = some (.int (spB κ σ c 4)) ∧ κ' = spH κ σ c 4) := by
  refine CY_of mcX5_spread (Nat.le_of_ble_eq_true rfl) (cat1 rfl) (fun θ0 => ?_)
  have loop4 : ∀ (m s : Nat) (x4 : Option Value), s ≤ 4 → 4 ≤ m + s → Y w mX5_spread θ0 κ (fun v κ' => v = some (.int (spB κ σ c 4)) ∧ κ' = spH κ σ c 4) (fun _ _ => False) 0 0 4 [some (.ref (tS 2)), some (.ref (tR c)), some (.int (spB κ σ c s)), some (.int (nI s)), x4] [] (spH κ σ c s) := by
    intro m
    induction m with
    | zero =>
      intro s x4 hk1 hk2
      have hGi : SG (spH κ σ c s) := spH_SG hG s
      have hex : nI 4 ≤ nI s → s = 4 := by intro z; have := (nI_leI (by omega) (by omega)).mp z; omega
      have hlt : ¬ nI 4 ≤ nI s → s < 4 := by intro z; exact Nat.lt_of_not_le (fun q => z (nI_le q (by omega)))
      refine runY_go rkX5_spread (fun p => Nat.beq p 4 || Nat.beq p 46) 200 rfl ?_
      refine pX5_spread_5 ?_
      refine runY_ok rkX5_spread (fun p => Nat.beq p 4 || Nat.beq p 46) 200 _ _ _ _ _ _ ?_
      refine And.intro (fun c0 => ?_) (fun c0 => ?_)
      · rw [show Int32.ofNat 4 = nI 4 from rfl] at c0
        refine And.intro ⟨Nat.le_of_ble_eq_true rfl, Nat.le_of_ble_eq_true rfl⟩ ?_
        refine And.intro (by have hs := hex (by assumption); subst hs; exact spB_01 4) ?_
        have hs := hex (by assumption)
        subst hs
        exact ⟨rfl, rfl⟩
      · exact absurd (hlt c0) (by omega)
    | succ m ih =>
      intro s x4 hk1 hk2
      have hGi : SG (spH κ σ c s) := spH_SG hG s
      have hex : nI 4 ≤ nI s → s = 4 := by intro z; have := (nI_leI (by omega) (by omega)).mp z; omega
      have hlt : ¬ nI 4 ≤ nI s → s < 4 := by intro z; exact Nat.lt_of_not_le (fun q => z (nI_le q (by omega)))
      have K46 : ∀ x2 : Int32, ∀ x4 : Option Value, s < 4 → x2 = spB κ σ c (s + 1) → Y w mX5_spread θ0 κ (fun v κ' => v = some (.int (spB κ σ c 4)) ∧ κ' = spH κ σ c 4) (fun _ _ => False) 0 0 46 [some (.ref (tS 2)), some (.ref (tR c)), some (.int x2), some (.int (nI s)), x4] [] (spH κ σ c (s + 1)) := by
        intro x2 x4 hs hx2
        subst hx2
        refine runY_go rkX5_spread (fun p => Nat.beq p 4 || Nat.beq p 46) 200 rfl ?_
        have e9 := ih (s + 1) x4 (by omega) (by omega)
        rw [← nI_1 s] at e9
        exact e9
      refine runY_go rkX5_spread (fun p => Nat.beq p 4 || Nat.beq p 46) 200 rfl ?_
      refine pX5_spread_5 ?_
      refine runY_ok rkX5_spread (fun p => Nat.beq p 4 || Nat.beq p 46) 200 _ _ _ _ _ _ ?_
      refine And.intro (fun c1 => ?_) (fun c1 => ?_)
      · rw [show Int32.ofNat 4 = nI 4 from rfl] at c1
        refine And.intro ⟨Nat.le_of_ble_eq_true rfl, Nat.le_of_ble_eq_true rfl⟩ ?_
        refine And.intro (by have hs := hex (by assumption); subst hs; exact spB_01 4) ?_
        have hs := hex (by assumption)
        subst hs
        exact ⟨rfl, rfl⟩
      · rw [show Int32.ofNat 4 = nI 4 from rfl] at c1
        refine pX5_spread_15 rfl rfl rfl hGi.t2 (c_X5_through (spH_SG hG s) (spH_R hR s) ho ((spH_R hR s).2.1 c hc hf).1 hc (hlt (by assumption))) (fun v κ1 hq2 ho2 hk2 => ?_)
        by_cases hs2 : thC σ c s
        · skip
          simp only [hs2, not_true_eq_false, false_and, true_and, false_or] at hq2
          obtain ⟨rfl, ehq2⟩ := hq2
          rw [ehq2]
          refine runY_ok rkX5_spread (fun p => Nat.beq p 4 || Nat.beq p 46) 200 _ _ _ _ _ _ ?_
          refine And.intro (thC_T (spH_R hR s) ho hc (by assumption)).1 ?_
          refine And.intro (fun c3 => ?_) (fun c3 => ?_)
          · skip
            have hs4 := hlt (by assumption)
            first
            | (have e : thB σ c s = true ∧ gI (spH κ σ c s) (tR (stp c (sd s))) 6 = 0 := ⟨thB_iff.mpr (by assumption), by assumption⟩; have e9 := fun x4 => K46 1 x4 hs4 (by unfold spB; rw [if_pos e]); unfold spH at e9; rw [if_pos e] at e9; exact e9 _)
            | (have e : ¬ (thB σ c s = true ∧ gI (spH κ σ c s) (tR (stp c (sd s))) 6 = 0) := (fun z => by first | exact absurd z.2 (by assumption) | exact absurd (thB_iff.mp z.1) (by assumption)); have e9 := fun x4 => K46 _ x4 hs4 rfl; unfold spH spB at e9; simp only [if_neg e] at e9; exact e9 _)
          · skip
            refine And.intro ((spH_R hR s).2.1 c hc hf).1.1 ?_
            refine And.intro (thC_T (spH_R hR s) ho hc (by assumption)).1 ?_
            have hs4 := hlt (by assumption)
            first
            | (have e : thB σ c s = true ∧ gI (spH κ σ c s) (tR (stp c (sd s))) 6 = 0 := ⟨thB_iff.mpr (by assumption), by assumption⟩; have e9 := fun x4 => K46 1 x4 hs4 (by unfold spB; rw [if_pos e]); unfold spH at e9; rw [if_pos e] at e9; exact e9 _)
            | (have e : ¬ (thB σ c s = true ∧ gI (spH κ σ c s) (tR (stp c (sd s))) 6 = 0) := (fun z => by first | exact absurd z.2 (by assumption) | exact absurd (thB_iff.mp z.1) (by assumption)); have e9 := fun x4 => K46 _ x4 hs4 rfl; unfold spH spB at e9; simp only [if_neg e] at e9; exact e9 _)
        · skip
          simp only [hs2, not_false_eq_true, false_and, true_and, or_false] at hq2
          obtain ⟨rfl, ehq2⟩ := hq2
          rw [ehq2]
          refine runY_ok rkX5_spread (fun p => Nat.beq p 4 || Nat.beq p 46) 200 _ _ _ _ _ _ ?_
          have hs4 := hlt (by assumption)
          first
          | (have e : thB σ c s = true ∧ gI (spH κ σ c s) (tR (stp c (sd s))) 6 = 0 := ⟨thB_iff.mpr (by assumption), by assumption⟩; have e9 := fun x4 => K46 1 x4 hs4 (by unfold spB; rw [if_pos e]); unfold spH at e9; rw [if_pos e] at e9; exact e9 _)
          | (have e : ¬ (thB σ c s = true ∧ gI (spH κ σ c s) (tR (stp c (sd s))) 6 = 0) := (fun z => by first | exact absurd z.2 (by assumption) | exact absurd (thB_iff.mp z.1) (by assumption)); have e9 := fun x4 => K46 _ x4 hs4 rfl; unfold spH spB at e9; simp only [if_neg e] at e9; exact e9 _)
  refine runY_ok rkX5_spread (fun p => Nat.beq p 4 || Nat.beq p 46) 200 _ _ _ _ _ _ ?_
  exact loop4 4 0 none (by omega) (by omega)


/-! THE COMPONENT'S WAYS, 4: spreadAll -/
def saH (κ : AH) (σ : MS) (a : Int32) : Nat → AH
  | 0 => κ
  | c + 1 => if ¬ σ.2 25 c = -1 ∧ gI (saH κ σ a c) (tR c) 6 = a then spH (saH κ σ a c) σ c 4 else saH κ σ a c
def saB (κ : AH) (σ : MS) (a : Int32) : Nat → Int32
  | 0 => 0
  | c + 1 => if (¬ σ.2 25 c = -1 ∧ gI (saH κ σ a c) (tR c) 6 = a) ∧ ¬ spB (saH κ σ a c) σ c 4 = 0 then 1 else saB κ σ a c
theorem saH_SG {κ : AH} {σ : MS} {a : Int32} (h : SG κ) : ∀ c, SG (saH κ σ a c)
  | 0 => h
  | c + 1 => by
    unfold saH
    split
    · exact spH_SG (saH_SG h c) 4
    · exact saH_SG h c
theorem saH_R {κ : AH} {σ : MS} {nb : Nat} {a : Int32} (hR : hRm κ σ nb) : ∀ c, hRm (saH κ σ a c) σ nb
  | 0 => hR
  | c + 1 => by
    unfold saH
    split
    · exact spH_R (saH_R hR c) 4
    · exact saH_R hR c
theorem saB_01 {κ : AH} {σ : MS} {a : Int32} : ∀ c, saB κ σ a c = 0 ∨ saB κ σ a c = 1
  | 0 => Or.inl rfl
  | c + 1 => by
    unfold saB
    split
    · exact Or.inr rfl
    · exact saB_01 c
set_option maxRecDepth 20000 in
theorem c_X5_spreadAll {w : W0} {κ : AH} {a : Int32} {σ : MS} {nb : Nat} (hG : SG κ) (hR : hRm κ σ nb) (ho : hOK σ) : CY w yX5_spreadAll mX5_spreadAll [.ref (tS 2), .int a] κ (fun v κ' => v = some (.int (saB κ σ a 36)) ∧ κ' = saH κ σ a 36) := by
  refine CY_of mcX5_spreadAll (Nat.le_of_ble_eq_true rfl) (cat1 rfl) (fun θ0 => ?_)
  have loop17 : ∀ (n k : Nat) (x6 : Option Value), k ≤ 36 → 36 ≤ n + k → Y w mX5_spreadAll θ0 κ (fun v κ' => v = some (.int (saB κ σ a 36)) ∧ κ' = saH κ σ a 36) (fun _ _ => False) 0 0 17 [some (.ref (tS 2)), some (.int a), some (.int (saB κ σ a k)), some (.ref (tS 8)), some (.int (Int32.ofNat (gN κ (tS 8)))), some (.int (nI k)), x6] [] (saH κ σ a k) := by
    intro n
    induction n with
    | zero =>
      intro k x6 hk1 hk2 
      have hex : Int32.ofNat (gN κ (tS 8)) ≤ nI k → k = 36 := by rw [hG.n8]; intro z; have := (nI_leI (a := 36) (by omega) (by omega)).mp z; omega
      have hlt : ¬ Int32.ofNat (gN κ (tS 8)) ≤ nI k → k < 36 := by rw [hG.n8]; intro z; exact Nat.lt_of_not_le (fun q => z (nI_le (a := 36) q (by omega)))
      refine runY_go rkX5_spreadAll (fun p => Nat.beq p 17 || Nat.beq p 55) 200 rfl ?_
      refine And.intro (fun c0 => ?_) (fun c0 => ?_)
      · skip
        refine And.intro ⟨Nat.le_of_ble_eq_true rfl, Nat.le_of_ble_eq_true rfl⟩ ?_
        refine And.intro (by have hs := hex (by assumption); subst hs; exact saB_01 36) ?_
        have hs := hex (by assumption)
        subst hs
        exact ⟨rfl, rfl⟩
      · exact absurd (hlt c0) (by omega)
    | succ n ih =>
      intro k x6 hk1 hk2 
      have hex : Int32.ofNat (gN κ (tS 8)) ≤ nI k → k = 36 := by rw [hG.n8]; intro z; have := (nI_leI (a := 36) (by omega) (by omega)).mp z; omega
      have hlt : ¬ Int32.ofNat (gN κ (tS 8)) ≤ nI k → k < 36 := by rw [hG.n8]; intro z; exact Nat.lt_of_not_le (fun q => z (nI_le (a := 36) q (by omega)))
      have K55 : ∀ x2 : Int32, ∀ x6 : Option Value, k < 36 → x2 = saB κ σ a (k + 1) → Y w mX5_spreadAll θ0 κ (fun v κ' => v = some (.int (saB κ σ a 36)) ∧ κ' = saH κ σ a 36) (fun _ _ => False) 0 0 55 [some (.ref (tS 2)), some (.int a), some (.int x2), some (.ref (tS 8)), some (.int (Int32.ofNat (gN κ (tS 8)))), some (.int (nI k)), x6] [] (saH κ σ a (k + 1)) := by
        intro x2 x6 hk hx2
        subst hx2
        refine runY_go rkX5_spreadAll (fun p => Nat.beq p 17 || Nat.beq p 55) 200 rfl ?_
        have e9 := ih (k + 1) x6 (by omega) (by omega)
        rw [← nI_1 k] at e9
        exact e9
      refine runY_go rkX5_spreadAll (fun p => Nat.beq p 17 || Nat.beq p 55) 200 rfl ?_
      refine And.intro (fun c1 => ?_) (fun c1 => ?_)
      · skip
        refine And.intro ⟨Nat.le_of_ble_eq_true rfl, Nat.le_of_ble_eq_true rfl⟩ ?_
        refine And.intro (by have hs := hex (by assumption); subst hs; exact saB_01 36) ?_
        have hs := hex (by assumption)
        subst hs
        exact ⟨rfl, rfl⟩
      · skip
        by_cases hs2 : σ.2 25 k = -1
        · skip
          refine And.intro ⟨(by rw [(saH_SG hG k).t8]; decide), (by rw [(saH_SG hG k).n8]; exact (vp_in_nI (N := 36) (hlt (by assumption)) (by decide)))⟩ ⟨none, (by have ek : (nI k).toNatClampNeg = k := nI_clamp (by omega); rw [ek]; exact ((saH_R hR k).1 _ (hlt (by assumption))).trans (if_pos hs2)), ?_⟩
          have hk4 := hlt (by assumption)
          first
          | (have e : ¬ σ.2 25 k = -1 ∧ gI (saH κ σ a k) (tR k) 6 = a := ⟨by assumption, by assumption⟩; have e2 : ¬ spB (saH κ σ a k) σ k 4 = 0 := (by assumption); have e9 := fun x6 => K55 1 x6 hk4 (by unfold saB; rw [if_pos ⟨e, e2⟩]); unfold saH at e9; rw [if_pos e] at e9; exact e9 _)
          | (have e : ¬ σ.2 25 k = -1 ∧ gI (saH κ σ a k) (tR k) 6 = a := ⟨by assumption, by assumption⟩; have e2 : spB (saH κ σ a k) σ k 4 = 0 := (by assumption); have e9 := fun x6 => K55 _ x6 hk4 rfl; unfold saH saB at e9; simp only [if_pos e, if_neg (fun z : (¬ σ.2 25 k = -1 ∧ gI (saH κ σ a k) (tR k) 6 = a) ∧ ¬ spB (saH κ σ a k) σ k 4 = 0 => z.2 e2)] at e9; exact e9 _)
          | (have e : ¬ (¬ σ.2 25 k = -1 ∧ gI (saH κ σ a k) (tR k) 6 = a) := (fun z => by first | exact absurd z.2 (by assumption) | exact absurd (by assumption) z.1); have e9 := fun x6 => K55 _ x6 hk4 rfl; unfold saH saB at e9; simp only [if_neg e, if_neg (fun z : (¬ σ.2 25 k = -1 ∧ gI (saH κ σ a k) (tR k) 6 = a) ∧ ¬ spB (saH κ σ a k) σ k 4 = 0 => e z.1)] at e9; exact e9 _)
        · skip
          refine And.intro ⟨(by rw [(saH_SG hG k).t8]; decide), (by rw [(saH_SG hG k).n8]; exact (vp_in_nI (N := 36) (hlt (by assumption)) (by decide)))⟩ ⟨some (tR k), (by have ek : (nI k).toNatClampNeg = k := nI_clamp (by omega); rw [ek]; exact ((saH_R hR k).1 _ (hlt (by assumption))).trans (if_neg hs2)), ?_⟩
          refine And.intro ((saH_R hR k).2.1 k (hlt (by assumption)) (by assumption)).1.1 ?_
          refine And.intro (fun c3 => ?_) (fun c3 => ?_)
          · skip
            have hk4 := hlt (by assumption)
            first
            | (have e : ¬ σ.2 25 k = -1 ∧ gI (saH κ σ a k) (tR k) 6 = a := ⟨by assumption, by assumption⟩; have e2 : ¬ spB (saH κ σ a k) σ k 4 = 0 := (by assumption); have e9 := fun x6 => K55 1 x6 hk4 (by unfold saB; rw [if_pos ⟨e, e2⟩]); unfold saH at e9; rw [if_pos e] at e9; exact e9 _)
            | (have e : ¬ σ.2 25 k = -1 ∧ gI (saH κ σ a k) (tR k) 6 = a := ⟨by assumption, by assumption⟩; have e2 : spB (saH κ σ a k) σ k 4 = 0 := (by assumption); have e9 := fun x6 => K55 _ x6 hk4 rfl; unfold saH saB at e9; simp only [if_pos e, if_neg (fun z : (¬ σ.2 25 k = -1 ∧ gI (saH κ σ a k) (tR k) 6 = a) ∧ ¬ spB (saH κ σ a k) σ k 4 = 0 => z.2 e2)] at e9; exact e9 _)
            | (have e : ¬ (¬ σ.2 25 k = -1 ∧ gI (saH κ σ a k) (tR k) 6 = a) := (fun z => by first | exact absurd z.2 (by assumption) | exact absurd (by assumption) z.1); have e9 := fun x6 => K55 _ x6 hk4 rfl; unfold saH saB at e9; simp only [if_neg e, if_neg (fun z : (¬ σ.2 25 k = -1 ∧ gI (saH κ σ a k) (tR k) 6 = a) ∧ ¬ spB (saH κ σ a k) σ k 4 = 0 => e z.1)] at e9; exact e9 _)
          · skip
            refine pX5_spreadAll_47 rfl rfl rfl (by first | exact hG.t2 | exact (saH_SG hG k).t2) (c_X5_spread (saH_SG hG k) (saH_R hR k) ho (hlt (by assumption)) (by assumption)) (fun v κ1 hq4 ho4 hk4 => ?_)
            obtain ⟨rfl, ehq4⟩ := hq4
            rw [ehq4]
            refine runY_ok rkX5_spreadAll (fun p => Nat.beq p 17 || Nat.beq p 55) 200 _ _ _ _ _ _ ?_
            refine And.intro (fun c5 => ?_) (fun c5 => ?_)
            · skip
              have hk4 := hlt (by assumption)
              first
              | (have e : ¬ σ.2 25 k = -1 ∧ gI (saH κ σ a k) (tR k) 6 = a := ⟨by assumption, by assumption⟩; have e2 : ¬ spB (saH κ σ a k) σ k 4 = 0 := (by assumption); have e9 := fun x6 => K55 1 x6 hk4 (by unfold saB; rw [if_pos ⟨e, e2⟩]); unfold saH at e9; rw [if_pos e] at e9; exact e9 _)
              | (have e : ¬ σ.2 25 k = -1 ∧ gI (saH κ σ a k) (tR k) 6 = a := ⟨by assumption, by assumption⟩; have e2 : spB (saH κ σ a k) σ k 4 = 0 := (by assumption); have e9 := fun x6 => K55 _ x6 hk4 rfl; unfold saH saB at e9; simp only [if_pos e, if_neg (fun z : (¬ σ.2 25 k = -1 ∧ gI (saH κ σ a k) (tR k) 6 = a) ∧ ¬ spB (saH κ σ a k) σ k 4 = 0 => z.2 e2)] at e9; exact e9 _)
              | (have e : ¬ (¬ σ.2 25 k = -1 ∧ gI (saH κ σ a k) (tR k) 6 = a) := (fun z => by first | exact absurd z.2 (by assumption) | exact absurd (by assumption) z.1); have e9 := fun x6 => K55 _ x6 hk4 rfl; unfold saH saB at e9; simp only [if_neg e, if_neg (fun z : (¬ σ.2 25 k = -1 ∧ gI (saH κ σ a k) (tR k) 6 = a) ∧ ¬ spB (saH κ σ a k) σ k 4 = 0 => e z.1)] at e9; exact e9 _)
            · skip
              have hk4 := hlt (by assumption)
              first
              | (have e : ¬ σ.2 25 k = -1 ∧ gI (saH κ σ a k) (tR k) 6 = a := ⟨by assumption, by assumption⟩; have e2 : ¬ spB (saH κ σ a k) σ k 4 = 0 := (by assumption); have e9 := fun x6 => K55 1 x6 hk4 (by unfold saB; rw [if_pos ⟨e, e2⟩]); unfold saH at e9; rw [if_pos e] at e9; exact e9 _)
              | (have e : ¬ σ.2 25 k = -1 ∧ gI (saH κ σ a k) (tR k) 6 = a := ⟨by assumption, by assumption⟩; have e2 : spB (saH κ σ a k) σ k 4 = 0 := (by assumption); have e9 := fun x6 => K55 _ x6 hk4 rfl; unfold saH saB at e9; simp only [if_pos e, if_neg (fun z : (¬ σ.2 25 k = -1 ∧ gI (saH κ σ a k) (tR k) 6 = a) ∧ ¬ spB (saH κ σ a k) σ k 4 = 0 => z.2 e2)] at e9; exact e9 _)
              | (have e : ¬ (¬ σ.2 25 k = -1 ∧ gI (saH κ σ a k) (tR k) 6 = a) := (fun z => by first | exact absurd z.2 (by assumption) | exact absurd (by assumption) z.1); have e9 := fun x6 => K55 _ x6 hk4 rfl; unfold saH saB at e9; simp only [if_neg e, if_neg (fun z : (¬ σ.2 25 k = -1 ∧ gI (saH κ σ a k) (tR k) 6 = a) ∧ ¬ spB (saH κ σ a k) σ k 4 = 0 => e z.1)] at e9; exact e9 _)
  refine runY_ok rkX5_spreadAll (fun p => Nat.beq p 17 || Nat.beq p 55) 200 _ _ _ _ _ _ ?_
  refine And.intro (by first | exact hG.t2 | exact (saH_SG hG k).t2) ⟨some (tS 0), hG.r20, ?_⟩
  refine And.intro hG.t0 ⟨some (tS 8), hG.r00, ?_⟩
  refine And.intro (by rw [hG.t8]; decide) ?_
  exact loop17 36 0 none (by omega) (by omega)


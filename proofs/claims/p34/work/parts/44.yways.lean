/-! THE COMPONENT'S WAYS -/
/-- the model's side for the component's -/
def sd (s : Nat) : Nat := if s = 0 then 2 else if s = 1 then 0 else if s = 2 then 1 else 3
theorem sd_lt {s : Nat} : sd s < 4 := by unfold sd; split; · decide
                                         · split; · decide
                                           · split <;> decide
theorem sideH_eq {s : Nat} (h : s < 4) : sideH s = pw (sd s) := by
  have : ∀ s : Nat, s < 4 → sideH s = pw (sd s) := by decide
  exact this s h
theorem sideS_eq {s c : Nat} (h : s < 4) (hc : c < 36) (ho : okS c (sd s)) : nI c + sideS s = nI (stp c (sd s)) := by
  have hs4 : s = 0 ∨ s = 1 ∨ s = 2 ∨ s = 3 := by omega
  unfold okS at ho
  rcases hs4 with rfl | rfl | rfl | rfl
  · have h1 := ho.2.2.1 rfl
    show nI c + (-12) = nI (c - 12)
    rw [← nI_s12 h1]
    exact (Int32.sub_eq_add_neg (nI c) 12).symm
  · have h1 := ho.1 rfl
    show nI c + (-1) = nI (c - 1)
    rw [← nI_s1 h1]
    exact (Int32.sub_eq_add_neg (nI c) 1).symm
  · exact nI_1 c
  · exact nI_12 c
theorem op_y {σ : MS} {x : Int32} {d : Nat} (e : x.toNatClampNeg = d) (h : ¬ 3 ≤ σ.2 28 x.toNatClampNeg) : opn σ d := e ▸ h
theorem op_n {σ : MS} {x : Int32} {d : Nat} (e : x.toNatClampNeg = d) (h : 3 ≤ σ.2 28 x.toNatClampNeg) (z : opn σ d) : False := z (e ▸ h)
def thC (σ : MS) (c s : Nat) : Prop := hb σ c (sd s) ∧ isRm σ (nI (stp c (sd s))) ∧ opn σ (stp c (sd s))
set_option maxRecDepth 20000 in
theorem c_X5_through {w : W0} {κ : AH} {c s : Nat} {σ : MS} {nb : Nat} (hG : SG κ) (hR : hRm κ σ nb) (ho : hOK σ) (h : pRm κ σ c) (hc : c < 36) (hs : s < 4) : CY w yX5_through mX5_through [.ref (tS 2), .ref (tR c), .int (nI s)] κ (fun v κ' => ((¬ thC σ c s ∧ v = some .null) ∨ (thC σ c s ∧ v = some (.ref (tR (stp c (sd s)))))) ∧ κ' = κ) := by
  refine CY_of mcX5_through (Nat.le_of_ble_eq_true rfl) (cat1 rfl) (fun θ0 => ?_)
  have K66 : ¬ thC σ c s → ∀ x3, Y w mX5_through θ0 κ (fun v κ' => ((¬ thC σ c s ∧ v = some .null) ∨ (thC σ c s ∧ v = some (.ref (tR (stp c (sd s)))))) ∧ κ' = κ) (fun _ _ => False) 0 0 66 [some (.ref (tS 2)), some (.ref (tR c)), some (.int (nI s)), x3] [] κ := by
    intro h0 x3
    refine runY_go rkX5_through (fun p => Nat.beq p 20 || Nat.beq p 66 || Nat.beq p 71) 200 rfl ?_
    refine runY_go rkX5_through noCut 5 rfl ?_
    refine And.intro ⟨Nat.le_of_ble_eq_true rfl, Nat.le_of_ble_eq_true rfl⟩ ?_
    first
    | exact ⟨Or.inl ⟨by assumption, rfl⟩, rfl⟩
    | (have e := (nI_clamp (n := stp c (sd s)) (by have := stp_lt hc (ho c (sd s) hc sd_lt (by assumption)) sd_lt; omega)); exact ⟨Or.inr ⟨⟨by assumption, by assumption, op_y e (by assumption)⟩, by rw [e]⟩, rfl⟩)
  refine runY_ok rkX5_through (fun p => Nat.beq p 20 || Nat.beq p 66 || Nat.beq p 71) 200 _ _ _ _ _ _ ?_
  refine And.intro (fun c1 => ?_) (fun c1 => ?_)
  · skip
    first
    | exact absurd ‹nI s < 0› (nI_pos (by omega))
    | exact absurd ‹nI 4 ≤ nI s› (nI_ge hs (by decide))
    | exact absurd (nI_lt hs (by decide)) ‹¬ nI s < nI 4›
  · skip
    refine pX5_through_5 ?_
    refine runY_ok rkX5_through (fun p => Nat.beq p 20 || Nat.beq p 66 || Nat.beq p 71) 200 _ _ _ _ _ _ ?_
    refine And.intro (fun c2 => ?_) (fun c2 => ?_)
    · rw [show Int32.ofNat 4 = nI 4 from rfl] at c2
      first
      | exact absurd ‹nI s < 0› (nI_pos (by omega))
      | exact absurd ‹nI 4 ≤ nI s› (nI_ge hs (by decide))
      | exact absurd (nI_lt hs (by decide)) ‹¬ nI s < nI 4›
    · rw [show Int32.ofNat 4 = nI 4 from rfl] at c2
      refine pX5_through_13 ?_
      refine runY_ok rkX5_through (fun p => Nat.beq p 20 || Nat.beq p 66 || Nat.beq p 71) 200 _ _ _ _ _ _ ?_
      refine And.intro (fun c3 => ?_) (fun c3 => ?_)
      · rw [show Int32.ofNat 4 = nI 4 from rfl] at c3
        refine And.intro h.1 ?_
        refine pX5_through_26 rfl (vp_in_nI hs (by decide)) ?_
        refine runY_ok rkX5_through (fun p => Nat.beq p 20 || Nat.beq p 66 || Nat.beq p 71) 200 _ _ _ _ _ _ ?_
        refine And.intro (fun c4 => ?_) (fun c4 => ?_)
        · rw [h.2.2.2.2.2.2, nI_clamp (n := s) (by omega), sideH_eq hs] at c4
          refine And.intro hG.t2 ⟨some (tS 0), hG.r20, ?_⟩
          refine And.intro h.1 ?_
          refine pX5_through_45 rfl (vp_in_nI hs (by decide)) ?_
          refine runY_ok rkX5_through (fun p => Nat.beq p 20 || Nat.beq p 66 || Nat.beq p 71) 200 _ _ _ _ _ _ ?_
          refine pX5_through_51 rfl rfl rfl hG.t0 (show CY w yX1_roomOf mX1_roomOf [.ref (tS 0), .int (gI κ (tR c) 0 + sideS (nI s).toNatClampNeg)] κ (fun v κ' => v = some (va_rf (rmO σ (nI (stp c (sd s))))) ∧ κ' = κ) from by rw [h.2.1, nI_clamp (n := s) (by omega), sideS_eq hs hc (ho c (sd s) hc sd_lt (by assumption))]; exact c_X1_roomOf hG hR.1) (fun v κ1 hq5 ho5 hk5 => ?_)
          by_cases hs5 : isRm σ (nI (stp c (sd s)))
          · skip
            rw [rmO_y hs5] at hq5
            obtain ⟨rfl, ehq5⟩ := hq5
            rw [ehq5]
            refine runY_ok rkX5_through (fun p => Nat.beq p 20 || Nat.beq p 66 || Nat.beq p 71) 200 _ _ _ _ _ _ ?_
            refine pX5_through_60 rfl rfl rfl (hR.2.1 _ (isRm_lt (by assumption : isRm σ (nI (stp c (sd s))))) (by assumption : isRm σ (nI (stp c (sd s)))).2).1.1 (c_X4_hasAllPipes (hR.2.1 _ (isRm_lt (by assumption : isRm σ (nI (stp c (sd s))))) (by assumption : isRm σ (nI (stp c (sd s)))).2).1.1) (fun v κ1 hq6 ho6 hk6 => ?_)
            obtain ⟨rfl, ehq6⟩ := hq6
            rw [ehq6]
            refine runY_ok rkX5_through (fun p => Nat.beq p 20 || Nat.beq p 66 || Nat.beq p 71) 200 _ _ _ _ _ _ ?_
            refine And.intro (fun c7 => ?_) (fun c7 => ?_)
            · simp only [b01_eq, b01_ne, Classical.not_not] at c7; rw [(hR.2.1 _ (isRm_lt (by assumption : isRm σ (nI (stp c (sd s))))) (by assumption : isRm σ (nI (stp c (sd s)))).2).1.2.2.2.2.2.1] at c7
              refine runY_go rkX5_through noCut 5 rfl ?_
              refine And.intro ⟨Nat.le_of_ble_eq_true rfl, Nat.le_of_ble_eq_true rfl⟩ ?_
              first
              | exact ⟨Or.inl ⟨by assumption, rfl⟩, rfl⟩
              | (have e := (nI_clamp (n := stp c (sd s)) (by have := stp_lt hc (ho c (sd s) hc sd_lt (by assumption)) sd_lt; omega)); exact ⟨Or.inr ⟨⟨by assumption, by assumption, op_y e (by assumption)⟩, by rw [e]⟩, rfl⟩)
            · simp only [b01_eq, b01_ne, Classical.not_not] at c7; rw [(hR.2.1 _ (isRm_lt (by assumption : isRm σ (nI (stp c (sd s))))) (by assumption : isRm σ (nI (stp c (sd s)))).2).1.2.2.2.2.2.1] at c7
              exact K66 (fun z => by first | exact absurd z.2.1 (by assumption) | exact op_n (nI_clamp (n := stp c (sd s)) (by have := stp_lt hc (ho c (sd s) hc sd_lt (by assumption)) sd_lt; omega)) (by assumption) z.2.2) _
          · skip
            rw [rmO_n hs5] at hq5
            obtain ⟨rfl, ehq5⟩ := hq5
            rw [ehq5]
            refine runY_ok rkX5_through (fun p => Nat.beq p 20 || Nat.beq p 66 || Nat.beq p 71) 200 _ _ _ _ _ _ ?_
            exact K66 (fun z => by first | exact absurd z.2.1 (by assumption) | exact op_n (nI_clamp (n := stp c (sd s)) (by have := stp_lt hc (ho c (sd s) hc sd_lt (by assumption)) sd_lt; omega)) (by assumption) z.2.2) _
        · rw [h.2.2.2.2.2.2, nI_clamp (n := s) (by omega), sideH_eq hs] at c4
          refine And.intro ⟨Nat.le_of_ble_eq_true rfl, Nat.le_of_ble_eq_true rfl⟩ ?_
          exact ⟨Or.inl ⟨fun z => absurd (by assumption) z.1, rfl⟩, rfl⟩
      · rw [show Int32.ofNat 4 = nI 4 from rfl] at c3
        first
        | exact absurd ‹nI s < 0› (nI_pos (by omega))
        | exact absurd ‹nI 4 ≤ nI s› (nI_ge hs (by decide))
        | exact absurd (nI_lt hs (by decide)) ‹¬ nI s < nI 4›



/-! THE COMPONENT'S PUBLIC METHODS, 6: scrap, launch -/
def scH (κ : AH) (σ : MS) (b : Int32) : Nat → AH
  | 0 => κ
  | n + 1 => if whl σ (nI n) = b then sI (scH κ σ b n) (tB n) 8 3 else scH κ σ b n
theorem scH_T {κ : AH} {σ : MS} {b : Int32} {t : Nat} : ∀ n, gT (scH κ σ b n) t = gT κ t
  | 0 => rfl
  | n + 1 => by unfold scH; split <;> exact scH_T n
theorem scH_N {κ : AH} {σ : MS} {b : Int32} {t : Nat} : ∀ n, gN (scH κ σ b n) t = gN κ t
  | 0 => rfl
  | n + 1 => by unfold scH; split <;> exact scH_N n
theorem scH_R {κ : AH} {σ : MS} {b : Int32} {t j : Nat} : ∀ n, gR (scH κ σ b n) t j = gR κ t j
  | 0 => rfl
  | n + 1 => by unfold scH; split <;> exact scH_R n
theorem scH_ch {κ : AH} {σ : MS} {nb : Nat} {b : Int32} (h : hCh κ σ nb) (n : Nat) : hCh (scH κ σ b n) σ nb := fun i hi => ⟨(scH_T n).trans (h i hi).1, (scH_R n).trans (h i hi).2⟩
theorem whI_hit {σ : MS} {nb k : Nat} {b : Int32} (hn : nb ≤ 60) (hc : chn σ nb) (hk : k < nb) (hb : isB nb b) : tB (whI σ k) = tB b.toNatClampNeg ↔ whl σ (nI k) = b := by
  rw [tB_inj, (whI_lt hc hk).2]
  have eb := in_n (in_of hb.1 (by have := Int32.lt_iff_toInt_lt.mp hb.2; rw [nI_toInt (by omega)] at this; exact this) : vp_in b nb)
  have h1 := (whI_lt hc hk).1
  have h2 := isB_cl (by omega) hb
  constructor
  · intro z; rw [z, ← eb]
  · intro z; rw [eb] at z; exact (nI_eq (by omega) (by omega)).mp z
set_option maxRecDepth 20000 in
theorem c_X8_scrap {w : W0} {κ : AH} {b : Int32} {σ : MS} {nb : Nat} (hn : nb ≤ 60) (eb : σ.1 8 = nI nb) (hG : SG κ) (hR : hRm κ σ nb) (hBk : hB κ σ nb) (hch : chn σ nb) : CYV w yX8_scrap mX8_scrap [.ref (tS 4), .int b] κ (fun v κ' => kScr σ b = 0 ∧ v = some (.int (sm (fSc σ b) nb)) ∧ κ' = scH κ σ b nb) (fun E κ' => κ' = κ ∧ ((kScr σ b = 1 ∧ E = "java/lang/IndexOutOfBoundsException") ∨ (kScr σ b = 2 ∧ E = "java/lang/IllegalStateException"))) := by
  refine CYV_of mcX8_scrap (Nat.le_of_ble_eq_true rfl) (cat1 rfl) (fun θ0 => ?_)
  have hbl := fun x => isB_blk (x := x) hn eb
  have loop53 : ∀ (n k : Nat) (x3 : Int32) (x7 : Option Value), k ≤ 60 → 60 ≤ n + k → (isB nb b) → (kScr σ b = 0) → (x3 = sm (fSc σ b) (min k nb)) → Y w mX8_scrap θ0 κ (fun v κ' => kScr σ b = 0 ∧ v = some (.int (sm (fSc σ b) nb)) ∧ κ' = scH κ σ b nb) (fun E κ' => κ' = κ ∧ ((kScr σ b = 1 ∧ E = "java/lang/IndexOutOfBoundsException") ∨ (kScr σ b = 2 ∧ E = "java/lang/IllegalStateException"))) 0 0 53 [some (.ref (tS 4)), some (.int b), some (.ref (tB b.toNatClampNeg)), some (.int x3), some (.ref (tS 5)), some (.int (Int32.ofNat (gN κ (tS 5)))), some (.int (nI k)), x7] [] (scH κ σ b (min k nb)) := by
    intro n
    induction n with
    | zero =>
      intro k x3 x7 hk1 hk2 hib hk0 hx3
      have hex : Int32.ofNat (gN κ (tS 5)) ≤ nI k → k = 60 := by rw [hG.n5]; intro z; have := (nI_leI (a := 60) (by omega) (by omega)).mp z; omega
      have hlt : ¬ Int32.ofNat (gN κ (tS 5)) ≤ nI k → k < 60 := by rw [hG.n5]; intro z; exact Nat.lt_of_not_le (fun q => z (nI_le (a := 60) q (by omega)))
      refine runY_go rkX8_scrap (fun p => Nat.beq p 53 || Nat.beq p 90) 200 rfl ?_
      refine And.intro (fun c0 => ?_) (fun c0 => ?_)
      · skip
        refine And.intro ⟨Nat.le_of_ble_eq_true rfl, Nat.le_of_ble_eq_true rfl⟩ ?_
        have hk := hex (by assumption)
        subst hk
        rw [Nat.min_eq_right hn]
        exact ⟨hk0, by rw [hx3, Nat.min_eq_right hn], rfl⟩
      · exact absurd (hlt c0) (by omega)
    | succ n ih =>
      intro k x3 x7 hk1 hk2 hib hk0 hx3
      have hex : Int32.ofNat (gN κ (tS 5)) ≤ nI k → k = 60 := by rw [hG.n5]; intro z; have := (nI_leI (a := 60) (by omega) (by omega)).mp z; omega
      have hlt : ¬ Int32.ofNat (gN κ (tS 5)) ≤ nI k → k < 60 := by rw [hG.n5]; intro z; exact Nat.lt_of_not_le (fun q => z (nI_le (a := 60) q (by omega)))
      have K90 : ∀ x3 : Int32, ∀ x7 : Option Value, k < 60 → x3 = sm (fSc σ b) (min (k + 1) nb) → Y w mX8_scrap θ0 κ (fun v κ' => kScr σ b = 0 ∧ v = some (.int (sm (fSc σ b) nb)) ∧ κ' = scH κ σ b nb) (fun E κ' => κ' = κ ∧ ((kScr σ b = 1 ∧ E = "java/lang/IndexOutOfBoundsException") ∨ (kScr σ b = 2 ∧ E = "java/lang/IllegalStateException"))) 0 0 90 [some (.ref (tS 4)), some (.int b), some (.ref (tB b.toNatClampNeg)), some (.int x3), some (.ref (tS 5)), some (.int (Int32.ofNat (gN κ (tS 5)))), some (.int (nI k)), x7] [] (scH κ σ b (min (k + 1) nb)) := by
        intro x3 x7 hkl hx3
        refine runY_go rkX8_scrap (fun p => Nat.beq p 53 || Nat.beq p 90) 200 rfl ?_
        have e9 := ih (k + 1) x3 x7 (by omega) (by omega) hib hk0 hx3
        rw [← nI_1 k] at e9
        exact e9
      refine runY_go rkX8_scrap (fun p => Nat.beq p 53 || Nat.beq p 90) 200 rfl ?_
      refine And.intro (fun c1 => ?_) (fun c1 => ?_)
      · skip
        refine And.intro ⟨Nat.le_of_ble_eq_true rfl, Nat.le_of_ble_eq_true rfl⟩ ?_
        have hk := hex (by assumption)
        subst hk
        rw [Nat.min_eq_right hn]
        exact ⟨hk0, by rw [hx3, Nat.min_eq_right hn], rfl⟩
      · skip
        by_cases hs2 : k < nb
        · skip
          refine And.intro ⟨(by first | (rw [hG.t5]; decide) | (rw [scH_T, hG.t5]; decide)), (by rw [scH_N, hG.n5]; exact vp_in_nI (N := 60) (hlt (by assumption)) (by decide))⟩ ⟨some (tB k), (by have ek : (nI k).toNatClampNeg = k := nI_clamp (by omega); rw [ek]; exact (scH_R _).trans ((hBk.1 _ (hlt (by assumption))).trans (if_pos hs2))), ?_⟩
          refine pX8_scrap_74 rfl rfl rfl ((scH_T _).trans (hBk.2.1 k (by assumption)).1) (c_X0_outermost hch (scH_ch (hB.ch hBk) _) (by assumption)) (fun v κ1 hq3 ho3 hk3 => ?_)
          obtain ⟨rfl, ehq3⟩ := hq3
          rw [ehq3]
          refine runY_ok rkX8_scrap (fun p => Nat.beq p 53 || Nat.beq p 90) 200 _ _ _ _ _ _ ?_
          refine And.intro (fun c4 => ?_) (fun c4 => ?_)
          · rw [whI_hit hn hch (by assumption) (by assumption)] at c4
            have hkl := hlt (by assumption)
            by_cases hkb : k < nb
            · have m1 : min k nb = k := by omega
              have m2 : min (k + 1) nb = k + 1 := by omega
              rw [m1] at hx3 ⊢
              rw [m2] at K90
              first
              | (refine cast (congrArg (fun q => Y w mX8_scrap θ0 κ _ _ 0 0 90 _ [] q) ?_) (K90 _ _ hkl (by show _ = sm (fSc σ b) k + fSc σ b k; rw [fSc_hit (by assumption), ← hx3])); exact if_pos (by assumption))
              | (refine cast (congrArg (fun q => Y w mX8_scrap θ0 κ _ _ 0 0 90 _ [] q) ?_) (K90 _ _ hkl (by show _ = sm (fSc σ b) k + fSc σ b k; rw [fSc_miss (by assumption), Int32.add_zero, ← hx3])); exact if_neg (by assumption))
              | exact absurd hkb (by assumption)
            · have m1 : min k nb = nb := by omega
              have m2 : min (k + 1) nb = nb := by omega
              rw [m1] at hx3 ⊢
              rw [m2] at K90
              first | exact K90 _ _ hkl hx3 | exact absurd (by assumption) hkb
          · rw [whI_hit hn hch (by assumption) (by assumption)] at c4
            refine And.intro ((scH_T _).trans (hBk.2.1 k (by assumption)).1) ?_
            have hkl := hlt (by assumption)
            by_cases hkb : k < nb
            · have m1 : min k nb = k := by omega
              have m2 : min (k + 1) nb = k + 1 := by omega
              rw [m1] at hx3 ⊢
              rw [m2] at K90
              first
              | (refine cast (congrArg (fun q => Y w mX8_scrap θ0 κ _ _ 0 0 90 _ [] q) ?_) (K90 _ _ hkl (by show _ = sm (fSc σ b) k + fSc σ b k; rw [fSc_hit (by assumption), ← hx3])); exact if_pos (by assumption))
              | (refine cast (congrArg (fun q => Y w mX8_scrap θ0 κ _ _ 0 0 90 _ [] q) ?_) (K90 _ _ hkl (by show _ = sm (fSc σ b) k + fSc σ b k; rw [fSc_miss (by assumption), Int32.add_zero, ← hx3])); exact if_neg (by assumption))
              | exact absurd hkb (by assumption)
            · have m1 : min k nb = nb := by omega
              have m2 : min (k + 1) nb = nb := by omega
              rw [m1] at hx3 ⊢
              rw [m2] at K90
              first | exact K90 _ _ hkl hx3 | exact absurd (by assumption) hkb
        · skip
          refine And.intro ⟨(by first | (rw [hG.t5]; decide) | (rw [scH_T, hG.t5]; decide)), (by rw [scH_N, hG.n5]; exact vp_in_nI (N := 60) (hlt (by assumption)) (by decide))⟩ ⟨none, (by have ek : (nI k).toNatClampNeg = k := nI_clamp (by omega); rw [ek]; exact (scH_R _).trans ((hBk.1 _ (hlt (by assumption))).trans (if_neg hs2))), ?_⟩
          have hkl := hlt (by assumption)
          by_cases hkb : k < nb
          · have m1 : min k nb = k := by omega
            have m2 : min (k + 1) nb = k + 1 := by omega
            rw [m1] at hx3 ⊢
            rw [m2] at K90
            first
            | (refine cast (congrArg (fun q => Y w mX8_scrap θ0 κ _ _ 0 0 90 _ [] q) ?_) (K90 _ _ hkl (by show _ = sm (fSc σ b) k + fSc σ b k; rw [fSc_hit (by assumption), ← hx3])); exact if_pos (by assumption))
            | (refine cast (congrArg (fun q => Y w mX8_scrap θ0 κ _ _ 0 0 90 _ [] q) ?_) (K90 _ _ hkl (by show _ = sm (fSc σ b) k + fSc σ b k; rw [fSc_miss (by assumption), Int32.add_zero, ← hx3])); exact if_neg (by assumption))
            | exact absurd hkb (by assumption)
          · have m1 : min k nb = nb := by omega
            have m2 : min (k + 1) nb = nb := by omega
            rw [m1] at hx3 ⊢
            rw [m2] at K90
            first | exact K90 _ _ hkl hx3 | exact absurd (by assumption) hkb
  refine runY_ok rkX8_scrap (fun p => Nat.beq p 53 || Nat.beq p 90) 200 _ _ _ _ _ _ ?_
  refine pX8_scrap_2 rfl rfl rfl hG.t4 (c_X8_blockOf hn hG hBk.1) (fun v κ1 hq5 ho5 hk5 => ?_)
  by_cases hs5 : isB nb b
  · skip
    rw [blO_y hs5] at hq5
    obtain ⟨rfl, ehq5⟩ := hq5
    rw [ehq5]
    refine runY_ok rkX8_scrap (fun p => Nat.beq p 53 || Nat.beq p 90) 200 _ _ _ _ _ _ ?_
    refine And.intro (hBk.2.1 _ (isB_cl (by omega) (by assumption : isB nb b))).1 ?_
    refine And.intro (fun c6 => ?_) (fun c6 => ?_)
    · rw [(hBk.2.1 _ (isB_cl (by omega) (by assumption : isB nb b))).2.2.2.2.2.2.2.2.2.1] at c6
      refine And.intro hG.t4 ⟨some (tS 5), hG.r40, ?_⟩
      refine And.intro (by rw [hG.t5]; decide) ?_
      have e9 := loop53 60 0 0 none (by omega) (by omega) (by assumption) (by unfold kScr; rw [if_pos ((hbl b).mpr (by assumption)), if_pos (by assumption)]) (by rw [Nat.zero_min]; rfl)
      rw [Nat.zero_min] at e9
      exact e9
    · rw [(hBk.2.1 _ (isB_cl (by omega) (by assumption : isB nb b))).2.2.2.2.2.2.2.2.2.1] at c6
      refine yX8_scrap_27z (st := []) rfl rfl ?_
      refine ⟨rfl, Or.inr (⟨?_, rfl⟩)⟩
      unfold kScr; rw [if_pos ((hbl b).mpr (by assumption)), if_neg (by assumption)]
  · skip
    rw [blO_n hs5] at hq5
    obtain ⟨rfl, ehq5⟩ := hq5
    rw [ehq5]
    refine runY_ok rkX8_scrap (fun p => Nat.beq p 53 || Nat.beq p 90) 200 _ _ _ _ _ _ ?_
    refine yX8_scrap_10z (st := []) rfl rfl ?_
    refine ⟨rfl, Or.inl ⟨?_, rfl⟩⟩
    unfold kScr; rw [if_neg (fun z => absurd ((hbl b).mp z) (by assumption))]

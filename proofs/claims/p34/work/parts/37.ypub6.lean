/-! THE COMPONENT'S PUBLIC METHODS, 6: scrap, launch -/
def scH (κ : AH) (σ : MS) (b : Int32) : Nat → AH
  | 0 => κ
  | n + 1 => if whl σ (nI n) = b then sI (scH κ σ b n) (tB n) 8 3 else scH κ σ b n
theorem scH_T {κ : AH} {σ : MS} {b : Int32} {t : Nat} : ∀ n, gT (scH κ σ b n) t = gT κ t
  | 0 => rfl
  | n + 1 => by unfold scH; split <;> exact scH_T n
theorem scH_N {κ : AH} {σ : MS} {b : Int32} {t : Nat} : ∀ n, gN (scH κ σ b n) t = gN κ t
  | 0 => rfl
  | n + 1 => by unfold scH; split <;> exact scH_N n
theorem scH_R {κ : AH} {σ : MS} {b : Int32} {t j : Nat} : ∀ n, gR (scH κ σ b n) t j = gR κ t j
  | 0 => rfl
  | n + 1 => by unfold scH; split <;> exact scH_R n
theorem scH_ch {κ : AH} {σ : MS} {nb : Nat} {b : Int32} (h : hCh κ σ nb) (n : Nat) : hCh (scH κ σ b n) σ nb := fun i hi => ⟨(scH_T n).trans (h i hi).1, (scH_R n).trans (h i hi).2⟩
theorem whI_hit {σ : MS} {nb k : Nat} {b : Int32} (hn : nb ≤ 60) (hc : chn σ nb) (hk : k < nb) (hb : isB nb b) : tB (whI σ k) = tB b.toNatClampNeg ↔ whl σ (nI k) = b := by
  rw [tB_inj, (whI_lt hc hk).2]
  have eb := in_n (in_of hb.1 (by have := Int32.lt_iff_toInt_lt.mp hb.2; rw [nI_toInt (by omega)] at this; exact this) : vp_in b nb)
  have h1 := (whI_lt hc hk).1
  have h2 := isB_cl (by omega) hb
  constructor
  · intro z; rw [z, ← eb]
  · intro z; rw [eb] at z; exact (nI_eq (by omega) (by omega)).mp z
set_option maxRecDepth 20000 in
theorem c_X8_scrap {w : W0} {κ : AH} {b : Int32} {σ : MS} {nb : Nat} (hn : nb ≤ 60) (eb : σ.1 8 = nI nb) (hG : SG κ) (hR : hRm κ σ nb) (hBk : hB κ σ nb) (hch : chn σ nb) : CYV w yX8_scrap mX8_scrap [.ref (tS 4), .int b] κ (fun v κ' => kScr σ b = 0 ∧ v = some (.int (sm (fSc σ b) nb)) ∧ κ' = scH κ σ b nb) (fun E κ' => κ' = κ ∧ ((kScr σ b = 1 ∧ E = "java/lang/IndexOutOfBoundsException") ∨ (kScr σ b = 2 ∧ E = "java/lang/IllegalStateException"))) := by
  refine CYV_of mcX8_scrap (Nat.le_of_ble_eq_true rfl) (cat1 rfl) (fun θ0 => ?_)
  have hbl := fun x => isB_blk (x := x) hn eb
  have loop53 : ∀ (n k : Nat) (x3 : Int32) (x7 : Option Value), k ≤ 60 → 60 ≤ n + k → (isB nb b) → (kScr σ b = 0) → (x3 = sm (fSc σ b) (min k nb)) → Y w mX8_scrap θ0 κ (fun v κ' => kScr σ b = 0 ∧ v = some (.int (sm (fSc σ b) nb)) ∧ κ' = scH κ σ b nb) (fun E κ' => κ' = κ ∧ ((kScr σ b = 1 ∧ E = "java/lang/IndexOutOfBoundsException") ∨ (kScr σ b = 2 ∧ E = "java/lang/IllegalStateException"))) 0 0 53 [some (.ref (tS 4)), some (.int b), some (.ref (tB b.toNatClampNeg)), some (.int x3), some (.ref (tS 5)), some (.int (Int32.ofNat (gN κ (tS 5)))), some (.int (nI k)), x7] [] (scH κ σ b (min k nb)) := by
    intro n
    induction n with
    | zero =>
      intro k x3 x7 hk1 hk2 hib hk0 hx3
      have hex : Int32.ofNat (gN κ (tS 5)) ≤ nI k → k = 60 := by rw [hG.n5]; intro z; have := (nI_leI (a := 60) (by omega) (by omega)).mp z; omega
      have hlt : ¬ Int32.ofNat (gN κ (tS 5)) ≤ nI k → k < 60 := by rw [hG.n5]; intro z; exact Nat.lt_of_not_le (fun q => z (nI_le (a := 60) q (by omega)))
      refine runY_go rkX8_scrap (fun p => Nat.beq p 53 || Nat.beq p 90) 200 rfl ?_
      refine And.intro (fun c0 => ?_) (fun c0 => ?_)
      · skip
        refine And.intro ⟨Nat.le_of_ble_eq_true rfl, Nat.le_of_ble_eq_true rfl⟩ ?_
        have hk := hex (by assumption)
        subst hk
        rw [Nat.min_eq_right hn]
        exact ⟨hk0, by rw [hx3, Nat.min_eq_right hn], rfl⟩
      · exact absurd (hlt c0) (by omega)
    | succ n ih =>
      intro k x3 x7 hk1 hk2 hib hk0 hx3
      have hex : Int32.ofNat (gN κ (tS 5)) ≤ nI k → k = 60 := by rw [hG.n5]; intro z; have := (nI_leI (a := 60) (by omega) (by omega)).mp z; omega
      have hlt : ¬ Int32.ofNat (gN κ (tS 5)) ≤ nI k → k < 60 := by rw [hG.n5]; intro z; exact Nat.lt_of_not_le (fun q => z (nI_le (a := 60) q (by omega)))
      have K90 : ∀ x3 : Int32, ∀ x7 : Option Value, k < 60 → x3 = sm (fSc σ b) (min (k + 1) nb) → Y w mX8_scrap θ0 κ (fun v κ' => kScr σ b = 0 ∧ v = some (.int (sm (fSc σ b) nb)) ∧ κ' = scH κ σ b nb) (fun E κ' => κ' = κ ∧ ((kScr σ b = 1 ∧ E = "java/lang/IndexOutOfBoundsException") ∨ (kScr σ b = 2 ∧ E = "java/lang/IllegalStateException"))) 0 0 90 [some (.ref (tS 4)), some (.int b), some (.ref (tB b.toNatClampNeg)), some (.int x3), some (.ref (tS 5)), some (.int (Int32.ofNat (gN κ (tS 5)))), some (.int (nI k)), x7] [] (scH κ σ b (min (k + 1) nb)) := by
        intro x3 x7 hkl hx3
        refine runY_go rkX8_scrap (fun p => Nat.beq p 53 || Nat.beq p 90) 200 rfl ?_
        have e9 := ih (k + 1) x3 x7 (by omega) (by omega) hib hk0 hx3
        rw [← nI_1 k] at e9
        exact e9
      refine runY_go rkX8_scrap (fun p => Nat.beq p 53 || Nat.beq p 90) 200 rfl ?_
      refine And.intro (fun c1 => ?_) (fun c1 => ?_)
      · skip
        refine And.intro ⟨Nat.le_of_ble_eq_true rfl, Nat.le_of_ble_eq_true rfl⟩ ?_
        have hk := hex (by assumption)
        subst hk
        rw [Nat.min_eq_right hn]
        exact ⟨hk0, by rw [hx3, Nat.min_eq_right hn], rfl⟩
      · skip
        by_cases hs2 : k < nb
        · skip
          refine And.intro ⟨(by first | (rw [hG.t5]; decide) | (rw [scH_T, hG.t5]; decide)), (by rw [scH_N, hG.n5]; exact vp_in_nI (N := 60) (hlt (by assumption)) (by decide))⟩ ⟨some (tB k), (by have ek : (nI k).toNatClampNeg = k := nI_clamp (by omega); rw [ek]; exact (scH_R _).trans ((hBk.1 _ (hlt (by assumption))).trans (if_pos hs2))), ?_⟩
          refine pX8_scrap_74 rfl rfl rfl ((scH_T _).trans (hBk.2.1 k (by assumption)).1) (c_X0_outermost hch (scH_ch (hB.ch hBk) _) (by assumption)) (fun v κ1 hq3 ho3 hk3 => ?_)
          obtain ⟨rfl, ehq3⟩ := hq3
          rw [ehq3]
          refine runY_ok rkX8_scrap (fun p => Nat.beq p 53 || Nat.beq p 90) 200 _ _ _ _ _ _ ?_
          refine And.intro (fun c4 => ?_) (fun c4 => ?_)
          · rw [whI_hit hn hch (by assumption) (by assumption)] at c4
            have hkl := hlt (by assumption)
            by_cases hkb : k < nb
            · have m1 : min k nb = k := by omega
              have m2 : min (k + 1) nb = k + 1 := by omega
              rw [m1] at hx3 ⊢
              rw [m2] at K90
              first
              | (refine cast (congrArg (fun q => Y w mX8_scrap θ0 κ _ _ 0 0 90 _ [] q) ?_) (K90 _ _ hkl (by show _ = sm (fSc σ b) k + fSc σ b k; rw [fSc_hit (by assumption), ← hx3])); exact if_pos (by assumption))
              | (refine cast (congrArg (fun q => Y w mX8_scrap θ0 κ _ _ 0 0 90 _ [] q) ?_) (K90 _ _ hkl (by show _ = sm (fSc σ b) k + fSc σ b k; rw [fSc_miss (by assumption), Int32.add_zero, ← hx3])); exact if_neg (by assumption))
              | exact absurd hkb (by assumption)
            · have m1 : min k nb = nb := by omega
              have m2 : min (k + 1) nb = nb := by omega
              rw [m1] at hx3 ⊢
              rw [m2] at K90
              first | exact K90 _ _ hkl hx3 | exact absurd (by assumption) hkb
          · rw [whI_hit hn hch (by assumption) (by assumption)] at c4
            refine And.intro ((scH_T _).trans (hBk.2.1 k (by assumption)).1) ?_
            have hkl := hlt (by assumption)
            by_cases hkb : k < nb
            · have m1 : min k nb = k := by omega
              have m2 : min (k + 1) nb = k + 1 := by omega
              rw [m1] at hx3 ⊢
              rw [m2] at K90
              first
              | (refine cast (congrArg (fun q => Y w mX8_scrap θ0 κ _ _ 0 0 90 _ [] q) ?_) (K90 _ _ hkl (by show _ = sm (fSc σ b) k + fSc σ b k; rw [fSc_hit (by assumption), ← hx3])); exact if_pos (by assumption))
              | (refine cast (congrArg (fun q => Y w mX8_scrap θ0 κ _ _ 0 0 90 _ [] q) ?_) (K90 _ _ hkl (by show _ = sm (fSc σ b) k + fSc σ b k; rw [fSc_miss (by assumption), Int32.add_zero, ← hx3])); exact if_neg (by assumption))
              | exact absurd hkb (by assumption)
            · have m1 : min k nb = nb := by omega
              have m2 : min (k + 1) nb = nb := by omega
              rw [m1] at hx3 ⊢
              rw [m2] at K90
              first | exact K90 _ _ hkl hx3 | exact absurd (by assumption) hkb
        · skip
          refine And.intro ⟨(by first | (rw [hG.t5]; decide) | (rw [scH_T, hG.t5]; decide)), (by rw [scH_N, hG.n5]; exact vp_in_nI (N := 60) (hlt (by assumption)) (by decide))⟩ ⟨none, (by have ek : (nI k).toNatClampNeg = k := nI_clamp (by omega); rw [ek]; exact (scH_R _).trans ((hBk.1 _ (hlt (by assumption))).trans (if_neg hs2))), ?_⟩
          have hkl := hlt (by assumption)
          by_cases hkb : k < nb
          · have m1 : min k nb = k := by omega
            have m2 : min (k + 1) nb = k + 1 := by omega
            rw [m1] at hx3 ⊢
            rw [m2] at K90
            first
            | (refine cast (congrArg (fun q => Y w mX8_scrap θ0 κ _ _ 0 0 90 _ [] q) ?_) (K90 _ _ hkl (by show _ = sm (fSc σ b) k + fSc σ b k; rw [fSc_hit (by assumption), ← hx3])); exact if_pos (by assumption))
            | (refine cast (congrArg (fun q => Y w mX8_scrap θ0 κ _ _ 0 0 90 _ [] q) ?_) (K90 _ _ hkl (by show _ = sm (fSc σ b) k + fSc σ b k; rw [fSc_miss (by assumption), Int32.add_zero, ← hx3])); exact if_neg (by assumption))
            | exact absurd hkb (by assumption)
          · have m1 : min k nb = nb := by omega
            have m2 : min (k + 1) nb = nb := by omega
            rw [m1] at hx3 ⊢
            rw [m2] at K90
            first | exact K90 _ _ hkl hx3 | exact absurd (by assumption) hkb
  refine runY_ok rkX8_scrap (fun p => Nat.beq p 53 || Nat.beq p 90) 200 _ _ _ _ _ _ ?_
  refine pX8_scrap_2 rfl rfl rfl hG.t4 (c_X8_blockOf hn hG hBk.1) (fun v κ1 hq5 ho5 hk5 => ?_)
  by_cases hs5 : isB nb b
  · skip
    rw [blO_y hs5] at hq5
    obtain ⟨rfl, ehq5⟩ := hq5
    rw [ehq5]
    refine runY_ok rkX8_scrap (fun p => Nat.beq p 53 || Nat.beq p 90) 200 _ _ _ _ _ _ ?_
    refine And.intro (hBk.2.1 _ (isB_cl (by omega) (by assumption : isB nb b))).1 ?_
    refine And.intro (fun c6 => ?_) (fun c6 => ?_)
    · rw [(hBk.2.1 _ (isB_cl (by omega) (by assumption : isB nb b))).2.2.2.2.2.2.2.2.2.1] at c6
      refine And.intro hG.t4 ⟨some (tS 5), hG.r40, ?_⟩
      refine And.intro (by rw [hG.t5]; decide) ?_
      have e9 := loop53 60 0 0 none (by omega) (by omega) (by assumption) (by unfold kScr; rw [if_pos ((hbl b).mpr (by assumption)), if_pos (by assumption)]) (by rw [Nat.zero_min]; rfl)
      rw [Nat.zero_min] at e9
      exact e9
    · rw [(hBk.2.1 _ (isB_cl (by omega) (by assumption : isB nb b))).2.2.2.2.2.2.2.2.2.1] at c6
      refine yX8_scrap_27z (st := []) rfl rfl ?_
      refine ⟨rfl, Or.inr (⟨?_, rfl⟩)⟩
      unfold kScr; rw [if_pos ((hbl b).mpr (by assumption)), if_neg (by assumption)]
  · skip
    rw [blO_n hs5] at hq5
    obtain ⟨rfl, ehq5⟩ := hq5
    rw [ehq5]
    refine runY_ok rkX8_scrap (fun p => Nat.beq p 53 || Nat.beq p 90) 200 _ _ _ _ _ _ ?_
    refine yX8_scrap_10z (st := []) rfl rfl ?_
    refine ⟨rfl, Or.inl ⟨?_, rfl⟩⟩
    unfold kScr; rw [if_neg (fun z => absurd ((hbl b).mp z) (by assumption))]

theorem allW_f {σ : MS} {n k : Nat} (h : k < n) (h1 : iSta σ (nI k)) (h2 : ¬ σ.2 19 k = 1) : ¬ allW σ n = true := by
  unfold allW
  rw [List.all_eq_true]
  intro z
  have := z k (List.mem_range.mpr h)
  rw [Bool.or_eq_true, decide_eq_true_eq, decide_eq_true_eq] at this
  exact this.elim (fun q => q h1) h2
theorem allW_t {σ : MS} {k : Nat} (h0 : allW σ k = true) (h : ¬ iSta σ (nI k) ∨ σ.2 19 k = 1) : allW σ (k + 1) = true := by
  rw [allW_succ, h0, Bool.true_and, Bool.or_eq_true, decide_eq_true_eq, decide_eq_true_eq]
  exact h
theorem whlP_of {σ : MS} {nw : Nat} : whlP σ nw = true ↔ σ.1 6 = 0 ∧ allF σ 36 = true ∧ allW σ nw = true := by
  unfold whlP
  rw [Bool.and_eq_true, Bool.and_eq_true, decide_eq_true_eq]
  exact ⟨fun z => ⟨z.1.1, z.1.2, z.2⟩, fun z => ⟨⟨z.1, z.2.1⟩, z.2.2⟩⟩
set_option maxRecDepth 20000 in
theorem c_X8_isReady {w : W0} {κ : AH} {σ : MS} {nb : Nat} (hn : nb ≤ 60) (eb : σ.1 8 = nI nb) (hG : SG κ) (hR : hRm κ σ nb) (hBk : hB κ σ nb) {nw : Nat} {wb : Nat → Nat} (hnw : nw ≤ 100) (ew : σ.1 18 = nI nw) (hWl : hW κ σ nb nw wb) (hch : chn σ nb) (hN : hNm κ σ) : CY w yX8_isReady mX8_isReady [.ref (tS 4)] κ (fun v κ' => v = some (.int (if whlP σ nw = true then 1 else 0)) ∧ κ' = κ) := by
  refine CY_of mcX8_isReady (Nat.le_of_ble_eq_true rfl) (cat1 rfl) (fun θ0 => ?_)
  have K17 : ¬ whlP σ nw = true → Y w mX8_isReady θ0 κ (fun v κ' => v = some (.int (if whlP σ nw = true then 1 else 0)) ∧ κ' = κ) (fun _ _ => False) 0 0 17 [some (.ref (tS 4)), none, none, none, none] [] κ := by
    intro h0
    refine runY_go rkX8_isReady (fun p => Nat.beq p 17 || Nat.beq p 29 || Nat.beq p 63) 200 rfl ?_
    refine And.intro ⟨Nat.le_of_ble_eq_true rfl, Nat.le_of_ble_eq_true rfl⟩ ?_
    refine And.intro (by first | exact Or.inl rfl | exact Or.inr rfl) ?_
    exact ⟨by rw [if_neg h0], rfl⟩
  have loop29 : ∀ (n k : Nat) (x4 : Option Value), k ≤ 100 → 100 ≤ n + k → (σ.1 6 = 0 ∧ allF σ 36 = true) → (allW σ (min k nw) = true) → Y w mX8_isReady θ0 κ (fun v κ' => v = some (.int (if whlP σ nw = true then 1 else 0)) ∧ κ' = κ) (fun _ _ => False) 0 0 29 [some (.ref (tS 4)), some (.ref (tS 6)), some (.int (Int32.ofNat (gN κ (tS 6)))), some (.int (nI k)), x4] [] κ := by
    intro n
    induction n with
    | zero =>
      intro k x4 hk1 hk2 hp hx
      have hex : Int32.ofNat (gN κ (tS 6)) ≤ nI k → k = 100 := by rw [hG.n6]; intro z; have := (nI_leI (a := 100) (by omega) (by omega)).mp z; omega
      have hlt : ¬ Int32.ofNat (gN κ (tS 6)) ≤ nI k → k < 100 := by rw [hG.n6]; intro z; exact Nat.lt_of_not_le (fun q => z (nI_le (a := 100) q (by omega)))
      refine runY_go rkX8_isReady (fun p => Nat.beq p 17 || Nat.beq p 29 || Nat.beq p 63) 200 rfl ?_
      refine And.intro (fun c0 => ?_) (fun c0 => ?_)
      · skip
        refine And.intro ⟨Nat.le_of_ble_eq_true rfl, Nat.le_of_ble_eq_true rfl⟩ ?_
        refine And.intro (by first | exact Or.inl rfl | exact Or.inr rfl) ?_
        have hk := hex (by assumption)
        subst hk
        rw [Nat.min_eq_right hnw] at hx
        exact ⟨by rw [if_pos (whlP_of.mpr ⟨hp.1, hp.2, hx⟩)], rfl⟩
      · exact absurd (hlt c0) (by omega)
    | succ n ih =>
      intro k x4 hk1 hk2 hp hx
      have hex : Int32.ofNat (gN κ (tS 6)) ≤ nI k → k = 100 := by rw [hG.n6]; intro z; have := (nI_leI (a := 100) (by omega) (by omega)).mp z; omega
      have hlt : ¬ Int32.ofNat (gN κ (tS 6)) ≤ nI k → k < 100 := by rw [hG.n6]; intro z; exact Nat.lt_of_not_le (fun q => z (nI_le (a := 100) q (by omega)))
      have K63 : ∀ x4 : Option Value, k < 100 → allW σ (min (k + 1) nw) = true → Y w mX8_isReady θ0 κ (fun v κ' => v = some (.int (if whlP σ nw = true then 1 else 0)) ∧ κ' = κ) (fun _ _ => False) 0 0 63 [some (.ref (tS 4)), some (.ref (tS 6)), some (.int (Int32.ofNat (gN κ (tS 6)))), some (.int (nI k)), x4] [] κ := by
        intro x4 hkl hx
        refine runY_go rkX8_isReady (fun p => Nat.beq p 17 || Nat.beq p 29 || Nat.beq p 63) 200 rfl ?_
        have e9 := ih (k + 1) x4 (by omega) (by omega) hp hx
        rw [← nI_1 k] at e9
        exact e9
      refine runY_go rkX8_isReady (fun p => Nat.beq p 17 || Nat.beq p 29 || Nat.beq p 63) 200 rfl ?_
      refine And.intro (fun c1 => ?_) (fun c1 => ?_)
      · skip
        refine And.intro ⟨Nat.le_of_ble_eq_true rfl, Nat.le_of_ble_eq_true rfl⟩ ?_
        refine And.intro (by first | exact Or.inl rfl | exact Or.inr rfl) ?_
        have hk := hex (by assumption)
        subst hk
        rw [Nat.min_eq_right hnw] at hx
        exact ⟨by rw [if_pos (whlP_of.mpr ⟨hp.1, hp.2, hx⟩)], rfl⟩
      · skip
        by_cases hs2 : k < nw
        · skip
          refine And.intro ⟨(by rw [hG.t6]; decide), (by rw [hG.n6]; exact vp_in_nI (N := 100) (hlt (by assumption)) (by decide))⟩ ⟨some (tW k), (by have ek : (nI k).toNatClampNeg = k := nI_clamp (by omega); rw [ek]; exact (hWl.1 _ (hlt (by assumption))).trans (if_pos hs2)), ?_⟩
          refine pX8_isReady_46 rfl rfl rfl (hWl.2.1 k (by assumption : k < nw)).1.1 (show CY w yX6_isStanding mX6_isStanding [.ref (tW k)] κ (fun v κ' => v = some (.int (if iSta σ (nI k) then 1 else 0)) ∧ κ' = κ) from by have h9 := c_X6_isStanding (w := w) hch (hB.ch hBk) (fun i hi => (hBk.2.1 i hi).2.2.2.2.2.2.2.2.2.1) (hWl.2.1 k (by assumption : k < nw)).1.1 (hWl.2.1 k (by assumption : k < nw)).1.2.1 (hWl.2.1 k (by assumption : k < nw)).2.1; simp only [← iSta_eq (x := nI k) hn (hWl.2.1 k (by assumption : k < nw)).2 (nI_clamp (by omega))] at h9; exact h9) (fun v κ1 hq3 ho3 hk3 => ?_)
          obtain ⟨rfl, ehq3⟩ := hq3
          rw [ehq3]
          refine runY_ok rkX8_isReady (fun p => Nat.beq p 17 || Nat.beq p 29 || Nat.beq p 63) 200 _ _ _ _ _ _ ?_
          refine And.intro (fun c4 => ?_) (fun c4 => ?_)
          · simp only [b01_eq, b01_ne, Classical.not_not] at c4
            have hkl := hlt (by assumption)
            by_cases hkb : k < nw
            · have m1 : min k nw = k := by omega
              have m2 : min (k + 1) nw = k + 1 := by omega
              rw [m1] at hx
              exact K63 _ hkl (by rw [m2]; exact allW_t hx (by first | exact Or.inl (by assumption) | exact Or.inr (by assumption) | exact absurd hkb (by assumption)))
            · have m1 : min k nw = nw := by omega
              have m2 : min (k + 1) nw = nw := by omega
              rw [m1] at hx
              exact K63 _ hkl (by rw [m2]; exact hx)
          · simp only [b01_eq, b01_ne, Classical.not_not] at c4
            refine And.intro (hWl.2.1 k (by assumption : k < nw)).1.1 ?_
            refine And.intro (fun c5 => ?_) (fun c5 => ?_)
            · rw [(hWl.2.1 k (by assumption : k < nw)).1.2.2.2.1] at c5
              have hkl := hlt (by assumption)
              by_cases hkb : k < nw
              · have m1 : min k nw = k := by omega
                have m2 : min (k + 1) nw = k + 1 := by omega
                rw [m1] at hx
                exact K63 _ hkl (by rw [m2]; exact allW_t hx (by first | exact Or.inl (by assumption) | exact Or.inr (by assumption) | exact absurd hkb (by assumption)))
              · have m1 : min k nw = nw := by omega
                have m2 : min (k + 1) nw = nw := by omega
                rw [m1] at hx
                exact K63 _ hkl (by rw [m2]; exact hx)
            · rw [(hWl.2.1 k (by assumption : k < nw)).1.2.2.2.1] at c5
              refine And.intro ⟨Nat.le_of_ble_eq_true rfl, Nat.le_of_ble_eq_true rfl⟩ ?_
              refine And.intro (by first | exact Or.inl rfl | exact Or.inr rfl) ?_
              exact ⟨by rw [if_neg (fun z => allW_f (by assumption : k < nw) (by assumption) (by assumption) (whlP_of.mp z).2.2)], rfl⟩
        · skip
          refine And.intro ⟨(by rw [hG.t6]; decide), (by rw [hG.n6]; exact vp_in_nI (N := 100) (hlt (by assumption)) (by decide))⟩ ⟨none, (by have ek : (nI k).toNatClampNeg = k := nI_clamp (by omega); rw [ek]; exact (hWl.1 _ (hlt (by assumption))).trans (if_neg hs2)), ?_⟩
          have hkl := hlt (by assumption)
          by_cases hkb : k < nw
          · have m1 : min k nw = k := by omega
            have m2 : min (k + 1) nw = k + 1 := by omega
            rw [m1] at hx
            exact K63 _ hkl (by rw [m2]; exact allW_t hx (by first | exact Or.inl (by assumption) | exact Or.inr (by assumption) | exact absurd hkb (by assumption)))
          · have m1 : min k nw = nw := by omega
            have m2 : min (k + 1) nw = nw := by omega
            rw [m1] at hx
            exact K63 _ hkl (by rw [m2]; exact hx)
  refine runY_ok rkX8_isReady (fun p => Nat.beq p 17 || Nat.beq p 29 || Nat.beq p 63) 200 _ _ _ _ _ _ ?_
  refine And.intro hG.t4 ?_
  refine And.intro (fun c6 => ?_) (fun c6 => ?_)
  · rw [hN.2.1.2.2.2.2] at c6
    exact K17 (fun z => by rw [whlP_of] at z; first | exact absurd z.1 (by assumption) | exact absurd z.2.1 (by assumption))
  · rw [hN.2.1.2.2.2.2] at c6
    refine And.intro hG.t4 ⟨some (tS 0), hG.r43, ?_⟩
    refine pX8_isReady_11 rfl rfl rfl hG.t0 (c_X1_isFull hG hR) (fun v κ1 hq7 ho7 hk7 => ?_)
    obtain ⟨rfl, ehq7⟩ := hq7
    rw [ehq7]
    refine runY_ok rkX8_isReady (fun p => Nat.beq p 17 || Nat.beq p 29 || Nat.beq p 63) 200 _ _ _ _ _ _ ?_
    refine And.intro (fun c8 => ?_) (fun c8 => ?_)
    · simp only [b01_eq, b01_ne, Classical.not_not] at c8
      refine And.intro hG.t4 ⟨some (tS 6), hG.r41, ?_⟩
      refine And.intro (by rw [hG.t6]; decide) ?_
      exact loop29 100 0 none (by omega) (by omega) ⟨by assumption, by assumption⟩ (by rw [Nat.zero_min]; rfl)
    · simp only [b01_eq, b01_ne, Classical.not_not] at c8
      exact K17 (fun z => by rw [whlP_of] at z; first | exact absurd z.1 (by assumption) | exact absurd z.2.1 (by assumption))

theorem gdp_eq {σ : MS} {nb : Nat} (h : 0 ≤ tnsN σ nb) : gdp (tnsN σ nb) (momN σ nb) = greN σ nb ∧ blc (tnsN σ nb) (momN σ nb) = cenN σ nb ∧ ∀ u, dpt (tnsN σ nb) (momN σ nb) u = draN σ nb u := by
  have e1 : blc (tnsN σ nb) (momN σ nb) = cenN σ nb := by
    unfold blc cenN
    by_cases h0 : tnsN σ nb = 0
    · rw [h0]; rfl
    · rw [if_neg h0, if_pos]
      have a := Int32.le_iff_toInt_le.mp h
      rw [Int32.lt_iff_toInt_lt]
      have : (tnsN σ nb).toInt ≠ (0 : Int32).toInt := fun q => h0 (Int32.toInt_inj.mp q)
      omega
  have e2 : ∀ u, dpt (tnsN σ nb) (momN σ nb) u = draN σ nb u := by
    intro u
    unfold dpt draN trmN
    rw [e1]
    by_cases hu : u = 0
    · rw [if_pos hu, if_neg (fun z => z hu), Int32.sub_eq_add_neg (a := tnsN σ nb / 2)]
    · rw [if_neg hu, if_pos hu]
  refine ⟨?_, e1, e2⟩
  unfold gdp greN
  rw [e2, e2]


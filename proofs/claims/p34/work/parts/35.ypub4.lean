/-! THE COMPONENT'S PUBLIC METHODS, 4: water, paint, hole -/
theorem x_mmin {w : W0} {M : MI} {Q : Option Value → AH → Prop} {QX : String → AH → Prop} {kc ns pc : Nat} {L : List (Option Value)} {st : List Value} {h : AH} {idx : Nat} {x y : Int32} (hd : decode M.cd pc = .ok (.invokestatic idx, 3)) (hlink : Cond.methodLink M.ow idx Lib.Math.min.name ∈ TB) (hf : 1 ≤ M.rm.frames) (hlo : (st.map fun v => v.category).sum + 13 ≤ M.rm.locals) (hc : kc ≤ M.rm.cells) (hs : ns ≤ M.rm.slots)
    (k : X w M Q QX kc ns (pc + 3) L (.int (if y < x then y else x) :: st) h) : X w M Q QX kc ns pc L (.int y :: .int x :: st) h := by
  intro p e s m args below meth c H locs tys ws ls C hK hP hD hE hS hB hl
  have C0 := C
  obtain ⟨hx, hb, hml, hr, hlk, hown, hts, hin, htab⟩ := C
  exact va_mmin hx hb (by rw [hml, hl.1]) hown (hts _ hlink) (hts _ ma_s_min) (hts _ ma_i) (hts _ ma_c_min) hf hlo hc hs hd (k p e s m args below meth c H locs tys ws ls C0 hK hP hD hE hS hB hl)
theorem pX8_waterAt_15 {w : W0} {θ0 : Nat → Nat} {κ0 : AH} {Q : Option Value → AH → Prop} {QX : String → AH → Prop} {kc ns : Nat} {L : List (Option Value)} {st : List Value} {κ : AH} {x y : Int32} (hst : Nat.ble (st.map fun v => v.category).sum 8 = true) (hc : Nat.ble kc 0 = true) (hs : Nat.ble ns 0 = true) (k : Y w mX8_waterAt θ0 κ0 Q QX kc ns 18 L (.int (if y < x then y else x) :: st) κ) : Y w mX8_waterAt θ0 κ0 Q QX kc ns 15 L (.int y :: .int x :: st) κ := by
  intro θ H hN hE hL hS
  exact x_mmin (by decide +kernel : decode cX8_waterAt 15 = .ok (.invokestatic 363, 3)) maX8_363 (by decide) (Nat.le_trans (Nat.add_le_add_right (Nat.le_of_ble_eq_true (hst_rn θ hst)) 13) (by decide)) (Nat.le_of_ble_eq_true hc) (Nat.le_of_ble_eq_true hs) (k θ H hN hE hL (okK_cons trivial (okK_tl (okK_tl hS))))
theorem wIn_eq {x : Int32} (h : 0 ≤ x ∧ x ≤ 1000) : 600 + 30 * (if 12 - (x - x / 12 * 12) < x - x / 12 * 12 then 12 - (x - x / 12 * 12) else x - x / 12 * 12) = wIn x := by
  obtain ⟨k, hk, rfl⟩ := vp_in_of (in_c (c := 1000) (n := 1001) (by decide) h) (by decide)
  have e : nI k - nI k / 12 * 12 = nI (k % 12) := pk_rem (a := k) (d := 12) (by omega) (by decide) (by decide)
  unfold wIn
  rw [e]
  have : ∀ j : Nat, j < 12 → 600 + 30 * (if 12 - nI j < nI j then 12 - nI j else nI j) = 600 + 30 * (if 6 < nI j then 12 - nI j else nI j) := by decide
  exact this _ (Nat.mod_lt _ (by decide))
theorem allF_f {σ : MS} {n k : Nat} (h : k < n) (h2 : σ.2 25 k = -1) : ¬ allF σ n = true := by
  unfold allF
  rw [List.all_eq_true]
  intro z
  have := z k (List.mem_range.mpr h)
  exact absurd h2 (of_decide_eq_true this)
set_option maxRecDepth 20000 in
theorem c_X8_waterAt {w : W0} {κ : AH} {x : Int32} (h : 0 ≤ x ∧ x ≤ 1000) : CY w yX8_waterAt mX8_waterAt [.int x] κ (fun v κ' => v = some (.int (wIn x)) ∧ κ' = κ) := by
  refine CY_of mcX8_waterAt (Nat.le_of_ble_eq_true rfl) (cat1 rfl) (fun θ0 => ?_)
  refine runY_ok rkX8_waterAt noCut 200 _ _ _ _ _ _ ?_
  refine And.intro (by decide) ?_
  refine pX8_waterAt_15 rfl rfl rfl ?_
  refine runY_ok rkX8_waterAt noCut 200 _ _ _ _ _ _ ?_
  refine And.intro ⟨Nat.le_of_ble_eq_true rfl, Nat.le_of_ble_eq_true rfl⟩ ?_
  exact ⟨by rw [wIn_eq h], rfl⟩
set_option maxRecDepth 20000 in
theorem c_X8_water {w : W0} {κ : AH} {x : Int32} : CYV w yX8_water mX8_water [.ref (tS 4), .int x] κ (fun v κ' => (0 ≤ x ∧ x ≤ 1000) ∧ v = some (.int (wIn x)) ∧ κ' = κ) (fun E κ' => κ' = κ ∧ ¬ (0 ≤ x ∧ x ≤ 1000) ∧ E = "java/lang/IllegalArgumentException") := by
  refine CYV_of mcX8_water (Nat.le_of_ble_eq_true rfl) (cat1 rfl) (fun θ0 => ?_)
  refine runY_ok rkX8_water noCut 200 _ _ _ _ _ _ ?_
  refine pX8_water_5 rfl rfl rfl d_X8_isWithin (fun v κ1 hq1 ho1 hk1 => ?_)
  obtain ⟨rfl, ehq1⟩ := hq1
  rw [ehq1]
  refine runY_ok rkX8_water noCut 200 _ _ _ _ _ _ ?_
  refine And.intro (fun c2 => ?_) (fun c2 => ?_)
  · try simp only [b01_eq, b01_ne, Classical.not_not] at c2
    refine pX8_water_23 rfl rfl rfl (c_X8_waterAt (by grind)) (fun v κ1 hq3 ho3 hk3 => ?_)
    obtain ⟨rfl, ehq3⟩ := hq3
    rw [ehq3]
    refine runY_ok rkX8_water noCut 200 _ _ _ _ _ _ ?_
    refine And.intro ⟨Nat.le_of_ble_eq_true rfl, Nat.le_of_ble_eq_true rfl⟩ ?_
    exact ⟨by grind, rfl, rfl⟩
  · try simp only [b01_eq, b01_ne, Classical.not_not] at c2
    refine yX8_water_11z (st := []) rfl rfl ?_
    exact ⟨rfl, by grind, rfl⟩
set_option maxRecDepth 20000 in
theorem c_X1_isFull {w : W0} {κ : AH} {σ : MS} {nb : Nat} (hG : SG κ) (hR : hRm κ σ nb) : CY w yX1_isFull mX1_isFull [.ref (tS 0)] κ (fun v κ' => v = some (.int (if allF σ 36 = true then 1 else 0)) ∧ κ' = κ) := by
  refine CY_of mcX1_isFull (Nat.le_of_ble_eq_true rfl) (cat1 rfl) (fun θ0 => ?_)
  have loop10 : ∀ (n k : Nat) (x4 : Option Value), k ≤ 36 → 36 ≤ n + k → (allF σ k = true) → Y w mX1_isFull θ0 κ (fun v κ' => v = some (.int (if allF σ 36 = true then 1 else 0)) ∧ κ' = κ) (fun _ _ => False) 0 0 10 [some (.ref (tS 0)), some (.ref (tS 8)), some (.int (Int32.ofNat (gN κ (tS 8)))), some (.int (nI k)), x4] [] κ := by
    intro n
    induction n with
    | zero =>
      intro k x4 hk1 hk2 h0
      have hex : Int32.ofNat (gN κ (tS 8)) ≤ nI k → k = 36 := by rw [hG.n8]; intro z; have := (nI_leI (a := 36) (by omega) (by omega)).mp z; omega
      have hlt : ¬ Int32.ofNat (gN κ (tS 8)) ≤ nI k → k < 36 := by rw [hG.n8]; intro z; exact Nat.lt_of_not_le (fun q => z (nI_le (a := 36) q (by omega)))
      refine runY_go rkX1_isFull (fun p => Nat.beq p 10) 200 rfl ?_
      refine And.intro (fun c0 => ?_) (fun c0 => ?_)
      · skip
        refine And.intro ⟨Nat.le_of_ble_eq_true rfl, Nat.le_of_ble_eq_true rfl⟩ ?_
        refine And.intro (by first | exact Or.inl rfl | exact Or.inr rfl) ?_
        have hk := hex (by assumption)
        subst hk
        exact ⟨by rw [if_pos h0], rfl⟩
      · exact absurd (hlt c0) (by omega)
    | succ n ih =>
      intro k x4 hk1 hk2 h0
      have hex : Int32.ofNat (gN κ (tS 8)) ≤ nI k → k = 36 := by rw [hG.n8]; intro z; have := (nI_leI (a := 36) (by omega) (by omega)).mp z; omega
      have hlt : ¬ Int32.ofNat (gN κ (tS 8)) ≤ nI k → k < 36 := by rw [hG.n8]; intro z; exact Nat.lt_of_not_le (fun q => z (nI_le (a := 36) q (by omega)))
      refine runY_go rkX1_isFull (fun p => Nat.beq p 10) 200 rfl ?_
      refine And.intro (fun c1 => ?_) (fun c1 => ?_)
      · skip
        refine And.intro ⟨Nat.le_of_ble_eq_true rfl, Nat.le_of_ble_eq_true rfl⟩ ?_
        refine And.intro (by first | exact Or.inl rfl | exact Or.inr rfl) ?_
        have hk := hex (by assumption)
        subst hk
        exact ⟨by rw [if_pos h0], rfl⟩
      · skip
        by_cases hs2 : σ.2 25 k = -1
        · skip
          refine And.intro ⟨(by rw [hG.t8]; decide), (by rw [hG.n8]; exact (vp_in_nI (N := 36) (hlt (by assumption)) (by decide)))⟩ ⟨none, (by have ek : (nI k).toNatClampNeg = k := nI_clamp (by omega); rw [ek]; exact (hR.1 _ (hlt (by assumption))).trans (if_pos hs2)), ?_⟩
          refine And.intro ⟨Nat.le_of_ble_eq_true rfl, Nat.le_of_ble_eq_true rfl⟩ ?_
          refine And.intro (by first | exact Or.inl rfl | exact Or.inr rfl) ?_
          exact ⟨by rw [if_neg (allF_f (hlt (by assumption)) (by assumption))], rfl⟩
        · skip
          refine And.intro ⟨(by rw [hG.t8]; decide), (by rw [hG.n8]; exact (vp_in_nI (N := 36) (hlt (by assumption)) (by decide)))⟩ ⟨some (tR k), (by have ek : (nI k).toNatClampNeg = k := nI_clamp (by omega); rw [ek]; exact (hR.1 _ (hlt (by assumption))).trans (if_neg hs2)), ?_⟩
          have hkl := hlt (by assumption)
          have e9 := ih (k + 1) (some (.ref (tR k))) (by omega) (by omega) (by rw [allF_succ, h0, Bool.true_and]; exact decide_eq_true (by assumption))
          rw [← nI_1 k] at e9
          exact e9
  refine runY_ok rkX1_isFull (fun p => Nat.beq p 10) 200 _ _ _ _ _ _ ?_
  refine And.intro hG.t0 ⟨some (tS 8), hG.r00, ?_⟩
  refine And.intro (by rw [hG.t8]; decide) ?_
  exact loop10 36 0 none (by omega) (by omega) rfl

theorem fPt_y {σ : MS} {k : Nat} (h : ¬ σ.2 26 k = 0) : fPt σ k = 1 := if_pos h
theorem fPt_n {σ : MS} {k : Nat} (h : σ.2 26 k = 0) : fPt σ k = 0 := if_neg (fun z => z h)
set_option maxRecDepth 20000 in
theorem c_X1_painted {w : W0} {κ : AH} {σ : MS} {nb : Nat} (hG : SG κ) (hR : hRm κ σ nb) (he : emp σ) : CY w yX1_painted mX1_painted [.ref (tS 0)] κ (fun v κ' => v = some (.int (sm (fPt σ) 36)) ∧ κ' = κ) := by
  refine CY_of mcX1_painted (Nat.le_of_ble_eq_true rfl) (cat1 rfl) (fun θ0 => ?_)
  have loop13 : ∀ (n k : Nat) (x1 : Int32) (x5 : Option Value), k ≤ 36 → 36 ≤ n + k → (x1 = sm (fPt σ) k) → Y w mX1_painted θ0 κ (fun v κ' => v = some (.int (sm (fPt σ) 36)) ∧ κ' = κ) (fun _ _ => False) 0 0 13 [some (.ref (tS 0)), some (.int x1), some (.ref (tS 8)), some (.int (Int32.ofNat (gN κ (tS 8)))), some (.int (nI k)), x5] [] κ := by
    intro n
    induction n with
    | zero =>
      intro k x1 x5 hk1 hk2 hx1
      have hex : Int32.ofNat (gN κ (tS 8)) ≤ nI k → k = 36 := by rw [hG.n8]; intro z; have := (nI_leI (a := 36) (by omega) (by omega)).mp z; omega
      have hlt : ¬ Int32.ofNat (gN κ (tS 8)) ≤ nI k → k < 36 := by rw [hG.n8]; intro z; exact Nat.lt_of_not_le (fun q => z (nI_le (a := 36) q (by omega)))
      refine runY_go rkX1_painted (fun p => Nat.beq p 13 || Nat.beq p 41) 200 rfl ?_
      refine And.intro (fun c0 => ?_) (fun c0 => ?_)
      · skip
        refine And.intro ⟨Nat.le_of_ble_eq_true rfl, Nat.le_of_ble_eq_true rfl⟩ ?_
        have hk := hex (by assumption)
        subst hk
        exact ⟨by rw [hx1], rfl⟩
      · exact absurd (hlt c0) (by omega)
    | succ n ih =>
      intro k x1 x5 hk1 hk2 hx1
      have hex : Int32.ofNat (gN κ (tS 8)) ≤ nI k → k = 36 := by rw [hG.n8]; intro z; have := (nI_leI (a := 36) (by omega) (by omega)).mp z; omega
      have hlt : ¬ Int32.ofNat (gN κ (tS 8)) ≤ nI k → k < 36 := by rw [hG.n8]; intro z; exact Nat.lt_of_not_le (fun q => z (nI_le (a := 36) q (by omega)))
      have K41 : ∀ x1 : Int32, ∀ x5 : Option Value, k < 36 → x1 = sm (fPt σ) (k + 1) → Y w mX1_painted θ0 κ (fun v κ' => v = some (.int (sm (fPt σ) 36)) ∧ κ' = κ) (fun _ _ => False) 0 0 41 [some (.ref (tS 0)), some (.int x1), some (.ref (tS 8)), some (.int (Int32.ofNat (gN κ (tS 8)))), some (.int (nI k)), x5] [] κ := by
        intro x1 x5 hkl hx1
        refine runY_go rkX1_painted (fun p => Nat.beq p 13 || Nat.beq p 41) 200 rfl ?_
        have e9 := ih (k + 1) x1 x5 (by omega) (by omega) hx1
        rw [← nI_1 k] at e9
        exact e9
      refine runY_go rkX1_painted (fun p => Nat.beq p 13 || Nat.beq p 41) 200 rfl ?_
      refine And.intro (fun c1 => ?_) (fun c1 => ?_)
      · skip
        refine And.intro ⟨Nat.le_of_ble_eq_true rfl, Nat.le_of_ble_eq_true rfl⟩ ?_
        have hk := hex (by assumption)
        subst hk
        exact ⟨by rw [hx1], rfl⟩
      · skip
        by_cases hs2 : σ.2 25 k = -1
        · skip
          refine And.intro ⟨(by rw [hG.t8]; decide), (by rw [hG.n8]; exact (vp_in_nI (N := 36) (hlt (by assumption)) (by decide)))⟩ ⟨none, (by have ek : (nI k).toNatClampNeg = k := nI_clamp (by omega); rw [ek]; exact (hR.1 _ (hlt (by assumption))).trans (if_pos hs2)), ?_⟩
          have hkl := hlt (by assumption)
          first
          | exact K41 _ _ hkl (by show _ = sm (fPt σ) k + fPt σ k; rw [fPt_y (by assumption), ← hx1])
          | exact K41 _ _ hkl (by show _ = sm (fPt σ) k + fPt σ k; rw [fPt_n (by assumption), Int32.add_zero, ← hx1])
          | exact K41 _ _ hkl (by show _ = sm (fPt σ) k + fPt σ k; rw [fPt_n (he k hkl (by assumption)).1, Int32.add_zero, ← hx1])
        · skip
          refine And.intro ⟨(by rw [hG.t8]; decide), (by rw [hG.n8]; exact (vp_in_nI (N := 36) (hlt (by assumption)) (by decide)))⟩ ⟨some (tR k), (by have ek : (nI k).toNatClampNeg = k := nI_clamp (by omega); rw [ek]; exact (hR.1 _ (hlt (by assumption))).trans (if_neg hs2)), ?_⟩
          refine And.intro (hR.2.1 k (hlt (by assumption)) (by assumption)).1.1 ?_
          refine And.intro (fun c3 => ?_) (fun c3 => ?_)
          · rw [(hR.2.1 k (hlt (by assumption)) (by assumption)).1.2.2.2.1] at c3
            have hkl := hlt (by assumption)
            first
            | exact K41 _ _ hkl (by show _ = sm (fPt σ) k + fPt σ k; rw [fPt_y (by assumption), ← hx1])
            | exact K41 _ _ hkl (by show _ = sm (fPt σ) k + fPt σ k; rw [fPt_n (by assumption), Int32.add_zero, ← hx1])
            | exact K41 _ _ hkl (by show _ = sm (fPt σ) k + fPt σ k; rw [fPt_n (he k hkl (by assumption)).1, Int32.add_zero, ← hx1])
          · rw [(hR.2.1 k (hlt (by assumption)) (by assumption)).1.2.2.2.1] at c3
            have hkl := hlt (by assumption)
            first
            | exact K41 _ _ hkl (by show _ = sm (fPt σ) k + fPt σ k; rw [fPt_y (by assumption), ← hx1])
            | exact K41 _ _ hkl (by show _ = sm (fPt σ) k + fPt σ k; rw [fPt_n (by assumption), Int32.add_zero, ← hx1])
            | exact K41 _ _ hkl (by show _ = sm (fPt σ) k + fPt σ k; rw [fPt_n (he k hkl (by assumption)).1, Int32.add_zero, ← hx1])
  refine runY_ok rkX1_painted (fun p => Nat.beq p 13 || Nat.beq p 41) 200 _ _ _ _ _ _ ?_
  refine And.intro hG.t0 ⟨some (tS 8), hG.r00, ?_⟩
  refine And.intro (by rw [hG.t8]; decide) ?_
  exact loop13 36 0 0 none (by omega) (by omega) rfl


/-! THE COMPONENT'S PUBLIC METHODS, 7: launch, firstHour -/
/-- an entry more -/
def enH (κ : AH) (n : Nat) (x : Int32) : AH := sI (sI (sI κ (tS 10) n x) (tS 1) 1 (nI (n + 1))) (tS 1) 2 (gI κ (tS 1) 2 + x)
theorem wIn_in {x : Int32} (h : 0 ≤ x ∧ x ≤ 1000) : 600 ≤ (wIn x).toInt ∧ (wIn x).toInt ≤ 780 := by
  obtain ⟨k, hk, rfl⟩ := vp_in_of (in_c (c := 1000) (n := 1001) (by decide) h) (by decide)
  have e : nI k - nI k / 12 * 12 = nI (k % 12) := pk_rem (a := k) (d := 12) (by omega) (by decide) (by decide)
  unfold wIn
  rw [e]
  have : ∀ j : Nat, j < 12 → 600 ≤ (600 + 30 * (if 6 < nI j then 12 - nI j else nI j) : Int32).toInt ∧ (600 + 30 * (if 6 < nI j then 12 - nI j else nI j) : Int32).toInt ≤ 780 := by decide
  exact this _ (Nat.mod_lt _ (by decide))
/-- the depth is no huge number -/
def grB (σ : MS) (nb : Nat) : Prop := -1000000000 ≤ (greN σ nb).toInt ∧ (greN σ nb).toInt ≤ 1000000000
theorem lau_eq {σ : MS} {nb : Nat} {t : Int32} (h : 0 ≤ t ∧ t ≤ 1000) (hg : grB σ nb) : ¬ wIn t - greN σ nb < 20 ↔ greN σ nb + 20 ≤ wIn t := by
  obtain ⟨a1, a2⟩ := wIn_in h
  obtain ⟨b1, b2⟩ := hg
  have e1 : (wIn t - greN σ nb).toInt = (wIn t).toInt - (greN σ nb).toInt := by
    rw [Int32.toInt_sub, Int.bmod_eq_of_le] <;> omega
  have e2 : (greN σ nb + 20).toInt = (greN σ nb).toInt + 20 := by
    rw [Int32.toInt_add, Int.bmod_eq_of_le] <;> (have : (20 : Int32).toInt = 20 := rfl) <;> omega
  have e3 : (20 : Int32).toInt = 20 := rfl
  rw [Int32.lt_iff_toInt_lt, Int32.le_iff_toInt_le, e1, e2, e3]
  omega
set_option maxRecDepth 20000 in
theorem c_X8_launch {w : W0} {κ : AH} {t : Int32} {σ : MS} {nb : Nat} (hn : nb ≤ 60) (eb : σ.1 8 = nI nb) (hG : SG κ) (hR : hRm κ σ nb) (hBk : hB κ σ nb) {nw : Nat} {wb : Nat → Nat} (hnw : nw ≤ 100) (ew : σ.1 18 = nI nw) (hWl : hW κ σ nb nw wb) (hch : chn σ nb) (hN : hNm κ σ) (hH : hHu κ σ nb) (ht : 0 ≤ tnsN σ nb) {n : Nat} (hnl : kLau σ nb nw t = 0 → n < 337) (hle : gI κ (tS 1) 1 = nI n) (hgb : grB σ nb) : CYV w yX8_launch mX8_launch [.ref (tS 4), .int t] κ (fun v κ' => kLau σ nb nw t = 0 ∧ v = some (.int (wIn t - greN σ nb)) ∧ κ' = enH (sI κ (tS 4) 14 1) n 5000) (fun E κ' => κ' = κ ∧ ((kLau σ nb nw t = 1 ∧ E = "java/lang/IllegalArgumentException") ∨ (kLau σ nb nw t = 2 ∧ E = "java/lang/IllegalStateException"))) := by
  refine CYV_of mcX8_launch (Nat.le_of_ble_eq_true rfl) (cat1 rfl) (fun θ0 => ?_)
  have K48 : kLau σ nb nw t = 2 → Y w mX8_launch θ0 κ (fun v κ' => kLau σ nb nw t = 0 ∧ v = some (.int (wIn t - greN σ nb)) ∧ κ' = enH (sI κ (tS 4) 14 1) n 5000) (fun E κ' => κ' = κ ∧ ((kLau σ nb nw t = 1 ∧ E = "java/lang/IllegalArgumentException") ∨ (kLau σ nb nw t = 2 ∧ E = "java/lang/IllegalStateException"))) 0 0 48 [some (.ref (tS 4)), some (.int t), some (.int (wIn t - greN σ nb))] [] κ := by
    intro hk
    refine yX8_launch_48z (st := []) rfl rfl ?_
    exact ⟨rfl, Or.inr ⟨hk, rfl⟩⟩
  refine runY_ok rkX8_launch (fun p => Nat.beq p 48) 200 _ _ _ _ _ _ ?_
  refine pX8_launch_5 rfl rfl rfl d_X8_isWithin (fun v κ1 hq1 ho1 hk1 => ?_)
  obtain ⟨rfl, ehq1⟩ := hq1
  rw [ehq1]
  refine runY_ok rkX8_launch (fun p => Nat.beq p 48) 200 _ _ _ _ _ _ ?_
  refine And.intro (fun c2 => ?_) (fun c2 => ?_)
  · try simp only [b01_eq, b01_ne, Classical.not_not] at c2
    refine pX8_launch_23 rfl rfl rfl (c_X8_waterAt (by grind)) (fun v κ1 hq3 ho3 hk3 => ?_)
    obtain ⟨rfl, ehq3⟩ := hq3
    rw [ehq3]
    refine runY_ok rkX8_launch (fun p => Nat.beq p 48) 200 _ _ _ _ _ _ ?_
    refine And.intro hG.t4 ⟨some (tS 0), hG.r43, ?_⟩
    refine pX8_launch_30 rfl rfl rfl hG.t0 (show CY w yX1_greaterDepth mX1_greaterDepth [.ref (tS 0)] κ (fun v κ' => v = some (.int (greN σ nb)) ∧ κ' = κ) from by have h9 := c_X1_greaterDepth (w := w) hG.t0; rw [hH.1, hH.2, (gdp_eq ht).1] at h9; exact h9) (fun v κ1 hq4 ho4 hk4 => ?_)
    obtain ⟨rfl, ehq4⟩ := hq4
    rw [ehq4]
    refine runY_ok rkX8_launch (fun p => Nat.beq p 48) 200 _ _ _ _ _ _ ?_
    refine pX8_launch_36 rfl rfl rfl hG.t4 (c_X8_isReady hn eb hG hR hBk hnw ew hWl hch hN) (fun v κ1 hq5 ho5 hk5 => ?_)
    obtain ⟨rfl, ehq5⟩ := hq5
    rw [ehq5]
    refine runY_ok rkX8_launch (fun p => Nat.beq p 48) 200 _ _ _ _ _ _ ?_
    refine And.intro (fun c6 => ?_) (fun c6 => ?_)
    · try simp only [b01_eq, b01_ne, Classical.not_not] at c6
      exact K48 (by have q := lau_eq (t := t) (by grind) hgb; unfold kLau canL; grind)
    · try simp only [b01_eq, b01_ne, Classical.not_not] at c6
      refine And.intro (fun c7 => ?_) (fun c7 => ?_)
      · try simp only [b01_eq, b01_ne, Classical.not_not] at c7
        refine And.intro ⟨hG.t4, (by decide)⟩ ?_
        refine And.intro hG.t4 ⟨some (tS 1), hG.r46, ?_⟩
        refine pX8_launch_71 rfl rfl rfl hG.t1 (show CY w yX2_enter mX2_enter [.ref (tS 1), .int 5000] (sI κ (tS 4) 14 1) (fun v κ' => v = none ∧ κ' = enH (sI κ (tS 4) 14 1) n 5000) from c_X2_enter (κ := (sI κ (tS 4) 14 1)) hG.t1 hG.t10 hG.n10 hG.r10 (hnl (by have q := lau_eq (t := t) (by grind) hgb; unfold kLau canL; grind)) (by rw [gI_sI, if_neg (fun z => absurd (tS_inj.mp z.1) (by decide))]; exact hle)) (fun v κ1 hq8 ho8 hk8 => ?_)
        obtain ⟨rfl, ehq8⟩ := hq8
        rw [ehq8]
        refine runY_ok rkX8_launch (fun p => Nat.beq p 48) 200 _ _ _ _ _ _ ?_
        refine And.intro ⟨Nat.le_of_ble_eq_true rfl, Nat.le_of_ble_eq_true rfl⟩ ?_
        exact ⟨by have q := lau_eq (t := t) (by grind) hgb; unfold kLau canL; grind, rfl, rfl⟩
      · try simp only [b01_eq, b01_ne, Classical.not_not] at c7
        exact K48 (by have q := lau_eq (t := t) (by grind) hgb; unfold kLau canL; grind)
  · try simp only [b01_eq, b01_ne, Classical.not_not] at c2
    refine yX8_launch_11z (st := []) rfl rfl ?_
    refine ⟨rfl, Or.inl ⟨?_, rfl⟩⟩
    unfold kLau; grind

theorem fhr_no {σ : MS} {nb nw : Nat} (h : ¬ whlP σ nw = true) : ∀ m, fhr σ nb nw m = -1
  | 0 => rfl
  | m + 1 => by
    unfold fhr
    rw [if_neg (fun z => h z.1)]
    exact fhr_no h m
theorem fhr_s {σ : MS} {nb nw k : Nat} (hk : k < 12) : fhr σ nb nw (12 - k) = if canL σ nb nw (nI k) then nI k else fhr σ nb nw (12 - (k + 1)) := by
  rw [show 12 - k = (12 - (k + 1)) + 1 from by omega]
  show (if canL σ nb nw (nI (11 - (12 - (k + 1)))) then nI (11 - (12 - (k + 1))) else fhr σ nb nw (12 - (k + 1))) = _
  rw [show 11 - (12 - (k + 1)) = k from by omega]
set_option maxRecDepth 20000 in
theorem c_X8_firstHour {w : W0} {κ : AH} {σ : MS} {nb : Nat} (hn : nb ≤ 60) (eb : σ.1 8 = nI nb) (hG : SG κ) (hR : hRm κ σ nb) (hBk : hB κ σ nb) {nw : Nat} {wb : Nat → Nat} (hnw : nw ≤ 100) (ew : σ.1 18 = nI nw) (hWl : hW κ σ nb nw wb) (hch : chn σ nb) (hN : hNm κ σ) (hH : hHu κ σ nb) (ht : 0 ≤ tnsN σ nb) : CY w yX8_firstHour mX8_firstHour [.ref (tS 4)] κ (fun v κ' => v = some (.int (fhr σ nb nw 12)) ∧ κ' = κ) := by
  refine CY_of mcX8_firstHour (Nat.le_of_ble_eq_true rfl) (cat1 rfl) (fun θ0 => ?_)
  have loop22 : whlP σ nw = true → ∀ n k : Nat, k ≤ 12 → 12 ≤ n + k → fhr σ nb nw 12 = fhr σ nb nw (12 - k) → Y w mX8_firstHour θ0 κ (fun v κ' => v = some (.int (fhr σ nb nw 12)) ∧ κ' = κ) (fun _ _ => False) 0 0 22 [some (.ref (tS 4)), some (.int (greN σ nb + 20)), some (.int (nI k))] [] κ := by
    intro hw n
    induction n with
    | zero =>
      intro k hk1 hk2 hf
      have hex : 12 ≤ nI k → k = 12 := by intro z; have := (nI_leI (a := 12) (by omega) (by omega)).mp z; omega
      have hlt : ¬ 12 ≤ nI k → k < 12 := by intro z; exact Nat.lt_of_not_le (fun q => z (nI_le (a := 12) q (by omega)))
      refine runY_go rkX8_firstHour (fun p => Nat.beq p 22) 200 rfl ?_
      refine And.intro (fun c0 => ?_) (fun c0 => ?_)
      · skip
        refine And.intro ⟨Nat.le_of_ble_eq_true rfl, Nat.le_of_ble_eq_true rfl⟩ ?_
        have hk := hex (by assumption)
        subst hk
        exact ⟨by rw [hf]; rfl, rfl⟩
      · exact absurd (hlt c0) (by omega)
    | succ n ih =>
      intro k hk1 hk2 hf
      have hex : 12 ≤ nI k → k = 12 := by intro z; have := (nI_leI (a := 12) (by omega) (by omega)).mp z; omega
      have hlt : ¬ 12 ≤ nI k → k < 12 := by intro z; exact Nat.lt_of_not_le (fun q => z (nI_le (a := 12) q (by omega)))
      refine runY_go rkX8_firstHour (fun p => Nat.beq p 22) 200 rfl ?_
      refine And.intro (fun c1 => ?_) (fun c1 => ?_)
      · skip
        refine And.intro ⟨Nat.le_of_ble_eq_true rfl, Nat.le_of_ble_eq_true rfl⟩ ?_
        have hk := hex (by assumption)
        subst hk
        exact ⟨by rw [hf]; rfl, rfl⟩
      · skip
        refine pX8_firstHour_29 rfl rfl rfl (c_X8_waterAt (x := nI k) ⟨nI_pos' (by omega), nI_le (b := 1000) (by omega) (by decide)⟩) (fun v κ1 hq2 ho2 hk2 => ?_)
        obtain ⟨rfl, ehq2⟩ := hq2
        rw [ehq2]
        refine runY_ok rkX8_firstHour (fun p => Nat.beq p 22) 200 _ _ _ _ _ _ ?_
        refine And.intro (fun c3 => ?_) (fun c3 => ?_)
        · skip
          have e9 := ih (k + 1) (by have := hlt (by assumption); omega) (by omega) (by rw [hf, fhr_s (hlt (by assumption)), if_neg (fun z => absurd z.2 (Int32.not_le.mpr (by assumption)))])
          rw [← nI_1 k] at e9
          exact e9
        · skip
          refine And.intro ⟨Nat.le_of_ble_eq_true rfl, Nat.le_of_ble_eq_true rfl⟩ ?_
          exact ⟨by rw [hf, fhr_s (hlt (by assumption)), if_pos ⟨hw, Int32.not_lt.mp (by assumption)⟩], rfl⟩
  refine runY_ok rkX8_firstHour (fun p => Nat.beq p 22) 200 _ _ _ _ _ _ ?_
  refine pX8_firstHour_1 rfl rfl rfl hG.t4 (c_X8_isReady hn eb hG hR hBk hnw ew hWl hch hN) (fun v κ1 hq4 ho4 hk4 => ?_)
  obtain ⟨rfl, ehq4⟩ := hq4
  rw [ehq4]
  refine runY_ok rkX8_firstHour (fun p => Nat.beq p 22) 200 _ _ _ _ _ _ ?_
  refine And.intro (fun c5 => ?_) (fun c5 => ?_)
  · simp only [b01_eq, b01_ne, Classical.not_not] at c5
    refine And.intro hG.t4 ⟨some (tS 0), hG.r43, ?_⟩
    refine pX8_firstHour_13 rfl rfl rfl hG.t0 (show CY w yX1_greaterDepth mX1_greaterDepth [.ref (tS 0)] κ (fun v κ' => v = some (.int (greN σ nb)) ∧ κ' = κ) from by have h9 := c_X1_greaterDepth (w := w) hG.t0; rw [hH.1, hH.2, (gdp_eq ht).1] at h9; exact h9) (fun v κ1 hq6 ho6 hk6 => ?_)
    obtain ⟨rfl, ehq6⟩ := hq6
    rw [ehq6]
    refine runY_ok rkX8_firstHour (fun p => Nat.beq p 22) 200 _ _ _ _ _ _ ?_
    exact loop22 (by assumption) 12 0 (by omega) (by omega) rfl
  · simp only [b01_eq, b01_ne, Classical.not_not] at c5
    refine And.intro ⟨Nat.le_of_ble_eq_true rfl, Nat.le_of_ble_eq_true rfl⟩ ?_
    refine ⟨?_, rfl⟩
    have hz : ∀ m, fhr σ nb nw m = -1 := fhr_no (by assumption)
    rw [hz]


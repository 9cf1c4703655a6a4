/-! THE COMPONENT'S CONSTRUCTORS -/
def flH (κ : AH) (a : Nat) (x : Int32) : Nat → AH
  | 0 => κ
  | k + 1 => sI (flH κ a x k) a k x
theorem flH_T {κ : AH} {a t : Nat} {x : Int32} : ∀ k, gT (flH κ a x k) t = gT κ t
  | 0 => rfl
  | k + 1 => (flH_T k : gT (flH κ a x k) t = gT κ t)
theorem flH_N {κ : AH} {a t : Nat} {x : Int32} : ∀ k, gN (flH κ a x k) t = gN κ t
  | 0 => rfl
  | k + 1 => (flH_N k : gN (flH κ a x k) t = gN κ t)
theorem flH_R {κ : AH} {a t j : Nat} {x : Int32} : ∀ k, gR (flH κ a x k) t j = gR κ t j
  | 0 => rfl
  | k + 1 => (flH_R k : gR (flH κ a x k) t j = gR κ t j)
theorem flH_I {κ : AH} {a t j : Nat} {x : Int32} : ∀ k, gI (flH κ a x k) t j = if t = a ∧ j < k then x else gI κ t j
  | 0 => by rw [if_neg (fun z => absurd z.2 (Nat.not_lt_zero _))]; rfl
  | k + 1 => by
    show gI (sI (flH κ a x k) a k x) t j = _
    rw [gI_sI, flH_I k]
    by_cases e : t = a ∧ j = k
    · rw [if_pos e, if_pos ⟨e.1, by omega⟩]
    · rw [if_neg e]
      by_cases e2 : t = a ∧ j < k
      · rw [if_pos e2, if_pos ⟨e2.1, by omega⟩]
      · rw [if_neg e2, if_neg (fun z => e2 ⟨z.1, by have : ¬ j = k := fun w => e ⟨z.1, w⟩; omega⟩)]
set_option maxRecDepth 20000 in
theorem c_J7_fill_53178 {w : W0} {κ : AH} {a n : Nat} {x : Int32} (ha : gT κ a = 11) (hn : gN κ a = n) (h100 : n ≤ 100) : CY w yJ7_fill_53178 mJ7_fill_53178 [.ref a, .int x] κ (fun v κ' => v = none ∧ κ' = flH κ a x n) := by
  refine CY_of mcJ7_fill_53178 (Nat.le_of_ble_eq_true rfl) (cat1 rfl) (fun θ0 => ?_)
  have ea : Int32.ofNat (gN κ a) = nI n := by rw [hn]; rfl
  have loop5 : ∀ (m k : Nat), k ≤ n → n ≤ m + k → Y w mJ7_fill_53178 θ0 κ (fun v κ' => v = none ∧ κ' = flH κ a x n) (fun _ _ => False) 0 0 5 [some (.ref a), some (.int x), some (.int (nI k)), some (.int (Int32.ofNat (gN κ a)))] [] (flH κ a x k) := by
    intro m
    induction m with
    | zero =>
      intro k hk1 hk2
      have hex : Int32.ofNat (gN κ a) ≤ nI k → k = n := by rw [ea]; intro z; have := (nI_leI (by omega) (by omega)).mp z; omega
      have hlt : ¬ Int32.ofNat (gN κ a) ≤ nI k → k < n := by rw [ea]; intro z; exact Nat.lt_of_not_le (fun q => z (nI_le q (by omega)))
      refine runY_go rkJ7_fill_53178 (fun p => Nat.beq p 5) 200 rfl ?_
      refine And.intro (fun c0 => ?_) (fun c0 => ?_)
      · skip
        refine And.intro ⟨Nat.le_of_ble_eq_true rfl, Nat.le_of_ble_eq_true rfl⟩ ?_
        have hk := hex (by assumption)
        subst hk
        exact ⟨rfl, rfl⟩
      · exact absurd (hlt c0) (by omega)
    | succ m ih =>
      intro k hk1 hk2
      have hex : Int32.ofNat (gN κ a) ≤ nI k → k = n := by rw [ea]; intro z; have := (nI_leI (by omega) (by omega)).mp z; omega
      have hlt : ¬ Int32.ofNat (gN κ a) ≤ nI k → k < n := by rw [ea]; intro z; exact Nat.lt_of_not_le (fun q => z (nI_le q (by omega)))
      refine runY_go rkJ7_fill_53178 (fun p => Nat.beq p 5) 200 rfl ?_
      refine And.intro (fun c1 => ?_) (fun c1 => ?_)
      · skip
        refine And.intro ⟨Nat.le_of_ble_eq_true rfl, Nat.le_of_ble_eq_true rfl⟩ ?_
        have hk := hex (by assumption)
        subst hk
        exact ⟨rfl, rfl⟩
      · skip
        refine And.intro ⟨((flH_T _).trans ha), (by rw [flH_N, hn]; exact vp_in_nI (hlt (by assumption)) (by omega))⟩ ?_
        have e9 := ih (k + 1) (by have := hlt (by assumption); omega) (by omega)
        rw [← nI_1 k] at e9
        rw [nI_clamp (n := k) (by omega)]
        exact e9
  refine runY_ok rkJ7_fill_53178 (fun p => Nat.beq p 5) 200 _ _ _ _ _ _ ?_
  refine And.intro (by rw [show gT _ a = 11 from ha]; decide) ?_
  exact loop5 n 0 (by omega) (by omega)
set_option maxRecDepth 20000 in
theorem c_X1_init {w : W0} {κ : AH} (h0 : gT κ (tS 0) = 2) (h1 : gT κ (tS 8) = 0) : CY w yX1_init mX1_init [.ref (tS 0)] κ (fun v κ' => v = none ∧ κ' = (sI (sI (sR (nO κ (tS 8) 17 36) (tS 0) 0 (some (tS 8))) (tS 0) 1 0) (tS 0) 2 0)) := by
  refine CY_of mcX1_init (Nat.le_of_ble_eq_true rfl) (cat1 rfl) (fun θ0 => ?_)
  refine runY_ok rkX1_init noCut 200 _ _ _ _ _ _ ?_
  refine pX1_init_1 rfl ?_
  refine runY_ok rkX1_init noCut 200 _ _ _ _ _ _ ?_
  refine pX1_init_7 (tS 8) rfl rfl h1 ?_
  refine runY_ok rkX1_init noCut 200 _ _ _ _ _ _ ?_
  refine And.intro (by simp [gT_sI, gT_sR, gT_nO, tB_inj, tB_W, tB_R, tB_P, tB_C, tB_S, tW_inj, tW_B, tW_R, tW_P, tW_C, tW_S, tR_inj, tR_B, tR_W, tR_P, tR_C, tR_S, tP_inj, tP_B, tP_W, tP_R, tP_C, tP_S, tC_inj, tC_B, tC_W, tC_R, tC_P, tC_S, tS_inj, tS_B, tS_W, tS_R, tS_P, tS_C, tM_inj, tM_B, tM_W, tM_R, tM_P, tM_C, tM_S, tB_M, tW_M, tR_M, tP_M, tC_M, tS_M, h0]) ?_
  refine And.intro (by simp [gT_sI, gT_sR, gT_nO, tB_inj, tB_W, tB_R, tB_P, tB_C, tB_S, tW_inj, tW_B, tW_R, tW_P, tW_C, tW_S, tR_inj, tR_B, tR_W, tR_P, tR_C, tR_S, tP_inj, tP_B, tP_W, tP_R, tP_C, tP_S, tC_inj, tC_B, tC_W, tC_R, tC_P, tC_S, tS_inj, tS_B, tS_W, tS_R, tS_P, tS_C, tM_inj, tM_B, tM_W, tM_R, tM_P, tM_C, tM_S, tB_M, tW_M, tR_M, tP_M, tC_M, tS_M, h0]) ?_
  refine And.intro (by simp [gT_sI, gT_sR, gT_nO, tB_inj, tB_W, tB_R, tB_P, tB_C, tB_S, tW_inj, tW_B, tW_R, tW_P, tW_C, tW_S, tR_inj, tR_B, tR_W, tR_P, tR_C, tR_S, tP_inj, tP_B, tP_W, tP_R, tP_C, tP_S, tC_inj, tC_B, tC_W, tC_R, tC_P, tC_S, tS_inj, tS_B, tS_W, tS_R, tS_P, tS_C, tM_inj, tM_B, tM_W, tM_R, tM_P, tM_C, tM_S, tB_M, tW_M, tR_M, tP_M, tC_M, tS_M, h0]) ?_
  refine And.intro ⟨Nat.le_of_ble_eq_true rfl, Nat.le_of_ble_eq_true rfl⟩ ?_
  exact ⟨rfl, rfl⟩
set_option maxRecDepth 20000 in
theorem c_X2_init {w : W0} {κ : AH} (h0 : gT κ (tS 1) = 3) (h1 : gT κ (tS 10) = 0) : CY w yX2_init mX2_init [.ref (tS 1)] κ (fun v κ' => v = none ∧ κ' = (sI (sI (sR (nO κ (tS 10) 11 337) (tS 1) 0 (some (tS 10))) (tS 1) 1 0) (tS 1) 2 0)) := by
  refine CY_of mcX2_init (Nat.le_of_ble_eq_true rfl) (cat1 rfl) (fun θ0 => ?_)
  refine runY_ok rkX2_init noCut 200 _ _ _ _ _ _ ?_
  refine pX2_init_1 rfl ?_
  refine runY_ok rkX2_init noCut 200 _ _ _ _ _ _ ?_
  refine pX2_init_8 (tS 10) rfl rfl h1 ?_
  refine runY_ok rkX2_init noCut 200 _ _ _ _ _ _ ?_
  refine And.intro (by simp [gT_sI, gT_sR, gT_nO, tB_inj, tB_W, tB_R, tB_P, tB_C, tB_S, tW_inj, tW_B, tW_R, tW_P, tW_C, tW_S, tR_inj, tR_B, tR_W, tR_P, tR_C, tR_S, tP_inj, tP_B, tP_W, tP_R, tP_C, tP_S, tC_inj, tC_B, tC_W, tC_R, tC_P, tC_S, tS_inj, tS_B, tS_W, tS_R, tS_P, tS_C, tM_inj, tM_B, tM_W, tM_R, tM_P, tM_C, tM_S, tB_M, tW_M, tR_M, tP_M, tC_M, tS_M, h0]) ?_
  refine And.intro (by simp [gT_sI, gT_sR, gT_nO, tB_inj, tB_W, tB_R, tB_P, tB_C, tB_S, tW_inj, tW_B, tW_R, tW_P, tW_C, tW_S, tR_inj, tR_B, tR_W, tR_P, tR_C, tR_S, tP_inj, tP_B, tP_W, tP_R, tP_C, tP_S, tC_inj, tC_B, tC_W, tC_R, tC_P, tC_S, tS_inj, tS_B, tS_W, tS_R, tS_P, tS_C, tM_inj, tM_B, tM_W, tM_R, tM_P, tM_C, tM_S, tB_M, tW_M, tR_M, tP_M, tC_M, tS_M, h0]) ?_
  refine And.intro (by simp [gT_sI, gT_sR, gT_nO, tB_inj, tB_W, tB_R, tB_P, tB_C, tB_S, tW_inj, tW_B, tW_R, tW_P, tW_C, tW_S, tR_inj, tR_B, tR_W, tR_P, tR_C, tR_S, tP_inj, tP_B, tP_W, tP_R, tP_C, tP_S, tC_inj, tC_B, tC_W, tC_R, tC_P, tC_S, tS_inj, tS_B, tS_W, tS_R, tS_P, tS_C, tM_inj, tM_B, tM_W, tM_R, tM_P, tM_C, tM_S, tB_M, tW_M, tR_M, tP_M, tC_M, tS_M, h0]) ?_
  refine And.intro ⟨Nat.le_of_ble_eq_true rfl, Nat.le_of_ble_eq_true rfl⟩ ?_
  exact ⟨rfl, rfl⟩
set_option maxRecDepth 20000 in
theorem c_X5_init {w : W0} {κ : AH} (h0 : gT κ (tS 2) = 6) : CY w yX5_init mX5_init [.ref (tS 2), .ref (tS 0)] κ (fun v κ' => v = none ∧ κ' = sR κ (tS 2) 0 (some (tS 0))) := by
  refine CY_of mcX5_init (Nat.le_of_ble_eq_true rfl) (cat1 rfl) (fun θ0 => ?_)
  refine runY_ok rkX5_init noCut 200 _ _ _ _ _ _ ?_
  refine pX5_init_1 rfl ?_
  refine runY_ok rkX5_init noCut 200 _ _ _ _ _ _ ?_
  refine And.intro (by simp [gT_sI, gT_sR, gT_nO, tB_inj, tB_W, tB_R, tB_P, tB_C, tB_S, tW_inj, tW_B, tW_R, tW_P, tW_C, tW_S, tR_inj, tR_B, tR_W, tR_P, tR_C, tR_S, tP_inj, tP_B, tP_W, tP_R, tP_C, tP_S, tC_inj, tC_B, tC_W, tC_R, tC_P, tC_S, tS_inj, tS_B, tS_W, tS_R, tS_P, tS_C, tM_inj, tM_B, tM_W, tM_R, tM_P, tM_C, tM_S, tB_M, tW_M, tR_M, tP_M, tC_M, tS_M, h0]) ?_
  refine And.intro ⟨Nat.le_of_ble_eq_true rfl, Nat.le_of_ble_eq_true rfl⟩ ?_
  exact ⟨rfl, rfl⟩
set_option maxRecDepth 20000 in
theorem c_X7_init {w : W0} {κ : AH} (h0 : gT κ (tS 3) = 8) (h1 : gT κ (tS 9) = 0) : CY w yX7_init mX7_init [.ref (tS 3)] κ (fun v κ' => v = none ∧ κ' = (sI (flH (sR (nO κ (tS 9) 11 4) (tS 3) 0 (some (tS 9))) (tS 9) 10 4) (tS 3) 1 1)) := by
  refine CY_of mcX7_init (Nat.le_of_ble_eq_true rfl) (cat1 rfl) (fun θ0 => ?_)
  refine runY_ok rkX7_init noCut 200 _ _ _ _ _ _ ?_
  refine pX7_init_1 rfl ?_
  refine runY_ok rkX7_init noCut 200 _ _ _ _ _ _ ?_
  refine pX7_init_6 (tS 9) rfl rfl h1 ?_
  refine runY_ok rkX7_init noCut 200 _ _ _ _ _ _ ?_
  refine And.intro (by simp [flH_T, gT_sI, gT_sR, gT_nO, tB_inj, tB_W, tB_R, tB_P, tB_C, tB_S, tW_inj, tW_B, tW_R, tW_P, tW_C, tW_S, tR_inj, tR_B, tR_W, tR_P, tR_C, tR_S, tP_inj, tP_B, tP_W, tP_R, tP_C, tP_S, tC_inj, tC_B, tC_W, tC_R, tC_P, tC_S, tS_inj, tS_B, tS_W, tS_R, tS_P, tS_C, tM_inj, tM_B, tM_W, tM_R, tM_P, tM_C, tM_S, tB_M, tW_M, tR_M, tP_M, tC_M, tS_M, h0]) ?_
  refine And.intro (by simp [flH_T, gT_sI, gT_sR, gT_nO, tB_inj, tB_W, tB_R, tB_P, tB_C, tB_S, tW_inj, tW_B, tW_R, tW_P, tW_C, tW_S, tR_inj, tR_B, tR_W, tR_P, tR_C, tR_S, tP_inj, tP_B, tP_W, tP_R, tP_C, tP_S, tC_inj, tC_B, tC_W, tC_R, tC_P, tC_S, tS_inj, tS_B, tS_W, tS_R, tS_P, tS_C, tM_inj, tM_B, tM_W, tM_R, tM_P, tM_C, tM_S, tB_M, tW_M, tR_M, tP_M, tC_M, tS_M, h0]) ⟨some (tS 9), (by simp [gR_sR, tB_inj, tB_W, tB_R, tB_P, tB_C, tB_S, tW_inj, tW_B, tW_R, tW_P, tW_C, tW_S, tR_inj, tR_B, tR_W, tR_P, tR_C, tR_S, tP_inj, tP_B, tP_W, tP_R, tP_C, tP_S, tC_inj, tC_B, tC_W, tC_R, tC_P, tC_S, tS_inj, tS_B, tS_W, tS_R, tS_P, tS_C, tM_inj, tM_B, tM_W, tM_R, tM_P, tM_C, tM_S, tB_M, tW_M, tR_M, tP_M, tC_M, tS_M]), ?_⟩
  refine pX7_init_17 rfl rfl rfl (show CY w yJ7_fill_53178 mJ7_fill_53178 [.ref (tS 9), .int 10] (sR (nO κ (tS 9) 11 4) (tS 3) 0 (some (tS 9))) (fun v κ' => v = none ∧ κ' = (flH (sR (nO κ (tS 9) 11 4) (tS 3) 0 (some (tS 9))) (tS 9) 10 4)) from c_J7_fill_53178 (by simp [gT_sR, gT_nO]) (by simp [gN_sR, gN_nO]) (by decide)) (fun v κ1 hq1 ho1 hk1 => ?_)
  obtain ⟨rfl, ehq1⟩ := hq1
  rw [ehq1]
  refine runY_ok rkX7_init noCut 200 _ _ _ _ _ _ ?_
  refine And.intro (by simp [flH_T, gT_sI, gT_sR, gT_nO, tB_inj, tB_W, tB_R, tB_P, tB_C, tB_S, tW_inj, tW_B, tW_R, tW_P, tW_C, tW_S, tR_inj, tR_B, tR_W, tR_P, tR_C, tR_S, tP_inj, tP_B, tP_W, tP_R, tP_C, tP_S, tC_inj, tC_B, tC_W, tC_R, tC_P, tC_S, tS_inj, tS_B, tS_W, tS_R, tS_P, tS_C, tM_inj, tM_B, tM_W, tM_R, tM_P, tM_C, tM_S, tB_M, tW_M, tR_M, tP_M, tC_M, tS_M, h0]) ?_
  refine And.intro ⟨Nat.le_of_ble_eq_true rfl, Nat.le_of_ble_eq_true rfl⟩ ?_
  exact ⟨rfl, rfl⟩
/-- parts of the new component -/
def i1H (κ : AH) : AH := (sR (nO (sR (nO (sR (nO κ (tS 5) 14 60) (tS 4) 0 (some (tS 5))) (tS 6) 15 100) (tS 4) 1 (some (tS 6))) (tS 7) 16 30) (tS 4) 2 (some (tS 7)))
def i2H (κ : AH) : AH := (sI (sI (sR (nO κ (tS 8) 17 36) (tS 0) 0 (some (tS 8))) (tS 0) 1 0) (tS 0) 2 0)
def i3H (κ : AH) : AH := sR κ (tS 2) 0 (some (tS 0))
def i4H (κ : AH) : AH := (sI (flH (sR (nO κ (tS 9) 11 4) (tS 3) 0 (some (tS 9))) (tS 9) 10 4) (tS 3) 1 1)
def i5H (κ : AH) : AH := (sI (sI (sR (nO κ (tS 10) 11 337) (tS 1) 0 (some (tS 10))) (tS 1) 1 0) (tS 1) 2 0)
def j2H (κ : AH) : AH := (sR (i2H (nO (i1H κ) (tS 0) 2 0)) (tS 4) 3 (some (tS 0)))
def j3H (κ : AH) : AH := (sR (i3H (nO (j2H κ) (tS 2) 6 0)) (tS 4) 4 (some (tS 2)))
def j4H (κ : AH) : AH := (sR (i4H (nO (j3H κ) (tS 3) 8 0)) (tS 4) 5 (some (tS 3)))
def j5H (κ : AH) : AH := (sR (i5H (nO (j4H κ) (tS 1) 3 0)) (tS 4) 6 (some (tS 1)))
def niH (κ : AH) : AH := (sI (sI (sI (sI (sI (sI (sI (sI (j5H κ) (tS 4) 7 0) (tS 4) 8 0) (tS 4) 9 0) (tS 4) 10 6) (tS 4) 11 300) (tS 4) 12 0) (tS 4) 13 200) (tS 4) 14 0)
set_option maxRecDepth 20000 in
theorem c_X8_init {w : W0} {κ : AH} (h4 : gT κ (tS 4) = 9) (h : ∀ i, i < 11 → i ≠ 4 → gT κ (tS i) = 0) : CY w yX8_init mX8_init [.ref (tS 4)] κ (fun v κ' => v = none ∧ κ' = niH κ) := by
  refine CY_of mcX8_init (Nat.le_of_ble_eq_true rfl) (cat1 rfl) (fun θ0 => ?_)
  refine runY_ok rkX8_init noCut 200 _ _ _ _ _ _ ?_
  refine pX8_init_1 rfl ?_
  refine runY_ok rkX8_init noCut 200 _ _ _ _ _ _ ?_
  refine pX8_init_7 (tS 5) rfl rfl (by simp [i1H, i2H, i3H, i4H, i5H, j2H, j3H, j4H, j5H, flH_T, gT_sI, gT_sR, gT_nO, tB_inj, tB_W, tB_R, tB_P, tB_C, tB_S, tW_inj, tW_B, tW_R, tW_P, tW_C, tW_S, tR_inj, tR_B, tR_W, tR_P, tR_C, tR_S, tP_inj, tP_B, tP_W, tP_R, tP_C, tP_S, tC_inj, tC_B, tC_W, tC_R, tC_P, tC_S, tS_inj, tS_B, tS_W, tS_R, tS_P, tS_C, tM_inj, tM_B, tM_W, tM_R, tM_P, tM_C, tM_S, tB_M, tW_M, tR_M, tP_M, tC_M, tS_M, h 5 (by decide) (by decide)]) ?_
  refine runY_ok rkX8_init noCut 200 _ _ _ _ _ _ ?_
  refine And.intro (by simp [i1H, i2H, i3H, i4H, i5H, j2H, j3H, j4H, j5H, flH_T, gT_sI, gT_sR, gT_nO, tB_inj, tB_W, tB_R, tB_P, tB_C, tB_S, tW_inj, tW_B, tW_R, tW_P, tW_C, tW_S, tR_inj, tR_B, tR_W, tR_P, tR_C, tR_S, tP_inj, tP_B, tP_W, tP_R, tP_C, tP_S, tC_inj, tC_B, tC_W, tC_R, tC_P, tC_S, tS_inj, tS_B, tS_W, tS_R, tS_P, tS_C, tM_inj, tM_B, tM_W, tM_R, tM_P, tM_C, tM_S, tB_M, tW_M, tR_M, tP_M, tC_M, tS_M, h4]) ?_
  refine pX8_init_16 (tS 6) rfl rfl (by simp [i1H, i2H, i3H, i4H, i5H, j2H, j3H, j4H, j5H, flH_T, gT_sI, gT_sR, gT_nO, tB_inj, tB_W, tB_R, tB_P, tB_C, tB_S, tW_inj, tW_B, tW_R, tW_P, tW_C, tW_S, tR_inj, tR_B, tR_W, tR_P, tR_C, tR_S, tP_inj, tP_B, tP_W, tP_R, tP_C, tP_S, tC_inj, tC_B, tC_W, tC_R, tC_P, tC_S, tS_inj, tS_B, tS_W, tS_R, tS_P, tS_C, tM_inj, tM_B, tM_W, tM_R, tM_P, tM_C, tM_S, tB_M, tW_M, tR_M, tP_M, tC_M, tS_M, h 6 (by decide) (by decide)]) ?_
  refine runY_ok rkX8_init noCut 200 _ _ _ _ _ _ ?_
  refine And.intro (by simp [i1H, i2H, i3H, i4H, i5H, j2H, j3H, j4H, j5H, flH_T, gT_sI, gT_sR, gT_nO, tB_inj, tB_W, tB_R, tB_P, tB_C, tB_S, tW_inj, tW_B, tW_R, tW_P, tW_C, tW_S, tR_inj, tR_B, tR_W, tR_P, tR_C, tR_S, tP_inj, tP_B, tP_W, tP_R, tP_C, tP_S, tC_inj, tC_B, tC_W, tC_R, tC_P, tC_S, tS_inj, tS_B, tS_W, tS_R, tS_P, tS_C, tM_inj, tM_B, tM_W, tM_R, tM_P, tM_C, tM_S, tB_M, tW_M, tR_M, tP_M, tC_M, tS_M, h4]) ?_
  refine pX8_init_25 (tS 7) rfl rfl (by simp [i1H, i2H, i3H, i4H, i5H, j2H, j3H, j4H, j5H, flH_T, gT_sI, gT_sR, gT_nO, tB_inj, tB_W, tB_R, tB_P, tB_C, tB_S, tW_inj, tW_B, tW_R, tW_P, tW_C, tW_S, tR_inj, tR_B, tR_W, tR_P, tR_C, tR_S, tP_inj, tP_B, tP_W, tP_R, tP_C, tP_S, tC_inj, tC_B, tC_W, tC_R, tC_P, tC_S, tS_inj, tS_B, tS_W, tS_R, tS_P, tS_C, tM_inj, tM_B, tM_W, tM_R, tM_P, tM_C, tM_S, tB_M, tW_M, tR_M, tP_M, tC_M, tS_M, h 7 (by decide) (by decide)]) ?_
  refine runY_ok rkX8_init noCut 200 _ _ _ _ _ _ ?_
  refine And.intro (by simp [i1H, i2H, i3H, i4H, i5H, j2H, j3H, j4H, j5H, flH_T, gT_sI, gT_sR, gT_nO, tB_inj, tB_W, tB_R, tB_P, tB_C, tB_S, tW_inj, tW_B, tW_R, tW_P, tW_C, tW_S, tR_inj, tR_B, tR_W, tR_P, tR_C, tR_S, tP_inj, tP_B, tP_W, tP_R, tP_C, tP_S, tC_inj, tC_B, tC_W, tC_R, tC_P, tC_S, tS_inj, tS_B, tS_W, tS_R, tS_P, tS_C, tM_inj, tM_B, tM_W, tM_R, tM_P, tM_C, tM_S, tB_M, tW_M, tR_M, tP_M, tC_M, tS_M, h4]) ?_
  refine pX8_init_32 (tS 0) rfl rfl (by simp [i1H, i2H, i3H, i4H, i5H, j2H, j3H, j4H, j5H, flH_T, gT_sI, gT_sR, gT_nO, tB_inj, tB_W, tB_R, tB_P, tB_C, tB_S, tW_inj, tW_B, tW_R, tW_P, tW_C, tW_S, tR_inj, tR_B, tR_W, tR_P, tR_C, tR_S, tP_inj, tP_B, tP_W, tP_R, tP_C, tP_S, tC_inj, tC_B, tC_W, tC_R, tC_P, tC_S, tS_inj, tS_B, tS_W, tS_R, tS_P, tS_C, tM_inj, tM_B, tM_W, tM_R, tM_P, tM_C, tM_S, tB_M, tW_M, tR_M, tP_M, tC_M, tS_M, h 0 (by decide) (by decide)]) ?_
  refine runY_ok rkX8_init noCut 200 _ _ _ _ _ _ ?_
  refine pX8_init_36 rfl rfl rfl (show CY w yX1_init mX1_init [.ref (tS 0)] (nO (i1H κ) (tS 0) 2 0) (fun v κ' => v = none ∧ κ' = i2H (nO (i1H κ) (tS 0) 2 0)) from c_X1_init (by simp [gT_nO]) (by simp [i1H, i2H, i3H, i4H, i5H, j2H, j3H, j4H, j5H, flH_T, gT_sI, gT_sR, gT_nO, tB_inj, tB_W, tB_R, tB_P, tB_C, tB_S, tW_inj, tW_B, tW_R, tW_P, tW_C, tW_S, tR_inj, tR_B, tR_W, tR_P, tR_C, tR_S, tP_inj, tP_B, tP_W, tP_R, tP_C, tP_S, tC_inj, tC_B, tC_W, tC_R, tC_P, tC_S, tS_inj, tS_B, tS_W, tS_R, tS_P, tS_C, tM_inj, tM_B, tM_W, tM_R, tM_P, tM_C, tM_S, tB_M, tW_M, tR_M, tP_M, tC_M, tS_M, h 8 (by decide) (by decide)])) (fun v κ1 hq1 ho1 hk1 => ?_)
  obtain ⟨rfl, ehq1⟩ := hq1
  rw [ehq1]
  refine runY_ok rkX8_init noCut 200 _ _ _ _ _ _ ?_
  refine And.intro (by simp [i1H, i2H, i3H, i4H, i5H, j2H, j3H, j4H, j5H, flH_T, gT_sI, gT_sR, gT_nO, tB_inj, tB_W, tB_R, tB_P, tB_C, tB_S, tW_inj, tW_B, tW_R, tW_P, tW_C, tW_S, tR_inj, tR_B, tR_W, tR_P, tR_C, tR_S, tP_inj, tP_B, tP_W, tP_R, tP_C, tP_S, tC_inj, tC_B, tC_W, tC_R, tC_P, tC_S, tS_inj, tS_B, tS_W, tS_R, tS_P, tS_C, tM_inj, tM_B, tM_W, tM_R, tM_P, tM_C, tM_S, tB_M, tW_M, tR_M, tP_M, tC_M, tS_M, h4]) ?_
  refine pX8_init_43 (tS 2) rfl rfl (by simp [i1H, i2H, i3H, i4H, i5H, j2H, j3H, j4H, j5H, flH_T, gT_sI, gT_sR, gT_nO, tB_inj, tB_W, tB_R, tB_P, tB_C, tB_S, tW_inj, tW_B, tW_R, tW_P, tW_C, tW_S, tR_inj, tR_B, tR_W, tR_P, tR_C, tR_S, tP_inj, tP_B, tP_W, tP_R, tP_C, tP_S, tC_inj, tC_B, tC_W, tC_R, tC_P, tC_S, tS_inj, tS_B, tS_W, tS_R, tS_P, tS_C, tM_inj, tM_B, tM_W, tM_R, tM_P, tM_C, tM_S, tB_M, tW_M, tR_M, tP_M, tC_M, tS_M, h 2 (by decide) (by decide)]) ?_
  refine runY_ok rkX8_init noCut 200 _ _ _ _ _ _ ?_
  refine And.intro (by simp [i1H, i2H, i3H, i4H, i5H, j2H, j3H, j4H, j5H, flH_T, gT_sI, gT_sR, gT_nO, tB_inj, tB_W, tB_R, tB_P, tB_C, tB_S, tW_inj, tW_B, tW_R, tW_P, tW_C, tW_S, tR_inj, tR_B, tR_W, tR_P, tR_C, tR_S, tP_inj, tP_B, tP_W, tP_R, tP_C, tP_S, tC_inj, tC_B, tC_W, tC_R, tC_P, tC_S, tS_inj, tS_B, tS_W, tS_R, tS_P, tS_C, tM_inj, tM_B, tM_W, tM_R, tM_P, tM_C, tM_S, tB_M, tW_M, tR_M, tP_M, tC_M, tS_M, h4]) ⟨some (tS 0), (by simp [j2H, gR_sR, gR_nO, tB_inj, tB_W, tB_R, tB_P, tB_C, tB_S, tW_inj, tW_B, tW_R, tW_P, tW_C, tW_S, tR_inj, tR_B, tR_W, tR_P, tR_C, tR_S, tP_inj, tP_B, tP_W, tP_R, tP_C, tP_S, tC_inj, tC_B, tC_W, tC_R, tC_P, tC_S, tS_inj, tS_B, tS_W, tS_R, tS_P, tS_C, tM_inj, tM_B, tM_W, tM_R, tM_P, tM_C, tM_S, tB_M, tW_M, tR_M, tP_M, tC_M, tS_M]), ?_⟩
  refine pX8_init_51 rfl rfl rfl (show CY w yX5_init mX5_init [.ref (tS 2), .ref (tS 0)] (nO (j2H κ) (tS 2) 6 0) (fun v κ' => v = none ∧ κ' = i3H (nO (j2H κ) (tS 2) 6 0)) from c_X5_init (by simp [gT_nO])) (fun v κ1 hq2 ho2 hk2 => ?_)
  obtain ⟨rfl, ehq2⟩ := hq2
  rw [ehq2]
  refine runY_ok rkX8_init noCut 200 _ _ _ _ _ _ ?_
  refine And.intro (by simp [i1H, i2H, i3H, i4H, i5H, j2H, j3H, j4H, j5H, flH_T, gT_sI, gT_sR, gT_nO, tB_inj, tB_W, tB_R, tB_P, tB_C, tB_S, tW_inj, tW_B, tW_R, tW_P, tW_C, tW_S, tR_inj, tR_B, tR_W, tR_P, tR_C, tR_S, tP_inj, tP_B, tP_W, tP_R, tP_C, tP_S, tC_inj, tC_B, tC_W, tC_R, tC_P, tC_S, tS_inj, tS_B, tS_W, tS_R, tS_P, tS_C, tM_inj, tM_B, tM_W, tM_R, tM_P, tM_C, tM_S, tB_M, tW_M, tR_M, tP_M, tC_M, tS_M, h4]) ?_
  refine pX8_init_58 (tS 3) rfl rfl (by simp [i1H, i2H, i3H, i4H, i5H, j2H, j3H, j4H, j5H, flH_T, gT_sI, gT_sR, gT_nO, tB_inj, tB_W, tB_R, tB_P, tB_C, tB_S, tW_inj, tW_B, tW_R, tW_P, tW_C, tW_S, tR_inj, tR_B, tR_W, tR_P, tR_C, tR_S, tP_inj, tP_B, tP_W, tP_R, tP_C, tP_S, tC_inj, tC_B, tC_W, tC_R, tC_P, tC_S, tS_inj, tS_B, tS_W, tS_R, tS_P, tS_C, tM_inj, tM_B, tM_W, tM_R, tM_P, tM_C, tM_S, tB_M, tW_M, tR_M, tP_M, tC_M, tS_M, h 3 (by decide) (by decide)]) ?_
  refine runY_ok rkX8_init noCut 200 _ _ _ _ _ _ ?_
  refine pX8_init_62 rfl rfl rfl (show CY w yX7_init mX7_init [.ref (tS 3)] (nO (j3H κ) (tS 3) 8 0) (fun v κ' => v = none ∧ κ' = i4H (nO (j3H κ) (tS 3) 8 0)) from c_X7_init (by simp [gT_nO]) (by simp [i1H, i2H, i3H, i4H, i5H, j2H, j3H, j4H, j5H, flH_T, gT_sI, gT_sR, gT_nO, tB_inj, tB_W, tB_R, tB_P, tB_C, tB_S, tW_inj, tW_B, tW_R, tW_P, tW_C, tW_S, tR_inj, tR_B, tR_W, tR_P, tR_C, tR_S, tP_inj, tP_B, tP_W, tP_R, tP_C, tP_S, tC_inj, tC_B, tC_W, tC_R, tC_P, tC_S, tS_inj, tS_B, tS_W, tS_R, tS_P, tS_C, tM_inj, tM_B, tM_W, tM_R, tM_P, tM_C, tM_S, tB_M, tW_M, tR_M, tP_M, tC_M, tS_M, h 9 (by decide) (by decide)])) (fun v κ1 hq3 ho3 hk3 => ?_)
  obtain ⟨rfl, ehq3⟩ := hq3
  rw [ehq3]
  refine runY_ok rkX8_init noCut 200 _ _ _ _ _ _ ?_
  refine And.intro (by simp [i1H, i2H, i3H, i4H, i5H, j2H, j3H, j4H, j5H, flH_T, gT_sI, gT_sR, gT_nO, tB_inj, tB_W, tB_R, tB_P, tB_C, tB_S, tW_inj, tW_B, tW_R, tW_P, tW_C, tW_S, tR_inj, tR_B, tR_W, tR_P, tR_C, tR_S, tP_inj, tP_B, tP_W, tP_R, tP_C, tP_S, tC_inj, tC_B, tC_W, tC_R, tC_P, tC_S, tS_inj, tS_B, tS_W, tS_R, tS_P, tS_C, tM_inj, tM_B, tM_W, tM_R, tM_P, tM_C, tM_S, tB_M, tW_M, tR_M, tP_M, tC_M, tS_M, h4]) ?_
  refine pX8_init_69 (tS 1) rfl rfl (by simp [i1H, i2H, i3H, i4H, i5H, j2H, j3H, j4H, j5H, flH_T, gT_sI, gT_sR, gT_nO, tB_inj, tB_W, tB_R, tB_P, tB_C, tB_S, tW_inj, tW_B, tW_R, tW_P, tW_C, tW_S, tR_inj, tR_B, tR_W, tR_P, tR_C, tR_S, tP_inj, tP_B, tP_W, tP_R, tP_C, tP_S, tC_inj, tC_B, tC_W, tC_R, tC_P, tC_S, tS_inj, tS_B, tS_W, tS_R, tS_P, tS_C, tM_inj, tM_B, tM_W, tM_R, tM_P, tM_C, tM_S, tB_M, tW_M, tR_M, tP_M, tC_M, tS_M, h 1 (by decide) (by decide)]) ?_
  refine runY_ok rkX8_init noCut 200 _ _ _ _ _ _ ?_
  refine pX8_init_73 rfl rfl rfl (show CY w yX2_init mX2_init [.ref (tS 1)] (nO (j4H κ) (tS 1) 3 0) (fun v κ' => v = none ∧ κ' = i5H (nO (j4H κ) (tS 1) 3 0)) from c_X2_init (by simp [gT_nO]) (by simp [i1H, i2H, i3H, i4H, i5H, j2H, j3H, j4H, j5H, flH_T, gT_sI, gT_sR, gT_nO, tB_inj, tB_W, tB_R, tB_P, tB_C, tB_S, tW_inj, tW_B, tW_R, tW_P, tW_C, tW_S, tR_inj, tR_B, tR_W, tR_P, tR_C, tR_S, tP_inj, tP_B, tP_W, tP_R, tP_C, tP_S, tC_inj, tC_B, tC_W, tC_R, tC_P, tC_S, tS_inj, tS_B, tS_W, tS_R, tS_P, tS_C, tM_inj, tM_B, tM_W, tM_R, tM_P, tM_C, tM_S, tB_M, tW_M, tR_M, tP_M, tC_M, tS_M, h 10 (by decide) (by decide)])) (fun v κ1 hq4 ho4 hk4 => ?_)
  obtain ⟨rfl, ehq4⟩ := hq4
  rw [ehq4]
  refine runY_ok rkX8_init noCut 200 _ _ _ _ _ _ ?_
  refine And.intro (by simp [i1H, i2H, i3H, i4H, i5H, j2H, j3H, j4H, j5H, flH_T, gT_sI, gT_sR, gT_nO, tB_inj, tB_W, tB_R, tB_P, tB_C, tB_S, tW_inj, tW_B, tW_R, tW_P, tW_C, tW_S, tR_inj, tR_B, tR_W, tR_P, tR_C, tR_S, tP_inj, tP_B, tP_W, tP_R, tP_C, tP_S, tC_inj, tC_B, tC_W, tC_R, tC_P, tC_S, tS_inj, tS_B, tS_W, tS_R, tS_P, tS_C, tM_inj, tM_B, tM_W, tM_R, tM_P, tM_C, tM_S, tB_M, tW_M, tR_M, tP_M, tC_M, tS_M, h4]) ?_
  refine And.intro (by simp [i1H, i2H, i3H, i4H, i5H, j2H, j3H, j4H, j5H, flH_T, gT_sI, gT_sR, gT_nO, tB_inj, tB_W, tB_R, tB_P, tB_C, tB_S, tW_inj, tW_B, tW_R, tW_P, tW_C, tW_S, tR_inj, tR_B, tR_W, tR_P, tR_C, tR_S, tP_inj, tP_B, tP_W, tP_R, tP_C, tP_S, tC_inj, tC_B, tC_W, tC_R, tC_P, tC_S, tS_inj, tS_B, tS_W, tS_R, tS_P, tS_C, tM_inj, tM_B, tM_W, tM_R, tM_P, tM_C, tM_S, tB_M, tW_M, tR_M, tP_M, tC_M, tS_M, h4]) ?_
  refine And.intro (by simp [i1H, i2H, i3H, i4H, i5H, j2H, j3H, j4H, j5H, flH_T, gT_sI, gT_sR, gT_nO, tB_inj, tB_W, tB_R, tB_P, tB_C, tB_S, tW_inj, tW_B, tW_R, tW_P, tW_C, tW_S, tR_inj, tR_B, tR_W, tR_P, tR_C, tR_S, tP_inj, tP_B, tP_W, tP_R, tP_C, tP_S, tC_inj, tC_B, tC_W, tC_R, tC_P, tC_S, tS_inj, tS_B, tS_W, tS_R, tS_P, tS_C, tM_inj, tM_B, tM_W, tM_R, tM_P, tM_C, tM_S, tB_M, tW_M, tR_M, tP_M, tC_M, tS_M, h4]) ?_
  refine And.intro (by simp [i1H, i2H, i3H, i4H, i5H, j2H, j3H, j4H, j5H, flH_T, gT_sI, gT_sR, gT_nO, tB_inj, tB_W, tB_R, tB_P, tB_C, tB_S, tW_inj, tW_B, tW_R, tW_P, tW_C, tW_S, tR_inj, tR_B, tR_W, tR_P, tR_C, tR_S, tP_inj, tP_B, tP_W, tP_R, tP_C, tP_S, tC_inj, tC_B, tC_W, tC_R, tC_P, tC_S, tS_inj, tS_B, tS_W, tS_R, tS_P, tS_C, tM_inj, tM_B, tM_W, tM_R, tM_P, tM_C, tM_S, tB_M, tW_M, tR_M, tP_M, tC_M, tS_M, h4]) ?_
  refine And.intro (by simp [i1H, i2H, i3H, i4H, i5H, j2H, j3H, j4H, j5H, flH_T, gT_sI, gT_sR, gT_nO, tB_inj, tB_W, tB_R, tB_P, tB_C, tB_S, tW_inj, tW_B, tW_R, tW_P, tW_C, tW_S, tR_inj, tR_B, tR_W, tR_P, tR_C, tR_S, tP_inj, tP_B, tP_W, tP_R, tP_C, tP_S, tC_inj, tC_B, tC_W, tC_R, tC_P, tC_S, tS_inj, tS_B, tS_W, tS_R, tS_P, tS_C, tM_inj, tM_B, tM_W, tM_R, tM_P, tM_C, tM_S, tB_M, tW_M, tR_M, tP_M, tC_M, tS_M, h4]) ?_
  refine And.intro (by simp [i1H, i2H, i3H, i4H, i5H, j2H, j3H, j4H, j5H, flH_T, gT_sI, gT_sR, gT_nO, tB_inj, tB_W, tB_R, tB_P, tB_C, tB_S, tW_inj, tW_B, tW_R, tW_P, tW_C, tW_S, tR_inj, tR_B, tR_W, tR_P, tR_C, tR_S, tP_inj, tP_B, tP_W, tP_R, tP_C, tP_S, tC_inj, tC_B, tC_W, tC_R, tC_P, tC_S, tS_inj, tS_B, tS_W, tS_R, tS_P, tS_C, tM_inj, tM_B, tM_W, tM_R, tM_P, tM_C, tM_S, tB_M, tW_M, tR_M, tP_M, tC_M, tS_M, h4]) ?_
  refine And.intro (by simp [i1H, i2H, i3H, i4H, i5H, j2H, j3H, j4H, j5H, flH_T, gT_sI, gT_sR, gT_nO, tB_inj, tB_W, tB_R, tB_P, tB_C, tB_S, tW_inj, tW_B, tW_R, tW_P, tW_C, tW_S, tR_inj, tR_B, tR_W, tR_P, tR_C, tR_S, tP_inj, tP_B, tP_W, tP_R, tP_C, tP_S, tC_inj, tC_B, tC_W, tC_R, tC_P, tC_S, tS_inj, tS_B, tS_W, tS_R, tS_P, tS_C, tM_inj, tM_B, tM_W, tM_R, tM_P, tM_C, tM_S, tB_M, tW_M, tR_M, tP_M, tC_M, tS_M, h4]) ?_
  refine And.intro (by simp [i1H, i2H, i3H, i4H, i5H, j2H, j3H, j4H, j5H, flH_T, gT_sI, gT_sR, gT_nO, tB_inj, tB_W, tB_R, tB_P, tB_C, tB_S, tW_inj, tW_B, tW_R, tW_P, tW_C, tW_S, tR_inj, tR_B, tR_W, tR_P, tR_C, tR_S, tP_inj, tP_B, tP_W, tP_R, tP_C, tP_S, tC_inj, tC_B, tC_W, tC_R, tC_P, tC_S, tS_inj, tS_B, tS_W, tS_R, tS_P, tS_C, tM_inj, tM_B, tM_W, tM_R, tM_P, tM_C, tM_S, tB_M, tW_M, tR_M, tP_M, tC_M, tS_M, h4]) ?_
  refine And.intro ⟨(by simp [i1H, i2H, i3H, i4H, i5H, j2H, j3H, j4H, j5H, flH_T, gT_sI, gT_sR, gT_nO, tB_inj, tB_W, tB_R, tB_P, tB_C, tB_S, tW_inj, tW_B, tW_R, tW_P, tW_C, tW_S, tR_inj, tR_B, tR_W, tR_P, tR_C, tR_S, tP_inj, tP_B, tP_W, tP_R, tP_C, tP_S, tC_inj, tC_B, tC_W, tC_R, tC_P, tC_S, tS_inj, tS_B, tS_W, tS_R, tS_P, tS_C, tM_inj, tM_B, tM_W, tM_R, tM_P, tM_C, tM_S, tB_M, tW_M, tR_M, tP_M, tC_M, tS_M, h4]), (by decide)⟩ ?_
  refine And.intro ⟨(show _ ≤ _ by decide), (show _ ≤ _ by decide)⟩ ?_
  exact ⟨rfl, rfl⟩


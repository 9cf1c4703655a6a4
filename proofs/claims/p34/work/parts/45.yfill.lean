/-! THE COMPONENT FILLS CELLS -/
def rmI (κ : AH) (c j : Nat) : AH := sI (sI (sI (sI (sI (sR (sI (nO κ (tR c) 5 0) (tR c) 0 (nI c)) (tR c) 1 (some (tB j))) (tR c) 2 0) (tR c) 3 0) (tR c) 4 0) (tR c) 5 0) (tR c) 6 0
def f1H (κ : AH) (c j : Nat) : AH := sR (rmI κ c j) (tS 8) c (some (tR c))
/-- n cells from c on filled with block j -/
def fiH (κ : AH) (c j : Nat) : Nat → AH
  | 0 => κ
  | n + 1 => f1H (fiH κ c j n) (c + n) j
theorem rmI_SG {κ : AH} {c j : Nat} (h : SG κ) : SG (rmI κ c j) := (SG_sR (SG_nO h (fun i _ z => tR_S.mp z) : SG (sI (nO κ (tR c) 5 0) (tR c) 0 (nI c))) (fun i _ z => tR_S.mp z) : SG (sR (sI (nO κ (tR c) 5 0) (tR c) 0 (nI c)) (tR c) 1 (some (tB j))))
theorem f1H_SG {κ : AH} {c j : Nat} (h : SG κ) : SG (f1H κ c j) := SG_sR (rmI_SG h) (fun i hi z => by have := tS_inj.mp z; omega)
theorem fiH_SG {κ : AH} {c j : Nat} (h : SG κ) : ∀ n, SG (fiH κ c j n)
  | 0 => h
  | n + 1 => f1H_SG (fiH_SG h n)
theorem f1H_T {κ : AH} {c j t : Nat} (h : t ≠ tR c) : gT (f1H κ c j) t = gT κ t := by
  show gT (nO κ (tR c) 5 0) t = _
  rw [gT_nO, if_neg h]
theorem f1H_I {κ : AH} {c j t p : Nat} (h : t ≠ tR c) : gI (f1H κ c j) t p = gI κ t p := by
  unfold f1H rmI
  rw [gI_sR, gI_sI, if_neg (fun z => h z.1), gI_sI, if_neg (fun z => h z.1), gI_sI, if_neg (fun z => h z.1), gI_sI, if_neg (fun z => h z.1), gI_sI, if_neg (fun z => h z.1), gI_sR, gI_sI, if_neg (fun z => h z.1), gI_nO, if_neg h]
theorem fiH_T {κ : AH} {c j t : Nat} (h : ∀ i, t ≠ tR i) : ∀ n, gT (fiH κ c j n) t = gT κ t
  | 0 => rfl
  | n + 1 => (f1H_T (h _)).trans (fiH_T h n)
theorem fiH_I {κ : AH} {c j t p : Nat} (h : ∀ i, t ≠ tR i) : ∀ n, gI (fiH κ c j n) t p = gI κ t p
  | 0 => rfl
  | n + 1 => (f1H_I (h _)).trans (fiH_I h n)
theorem fiH_F {κ : AH} {c j d : Nat} : ∀ n, c + n ≤ d → gT (fiH κ c j n) (tR d) = gT κ (tR d)
  | 0, _ => rfl
  | n + 1, h => (f1H_T (fun z => by have := tR_inj.mp z; omega)).trans (fiH_F n (by omega))
theorem clO_n {k v : Nat} (hk : k < 12) (hv : v < 3) : clO (nI k) (nI v) = nI (12 * v + k) := by
  have : ∀ k : Nat, k < 12 → ∀ v : Nat, v < 3 → clO (nI k) (nI v) = nI (12 * v + k) := by decide
  exact this k hk v hv
set_option maxRecDepth 20000 in
theorem c_X1_fill {w : W0} {κ : AH} {j v lo hi : Nat} (hG : SG κ) (hb : gT κ (tB j) = 1) (e1 : gI κ (tB j) 1 = nI lo) (e2 : gI κ (tB j) 2 = nI hi) (e3 : gI κ (tB j) 3 = nI v) (hlo : lo ≤ hi) (hhi : hi < 12) (hv : v < 3) (hfree : ∀ i, i < hi + 1 - lo → gT κ (tR (12 * v + lo + i)) = 0) : CY w yX1_fill mX1_fill [.ref (tS 0), .ref (tB j)] κ (fun v' κ' => v' = none ∧ κ' = (sI (sI (fiH κ (12 * v + lo) j (hi + 1 - lo)) (tS 0) 1 (gI κ (tS 0) 1 + gI κ (tB j) 4)) (tS 0) 2 (gI κ (tS 0) 2 + gI κ (tB j) 4 * (nI lo + nI hi)))) := by
  refine CY_of mcX1_fill (Nat.le_of_ble_eq_true rfl) (cat1 rfl) (fun θ0 => ?_)
  have loop5 : ∀ (m i : Nat) (x3 : Option Value), i ≤ hi + 1 - lo → hi + 1 - lo ≤ m + i → Y w mX1_fill θ0 κ (fun v' κ' => v' = none ∧ κ' = (sI (sI (fiH κ (12 * v + lo) j (hi + 1 - lo)) (tS 0) 1 (gI κ (tS 0) 1 + gI κ (tB j) 4)) (tS 0) 2 (gI κ (tS 0) 2 + gI κ (tB j) 4 * (nI lo + nI hi)))) (fun _ _ => False) i (7 * i) 5 [some (.ref (tS 0)), some (.ref (tB j)), some (.int (nI (lo + i))), x3] [] (fiH κ (12 * v + lo) j i) := by
    intro m
    induction m with
    | zero =>
      intro i x3 hk1 hk2
      have hGi : SG (fiH κ (12 * v + lo) j i) := fiH_SG hG i
      have hbi : gT (fiH κ (12 * v + lo) j i) (tB j) = 1 := (fiH_T (fun _ z => tB_R.mp z) i).trans hb
      have b2 : gI (fiH κ (12 * v + lo) j i) (tB j) 2 = nI hi := (fiH_I (fun _ z => tB_R.mp z) i).trans e2
      have b3 : gI (fiH κ (12 * v + lo) j i) (tB j) 3 = nI v := (fiH_I (fun _ z => tB_R.mp z) i).trans e3
      have hGr : SG (rmI (fiH κ (12 * v + lo) j i) (12 * v + lo + i) j) := rmI_SG hGi
      have hr5n : gT (nO (fiH κ (12 * v + lo) j i) (tR (12 * v + lo + i)) 5 0) (tR (12 * v + lo + i)) = 5 := by rw [gT_nO, if_pos rfl]
      have hr5 : gT (rmI (fiH κ (12 * v + lo) j i) (12 * v + lo + i) j) (tR (12 * v + lo + i)) = 5 := hr5n
      have hbn : gT (nO (fiH κ (12 * v + lo) j i) (tR (12 * v + lo + i)) 5 0) (tB j) = 1 := by rw [gT_nO, if_neg (fun z => tB_R.mp z)]; exact hbi
      have hex : nI hi < nI (lo + i) → i = hi + 1 - lo := by intro z; have := (nI_ltI (by omega) (by omega)).mp z; omega
      have hlt : ¬ nI hi < nI (lo + i) → lo + i ≤ hi := by intro z; exact Nat.le_of_not_lt (fun q => z ((nI_ltI (by omega) (by omega)).mpr q))
      have K56 : i = hi + 1 - lo → Y w mX1_fill θ0 κ (fun v' κ' => v' = none ∧ κ' = (sI (sI (fiH κ (12 * v + lo) j (hi + 1 - lo)) (tS 0) 1 (gI κ (tS 0) 1 + gI κ (tB j) 4)) (tS 0) 2 (gI κ (tS 0) 2 + gI κ (tB j) 4 * (nI lo + nI hi)))) (fun _ _ => False) i (7 * i) 56 [some (.ref (tS 0)), some (.ref (tB j)), some (.int (nI (lo + i))), x3] [] (fiH κ (12 * v + lo) j i) := by
        intro hi9
        subst hi9
        refine runY_go rkX1_fill (fun p => Nat.beq p 5 || Nat.beq p 50 || Nat.beq p 56) 200 rfl ?_
        refine And.intro (by first | exact hb | exact hbi) ?_
        refine And.intro (by first | exact hb | exact hbi) ?_
        refine And.intro (by first | exact hb | exact hbi) ?_
        refine pX1_fill_70 rfl (Nat.ble_eq_true_of_le (by omega)) (Nat.ble_eq_true_of_le (by omega)) (by first | exact hG.t0 | exact hGi.t0) (show CY w yX1_load mX1_load [.ref (tS 0), .int (gI (fiH κ (12 * v + lo) j (hi + 1 - lo)) (tB j) 4), .int (gI (fiH κ (12 * v + lo) j (hi + 1 - lo)) (tB j) 1 + gI (fiH κ (12 * v + lo) j (hi + 1 - lo)) (tB j) 2)] (fiH κ (12 * v + lo) j (hi + 1 - lo)) (fun v' κ' => v' = none ∧ κ' = (sI (sI (fiH κ (12 * v + lo) j (hi + 1 - lo)) (tS 0) 1 (gI κ (tS 0) 1 + gI κ (tB j) 4)) (tS 0) 2 (gI κ (tS 0) 2 + gI κ (tB j) 4 * (nI lo + nI hi)))) from by have h9 := c_X1_load (w := w) (κ := (fiH κ (12 * v + lo) j (hi + 1 - lo))) (x := gI (fiH κ (12 * v + lo) j (hi + 1 - lo)) (tB j) 4) (y := gI (fiH κ (12 * v + lo) j (hi + 1 - lo)) (tB j) 1 + gI (fiH κ (12 * v + lo) j (hi + 1 - lo)) (tB j) 2) hGi.t0; rw [fiH_I (fun _ z => tB_R.mp z), fiH_I (fun _ z => tB_R.mp z), fiH_I (fun _ z => tB_R.mp z), fiH_I (t := tS 0) (fun _ z => tS_R.mp z), fiH_I (t := tS 0) (fun _ z => tS_R.mp z), e1, e2] at h9; rw [fiH_I (fun _ z => tB_R.mp z), fiH_I (fun _ z => tB_R.mp z), fiH_I (fun _ z => tB_R.mp z), e1, e2]; exact h9) (fun v κ1 hq1 ho1 hk1 => ?_)
        obtain ⟨rfl, ehq1⟩ := hq1
        rw [ehq1]
        refine runY_ok rkX1_fill (fun p => Nat.beq p 5 || Nat.beq p 50 || Nat.beq p 56) 200 _ _ _ _ _ _ ?_
        refine And.intro ⟨(show _ ≤ 12 by omega), (show _ ≤ 84 by omega)⟩ ?_
        exact ⟨rfl, rfl⟩
      refine runY_go rkX1_fill (fun p => Nat.beq p 5 || Nat.beq p 50 || Nat.beq p 56) 200 rfl ?_
      refine And.intro hbi ?_
      refine And.intro (fun c0 => ?_) (fun c0 => ?_)
      · rw [b2] at c0
        exact K56 (hex (by assumption))
      · exact absurd (hlt (b2 ▸ c0)) (by omega)
    | succ m ih =>
      intro i x3 hk1 hk2
      have hGi : SG (fiH κ (12 * v + lo) j i) := fiH_SG hG i
      have hbi : gT (fiH κ (12 * v + lo) j i) (tB j) = 1 := (fiH_T (fun _ z => tB_R.mp z) i).trans hb
      have b2 : gI (fiH κ (12 * v + lo) j i) (tB j) 2 = nI hi := (fiH_I (fun _ z => tB_R.mp z) i).trans e2
      have b3 : gI (fiH κ (12 * v + lo) j i) (tB j) 3 = nI v := (fiH_I (fun _ z => tB_R.mp z) i).trans e3
      have hGr : SG (rmI (fiH κ (12 * v + lo) j i) (12 * v + lo + i) j) := rmI_SG hGi
      have hr5n : gT (nO (fiH κ (12 * v + lo) j i) (tR (12 * v + lo + i)) 5 0) (tR (12 * v + lo + i)) = 5 := by rw [gT_nO, if_pos rfl]
      have hr5 : gT (rmI (fiH κ (12 * v + lo) j i) (12 * v + lo + i) j) (tR (12 * v + lo + i)) = 5 := hr5n
      have hbn : gT (nO (fiH κ (12 * v + lo) j i) (tR (12 * v + lo + i)) 5 0) (tB j) = 1 := by rw [gT_nO, if_neg (fun z => tB_R.mp z)]; exact hbi
      have hex : nI hi < nI (lo + i) → i = hi + 1 - lo := by intro z; have := (nI_ltI (by omega) (by omega)).mp z; omega
      have hlt : ¬ nI hi < nI (lo + i) → lo + i ≤ hi := by intro z; exact Nat.le_of_not_lt (fun q => z ((nI_ltI (by omega) (by omega)).mpr q))
      have K56 : i = hi + 1 - lo → Y w mX1_fill θ0 κ (fun v' κ' => v' = none ∧ κ' = (sI (sI (fiH κ (12 * v + lo) j (hi + 1 - lo)) (tS 0) 1 (gI κ (tS 0) 1 + gI κ (tB j) 4)) (tS 0) 2 (gI κ (tS 0) 2 + gI κ (tB j) 4 * (nI lo + nI hi)))) (fun _ _ => False) i (7 * i) 56 [some (.ref (tS 0)), some (.ref (tB j)), some (.int (nI (lo + i))), x3] [] (fiH κ (12 * v + lo) j i) := by
        intro hi9
        subst hi9
        refine runY_go rkX1_fill (fun p => Nat.beq p 5 || Nat.beq p 50 || Nat.beq p 56) 200 rfl ?_
        refine And.intro (by first | exact hb | exact hbi) ?_
        refine And.intro (by first | exact hb | exact hbi) ?_
        refine And.intro (by first | exact hb | exact hbi) ?_
        refine pX1_fill_70 rfl (Nat.ble_eq_true_of_le (by omega)) (Nat.ble_eq_true_of_le (by omega)) (by first | exact hG.t0 | exact hGi.t0) (show CY w yX1_load mX1_load [.ref (tS 0), .int (gI (fiH κ (12 * v + lo) j (hi + 1 - lo)) (tB j) 4), .int (gI (fiH κ (12 * v + lo) j (hi + 1 - lo)) (tB j) 1 + gI (fiH κ (12 * v + lo) j (hi + 1 - lo)) (tB j) 2)] (fiH κ (12 * v + lo) j (hi + 1 - lo)) (fun v' κ' => v' = none ∧ κ' = (sI (sI (fiH κ (12 * v + lo) j (hi + 1 - lo)) (tS 0) 1 (gI κ (tS 0) 1 + gI κ (tB j) 4)) (tS 0) 2 (gI κ (tS 0) 2 + gI κ (tB j) 4 * (nI lo + nI hi)))) from by have h9 := c_X1_load (w := w) (κ := (fiH κ (12 * v + lo) j (hi + 1 - lo))) (x := gI (fiH κ (12 * v + lo) j (hi + 1 - lo)) (tB j) 4) (y := gI (fiH κ (12 * v + lo) j (hi + 1 - lo)) (tB j) 1 + gI (fiH κ (12 * v + lo) j (hi + 1 - lo)) (tB j) 2) hGi.t0; rw [fiH_I (fun _ z => tB_R.mp z), fiH_I (fun _ z => tB_R.mp z), fiH_I (fun _ z => tB_R.mp z), fiH_I (t := tS 0) (fun _ z => tS_R.mp z), fiH_I (t := tS 0) (fun _ z => tS_R.mp z), e1, e2] at h9; rw [fiH_I (fun _ z => tB_R.mp z), fiH_I (fun _ z => tB_R.mp z), fiH_I (fun _ z => tB_R.mp z), e1, e2]; exact h9) (fun v κ1 hq2 ho2 hk2 => ?_)
        obtain ⟨rfl, ehq2⟩ := hq2
        rw [ehq2]
        refine runY_ok rkX1_fill (fun p => Nat.beq p 5 || Nat.beq p 50 || Nat.beq p 56) 200 _ _ _ _ _ _ ?_
        refine And.intro ⟨(show _ ≤ 12 by omega), (show _ ≤ 84 by omega)⟩ ?_
        exact ⟨rfl, rfl⟩
      refine runY_go rkX1_fill (fun p => Nat.beq p 5 || Nat.beq p 50 || Nat.beq p 56) 200 rfl ?_
      refine And.intro (by first | exact hb | exact hbi) ?_
      refine And.intro (fun c3 => ?_) (fun c3 => ?_)
      · rw [b2] at c3
        exact K56 (hex (by assumption))
      · rw [b2] at c3
        refine And.intro (by first | exact hb | exact hbi) ?_
        refine pX1_fill_18 rfl (Nat.ble_eq_true_of_le (by have := hlt (by assumption); omega)) (Nat.ble_eq_true_of_le (by have := hlt (by assumption); omega)) (show CY w yX8_cellOf mX8_cellOf [.int (nI (lo + i)), .int (gI (fiH κ (12 * v + lo) j i) (tB j) 3)] (fiH κ (12 * v + lo) j i) (fun v' κ' => v' = some (.int (nI (12 * v + lo + i))) ∧ κ' = (fiH κ (12 * v + lo) j i)) from by have h9 := c_X8_cellOf (w := w) (κ := (fiH κ (12 * v + lo) j i)) (f := nI (lo + i)) (l := nI v); rw [clO_n (by have := hlt (by assumption); omega) hv, show 12 * v + (lo + i) = (12 * v + lo + i) from by omega] at h9; rw [b3]; exact h9) (fun v κ1 hq4 ho4 hk4 => ?_)
        obtain ⟨rfl, ehq4⟩ := hq4
        rw [ehq4]
        refine runY_ok rkX1_fill (fun p => Nat.beq p 5 || Nat.beq p 50 || Nat.beq p 56) 200 _ _ _ _ _ _ ?_
        refine And.intro (fun c5 => ?_) (fun c5 => ?_)
        · skip
          first
          | (exact absurd ‹nI (12 * v + lo + i) < 0› (nI_pos (by have := hlt (by assumption); omega)))
          | (exact absurd ‹nI 36 ≤ nI (12 * v + lo + i)› (nI_ge (by have := hlt (by assumption); omega) (by decide)))
          | (rw [nI_clamp (n := (12 * v + lo + i)) (by have := hlt (by assumption); omega)]
             refine runY_go rkX1_fill (fun p => Nat.beq p 5) 9 rfl ?_
             have e9 := ih (i + 1) (some (.int (nI (12 * v + lo + i)))) (by have := hlt (by assumption); omega) (by omega)
             rw [show lo + (i + 1) = lo + i + 1 from rfl, ← nI_1 (lo + i)] at e9
             exact e9)
        · skip
          refine And.intro (by first | exact hG.t0 | exact hGi.t0) ⟨some (tS 8), hGi.r00, ?_⟩
          refine And.intro (by rw [hGi.t8]; decide) ?_
          refine And.intro (fun c6 => ?_) (fun c6 => ?_)
          · rw [hGi.n8, show Int32.ofNat 36 = nI 36 from rfl] at c6
            first
            | (exact absurd ‹nI (12 * v + lo + i) < 0› (nI_pos (by have := hlt (by assumption); omega)))
            | (exact absurd ‹nI 36 ≤ nI (12 * v + lo + i)› (nI_ge (by have := hlt (by assumption); omega) (by decide)))
            | (rw [nI_clamp (n := (12 * v + lo + i)) (by have := hlt (by assumption); omega)]
               refine runY_go rkX1_fill (fun p => Nat.beq p 5) 9 rfl ?_
               have e9 := ih (i + 1) (some (.int (nI (12 * v + lo + i)))) (by have := hlt (by assumption); omega) (by omega)
               rw [show lo + (i + 1) = lo + i + 1 from rfl, ← nI_1 (lo + i)] at e9
               exact e9)
          · rw [hGi.n8, show Int32.ofNat 36 = nI 36 from rfl] at c6
            refine And.intro (by first | exact hG.t0 | exact hGi.t0) ⟨some (tS 8), hGi.r00, ?_⟩
            refine pX1_fill_40 (tR (12 * v + lo + i)) (Nat.ble_eq_true_of_le (by have := hlt (by assumption); omega)) (Nat.ble_eq_true_of_le (by have := hlt (by assumption); omega)) ((fiH_F i (Nat.le_refl _)).trans (hfree i (by have := hlt (by assumption); omega))) ?_
            refine runY_ok rkX1_fill (fun p => Nat.beq p 5 || Nat.beq p 50 || Nat.beq p 56) 200 _ _ _ _ _ _ ?_
            refine pX1_fill_46 rfl (Nat.ble_eq_true_of_le (by have := hlt (by assumption); omega)) (Nat.ble_eq_true_of_le (by have := hlt (by assumption); omega)) (show CY w yX4_init mX4_init [.ref (tR (12 * v + lo + i)), .int (nI (12 * v + lo + i)), .ref (tB j)] (nO (fiH κ (12 * v + lo) j i) (tR (12 * v + lo + i)) 5 0) (fun v' κ' => v' = none ∧ κ' = rmI (fiH κ (12 * v + lo) j i) (12 * v + lo + i) j) from c_X4_init hr5n hbn) (fun v κ1 hq7 ho7 hk7 => ?_)
            obtain ⟨rfl, ehq7⟩ := hq7
            rw [ehq7]
            refine runY_ok rkX1_fill (fun p => Nat.beq p 5 || Nat.beq p 50 || Nat.beq p 56) 200 _ _ _ _ _ _ ?_
            refine pX1_fill_49 hGr.t8 hr5 (by rw [hGr.n8]; exact vp_in_nI (N := 36) (by have := hlt (by assumption); omega) (by decide)) ?_
            refine runY_ok rkX1_fill (fun p => Nat.beq p 5 || Nat.beq p 50 || Nat.beq p 56) 200 _ _ _ _ _ _ ?_
            first
            | (exact absurd ‹nI (12 * v + lo + i) < 0› (nI_pos (by have := hlt (by assumption); omega)))
            | (exact absurd ‹nI 36 ≤ nI (12 * v + lo + i)› (nI_ge (by have := hlt (by assumption); omega) (by decide)))
            | (rw [nI_clamp (n := (12 * v + lo + i)) (by have := hlt (by assumption); omega)]
               refine runY_go rkX1_fill (fun p => Nat.beq p 5) 9 rfl ?_
               have e9 := ih (i + 1) (some (.int (nI (12 * v + lo + i)))) (by have := hlt (by assumption); omega) (by omega)
               rw [show lo + (i + 1) = lo + i + 1 from rfl, ← nI_1 (lo + i)] at e9
               exact e9)
  refine runY_ok rkX1_fill (fun p => Nat.beq p 5 || Nat.beq p 50 || Nat.beq p 56) 200 _ _ _ _ _ _ ?_
  refine And.intro (by first | exact hb | exact hbi) ?_
  rw [e1]
  exact loop5 (hi + 1 - lo) 0 none (by omega) (by omega)


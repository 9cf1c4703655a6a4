
/-! THE LAW'S FIRST CHECKS, pure side -/
def Fst (σ : MS) : Prop := (∀ j, j ≠ 34 → σ.1 j = σ0.1 j) ∧ σ.2 = σ0.2
theorem Fst_0 : Fst σ0 := ⟨fun _ _ => rfl, rfl⟩
theorem Fst_34 {σ : MS} {c : Int32} (h : Fst σ) : Fst (upS σ 34 c) := ⟨fun j hj => (if_neg hj).trans (h.1 j hj), h.2⟩
theorem f_hall {σ : MS} : mHall σ 13 1 = (0, upS σ 34 1) := by unfold mHall; exact if_neg (by decide)
theorem f_crane {σ : MS} : mCrane σ (-1) 1 = (0, upS σ 34 1) := by unfold mCrane; exact if_pos (by decide)
theorem f_welder {σ : MS} : mWelder σ 4 1 = (0, upS σ 34 1) := by unfold mWelder; exact if_pos (by decide)
theorem f_water {σ : MS} : mWater σ 1001 = (0, upS σ 34 1) := by unfold mWater; exact if_neg (by decide)
theorem f_lau1 {σ : MS} {nb nw : Nat} : mLau σ nb nw 1001 = (0, upS σ 34 1) := by
  have k : kLau σ nb nw 1001 = 1 := by unfold kLau; exact if_neg (by decide)
  unfold mLau; rw [k]; rfl
theorem f_cell1 {σ : MS} : mCell σ 36 0 = (0, upS σ 34 1) := by
  have k : kCell 36 0 = 1 := by unfold kCell; exact if_neg (by decide)
  unfold mCell; rw [k]; rfl
theorem f_cell2 {σ : MS} : mCell σ 0 5 = (0, upS σ 34 2) := by
  have k : kCell 0 5 = 2 := by unfold kCell; rw [if_pos (by decide), if_neg (by decide)]
  unfold mCell; rw [k]; rfl
theorem f_paint {σ : MS} (h : Fst σ) : mPai σ 0 = (0, upS σ 34 1) := by
  have k : kPai σ 0 = 1 := by
    unfold kPai
    refine if_neg (fun z => (isRmL (c := 0) (by decide)).mp z ?_)
    rw [h.2]; rfl
  unfold mPai; rw [k]; rfl
theorem f_cen {σ : MS} (h : Fst σ) : cenN σ 0 = 0 := by
  have e : tnsN σ 0 = tnsN σ0 0 := by unfold tnsN; rw [show fTC σ = fTC σ0 from by funext c; unfold fTC; rw [h.2]]; rfl
  unfold cenN
  rw [e]
  exact if_pos (by decide)
theorem Fst_whl {σ : MS} (h : Fst σ) : whlP σ 0 = false := by
  have e : allF σ 36 = false := by unfold allF; rw [h.2]; decide
  unfold whlP
  rw [e, Bool.and_false, Bool.false_and]
theorem f_lau0 {σ : MS} (h : Fst σ) : mLau σ 0 0 0 = (0, upS σ 34 2) := by
  have k : kLau σ 0 0 0 = 2 := by
    unfold kLau
    rw [if_pos (by decide), if_neg (fun z => by have := z.1; rw [Fst_whl h] at this; cases this)]
  unfold mLau; rw [k]; rfl
theorem f_fhr {σ : MS} (h : Fst σ) : ∀ n, fhr σ 0 0 n = -1
  | 0 => rfl
  | n + 1 => by
    unfold fhr
    rw [if_neg (fun z => by have := z.1; rw [Fst_whl h] at this; cases this)]
    exact f_fhr h n


/-! THE LAW'S isPipe: pipe's and roomAt's answers -/
theorem mPip_n {σ : MS} {x y k : Int32} (h : kPip σ x y = k) (hk : ¬ k = 0) : mPip σ x y = (0, upS (wSt σ x y) 34 k) := by unfold mPip; rw [h, if_neg hk]
theorem mPip_y {σ : MS} {x y : Int32} (h : kPip σ x y = 0) : mPip σ x y = (nI (dst σ y x.toNatClampNeg + 1), sPip σ x y) := by unfold mPip; rw [if_pos h]
theorem wSt_rw {σ : MS} {x y : Int32} {j : Nat} (h : j ≠ 33) : (wSt σ x y).2 j = σ.2 j := by
  unfold wSt
  split
  · exact sFn_row h
  · rfl
theorem wSt_nm {σ : MS} {x y : Int32} : (wSt σ x y).1 = σ.1 := by unfold wSt; split <;> rfl
theorem Cp_wSt {l : LSt} {σ : MS} {nb nw np : Nat} {x y k : Int32} (C : Cp l σ nb nw np) : Cp l (upS (wSt σ x y) 34 k) nb nw np := by
  have rw1 : ∀ j, j ≠ 33 → (upS (wSt σ x y) 34 k).2 j = σ.2 j := fun j hj => wSt_rw hj
  refine Cp_r C (fun _ _ _ => rfl) (fun j hj => ?_) (fun j hj => rw1 j (by omega)) (fun c hc => ?_)
  · show (if j = 34 then k else (wSt σ x y).1 j) = _
    rw [if_neg hj, wSt_nm]
  · obtain ⟨r1, r2⟩ := C.2.1.2.2.1 c hc
    exact ⟨by rw [rw1 25 (by decide)]; exact r1, cH1_cong r2 (by rw [rw1 26 (by decide)]) (by rw [rw1 27 (by decide)]) (by rw [rw1 28 (by decide)]) (by rw [rw1 29 (by decide)])⟩
/-- the state that the cells are written into -/
def pS0 (σ : MS) (y : Int32) : MS := upS (sFn σ (dst σ y) 36) 34 0
theorem pS0_rw {σ : MS} {y : Int32} {j : Nat} (h : j ≠ 33) : (pS0 σ y).2 j = σ.2 j := sFn_row h
theorem sPip_num {σ : MS} {x y : Int32} {j : Nat} (h : j ≠ 30) (h2 : j ≠ 34) : (sPip σ x y).1 j = σ.1 j := by
  show (if j = 30 then σ.1 30 + 1 else (sPt (pS0 σ y) (pth σ (dst σ y) x.toNatClampNeg) (dst σ y x.toNatClampNeg + 1)).1 j) = _
  rw [if_neg h, sPt_num]
  exact if_neg h2
theorem sPip_30 {σ : MS} {x y : Int32} : (sPip σ x y).1 30 = σ.1 30 + 1 := by
  show (if 30 = 30 then σ.1 30 + 1 else (sPt (pS0 σ y) (pth σ (dst σ y) x.toNatClampNeg) (dst σ y x.toNatClampNeg + 1)).1 30) = _
  exact if_pos rfl
theorem sPip_34 {σ : MS} {x y : Int32} : (sPip σ x y).1 34 = 0 := by
  show (if 34 = 30 then σ.1 30 + 1 else (sPt (pS0 σ y) (pth σ (dst σ y) x.toNatClampNeg) (dst σ y x.toNatClampNeg + 1)).1 34) = _
  rw [if_neg (by decide), sPt_num]
  rfl
theorem sPip_r1 {σ : MS} {x y : Int32} {j : Nat} (h : j ≠ 31) : (sPip σ x y).2 j = (sPt (pS0 σ y) (pth σ (dst σ y) x.toNatClampNeg) (dst σ y x.toNatClampNeg + 1)).2 j := funext fun i => if_neg (fun z => h z.1)
theorem sPip_rw {σ : MS} {x y : Int32} {j : Nat} (h : j ≠ 28) (h1 : j ≠ 31) (h2 : j ≠ 32) (h3 : j ≠ 33) : (sPip σ x y).2 j = σ.2 j := by
  rw [sPip_r1 h1, sPt_row h2 h, pS0_rw h3]
theorem sPip_31 {σ : MS} {x y : Int32} {np : Nat} (e : σ.1 30 = nI np) (hn : np < 30) : (sPip σ x y).2 31 np = nI (dst σ y x.toNatClampNeg + 1) := by
  show (if 31 = 31 ∧ np = (σ.1 30).toNatClampNeg then nI (dst σ y x.toNatClampNeg + 1) else _) = _
  rw [if_pos ⟨rfl, by rw [e, nI_clamp (by omega)]⟩]
theorem sPip_32 {σ : MS} {x y : Int32} {np i : Nat} (e : σ.1 30 = nI np) (hn : np < 30) (hd : dst σ y x.toNatClampNeg < 36) (hi : i < dst σ y x.toNatClampNeg + 1) : (sPip σ x y).2 32 (36 * np + i) = nI (pth σ (dst σ y) x.toNatClampNeg i) := by
  rw [sPip_r1 (by decide)]
  exact sPt32 (σ := pS0 σ y) e hn _ (by omega) hi
theorem mRat_in {σ : MS} {x y : Int32} {np i : Nat} (e : σ.1 30 = nI np) (hn : np < 30) (hi : i ≤ 36) : mRat (sPip σ x y) (nI np) (nI i) = (if nI i < nI (dst σ y x.toNatClampNeg + 1) then (sPip σ x y).2 32 (36 * np + i) else -1, sPip σ x y) := by
  have hk : kRat (sPip σ x y) (nI np) (nI i) = 0 := by
    unfold kRat
    rw [sPip_30, e, nI_1, nI_pred]
    exact if_pos ⟨⟨nI_pos' (by omega), Int32.le_refl _⟩, nI_pos' (by omega)⟩
  unfold mRat
  rw [if_pos hk, nI_clamp (by omega), sPip_31 e hn, px, nI_clamp (by omega), up34 sPip_34]
theorem mRat_y {σ : MS} {x y : Int32} {np i : Nat} (e : σ.1 30 = nI np) (hn : np < 30) (hd : dst σ y x.toNatClampNeg < 36) (hi : i ≤ dst σ y x.toNatClampNeg) : mRat (sPip σ x y) (nI np) (nI i) = (nI (pth σ (dst σ y) x.toNatClampNeg i), sPip σ x y) := by
  rw [mRat_in e hn (by omega), if_pos (nI_lt (by omega) (by omega)), sPip_32 e hn hd (by omega)]
theorem mRat_e {σ : MS} {x y : Int32} {np : Nat} (e : σ.1 30 = nI np) (hn : np < 30) (hd : dst σ y x.toNatClampNeg < 36) : mRat (sPip σ x y) (nI np) (nI (dst σ y x.toNatClampNeg + 1)) = (-1, sPip σ x y) := by
  rw [mRat_in e hn (by omega), if_neg (fun z => Int32.lt_irrefl z)]
theorem mRat_o {σ : MS} {np : Nat} {q : Int32} (e : σ.1 30 = nI np) (hn : np < 31) : mRat σ (nI np) q = (0, upS σ 34 1) := by
  have hk : kRat σ (nI np) q = 1 := by
    unfold kRat
    rw [e]
    refine if_neg (fun z => ?_)
    have h := z.1.2
    cases np with
    | zero => exact absurd h (by decide)
    | succ n =>
      rw [nI_pred] at h
      have := (nI_leI (by omega) (by omega)).mp h
      omega
  unfold mRat
  rw [hk]
  rfl
theorem Cp_sPip {l l' : LSt} {σ : MS} {nb nw np : Nat} {x y : Int32} (C : Cp l σ nb nw np) (e30 : σ.1 30 = nI np) (hnp : np < 10) (hl : ∀ j, j ≠ 8 → j ≠ 9 → j ≠ 10 → l' j = l j) (h9 : ∀ k, k ≠ 12 → l' 9 k = l 9 k) (h12 : l' 9 12 = nI (np + 1)) (hR : ∀ c, c < 36 → cH1 (l' 8 c) (sPip σ x y) c) : Cp l' (sPip σ x y) nb nw (np + 1) := by
  obtain ⟨⟨h1, h2, h3, h4⟩, ⟨B, W, R, G, z18⟩, hln⟩ := C
  obtain ⟨a0, a1, a2, a3, a4, a5, a9, a10, a11, a12⟩ := G
  have rw1 : ∀ j, j < 26 → (sPip σ x y).2 j = σ.2 j := fun j hj => sPip_rw (by omega) (by omega) (by omega) (by omega)
  have nm : ∀ j, j < 19 → (sPip σ x y).1 j = σ.1 j := fun j hj => sPip_num (by omega) (by omega)
  exact ⟨⟨h1, h2, by omega, (nm 6 (by decide)).trans h4⟩, ⟨B.cong (fun j hj i _ => congrFun (hl j (by omega) (by omega) (by omega)) i) (fun j _ _ i _ => by rw [rw1 j (by omega)]), W.cong (fun k _ => congrFun (hl 6 (by decide) (by decide) (by decide)) k) (fun j _ _ k _ => by rw [rw1 j (by omega)]) (Nat.le_refl _), fun c hc => ⟨by rw [hl 7 (by decide) (by decide) (by decide), rw1 25 (by decide)]; exact (R c hc).1, hR c hc⟩,
    ⟨by rw [h9 0 (by decide), nm 0 (by decide)]; exact a0, by rw [h9 1 (by decide), nm 1 (by decide)]; exact a1, by rw [h9 2 (by decide), nm 2 (by decide)]; exact a2, by rw [h9 3 (by decide), nm 3 (by decide)]; exact a3, by rw [h9 4 (by decide), nm 4 (by decide)]; exact a4, fun y2 hy => by rw [h9 (5 + y2) (by omega), rw1 5 (by decide)]; exact a5 y2 hy, by rw [h9 9 (by decide), nm 7 (by decide)]; exact a9, by rw [h9 10 (by decide)]; exact a10, by rw [h9 11 (by decide)]; exact a11, h12⟩, (nm 18 (by decide)).trans z18⟩, hln.cong (fun j hj i _ => by rw [rw1 j (by omega)])⟩
/-- rooms while the cells are written -/
def pR (l : LSt) (σ : MS) (y : Int32) (g : Nat → Nat) (i : Nat) : Prop := ∀ c, c < 36 → cH1 (l 8 c) (sPt (pS0 σ y) g i) c
theorem pR_0 {l : LSt} {σ : MS} {y : Int32} {g : Nat → Nat} (R : cR l σ) : pR l σ y g 0 := fun c hc => cH1_cong (R c hc).2 (by show (pS0 σ y).2 26 c = _; rw [pS0_rw (by decide)]) (by show (pS0 σ y).2 27 c = _; rw [pS0_rw (by decide)]) (by show (pS0 σ y).2 28 c = _; rw [pS0_rw (by decide)]) (by show (pS0 σ y).2 29 c = _; rw [pS0_rw (by decide)])
theorem pR_s {l : LSt} {σ : MS} {y : Int32} {g : Nat → Nat} {i : Nat} (h : pR l σ y g i) (hg : g i < 36) (ho : opn σ (g i)) (hn : ∀ j, j < i → g j ≠ g i) : pR (lu l 8 (g i) (l 8 (g i) + 32)) σ y g (i + 1) := fun c hc => by
  have r : ∀ j, j ≠ 28 → j ≠ 32 → (sPt (pS0 σ y) g (i + 1)).2 j = (sPt (pS0 σ y) g i).2 j := fun j h1 h2 => by rw [sPt_row h2 h1, sPt_row h2 h1]
  by_cases e : c = g i
  · subst e
    rw [lu_s]
    refine cH1_up (h _ hg) ?_ (by rw [r 26 (by decide) (by decide)]) (by rw [r 27 (by decide) (by decide)]) (by rw [sPt_28, if_pos rfl]) (by rw [r 29 (by decide) (by decide)])
    show ¬ 3 ≤ (sPt (pS0 σ y) g i).2 28 (g i)
    rw [sPt28 i hn, pS0_rw (by decide)]
    exact ho
  · rw [lu_o (fun z => e z.2)]
    exact cH1_cong (h c hc) (by rw [r 26 (by decide) (by decide)]) (by rw [r 27 (by decide) (by decide)]) (by rw [sPt_28, if_neg e]) (by rw [r 29 (by decide) (by decide)])
theorem pR_e {l : LSt} {σ : MS} {x y : Int32} (h : pR l σ y (pth σ (dst σ y) x.toNatClampNeg) (dst σ y x.toNatClampNeg + 1)) : ∀ c, c < 36 → cH1 (l 8 c) (sPip σ x y) c := fun c hc => cH1_cong (h c hc) (by rw [sPip_r1 (by decide)]) (by rw [sPip_r1 (by decide)]) (by rw [sPip_r1 (by decide)]) (by rw [sPip_r1 (by decide)])
theorem pR_b {σ : MS} {y : Int32} {g : Nat → Nat} {i k s : Nat} : byF (sPt (pS0 σ y) g i) k s = byF σ k s := byF_29 (by rw [sPt_row (by decide) (by decide), pS0_rw (by decide)])

/-! THE COMPONENT'S pipe -/
theorem ppS_eq {σ : MS} {x y : Int32} {np : Nat} (ep : σ.1 30 = nI np) (hn : np ≤ 30) : sPip σ x y = ppS (upS (sFn σ (dst σ y) 36) 34 0) np (dst σ y x.toNatClampNeg + 1) (pth σ (dst σ y) x.toNatClampNeg) := by
  have e : (σ.1 30).toNatClampNeg = np := by rw [ep, nI_clamp (by omega)]
  have e1 : σ.1 30 + 1 = nI (np + 1) := by rw [ep, nI_1]
  unfold sPip ppS
  rw [e, e1]
theorem isRm_c {σ : MS} {x : Int32} (h : isRm σ x) : flc σ x.toNatClampNeg ∧ x = nI x.toNatClampNeg := by
  have hv : vp_in x 36 := in_c (c := 35) (by decide) h.1
  exact ⟨⟨lt_of_in hv, h.2⟩, in_n hv⟩
set_option maxRecDepth 20000 in
theorem py_pipe {w : W0} {κ : AH} {x y : Int32} {κ0 : AH} {σ : MS} {nb nw np : Nat} {wb : Nat → Nat} (h : RI κ0 κ σ nb nw np wb) (hd : (dst σ (nI y.toNatClampNeg)) x.toNatClampNeg < 36) : CYV w yX8_pipe mX8_pipe [.ref (tS 4), .int x, .int y] κ (fun v' κ' => kPip σ x y = 0 ∧ v' = some (.int (nI ((dst σ (nI y.toNatClampNeg)) x.toNatClampNeg + 1))) ∧ RE κ0 κ' (sPip σ x y)) (fun E κ' => (kPip σ x y = 1 ∧ E = "java/lang/IndexOutOfBoundsException" ∧ κ' = κ) ∨ (kPip σ x y = 2 ∧ E = "java/lang/IllegalArgumentException" ∧ κ' = κ) ∨ (kPip σ x y = 3 ∧ E = "java/lang/IllegalStateException" ∧ RE κ0 κ' (upS (wSt σ x y) 34 3))) := by
  have I := h.1
  have C := h.2.1
  have hG := C.1
  have N := C.2.1
  have R := C.2.2.2.2.1
  have P := C.2.2.2.2.2.1
  have hn := I.n30
  refine CYV_of mcX8_pipe (Nat.le_of_ble_eq_true rfl) (cat1 rfl) (fun θ0 => ?_)
  have K74 : isRm σ x → isRm σ y → ¬ x = y → σ.1 30 = 30 → Y w mX8_pipe θ0 κ (fun v' κ' => kPip σ x y = 0 ∧ v' = some (.int (nI ((dst σ (nI y.toNatClampNeg)) x.toNatClampNeg + 1))) ∧ RE κ0 κ' (sPip σ x y)) (fun E κ' => (kPip σ x y = 1 ∧ E = "java/lang/IndexOutOfBoundsException" ∧ κ' = κ) ∨ (kPip σ x y = 2 ∧ E = "java/lang/IllegalArgumentException" ∧ κ' = κ) ∨ (kPip σ x y = 3 ∧ E = "java/lang/IllegalStateException" ∧ RE κ0 κ' (upS (wSt σ x y) 34 3))) 0 0 74 [some (.ref (tS 4)), some (.int x), some (.int y), some (.ref (tR x.toNatClampNeg)), some (.ref (tR y.toNatClampNeg)), none] [] κ := by
    intro hx hy hne hn30
    refine yX8_pipe_74z (st := []) rfl rfl ?_
    refine Or.inr (Or.inr ⟨by unfold kPip; rw [if_pos ⟨hx, hy⟩, if_pos hne, if_neg (fun z => z.1 hn30)], rfl, nb, nw, np, wb, ?_⟩)
    unfold wSt
    rw [if_pos ⟨⟨hx, hy⟩, hne⟩]
    exact s_34 (s_33 h)
  have K44 : kPip σ x y = 2 → Y w mX8_pipe θ0 κ (fun v' κ' => kPip σ x y = 0 ∧ v' = some (.int (nI ((dst σ (nI y.toNatClampNeg)) x.toNatClampNeg + 1))) ∧ RE κ0 κ' (sPip σ x y)) (fun E κ' => (kPip σ x y = 1 ∧ E = "java/lang/IndexOutOfBoundsException" ∧ κ' = κ) ∨ (kPip σ x y = 2 ∧ E = "java/lang/IllegalArgumentException" ∧ κ' = κ) ∨ (kPip σ x y = 3 ∧ E = "java/lang/IllegalStateException" ∧ RE κ0 κ' (upS (wSt σ x y) 34 3))) 0 0 44 [some (.ref (tS 4)), some (.int x), some (.int y), some (.ref (tR x.toNatClampNeg)), some (.ref (tR y.toNatClampNeg)), none] [] κ := by
    intro hk
    refine yX8_pipe_44z (st := []) rfl rfl ?_
    exact Or.inr (Or.inl ⟨hk, rfl, rfl⟩)
  have K28 : kPip σ x y = 1 → ∀ x3 x4, Y w mX8_pipe θ0 κ (fun v' κ' => kPip σ x y = 0 ∧ v' = some (.int (nI ((dst σ (nI y.toNatClampNeg)) x.toNatClampNeg + 1))) ∧ RE κ0 κ' (sPip σ x y)) (fun E κ' => (kPip σ x y = 1 ∧ E = "java/lang/IndexOutOfBoundsException" ∧ κ' = κ) ∨ (kPip σ x y = 2 ∧ E = "java/lang/IllegalArgumentException" ∧ κ' = κ) ∨ (kPip σ x y = 3 ∧ E = "java/lang/IllegalStateException" ∧ RE κ0 κ' (upS (wSt σ x y) 34 3))) 0 0 28 [some (.ref (tS 4)), some (.int x), some (.int y), x3, x4, none] [] κ := by
    intro hk x3 x4
    refine yX8_pipe_28z (st := []) rfl rfl ?_
    exact Or.inl ⟨hk, rfl, rfl⟩
  have K85 : isRm σ x → isRm σ y → ¬ x = y → ¬ σ.1 30 = 30 → Y w mX8_pipe θ0 κ (fun v' κ' => kPip σ x y = 0 ∧ v' = some (.int (nI ((dst σ (nI y.toNatClampNeg)) x.toNatClampNeg + 1))) ∧ RE κ0 κ' (sPip σ x y)) (fun E κ' => (kPip σ x y = 1 ∧ E = "java/lang/IndexOutOfBoundsException" ∧ κ' = κ) ∨ (kPip σ x y = 2 ∧ E = "java/lang/IllegalArgumentException" ∧ κ' = κ) ∨ (kPip σ x y = 3 ∧ E = "java/lang/IllegalStateException" ∧ RE κ0 κ' (upS (wSt σ x y) 34 3))) 0 0 85 [some (.ref (tS 4)), some (.int x), some (.int y), some (.ref (tR x.toNatClampNeg)), some (.ref (tR y.toNatClampNeg)), none] [] κ := by
    intro hx hy hne hnp
    obtain ⟨hfx, ex⟩ := isRm_c hx
    obtain ⟨hfy, ey⟩ := isRm_c hy
    have hnp30 : np < 30 := by
      refine Nat.lt_of_le_of_ne I.n30 (fun z => hnp ?_)
      rw [I.e30, z]
      rfl
    have m6 := me_6 (κ := κ) I.ho hfy.1 hfx
    have hRT : gT κ (tR x.toNatClampNeg) = 5 := (R.2.1 _ hfx.1 hfx.2).1.1
    have hRT2 : gT κ (tR y.toNatClampNeg) = 5 := (R.2.1 _ hfy.1 hfy.2).1.1
    have hD := dst_isD (σ := σ) (t := nI y.toNatClampNeg) I.hO
    have hpt := pth_ok (t := nI y.toNatClampNeg) I.hO hD hfx.1 hd
    have hgf : ∀ i, i < ((dst σ (nI y.toNatClampNeg)) x.toNatClampNeg + 1) → flc σ ((pth σ (dst σ (nI y.toNatClampNeg)) x.toNatClampNeg) i) := by
      intro i
      induction i with
      | zero => exact fun _ => hfx
      | succ i ih =>
        intro hi
        have h1 := ih (by omega)
        have h2 := hpt i (by omega)
        exact (ln_near (κ := κ) I.ho hfy.1 h1 (by omega) (by omega)).1
    have hstep : ∀ i, i + 1 < ((dst σ (nI y.toNatClampNeg)) x.toNatClampNeg + 1) → ∃ s, s < 4 ∧ lnP (meH κ σ y.toNatClampNeg) σ ((pth σ (dst σ (nI y.toNatClampNeg)) x.toNatClampNeg) i) s ∧ (∀ r, r < s → ¬ lnP (meH κ σ y.toNatClampNeg) σ ((pth σ (dst σ (nI y.toNatClampNeg)) x.toNatClampNeg) i) r) ∧ (pth σ (dst σ (nI y.toNatClampNeg)) x.toNatClampNeg) (i + 1) = stp ((pth σ (dst σ (nI y.toNatClampNeg)) x.toNatClampNeg) i) (sd s) := by
      intro i hi
      have h1 := hgf i (by omega)
      have h2 := hpt i (by omega)
      exact (ln_near (κ := κ) I.ho hfy.1 h1 (by omega) (by omega)).2
    have hSk := c_X5_seek (w := w) (κ := κ) (p := np) (N := ((dst σ (nI y.toNatClampNeg)) x.toNatClampNeg + 1)) (g := (pth σ (dst σ (nI y.toNatClampNeg)) x.toNatClampNeg)) hG R I.hO hfx.1 hfx.2 hfy.1 hfy.2 (P.2.2 np (Nat.le_refl _)).2 (by omega) (by omega) (by rw [m6, if_pos hd]) rfl hgf hstep
    have hGm : SG (meH κ σ y.toNatClampNeg) := meH_SG hG
    have hG1 : SG (skH (meH κ σ y.toNatClampNeg) np ((dst σ (nI y.toNatClampNeg)) x.toNatClampNeg + 1) (pth σ (dst σ (nI y.toNatClampNeg)) x.toNatClampNeg) ((dst σ (nI y.toNatClampNeg)) x.toNatClampNeg + 1)) := skH_SG hGm _
    have hG5 : SG (pp5 (meH κ σ y.toNatClampNeg) np ((dst σ (nI y.toNatClampNeg)) x.toNatClampNeg + 1) (pth σ (dst σ (nI y.toNatClampNeg)) x.toNatClampNeg)) := pp5_SG hGm
    have hG6 : SG (pp6 (meH κ σ y.toNatClampNeg) np ((dst σ (nI y.toNatClampNeg)) x.toNatClampNeg + 1) (pth σ (dst σ (nI y.toNatClampNeg)) x.toNatClampNeg)) := rtH_SG hG5 _
    have hP1 : gT (skH (meH κ σ y.toNatClampNeg) np ((dst σ (nI y.toNatClampNeg)) x.toNatClampNeg + 1) (pth σ (dst σ (nI y.toNatClampNeg)) x.toNatClampNeg) ((dst σ (nI y.toNatClampNeg)) x.toNatClampNeg + 1)) (tP np) = 0 := (skH_T (fun z => tP_C.mp z) _).trans (meH_T.trans (P.2.2 np (Nat.le_refl _)).1)
    have h9 : gI (skH (meH κ σ y.toNatClampNeg) np ((dst σ (nI y.toNatClampNeg)) x.toNatClampNeg + 1) (pth σ (dst σ (nI y.toNatClampNeg)) x.toNatClampNeg) ((dst σ (nI y.toNatClampNeg)) x.toNatClampNeg + 1)) (tS 4) 9 = nI np := by rw [skH_I (fun z => tS_C.mp z), (meH_D (tS 4) (by simp [tB_inj, tB_W, tB_R, tB_P, tB_C, tB_S, tW_inj, tW_B, tW_R, tW_P, tW_C, tW_S, tR_inj, tR_B, tR_W, tR_P, tR_C, tR_S, tP_inj, tP_B, tP_W, tP_R, tP_C, tP_S, tC_inj, tC_B, tC_W, tC_R, tC_P, tC_S, tS_inj, tS_B, tS_W, tS_R, tS_P, tS_C, tM_inj, tM_B, tM_W, tM_R, tM_P, tM_C, tM_S, tB_M, tW_M, tR_M, tP_M, tC_M, tS_M])).2.2.1, N.1.2.2, I.e30]
    have hn0 : gT (nO (skH (meH κ σ y.toNatClampNeg) np ((dst σ (nI y.toNatClampNeg)) x.toNatClampNeg + 1) (pth σ (dst σ (nI y.toNatClampNeg)) x.toNatClampNeg) ((dst σ (nI y.toNatClampNeg)) x.toNatClampNeg + 1)) (tP np) 4 0) (tP np) = 4 := by rw [gT_nO, if_pos rfl]
    have hGn : SG (nO (skH (meH κ σ y.toNatClampNeg) np ((dst σ (nI y.toNatClampNeg)) x.toNatClampNeg + 1) (pth σ (dst σ (nI y.toNatClampNeg)) x.toNatClampNeg) ((dst σ (nI y.toNatClampNeg)) x.toNatClampNeg + 1)) (tP np) 4 0) := SG_nO hG1 (fun i _ z => tP_S.mp z)
    have hGi : SG (sR (nO (skH (meH κ σ y.toNatClampNeg) np ((dst σ (nI y.toNatClampNeg)) x.toNatClampNeg + 1) (pth σ (dst σ (nI y.toNatClampNeg)) x.toNatClampNeg) ((dst σ (nI y.toNatClampNeg)) x.toNatClampNeg + 1)) (tP np) 4 0) (tP np) 0 (some (tC np))) := SG_sR hGn (fun i _ z => tP_S.mp z)
    have hG7 : SG (sR (sR (nO (skH (meH κ σ y.toNatClampNeg) np ((dst σ (nI y.toNatClampNeg)) x.toNatClampNeg + 1) (pth σ (dst σ (nI y.toNatClampNeg)) x.toNatClampNeg) ((dst σ (nI y.toNatClampNeg)) x.toNatClampNeg + 1)) (tP np) 4 0) (tP np) 0 (some (tC np))) (tS 7) np (some (tP np))) := SG_sR hGi (fun i hi z => by have := tS_inj.mp z; omega)
    have hcl : (nI np).toNatClampNeg = np := nI_clamp (by omega)
    have hR5 : hRm (pp5 (meH κ σ y.toNatClampNeg) np ((dst σ (nI y.toNatClampNeg)) x.toNatClampNeg + 1) (pth σ (dst σ (nI y.toNatClampNeg)) x.toNatClampNeg)) σ nb := hRm_d pp5_D (by simp [tB_inj, tB_W, tB_R, tB_P, tB_C, tB_S, tW_inj, tW_B, tW_R, tW_P, tW_C, tW_S, tR_inj, tR_B, tR_W, tR_P, tR_C, tR_S, tP_inj, tP_B, tP_W, tP_R, tP_C, tP_S, tC_inj, tC_B, tC_W, tC_R, tC_P, tC_S, tS_inj, tS_B, tS_W, tS_R, tS_P, tS_C, tM_inj, tM_B, tM_W, tM_R, tM_P, tM_C, tM_S, tB_M, tW_M, tR_M, tP_M, tC_M, tS_M]) (fun i hi => by simp [tB_inj, tB_W, tB_R, tB_P, tB_C, tB_S, tW_inj, tW_B, tW_R, tW_P, tW_C, tW_S, tR_inj, tR_B, tR_W, tR_P, tR_C, tR_S, tP_inj, tP_B, tP_W, tP_R, tP_C, tP_S, tC_inj, tC_B, tC_W, tC_R, tC_P, tC_S, tS_inj, tS_B, tS_W, tS_R, tS_P, tS_C, tM_inj, tM_B, tM_W, tM_R, tM_P, tM_C, tM_S, tB_M, tW_M, tR_M, tP_M, tC_M, tS_M]) (meH_R R)
    have hC5 : gT (pp5 (meH κ σ y.toNatClampNeg) np ((dst σ (nI y.toNatClampNeg)) x.toNatClampNeg + 1) (pth σ (dst σ (nI y.toNatClampNeg)) x.toNatClampNeg)) (tC np) = 11 ∧ gN (pp5 (meH κ σ y.toNatClampNeg) np ((dst σ (nI y.toNatClampNeg)) x.toNatClampNeg + 1) (pth σ (dst σ (nI y.toNatClampNeg)) x.toNatClampNeg)) (tC np) = ((dst σ (nI y.toNatClampNeg)) x.toNatClampNeg + 1) := by
      have q := skH_TC (m := (meH κ σ y.toNatClampNeg)) (p := np) (N := ((dst σ (nI y.toNatClampNeg)) x.toNatClampNeg + 1)) (g := (pth σ (dst σ (nI y.toNatClampNeg)) x.toNatClampNeg)) ((dst σ (nI y.toNatClampNeg)) x.toNatClampNeg + 1)
      constructor
      · simp [pp5, gT_sI, gT_sR, gT_nO, tB_inj, tB_W, tB_R, tB_P, tB_C, tB_S, tW_inj, tW_B, tW_R, tW_P, tW_C, tW_S, tR_inj, tR_B, tR_W, tR_P, tR_C, tR_S, tP_inj, tP_B, tP_W, tP_R, tP_C, tP_S, tC_inj, tC_B, tC_W, tC_R, tC_P, tC_S, tS_inj, tS_B, tS_W, tS_R, tS_P, tS_C, tM_inj, tM_B, tM_W, tM_R, tM_P, tM_C, tM_S, tB_M, tW_M, tR_M, tP_M, tC_M, tS_M, q.1]
      · simp [pp5, gN_sI, gN_sR, gN_nO, tB_inj, tB_W, tB_R, tB_P, tB_C, tB_S, tW_inj, tW_B, tW_R, tW_P, tW_C, tW_S, tR_inj, tR_B, tR_W, tR_P, tR_C, tR_S, tP_inj, tP_B, tP_W, tP_R, tP_C, tP_S, tC_inj, tC_B, tC_W, tC_R, tC_P, tC_S, tS_inj, tS_B, tS_W, tS_R, tS_P, tS_C, tM_inj, tM_B, tM_W, tM_R, tM_P, tM_C, tM_S, tB_M, tW_M, tR_M, tP_M, tC_M, tS_M, q.2]
    have hI5 : ∀ j, j < ((dst σ (nI y.toNatClampNeg)) x.toNatClampNeg + 1) → gI (pp5 (meH κ σ y.toNatClampNeg) np ((dst σ (nI y.toNatClampNeg)) x.toNatClampNeg + 1) (pth σ (dst σ (nI y.toNatClampNeg)) x.toNatClampNeg)) (tC np) j = nI ((pth σ (dst σ (nI y.toNatClampNeg)) x.toNatClampNeg) j) := by
      intro j hj
      have q := sk_I (m := (meH κ σ y.toNatClampNeg)) (p := np) (N := ((dst σ (nI y.toNatClampNeg)) x.toNatClampNeg + 1)) (g := (pth σ (dst σ (nI y.toNatClampNeg)) x.toNatClampNeg)) ((dst σ (nI y.toNatClampNeg)) x.toNatClampNeg + 1) hj
      simp [pp5, gI_sI, gI_sR, gI_nO, tB_inj, tB_W, tB_R, tB_P, tB_C, tB_S, tW_inj, tW_B, tW_R, tW_P, tW_C, tW_S, tR_inj, tR_B, tR_W, tR_P, tR_C, tR_S, tP_inj, tP_B, tP_W, tP_R, tP_C, tP_S, tC_inj, tC_B, tC_W, tC_R, tC_P, tC_S, tS_inj, tS_B, tS_W, tS_R, tS_P, tS_C, tM_inj, tM_B, tM_W, tM_R, tM_P, tM_C, tM_S, tB_M, tW_M, tR_M, tP_M, tC_M, tS_M, q]
    have hRun : CY w yX8_runThrough mX8_runThrough [.ref (tS 4), .ref (tC np)] (pp5 (meH κ σ y.toNatClampNeg) np ((dst σ (nI y.toNatClampNeg)) x.toNatClampNeg + 1) (pth σ (dst σ (nI y.toNatClampNeg)) x.toNatClampNeg)) (fun v κ' => v = none ∧ κ' = (pp6 (meH κ σ y.toNatClampNeg) np ((dst σ (nI y.toNatClampNeg)) x.toNatClampNeg + 1) (pth σ (dst σ (nI y.toNatClampNeg)) x.toNatClampNeg))) := c_X8_runThrough (w := w) (a := tC np) (n := ((dst σ (nI y.toNatClampNeg)) x.toNatClampNeg + 1)) (g := (pth σ (dst σ (nI y.toNatClampNeg)) x.toNatClampNeg)) hG5 hR5 hC5.1 hC5.2 (by omega) (fun i hi => ⟨hI5 i hi, hgf i hi⟩) (fun c z => tC_R.mp z) (fun z => tC_S.mp z)
    have hC6 : gT (pp6 (meH κ σ y.toNatClampNeg) np ((dst σ (nI y.toNatClampNeg)) x.toNatClampNeg + 1) (pth σ (dst σ (nI y.toNatClampNeg)) x.toNatClampNeg)) (tC np) = 11 ∧ gN (pp6 (meH κ σ y.toNatClampNeg) np ((dst σ (nI y.toNatClampNeg)) x.toNatClampNeg + 1) (pth σ (dst σ (nI y.toNatClampNeg)) x.toNatClampNeg)) (tC np) = ((dst σ (nI y.toNatClampNeg)) x.toNatClampNeg + 1) := ⟨(rtH_T _).trans hC5.1, (rtH_N _).trans hC5.2⟩
    have K141 : Y w mX8_pipe θ0 κ (fun v' κ' => kPip σ x y = 0 ∧ v' = some (.int (nI ((dst σ (nI y.toNatClampNeg)) x.toNatClampNeg + 1))) ∧ RE κ0 κ' (sPip σ x y)) (fun E κ' => (kPip σ x y = 1 ∧ E = "java/lang/IndexOutOfBoundsException" ∧ κ' = κ) ∨ (kPip σ x y = 2 ∧ E = "java/lang/IllegalArgumentException" ∧ κ' = κ) ∨ (kPip σ x y = 3 ∧ E = "java/lang/IllegalStateException" ∧ RE κ0 κ' (upS (wSt σ x y) 34 3))) 2 37 141 [some (.ref (tS 4)), some (.int x), some (.int y), some (.ref (tR x.toNatClampNeg)), some (.ref (tR y.toNatClampNeg)), some (.ref (tC np))] [] (pp5 (meH κ σ y.toNatClampNeg) np ((dst σ (nI y.toNatClampNeg)) x.toNatClampNeg + 1) (pth σ (dst σ (nI y.toNatClampNeg)) x.toNatClampNeg)) := by
      refine runY_go rkX8_pipe (fun p => Nat.beq p 28 || Nat.beq p 44 || Nat.beq p 74 || Nat.beq p 85 || Nat.beq p 141) 200 rfl ?_
      refine pX8_pipe_144 rfl rfl rfl hG5.t4 hRun (fun v κ1 hq1 ho1 hk1 => ?_)
      obtain ⟨rfl, ehq1⟩ := hq1
      rw [ehq1]
      refine runY_ok rkX8_pipe (fun p => Nat.beq p 28 || Nat.beq p 44 || Nat.beq p 74 || Nat.beq p 85 || Nat.beq p 141) 200 _ _ _ _ _ _ ?_
      refine And.intro (by rw [hC6.1]; decide) ?_
      refine And.intro ⟨Nat.le_of_ble_eq_true rfl, Nat.le_of_ble_eq_true rfl⟩ ?_
      refine ⟨?_, by rw [hC6.2]; rfl, nb, nw, np + 1, wb, ?_⟩
      · unfold kPip
        rw [if_pos ⟨hx, hy⟩, if_pos hne, if_pos ⟨hnp, by rw [ey]; exact hd⟩]
      · rw [ppS_eq I.e30 I.n30]
        have q := s_pp (N := ((dst σ (nI y.toNatClampNeg)) x.toNatClampNeg + 1)) (g := (pth σ (dst σ (nI y.toNatClampNeg)) x.toNatClampNeg)) (s_34 (c := 0) (s_33 (f := (dst σ (nI y.toNatClampNeg))) (n := 36) (s_me (b := y.toNatClampNeg) h))) hnp30 (by omega) (fun i hi => by rw [show (upS (sFn σ (dst σ (nI y.toNatClampNeg)) 36) 34 0).2 25 = (sFn σ (dst σ (nI y.toNatClampNeg)) 36).2 25 from rfl, sFn_row (by decide)]; exact hgf i hi)
        rw [show dst σ y = (dst σ (nI y.toNatClampNeg)) from by rw [← ey]]
        exact q
    refine runY_go rkX8_pipe (fun p => Nat.beq p 28 || Nat.beq p 44 || Nat.beq p 74 || Nat.beq p 85 || Nat.beq p 141) 200 rfl ?_
    refine And.intro hG.t4 ⟨some (tS 2), hG.r44, ?_⟩
    refine pX8_pipe_92 rfl rfl rfl hG.t2 hSk (fun v κ1 hq2 ho2 hk2 => ?_)
    obtain ⟨rfl, ehq2⟩ := hq2
    rw [ehq2]
    refine runY_ok rkX8_pipe (fun p => Nat.beq p 28 || Nat.beq p 44 || Nat.beq p 74 || Nat.beq p 85 || Nat.beq p 141) 200 _ _ _ _ _ _ ?_
    refine And.intro hG1.t4 ⟨some (tS 7), hG1.r42, ?_⟩
    refine And.intro hG1.t4 ?_
    refine pX8_pipe_121 (tP np) rfl rfl hP1 ?_
    refine runY_ok rkX8_pipe (fun p => Nat.beq p 28 || Nat.beq p 44 || Nat.beq p 74 || Nat.beq p 85 || Nat.beq p 141) 200 _ _ _ _ _ _ ?_
    refine pX8_pipe_127 rfl rfl rfl (c_X3_init hn0) (fun v κ1 hq3 ho3 hk3 => ?_)
    obtain ⟨rfl, ehq3⟩ := hq3
    rw [ehq3]
    refine runY_ok rkX8_pipe (fun p => Nat.beq p 28 || Nat.beq p 44 || Nat.beq p 74 || Nat.beq p 85 || Nat.beq p 141) 200 _ _ _ _ _ _ ?_
    refine pX8_pipe_130 hGi.t7 hn0 (by rw [show gN (sR (nO (skH (meH κ σ y.toNatClampNeg) np ((dst σ (nI y.toNatClampNeg)) x.toNatClampNeg + 1) (pth σ (dst σ (nI y.toNatClampNeg)) x.toNatClampNeg) ((dst σ (nI y.toNatClampNeg)) x.toNatClampNeg + 1)) (tP np) 4 0) (tP np) 0 (some (tC np))) (tS 7) = 30 from hGi.n7, h9]; exact vp_in_nI hnp30 (by decide)) ?_
    refine runY_ok rkX8_pipe (fun p => Nat.beq p 28 || Nat.beq p 44 || Nat.beq p 74 || Nat.beq p 85 || Nat.beq p 141) 200 _ _ _ _ _ _ ?_
    refine And.intro hG7.t4 ?_
    refine And.intro hG7.t4 ?_
    have eP : (sI (sR (sR (nO (skH (meH κ σ y.toNatClampNeg) np ((dst σ (nI y.toNatClampNeg)) x.toNatClampNeg + 1) (pth σ (dst σ (nI y.toNatClampNeg)) x.toNatClampNeg) ((dst σ (nI y.toNatClampNeg)) x.toNatClampNeg + 1)) (tP np) 4 0) (tP np) 0 (some (tC np))) (tS 7) ((gI (skH (meH κ σ y.toNatClampNeg) np ((dst σ (nI y.toNatClampNeg)) x.toNatClampNeg + 1) (pth σ (dst σ (nI y.toNatClampNeg)) x.toNatClampNeg) ((dst σ (nI y.toNatClampNeg)) x.toNatClampNeg + 1)) (tS 4) 9)).toNatClampNeg (some (tP np))) (tS 4) 9 ((gI (sR (sR (nO (skH (meH κ σ y.toNatClampNeg) np ((dst σ (nI y.toNatClampNeg)) x.toNatClampNeg + 1) (pth σ (dst σ (nI y.toNatClampNeg)) x.toNatClampNeg) ((dst σ (nI y.toNatClampNeg)) x.toNatClampNeg + 1)) (tP np) 4 0) (tP np) 0 (some (tC np))) (tS 7) ((gI (skH (meH κ σ y.toNatClampNeg) np ((dst σ (nI y.toNatClampNeg)) x.toNatClampNeg + 1) (pth σ (dst σ (nI y.toNatClampNeg)) x.toNatClampNeg) ((dst σ (nI y.toNatClampNeg)) x.toNatClampNeg + 1)) (tS 4) 9)).toNatClampNeg (some (tP np))) (tS 4) 9) + 1)) = (pp5 (meH κ σ y.toNatClampNeg) np ((dst σ (nI y.toNatClampNeg)) x.toNatClampNeg + 1) (pth σ (dst σ (nI y.toNatClampNeg)) x.toNatClampNeg)) := by unfold pp5; rw [show gI (sR (sR (nO (skH (meH κ σ y.toNatClampNeg) np ((dst σ (nI y.toNatClampNeg)) x.toNatClampNeg + 1) (pth σ (dst σ (nI y.toNatClampNeg)) x.toNatClampNeg) ((dst σ (nI y.toNatClampNeg)) x.toNatClampNeg + 1)) (tP np) 4 0) (tP np) 0 (some (tC np))) (tS 7) (gI (skH (meH κ σ y.toNatClampNeg) np ((dst σ (nI y.toNatClampNeg)) x.toNatClampNeg + 1) (pth σ (dst σ (nI y.toNatClampNeg)) x.toNatClampNeg) ((dst σ (nI y.toNatClampNeg)) x.toNatClampNeg + 1)) (tS 4) 9).toNatClampNeg (some (tP np))) (tS 4) 9 = gI (skH (meH κ σ y.toNatClampNeg) np ((dst σ (nI y.toNatClampNeg)) x.toNatClampNeg + 1) (pth σ (dst σ (nI y.toNatClampNeg)) x.toNatClampNeg) ((dst σ (nI y.toNatClampNeg)) x.toNatClampNeg + 1)) (tS 4) 9 from by rw [gI_sR, gI_sR, gI_nO, if_neg (fun z => tS_P.mp z)], h9, hcl, nI_1]
    rw [eP]
    exact K141
  refine runY_ok rkX8_pipe (fun p => Nat.beq p 28 || Nat.beq p 44 || Nat.beq p 74 || Nat.beq p 85 || Nat.beq p 141) 200 _ _ _ _ _ _ ?_
  refine And.intro hG.t4 ⟨some (tS 0), hG.r43, ?_⟩
  refine pX8_pipe_5 rfl rfl rfl hG.t0 (c_X1_roomOf hG R.1) (fun v κ1 hq4 ho4 hk4 => ?_)
  by_cases hs4 : isRm σ x
  · skip
    rw [rmO_y hs4] at hq4
    obtain ⟨rfl, ehq4⟩ := hq4
    rw [ehq4]
    refine runY_ok rkX8_pipe (fun p => Nat.beq p 28 || Nat.beq p 44 || Nat.beq p 74 || Nat.beq p 85 || Nat.beq p 141) 200 _ _ _ _ _ _ ?_
    refine And.intro hG.t4 ⟨some (tS 0), hG.r43, ?_⟩
    refine pX8_pipe_14 rfl rfl rfl hG.t0 (c_X1_roomOf hG R.1) (fun v κ1 hq5 ho5 hk5 => ?_)
    by_cases hs5 : isRm σ y
    · skip
      rw [rmO_y hs5] at hq5
      obtain ⟨rfl, ehq5⟩ := hq5
      rw [ehq5]
      refine runY_ok rkX8_pipe (fun p => Nat.beq p 28 || Nat.beq p 44 || Nat.beq p 74 || Nat.beq p 85 || Nat.beq p 141) 200 _ _ _ _ _ _ ?_
      refine And.intro (fun c6 => ?_) (fun c6 => ?_)
      · try simp only [b01_eq, b01_ne, Classical.not_not] at c6
        refine And.intro hG.t4 ?_
        refine And.intro (fun c7 => ?_) (fun c7 => ?_)
        · rw [N.1.2.2, I.e30] at c7
          first
          | (exact absurd ‹nI np < 0› (nI_pos (by omega)))
          | (refine K74 (by assumption) (by assumption) (by assumption) ?_; rw [I.e30]; have h30 : ¬ np < 30 := fun q => ‹¬ nI np < nI 30› ((nI_ltI (a := np) (b := 30) (by omega) (by decide)).mpr q); rw [show np = 30 from by omega]; rfl)
        · rw [N.1.2.2, I.e30] at c7
          refine And.intro hG.t4 ?_
          refine And.intro hG.t4 ⟨some (tS 7), hG.r42, ?_⟩
          refine And.intro (by rw [hG.t7]; decide) ?_
          refine And.intro (fun c8 => ?_) (fun c8 => ?_)
          · rw [N.1.2.2, I.e30, hG.n7, show Int32.ofNat 30 = nI 30 from rfl] at c8
            refine K85 (by assumption) (by assumption) (by assumption) (fun z => ?_)
            rw [I.e30] at z
            have h30 := (nI_eq (b := 30) (by omega) (by decide)).mp z
            exact absurd ((nI_ltI (a := np) (b := 30) (by omega) (by omega)).mp ‹nI np < nI 30›) (by omega)
          · rw [N.1.2.2, I.e30, hG.n7, show Int32.ofNat 30 = nI 30 from rfl] at c8
            first
            | (exact absurd ‹nI np < 0› (nI_pos (by omega)))
            | (refine K74 (by assumption) (by assumption) (by assumption) ?_; rw [I.e30]; have h30 : ¬ np < 30 := fun q => ‹¬ nI np < nI 30› ((nI_ltI (a := np) (b := 30) (by omega) (by decide)).mpr q); rw [show np = 30 from by omega]; rfl)
      · try simp only [b01_eq, b01_ne, Classical.not_not] at c6
        exact K44 (by unfold kPip; rw [if_pos ⟨by assumption, by assumption⟩, if_neg (fun z => z (by assumption))])
    · skip
      rw [rmO_n hs5] at hq5
      obtain ⟨rfl, ehq5⟩ := hq5
      rw [ehq5]
      refine runY_ok rkX8_pipe (fun p => Nat.beq p 28 || Nat.beq p 44 || Nat.beq p 74 || Nat.beq p 85 || Nat.beq p 141) 200 _ _ _ _ _ _ ?_
      exact K28 (by unfold kPip; rw [if_neg (fun z => absurd z (by grind))]) _ _
  · skip
    rw [rmO_n hs4] at hq4
    obtain ⟨rfl, ehq4⟩ := hq4
    rw [ehq4]
    refine runY_ok rkX8_pipe (fun p => Nat.beq p 28 || Nat.beq p 44 || Nat.beq p 74 || Nat.beq p 85 || Nat.beq p 141) 200 _ _ _ _ _ _ ?_
    refine And.intro hG.t4 ⟨some (tS 0), hG.r43, ?_⟩
    refine pX8_pipe_14 rfl rfl rfl hG.t0 (c_X1_roomOf hG R.1) (fun v κ1 hq9 ho9 hk9 => ?_)
    by_cases hs9 : isRm σ y
    · skip
      rw [rmO_y hs9] at hq9
      obtain ⟨rfl, ehq9⟩ := hq9
      rw [ehq9]
      refine runY_ok rkX8_pipe (fun p => Nat.beq p 28 || Nat.beq p 44 || Nat.beq p 74 || Nat.beq p 85 || Nat.beq p 141) 200 _ _ _ _ _ _ ?_
      exact K28 (by unfold kPip; rw [if_neg (fun z => absurd z (by grind))]) _ _
    · skip
      rw [rmO_n hs9] at hq9
      obtain ⟨rfl, ehq9⟩ := hq9
      rw [ehq9]
      refine runY_ok rkX8_pipe (fun p => Nat.beq p 28 || Nat.beq p 44 || Nat.beq p 74 || Nat.beq p 85 || Nat.beq p 141) 200 _ _ _ _ _ _ ?_
      exact K28 (by unfold kPip; rw [if_neg (fun z => absurd z (by grind))]) _ _
set_option maxRecDepth 20000 in
theorem pn_pipe {w : W0} {κ : AH} {x y : Int32} {κ0 : AH} {σ : MS} {nb nw np : Nat} {wb : Nat → Nat} (h : RI κ0 κ σ nb nw np wb) (hd : ¬ (dst σ (nI y.toNatClampNeg)) x.toNatClampNeg < 36) : CYV w yX8_pipe mX8_pipe [.ref (tS 4), .int x, .int y] κ (fun v' κ' => kPip σ x y = 0 ∧ v' = some (.int (nI ((dst σ (nI y.toNatClampNeg)) x.toNatClampNeg + 1))) ∧ RE κ0 κ' (sPip σ x y)) (fun E κ' => (kPip σ x y = 1 ∧ E = "java/lang/IndexOutOfBoundsException" ∧ κ' = κ) ∨ (kPip σ x y = 2 ∧ E = "java/lang/IllegalArgumentException" ∧ κ' = κ) ∨ (kPip σ x y = 3 ∧ E = "java/lang/IllegalStateException" ∧ RE κ0 κ' (upS (wSt σ x y) 34 3))) := by
  have I := h.1
  have C := h.2.1
  have hG := C.1
  have N := C.2.1
  have R := C.2.2.2.2.1
  have P := C.2.2.2.2.2.1
  have hn := I.n30
  refine CYV_of mcX8_pipe (Nat.le_of_ble_eq_true rfl) (cat1 rfl) (fun θ0 => ?_)
  have K85 : isRm σ x → isRm σ y → ¬ x = y → ¬ σ.1 30 = 30 → Y w mX8_pipe θ0 κ (fun v' κ' => kPip σ x y = 0 ∧ v' = some (.int (nI ((dst σ (nI y.toNatClampNeg)) x.toNatClampNeg + 1))) ∧ RE κ0 κ' (sPip σ x y)) (fun E κ' => (kPip σ x y = 1 ∧ E = "java/lang/IndexOutOfBoundsException" ∧ κ' = κ) ∨ (kPip σ x y = 2 ∧ E = "java/lang/IllegalArgumentException" ∧ κ' = κ) ∨ (kPip σ x y = 3 ∧ E = "java/lang/IllegalStateException" ∧ RE κ0 κ' (upS (wSt σ x y) 34 3))) 0 0 85 [some (.ref (tS 4)), some (.int x), some (.int y), some (.ref (tR x.toNatClampNeg)), some (.ref (tR y.toNatClampNeg)), none] [] κ := by
    intro hx hy hne hnp
    obtain ⟨hfx, ex⟩ := isRm_c hx
    obtain ⟨hfy, ey⟩ := isRm_c hy
    have hnp30 : np < 30 := by
      refine Nat.lt_of_le_of_ne I.n30 (fun z => hnp ?_)
      rw [I.e30, z]
      rfl
    have m6 := me_6 (κ := κ) I.ho hfy.1 hfx
    have hRT : gT κ (tR x.toNatClampNeg) = 5 := (R.2.1 _ hfx.1 hfx.2).1.1
    have hRT2 : gT κ (tR y.toNatClampNeg) = 5 := (R.2.1 _ hfy.1 hfy.2).1.1
    have hSk := d_X5_seek (w := w) (κ := κ) hG R I.hO hfx.1 hfx.2 hfy.1 hfy.2 (by rw [m6, if_neg hd]; decide)
    refine runY_go rkX8_pipe (fun p => Nat.beq p 28 || Nat.beq p 44 || Nat.beq p 74 || Nat.beq p 85) 200 rfl ?_
    refine And.intro hG.t4 ⟨some (tS 2), hG.r44, ?_⟩
    refine pX8_pipe_92 rfl rfl rfl hG.t2 hSk (fun v κ1 hq1 ho1 hk1 => ?_)
    obtain ⟨rfl, ehq1⟩ := hq1
    rw [ehq1]
    refine runY_ok rkX8_pipe (fun p => Nat.beq p 28 || Nat.beq p 44 || Nat.beq p 74 || Nat.beq p 85) 200 _ _ _ _ _ _ ?_
    refine yX8_pipe_102z (st := []) rfl rfl ?_
    refine Or.inr (Or.inr ⟨by unfold kPip; rw [if_pos ⟨hx, hy⟩, if_pos hne, if_neg (fun z => hd (by rw [← ey]; exact z.2))], rfl, nb, nw, np, wb, ?_⟩)
    unfold wSt
    rw [if_pos ⟨⟨hx, hy⟩, hne⟩]
    exact s_34 (s_33 (s_me h))
  have K74 : isRm σ x → isRm σ y → ¬ x = y → σ.1 30 = 30 → Y w mX8_pipe θ0 κ (fun v' κ' => kPip σ x y = 0 ∧ v' = some (.int (nI ((dst σ (nI y.toNatClampNeg)) x.toNatClampNeg + 1))) ∧ RE κ0 κ' (sPip σ x y)) (fun E κ' => (kPip σ x y = 1 ∧ E = "java/lang/IndexOutOfBoundsException" ∧ κ' = κ) ∨ (kPip σ x y = 2 ∧ E = "java/lang/IllegalArgumentException" ∧ κ' = κ) ∨ (kPip σ x y = 3 ∧ E = "java/lang/IllegalStateException" ∧ RE κ0 κ' (upS (wSt σ x y) 34 3))) 0 0 74 [some (.ref (tS 4)), some (.int x), some (.int y), some (.ref (tR x.toNatClampNeg)), some (.ref (tR y.toNatClampNeg)), none] [] κ := by
    intro hx hy hne hn30
    refine yX8_pipe_74z (st := []) rfl rfl ?_
    refine Or.inr (Or.inr ⟨by unfold kPip; rw [if_pos ⟨hx, hy⟩, if_pos hne, if_neg (fun z => z.1 hn30)], rfl, nb, nw, np, wb, ?_⟩)
    unfold wSt
    rw [if_pos ⟨⟨hx, hy⟩, hne⟩]
    exact s_34 (s_33 h)
  have K44 : kPip σ x y = 2 → Y w mX8_pipe θ0 κ (fun v' κ' => kPip σ x y = 0 ∧ v' = some (.int (nI ((dst σ (nI y.toNatClampNeg)) x.toNatClampNeg + 1))) ∧ RE κ0 κ' (sPip σ x y)) (fun E κ' => (kPip σ x y = 1 ∧ E = "java/lang/IndexOutOfBoundsException" ∧ κ' = κ) ∨ (kPip σ x y = 2 ∧ E = "java/lang/IllegalArgumentException" ∧ κ' = κ) ∨ (kPip σ x y = 3 ∧ E = "java/lang/IllegalStateException" ∧ RE κ0 κ' (upS (wSt σ x y) 34 3))) 0 0 44 [some (.ref (tS 4)), some (.int x), some (.int y), some (.ref (tR x.toNatClampNeg)), some (.ref (tR y.toNatClampNeg)), none] [] κ := by
    intro hk
    refine yX8_pipe_44z (st := []) rfl rfl ?_
    exact Or.inr (Or.inl ⟨hk, rfl, rfl⟩)
  have K28 : kPip σ x y = 1 → ∀ x3 x4, Y w mX8_pipe θ0 κ (fun v' κ' => kPip σ x y = 0 ∧ v' = some (.int (nI ((dst σ (nI y.toNatClampNeg)) x.toNatClampNeg + 1))) ∧ RE κ0 κ' (sPip σ x y)) (fun E κ' => (kPip σ x y = 1 ∧ E = "java/lang/IndexOutOfBoundsException" ∧ κ' = κ) ∨ (kPip σ x y = 2 ∧ E = "java/lang/IllegalArgumentException" ∧ κ' = κ) ∨ (kPip σ x y = 3 ∧ E = "java/lang/IllegalStateException" ∧ RE κ0 κ' (upS (wSt σ x y) 34 3))) 0 0 28 [some (.ref (tS 4)), some (.int x), some (.int y), x3, x4, none] [] κ := by
    intro hk x3 x4
    refine yX8_pipe_28z (st := []) rfl rfl ?_
    exact Or.inl ⟨hk, rfl, rfl⟩
  refine runY_ok rkX8_pipe (fun p => Nat.beq p 28 || Nat.beq p 44 || Nat.beq p 74 || Nat.beq p 85) 200 _ _ _ _ _ _ ?_
  refine And.intro hG.t4 ⟨some (tS 0), hG.r43, ?_⟩
  refine pX8_pipe_5 rfl rfl rfl hG.t0 (c_X1_roomOf hG R.1) (fun v κ1 hq2 ho2 hk2 => ?_)
  by_cases hs2 : isRm σ x
  · skip
    rw [rmO_y hs2] at hq2
    obtain ⟨rfl, ehq2⟩ := hq2
    rw [ehq2]
    refine runY_ok rkX8_pipe (fun p => Nat.beq p 28 || Nat.beq p 44 || Nat.beq p 74 || Nat.beq p 85) 200 _ _ _ _ _ _ ?_
    refine And.intro hG.t4 ⟨some (tS 0), hG.r43, ?_⟩
    refine pX8_pipe_14 rfl rfl rfl hG.t0 (c_X1_roomOf hG R.1) (fun v κ1 hq3 ho3 hk3 => ?_)
    by_cases hs3 : isRm σ y
    · skip
      rw [rmO_y hs3] at hq3
      obtain ⟨rfl, ehq3⟩ := hq3
      rw [ehq3]
      refine runY_ok rkX8_pipe (fun p => Nat.beq p 28 || Nat.beq p 44 || Nat.beq p 74 || Nat.beq p 85) 200 _ _ _ _ _ _ ?_
      refine And.intro (fun c4 => ?_) (fun c4 => ?_)
      · try simp only [b01_eq, b01_ne, Classical.not_not] at c4
        refine And.intro hG.t4 ?_
        refine And.intro (fun c5 => ?_) (fun c5 => ?_)
        · rw [N.1.2.2, I.e30] at c5
          first
          | (exact absurd ‹nI np < 0› (nI_pos (by omega)))
          | (refine K74 (by assumption) (by assumption) (by assumption) ?_; rw [I.e30]; have h30 : ¬ np < 30 := fun q => ‹¬ nI np < nI 30› ((nI_ltI (a := np) (b := 30) (by omega) (by decide)).mpr q); rw [show np = 30 from by omega]; rfl)
        · rw [N.1.2.2, I.e30] at c5
          refine And.intro hG.t4 ?_
          refine And.intro hG.t4 ⟨some (tS 7), hG.r42, ?_⟩
          refine And.intro (by rw [hG.t7]; decide) ?_
          refine And.intro (fun c6 => ?_) (fun c6 => ?_)
          · rw [N.1.2.2, I.e30, hG.n7, show Int32.ofNat 30 = nI 30 from rfl] at c6
            refine K85 (by assumption) (by assumption) (by assumption) (fun z => ?_)
            rw [I.e30] at z
            have h30 := (nI_eq (b := 30) (by omega) (by decide)).mp z
            exact absurd ((nI_ltI (a := np) (b := 30) (by omega) (by omega)).mp ‹nI np < nI 30›) (by omega)
          · rw [N.1.2.2, I.e30, hG.n7, show Int32.ofNat 30 = nI 30 from rfl] at c6
            first
            | (exact absurd ‹nI np < 0› (nI_pos (by omega)))
            | (refine K74 (by assumption) (by assumption) (by assumption) ?_; rw [I.e30]; have h30 : ¬ np < 30 := fun q => ‹¬ nI np < nI 30› ((nI_ltI (a := np) (b := 30) (by omega) (by decide)).mpr q); rw [show np = 30 from by omega]; rfl)
      · try simp only [b01_eq, b01_ne, Classical.not_not] at c4
        exact K44 (by unfold kPip; rw [if_pos ⟨by assumption, by assumption⟩, if_neg (fun z => z (by assumption))])
    · skip
      rw [rmO_n hs3] at hq3
      obtain ⟨rfl, ehq3⟩ := hq3
      rw [ehq3]
      refine runY_ok rkX8_pipe (fun p => Nat.beq p 28 || Nat.beq p 44 || Nat.beq p 74 || Nat.beq p 85) 200 _ _ _ _ _ _ ?_
      exact K28 (by unfold kPip; rw [if_neg (fun z => absurd z (by grind))]) _ _
  · skip
    rw [rmO_n hs2] at hq2
    obtain ⟨rfl, ehq2⟩ := hq2
    rw [ehq2]
    refine runY_ok rkX8_pipe (fun p => Nat.beq p 28 || Nat.beq p 44 || Nat.beq p 74 || Nat.beq p 85) 200 _ _ _ _ _ _ ?_
    refine And.intro hG.t4 ⟨some (tS 0), hG.r43, ?_⟩
    refine pX8_pipe_14 rfl rfl rfl hG.t0 (c_X1_roomOf hG R.1) (fun v κ1 hq7 ho7 hk7 => ?_)
    by_cases hs7 : isRm σ y
    · skip
      rw [rmO_y hs7] at hq7
      obtain ⟨rfl, ehq7⟩ := hq7
      rw [ehq7]
      refine runY_ok rkX8_pipe (fun p => Nat.beq p 28 || Nat.beq p 44 || Nat.beq p 74 || Nat.beq p 85) 200 _ _ _ _ _ _ ?_
      exact K28 (by unfold kPip; rw [if_neg (fun z => absurd z (by grind))]) _ _
    · skip
      rw [rmO_n hs7] at hq7
      obtain ⟨rfl, ehq7⟩ := hq7
      rw [ehq7]
      refine runY_ok rkX8_pipe (fun p => Nat.beq p 28 || Nat.beq p 44 || Nat.beq p 74 || Nat.beq p 85) 200 _ _ _ _ _ _ ?_
      exact K28 (by unfold kPip; rw [if_neg (fun z => absurd z (by grind))]) _ _


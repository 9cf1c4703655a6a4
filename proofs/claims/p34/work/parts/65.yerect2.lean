/-! THE COMPONENT'S erect, 2 -/
theorem er0_SG {κ : AH} {σ : MS} {i lo hi v : Nat} {a c : Int32} (h : SG κ) : SG (erF0 κ σ i lo hi v a c) := SG_sI (SG_sI (fiH_SG (SG_d e1_D (fun i hi z => tS_B.mp z) h) _))
theorem er0_I {κ : AH} {σ : MS} {i lo hi v p : Nat} {a c : Int32} (h6 : p ≠ 6) (h7 : p ≠ 7) (h8 : p ≠ 8) : gI (erF0 κ σ i lo hi v a c) (tB i) p = gI κ (tB i) p := by
  unfold erF0
  rw [gI_sI, if_neg (fun z => tB_S.mp z.1), gI_sI, if_neg (fun z => tB_S.mp z.1), fiH_I (fun _ z => tB_R.mp z)]
  unfold erH1
  rw [gI_sI, if_neg (fun z => h8 z.2), gI_sI, if_neg (fun z => h7 z.2), gI_sI, if_neg (fun z => h6 z.2)]
theorem er0_T {κ : AH} {σ : MS} {i j lo hi v : Nat} {a c : Int32} : gT (erF0 κ σ i lo hi v a c) (tB j) = gT κ (tB j) := (fiH_T (κ := erH1 κ σ i a c) (fun _ z => tB_R.mp z) _)
theorem kEr0 {σ : MS} {x z : Int32} (h : kEr σ x z = 0) : rsn σ x.toNatClampNeg = 0 ∧ σ.1 18 + (cnx (nbA σ x.toNatClampNeg) + cnx (nbB σ x.toNatClampNeg)) ≤ 100 := by
  unfold kEr at h
  split at h
  · split at h
    · rename_i q
      exact ⟨rsn_ge.mp q.1, q.2⟩
    · exact absurd h (by decide)
  · exact absurd h (by decide)
theorem nw_room {σ : MS} {nb nw np k : Nat} {y : Int32} (I : IV σ nb nw np) (hk : k < 3) (e : y = nI k) (h : σ.1 18 + y ≤ 100) : nw + k ≤ 100 := by
  have := I.n18
  rw [I.e18, e, nI_add] at h
  exact (nI_leI (b := 100) (by omega) (by decide)).mp h
theorem ex_eq {w : W0} {κ0 κ : AH} {σ : MS} {nb nw np i : Nat} {wb : Nat → Nat} (h : RI κ0 κ σ nb nw np wb) (hi : i < nb) (h0 : σ.2 9 i = 0 ∧ σ.1 6 = 0 ∧ flN σ i = false) (ha : ¬ nbA σ i = -1) (hc : ¬ nbB σ i = -1) : CY w yX8_excess mX8_excess [.ref (tB i), .ref (tB (nbA σ i).toNatClampNeg), .ref (tB (nbB σ i).toNatClampNeg)] κ (fun v κ' => v = some (.int (σ.2 14 i - spc σ (nbA σ i) (nbB σ i))) ∧ κ' = κ) := by
  obtain ⟨I, C, F⟩ := h
  obtain ⟨lo, hi', v, hp⟩ := pos_of (I.rs _ hi)
  have nA := nb_at I hp (fl_un hp h0.2.2)
  obtain ⟨-, ja, hja, eja, sja⟩ := nA.1 ha
  obtain ⟨-, jc, hjc, ejc, sjc, -⟩ := nA.2 hc
  have h8 := I.n8
  have e1 : (nbA σ i).toNatClampNeg = ja := by rw [eja, nI_clamp (by omega)]
  have e2 : (nbB σ i).toNatClampNeg = jc := by rw [ejc, nI_clamp (by omega)]
  have h9 := c_X8_excess (w := w) (C.2.2.1.2.1 i hi).1 (C.2.2.1.2.1 ja hja).1 (C.2.2.1.2.1 jc hjc).1
  rw [(C.2.2.1.2.1 i hi).2.2.2.2.2.2.2.1, (C.2.2.1.2.1 jc hjc).2.2.2.2.2.2.2.2.1 sjc, (C.2.2.1.2.1 ja hja).2.2.2.2.2.2.2.2.1 sja, (C.2.2.1.2.1 ja hja).2.2.2.2.2.2.2.1] at h9
  unfold spc eOf
  rw [e1, e2]
  rw [show σ.2 14 i - (σ.2 16 jc - 4 - (σ.2 16 ja + σ.2 14 ja) - 4) = σ.2 14 i - (σ.2 16 jc - 4 - (σ.2 16 ja + σ.2 14 ja + 4)) from by grind]
  exact h9
set_option maxRecDepth 20000 in
theorem e00_erect {w : W0} {κ : AH} {x z : Int32} {κ0 : AH} {σ : MS} {nb nw np : Nat} {wb : Nat → Nat} (h : RI κ0 κ σ nb nw np wb) (ha : (nbA σ x.toNatClampNeg) = -1) (hc : (nbB σ x.toNatClampNeg) = -1) : CYV w yX8_erect mX8_erect [.ref (tS 4), .int x, .int z] κ (fun v' κ' => kEr σ x z = 0 ∧ v' = some (.int (cutE σ x.toNatClampNeg (nbA σ x.toNatClampNeg) (nbB σ x.toNatClampNeg))) ∧ RE κ0 κ' (sEr σ x.toNatClampNeg x (nbA σ x.toNatClampNeg) (nbB σ x.toNatClampNeg) z.toNatClampNeg)) (fun E κ' => κ' = κ ∧ ((kEr σ x z = 1 ∧ E = "java/lang/IndexOutOfBoundsException") ∨ (kEr σ x z = 2 ∧ E = "java/lang/IllegalStateException"))) := by
  have I := h.1
  have C := h.2.1
  have hG := C.1
  have hN := C.2.1
  have hR := C.2.2.2.2.1
  have hn := I.n8
  have hnw0 := I.n18
  have hbl := fun x => isB_blk (x := x) I.n8 I.e8
  have hcx : cnx (nbA σ x.toNatClampNeg) + cnx (nbB σ x.toNatClampNeg) = (0 + 0) := by unfold cnx; rw [if_pos ha, if_pos hc]
  have hge := rsn_ge (σ := σ) (i := x.toNatClampNeg)
  refine CYV_of mcX8_erect (Nat.le_of_ble_eq_true rfl) (cat1 rfl) (fun θ0 => ?_)
  have K123 : ∀ r : Int32, r = (cutE σ x.toNatClampNeg (nbA σ x.toNatClampNeg) (nbB σ x.toNatClampNeg)) → isB nb x → isWdr z → kEr σ x z = 0 → Y w mX8_erect θ0 κ (fun v' κ' => kEr σ x z = 0 ∧ v' = some (.int (cutE σ x.toNatClampNeg (nbA σ x.toNatClampNeg) (nbB σ x.toNatClampNeg))) ∧ RE κ0 κ' (sEr σ x.toNatClampNeg x (nbA σ x.toNatClampNeg) (nbB σ x.toNatClampNeg) z.toNatClampNeg)) (fun E κ' => κ' = κ ∧ ((kEr σ x z = 1 ∧ E = "java/lang/IndexOutOfBoundsException") ∨ (kEr σ x z = 2 ∧ E = "java/lang/IllegalStateException"))) 0 0 123 [some (.ref (tS 4)), some (.int x), some (.int z), some (.ref (tB x.toNatClampNeg)), some (.null), some (.null), some (.int (0 + 0)), some (.int r)] [] κ := by
    intro r hr
    subst hr
    intro hx hz hk
    obtain ⟨hr0, hw⟩ := kEr0 hk
    obtain ⟨h0, h6, hfl⟩ := rsn_0 hr0
    have hxl := isB_cl (nb := nb) (by omega) hx
    obtain ⟨lo, hi, vl, hp⟩ := pos_of (I.rs _ hxl)
    have hu := fl_un hp hfl
    have nA := nb_at I hp hu
    have hz4 := in_c (c := 3) (n := 4) (by decide) hz
    have hcx2 : cnx (nbA σ x.toNatClampNeg) + cnx (nbB σ x.toNatClampNeg) = nI 0 := hcx
    obtain ⟨pT, px0, px1, px2, px3, px4, px5, px6, px7, px8, px9⟩ := (C.2.2.1.2.1 _ hxl)
    have hTX : gT κ (tB x.toNatClampNeg) = 1 := pT
    have R3 := s_er (a := (nbA σ x.toNatClampNeg)) (c := (nbB σ x.toNatClampNeg)) h hxl h0 hp hu
    have hG1 : SG (erH1 κ σ x.toNatClampNeg (nbA σ x.toNatClampNeg) (nbB σ x.toNatClampNeg)) := SG_d e1_D (fun i hi z => tS_B.mp z) hG
    have hGF1 : SG (erF0 κ σ x.toNatClampNeg lo hi vl (nbA σ x.toNatClampNeg) (nbB σ x.toNatClampNeg)) := er0_SG hG
    have hbeg : (1000 * gI (sI κ (tB x.toNatClampNeg) 6 (gI κ (tB x.toNatClampNeg) 6 - (cutE σ x.toNatClampNeg (nbA σ x.toNatClampNeg) (nbB σ x.toNatClampNeg)))) (tB x.toNatClampNeg) 1) = (begE (erA σ x.toNatClampNeg (nbA σ x.toNatClampNeg) (nbB σ x.toNatClampNeg)) x.toNatClampNeg (nbA σ x.toNatClampNeg) (nbB σ x.toNatClampNeg)) := by
        unfold begE
        rw [if_neg (fun w => w ha), if_neg (fun w => w hc), erA_row (by decide), ← px1]
        simp [gI_sI]
    obtain ⟨e10, e11_, e12, lh1, lh2, lh3⟩ := id hp
    have ffr : gI (erF0 κ σ x.toNatClampNeg lo hi vl (nbA σ x.toNatClampNeg) (nbB σ x.toNatClampNeg)) (tB x.toNatClampNeg) 2 - gI (erF0 κ σ x.toNatClampNeg lo hi vl (nbA σ x.toNatClampNeg) (nbB σ x.toNatClampNeg)) (tB x.toNatClampNeg) 1 + 1 = σ.2 11 x.toNatClampNeg - σ.2 10 x.toNatClampNeg + 1 := by rw [er0_I (by decide) (by decide) (by decide), er0_I (by decide) (by decide) (by decide), px1, px2]
    have hTF1 : gT (erF0 κ σ x.toNatClampNeg lo hi vl (nbA σ x.toNatClampNeg) (nbB σ x.toNatClampNeg)) (tB x.toNatClampNeg) = 1 := er0_T.trans pT
    have hle1 : gI (erF0 κ σ x.toNatClampNeg lo hi vl (nbA σ x.toNatClampNeg) (nbB σ x.toNatClampNeg)) (tS 1) 1 = nI (nEn σ nb nw) := ((er0_D (tS 1) (by simp [tB_inj, tB_W, tB_R, tB_P, tB_C, tB_S, tW_inj, tW_B, tW_R, tW_P, tW_C, tW_S, tR_inj, tR_B, tR_W, tR_P, tR_C, tR_S, tP_inj, tP_B, tP_W, tP_R, tP_C, tP_S, tC_inj, tC_B, tC_W, tC_R, tC_P, tC_S, tS_inj, tS_B, tS_W, tS_R, tS_P, tS_C, tM_inj, tM_B, tM_W, tM_R, tM_P, tM_C, tM_S, tB_M, tW_M, tR_M, tP_M, tC_M, tS_M])).2.2.1 1).trans C.2.2.2.2.2.2.2.1
    have hnl : nEn σ nb nw < 337 := by have := nEn_le R3.1; rw [nEn_er hxl h0] at this; omega
    refine runY_go rkX8_erect (fun p => Nat.beq p 21 || Nat.beq p 85 || Nat.beq p 123) 200 rfl ?_
    refine And.intro (by first | exact hTX | exact (C.2.2.1.2.1 _ (isB_cl (by omega) (by assumption : isB nb x))).1) ?_
    refine And.intro (by first | exact hTX | exact (C.2.2.1.2.1 _ (isB_cl (by omega) (by assumption : isB nb x))).1) ?_
    refine pX8_erect_140 rfl rfl rfl (show CY w yX8_beginOf mX8_beginOf [.ref (tB x.toNatClampNeg), .null, .null] (sI κ (tB x.toNatClampNeg) 6 (gI κ (tB x.toNatClampNeg) 6 - (cutE σ x.toNatClampNeg (nbA σ x.toNatClampNeg) (nbB σ x.toNatClampNeg)))) (fun v κ' => v = some (.int (begE (erA σ x.toNatClampNeg (nbA σ x.toNatClampNeg) (nbB σ x.toNatClampNeg)) x.toNatClampNeg (nbA σ x.toNatClampNeg) (nbB σ x.toNatClampNeg))) ∧ κ' = (sI κ (tB x.toNatClampNeg) 6 (gI κ (tB x.toNatClampNeg) 6 - (cutE σ x.toNatClampNeg (nbA σ x.toNatClampNeg) (nbB σ x.toNatClampNeg))))) from by have h9 := c_X8_beginOf4 (w := w) (κ := (sI κ (tB x.toNatClampNeg) 6 (gI κ (tB x.toNatClampNeg) 6 - (cutE σ x.toNatClampNeg (nbA σ x.toNatClampNeg) (nbB σ x.toNatClampNeg))))) hTX; rw [hbeg] at h9; exact h9) (fun v κ1 hq1 ho1 hk1 => ?_)
    obtain ⟨rfl, ehq1⟩ := hq1
    rw [ehq1]
    refine runY_ok rkX8_erect (fun p => Nat.beq p 21 || Nat.beq p 85 || Nat.beq p 123) 200 _ _ _ _ _ _ ?_
    refine And.intro hTX ?_
    refine And.intro hTX ?_
    refine And.intro hG1.t4 ⟨some (tS 0), hG1.r43, ?_⟩
    refine pX8_erect_156 rfl rfl rfl hG1.t0 (show CY w yX1_fill mX1_fill [.ref (tS 0), .ref (tB x.toNatClampNeg)] (erH1 κ σ x.toNatClampNeg (nbA σ x.toNatClampNeg) (nbB σ x.toNatClampNeg)) (fun v κ' => v = none ∧ κ' = (erF0 κ σ x.toNatClampNeg lo hi vl (nbA σ x.toNatClampNeg) (nbB σ x.toNatClampNeg))) from c_X1_fill (j := x.toNatClampNeg) (v := vl) (lo := lo) (hi := hi) hG1 hTX (by rw [← e10, ← px1]; simp [erH1, gI_sI]) (by rw [← e11_, ← px2]; simp [erH1, gI_sI]) (by rw [← e12, ← px3]; simp [erH1, gI_sI]) lh1 lh2 lh3 (fun k hk => C.2.2.2.2.1.2.2 _ (by omega) (hu _ (by omega) (by omega)))) (fun v κ1 hq2 ho2 hk2 => ?_)
    obtain ⟨rfl, ehq2⟩ := hq2
    rw [ehq2]
    refine runY_ok rkX8_erect (fun p => Nat.beq p 21 || Nat.beq p 85 || Nat.beq p 123) 200 _ _ _ _ _ _ ?_
    refine And.intro hGF1.t4 ⟨some (tS 1), hGF1.r46, ?_⟩
    refine pX8_erect_166 rfl rfl rfl hTF1 (show CY w yX0_frames mX0_frames [.ref (tB x.toNatClampNeg)] (erF0 κ σ x.toNatClampNeg lo hi vl (nbA σ x.toNatClampNeg) (nbB σ x.toNatClampNeg)) (fun v κ' => v = some (.int (σ.2 11 x.toNatClampNeg - σ.2 10 x.toNatClampNeg + 1)) ∧ κ' = (erF0 κ σ x.toNatClampNeg lo hi vl (nbA σ x.toNatClampNeg) (nbB σ x.toNatClampNeg))) from by have h9 := c_X0_frames (w := w) hTF1; rw [ffr] at h9; exact h9) (fun v κ1 hq3 ho3 hk3 => ?_)
    obtain ⟨rfl, ehq3⟩ := hq3
    rw [ehq3]
    refine runY_ok rkX8_erect (fun p => Nat.beq p 21 || Nat.beq p 85 || Nat.beq p 123) 200 _ _ _ _ _ _ ?_
    refine pX8_erect_170 rfl rfl rfl hGF1.t1 (show CY w yX2_enter mX2_enter [.ref (tS 1), .int (100 * (σ.2 11 x.toNatClampNeg - σ.2 10 x.toNatClampNeg + 1))] (erF0 κ σ x.toNatClampNeg lo hi vl (nbA σ x.toNatClampNeg) (nbB σ x.toNatClampNeg)) (fun v κ' => v = none ∧ κ' = (erF κ σ nb nw x.toNatClampNeg lo hi vl (nbA σ x.toNatClampNeg) (nbB σ x.toNatClampNeg))) from c_X2_enter (κ := (erF0 κ σ x.toNatClampNeg lo hi vl (nbA σ x.toNatClampNeg) (nbB σ x.toNatClampNeg))) hGF1.t1 hGF1.t10 hGF1.n10 hGF1.r10 hnl hle1) (fun v κ1 hq4 ho4 hk4 => ?_)
    obtain ⟨rfl, ehq4⟩ := hq4
    rw [ehq4]
    refine runY_ok rkX8_erect (fun p => Nat.beq p 21 || Nat.beq p 85 || Nat.beq p 123) 200 _ _ _ _ _ _ ?_
    refine And.intro ⟨(show _ ≤ _ by decide), (show _ ≤ _ by decide)⟩ ?_
    refine ⟨hk, rfl, ?_⟩
    have ex : x = nI x.toNatClampNeg := in_n (in_of hx.1 (by have := Int32.lt_iff_toInt_lt.mp hx.2; rw [nI_toInt (by omega)] at this; exact this))
    rw [show sEr σ x.toNatClampNeg x (nbA σ x.toNatClampNeg) (nbB σ x.toNatClampNeg) z.toNatClampNeg = sEr σ x.toNatClampNeg (nI x.toNatClampNeg) (nbA σ x.toNatClampNeg) (nbB σ x.toNatClampNeg) z.toNatClampNeg from by rw [← ex]]
    unfold sEr erD
    rw [if_neg (fun w => w hc), if_neg (fun w => w ha)]
    exact ⟨nb, nw, np, _, R3⟩
  have K85 : kEr σ x z = 2 → Y w mX8_erect θ0 κ (fun v' κ' => kEr σ x z = 0 ∧ v' = some (.int (cutE σ x.toNatClampNeg (nbA σ x.toNatClampNeg) (nbB σ x.toNatClampNeg))) ∧ RE κ0 κ' (sEr σ x.toNatClampNeg x (nbA σ x.toNatClampNeg) (nbB σ x.toNatClampNeg) z.toNatClampNeg)) (fun E κ' => κ' = κ ∧ ((kEr σ x z = 1 ∧ E = "java/lang/IndexOutOfBoundsException") ∨ (kEr σ x z = 2 ∧ E = "java/lang/IllegalStateException"))) 0 0 85 [some (.ref (tS 4)), some (.int x), some (.int z), some (.ref (tB x.toNatClampNeg)), some (.null), some (.null), some (.int (0 + 0)), none] [] κ := by
    intro hk
    refine yX8_erect_85z (st := []) rfl rfl ?_
    exact ⟨rfl, Or.inr ⟨hk, rfl⟩⟩
  have K21 : kEr σ x z = 1 → ∀ x3, Y w mX8_erect θ0 κ (fun v' κ' => kEr σ x z = 0 ∧ v' = some (.int (cutE σ x.toNatClampNeg (nbA σ x.toNatClampNeg) (nbB σ x.toNatClampNeg))) ∧ RE κ0 κ' (sEr σ x.toNatClampNeg x (nbA σ x.toNatClampNeg) (nbB σ x.toNatClampNeg) z.toNatClampNeg)) (fun E κ' => κ' = κ ∧ ((kEr σ x z = 1 ∧ E = "java/lang/IndexOutOfBoundsException") ∨ (kEr σ x z = 2 ∧ E = "java/lang/IllegalStateException"))) 0 0 21 [some (.ref (tS 4)), some (.int x), some (.int z), x3, none, none, none, none] [] κ := by
    intro hk x3
    refine yX8_erect_21z (st := []) rfl rfl ?_
    exact ⟨rfl, Or.inl ⟨hk, rfl⟩⟩
  refine runY_ok rkX8_erect (fun p => Nat.beq p 21 || Nat.beq p 85 || Nat.beq p 123) 200 _ _ _ _ _ _ ?_
  refine pX8_erect_2 rfl rfl rfl hG.t4 (c_X8_blockOf I.n8 hG C.2.2.1.1) (fun v κ1 hq5 ho5 hk5 => ?_)
  by_cases hs5 : isB nb x
  · skip
    rw [blO_y hs5] at hq5
    obtain ⟨rfl, ehq5⟩ := hq5
    rw [ehq5]
    refine runY_ok rkX8_erect (fun p => Nat.beq p 21 || Nat.beq p 85 || Nat.beq p 123) 200 _ _ _ _ _ _ ?_
    refine And.intro hG.t4 ⟨some (tS 3), hG.r45, ?_⟩
    refine pX8_erect_15 rfl rfl rfl hG.t3 (show CY w yX7_has mX7_has [.ref (tS 3), .int z] κ (fun v κ' => v = some (.int (if isWdr z then 1 else 0)) ∧ κ' = κ) from by have h9 := c_X7_has (w := w) (y := z) hG.t3 hG.t9 hG.n9 hG.r30; simp only [has4_w] at h9; exact h9) (fun v κ1 hq6 ho6 hk6 => ?_)
    obtain ⟨rfl, ehq6⟩ := hq6
    rw [ehq6]
    refine runY_ok rkX8_erect (fun p => Nat.beq p 21 || Nat.beq p 85 || Nat.beq p 123) 200 _ _ _ _ _ _ ?_
    refine And.intro (fun c7 => ?_) (fun c7 => ?_)
    · try simp only [b01_eq, b01_ne, Classical.not_not] at c7
      refine pX8_erect_33 rfl rfl rfl hG.t4 (show CY w yX8_neighbourAhead mX8_neighbourAhead [.ref (tS 4), .ref (tB x.toNatClampNeg)] κ (fun v κ' => v = some (Value.null) ∧ κ' = κ) from by have h9 := c_X8_neighbourAhead (w := w) hG hR (C.2.2.1.2.1 _ (isB_cl (by omega) (by assumption : isB nb x))).1 (by rw [(C.2.2.1.2.1 _ (isB_cl (by omega) (by assumption : isB nb x))).2.2.2.2.1]; exact (I.rs _ (isB_cl (by omega) (by assumption : isB nb x))).2.2.2); rw [(C.2.2.1.2.1 _ (isB_cl (by omega) (by assumption : isB nb x))).2.2.1, (C.2.2.1.2.1 _ (isB_cl (by omega) (by assumption : isB nb x))).2.2.2.2.1, show bAt σ (σ.2 10 x.toNatClampNeg - 1) (σ.2 12 x.toNatClampNeg) = (nbA σ x.toNatClampNeg) from rfl, refO_y ha] at h9; exact h9) (fun v κ1 hq8 ho8 hk8 => ?_)
      obtain ⟨rfl, ehq8⟩ := hq8
      rw [ehq8]
      refine runY_ok rkX8_erect (fun p => Nat.beq p 21 || Nat.beq p 85 || Nat.beq p 123) 200 _ _ _ _ _ _ ?_
      refine pX8_erect_40 rfl rfl rfl hG.t4 (show CY w yX8_neighbourBehind mX8_neighbourBehind [.ref (tS 4), .ref (tB x.toNatClampNeg)] κ (fun v κ' => v = some (Value.null) ∧ κ' = κ) from by have h9 := c_X8_neighbourBehind (w := w) hG hR (C.2.2.1.2.1 _ (isB_cl (by omega) (by assumption : isB nb x))).1 (by rw [(C.2.2.1.2.1 _ (isB_cl (by omega) (by assumption : isB nb x))).2.2.2.2.1]; exact (I.rs _ (isB_cl (by omega) (by assumption : isB nb x))).2.2.2); rw [(C.2.2.1.2.1 _ (isB_cl (by omega) (by assumption : isB nb x))).2.2.2.1, (C.2.2.1.2.1 _ (isB_cl (by omega) (by assumption : isB nb x))).2.2.2.2.1, show bAt σ (σ.2 11 x.toNatClampNeg + 1) (σ.2 12 x.toNatClampNeg) = (nbB σ x.toNatClampNeg) from rfl, refO_y hc] at h9; exact h9) (fun v κ1 hq9 ho9 hk9 => ?_)
      obtain ⟨rfl, ehq9⟩ := hq9
      rw [ehq9]
      refine runY_ok rkX8_erect (fun p => Nat.beq p 21 || Nat.beq p 85 || Nat.beq p 123) 200 _ _ _ _ _ _ ?_
      refine pX8_erect_70 rfl rfl rfl hG.t4 (c_X8_reasonAgainst hG hR C.2.2.1 (isB_cl (by omega) (by assumption)) (I.rs _ (isB_cl (by omega) (by assumption : isB nb x))) I.stF I.n8 hN I.c2) (fun v κ1 hq10 ho10 hk10 => ?_)
      obtain ⟨rfl, ehq10⟩ := hq10
      rw [ehq10]
      refine runY_ok rkX8_erect (fun p => Nat.beq p 21 || Nat.beq p 85 || Nat.beq p 123) 200 _ _ _ _ _ _ ?_
      refine And.intro (fun c11 => ?_) (fun c11 => ?_)
      · try simp only [b01_eq, b01_ne, Classical.not_not] at c11
        exact K85 (by unfold kEr; rw [if_pos ⟨(hbl x).mpr (by assumption), by grind⟩, hcx]; grind)
      · try simp only [b01_eq, b01_ne, Classical.not_not] at c11
        refine pX8_erect_79 rfl rfl rfl hG.t4 (c_X8_hasSpaceForWelds (x := (0 + 0)) hG hN) (fun v κ1 hq12 ho12 hk12 => ?_)
        obtain ⟨rfl, ehq12⟩ := hq12
        rw [ehq12]
        refine runY_ok rkX8_erect (fun p => Nat.beq p 21 || Nat.beq p 85 || Nat.beq p 123) 200 _ _ _ _ _ _ ?_
        refine And.intro (fun c13 => ?_) (fun c13 => ?_)
        · try simp only [b01_eq, b01_ne, Classical.not_not] at c13
          exact K123 _ (by unfold cutE; rw [if_neg (fun w => w.1 ha)]) (by assumption) (by grind) (by unfold kEr; rw [if_pos ⟨(hbl x).mpr (by assumption), by grind⟩, hcx]; grind)
        · try simp only [b01_eq, b01_ne, Classical.not_not] at c13
          exact K85 (by unfold kEr; rw [if_pos ⟨(hbl x).mpr (by assumption), by grind⟩, hcx]; grind)
    · try simp only [b01_eq, b01_ne, Classical.not_not] at c7
      exact K21 (by unfold kEr; rw [if_neg]; grind) _
  · skip
    rw [blO_n hs5] at hq5
    obtain ⟨rfl, ehq5⟩ := hq5
    rw [ehq5]
    refine runY_ok rkX8_erect (fun p => Nat.beq p 21 || Nat.beq p 85 || Nat.beq p 123) 200 _ _ _ _ _ _ ?_
    exact K21 (by unfold kEr; rw [if_neg]; grind) _
set_option maxRecDepth 20000 in
theorem e01_erect {w : W0} {κ : AH} {x z : Int32} {κ0 : AH} {σ : MS} {nb nw np : Nat} {wb : Nat → Nat} (h : RI κ0 κ σ nb nw np wb) (ha : (nbA σ x.toNatClampNeg) = -1) (hc : ¬ (nbB σ x.toNatClampNeg) = -1) : CYV w yX8_erect mX8_erect [.ref (tS 4), .int x, .int z] κ (fun v' κ' => kEr σ x z = 0 ∧ v' = some (.int (cutE σ x.toNatClampNeg (nbA σ x.toNatClampNeg) (nbB σ x.toNatClampNeg))) ∧ RE κ0 κ' (sEr σ x.toNatClampNeg x (nbA σ x.toNatClampNeg) (nbB σ x.toNatClampNeg) z.toNatClampNeg)) (fun E κ' => κ' = κ ∧ ((kEr σ x z = 1 ∧ E = "java/lang/IndexOutOfBoundsException") ∨ (kEr σ x z = 2 ∧ E = "java/lang/IllegalStateException"))) := by
  have I := h.1
  have C := h.2.1
  have hG := C.1
  have hN := C.2.1
  have hR := C.2.2.2.2.1
  have hn := I.n8
  have hnw0 := I.n18
  have hbl := fun x => isB_blk (x := x) I.n8 I.e8
  have hcx : cnx (nbA σ x.toNatClampNeg) + cnx (nbB σ x.toNatClampNeg) = (0 + 1) := by unfold cnx; rw [if_pos ha, if_neg hc]
  have hge := rsn_ge (σ := σ) (i := x.toNatClampNeg)
  refine CYV_of mcX8_erect (Nat.le_of_ble_eq_true rfl) (cat1 rfl) (fun θ0 => ?_)
  have K123 : ∀ r : Int32, r = (cutE σ x.toNatClampNeg (nbA σ x.toNatClampNeg) (nbB σ x.toNatClampNeg)) → isB nb x → isWdr z → kEr σ x z = 0 → Y w mX8_erect θ0 κ (fun v' κ' => kEr σ x z = 0 ∧ v' = some (.int (cutE σ x.toNatClampNeg (nbA σ x.toNatClampNeg) (nbB σ x.toNatClampNeg))) ∧ RE κ0 κ' (sEr σ x.toNatClampNeg x (nbA σ x.toNatClampNeg) (nbB σ x.toNatClampNeg) z.toNatClampNeg)) (fun E κ' => κ' = κ ∧ ((kEr σ x z = 1 ∧ E = "java/lang/IndexOutOfBoundsException") ∨ (kEr σ x z = 2 ∧ E = "java/lang/IllegalStateException"))) 0 0 123 [some (.ref (tS 4)), some (.int x), some (.int z), some (.ref (tB x.toNatClampNeg)), some (.null), some (.ref (tB (nbB σ x.toNatClampNeg).toNatClampNeg)), some (.int (0 + 1)), some (.int r)] [] κ := by
    intro r hr
    subst hr
    intro hx hz hk
    obtain ⟨hr0, hw⟩ := kEr0 hk
    obtain ⟨h0, h6, hfl⟩ := rsn_0 hr0
    have hxl := isB_cl (nb := nb) (by omega) hx
    obtain ⟨lo, hi, vl, hp⟩ := pos_of (I.rs _ hxl)
    have hu := fl_un hp hfl
    have nA := nb_at I hp hu
    have hz4 := in_c (c := 3) (n := 4) (by decide) hz
    have hcx2 : cnx (nbA σ x.toNatClampNeg) + cnx (nbB σ x.toNatClampNeg) = nI 1 := hcx
    obtain ⟨pT, px0, px1, px2, px3, px4, px5, px6, px7, px8, px9⟩ := (C.2.2.1.2.1 _ hxl)
    have hTX : gT κ (tB x.toNatClampNeg) = 1 := pT
    obtain ⟨-, jc0, hjc0, ejc0, sjc0, -⟩ := nA.2 hc
    have ecc0 : (nbB σ x.toNatClampNeg).toNatClampNeg = jc0 := by rw [ejc0, nI_clamp (by have := I.n8; omega)]
    have hneC : ¬ (nbB σ x.toNatClampNeg).toNatClampNeg = x.toNatClampNeg := by rw [ecc0]; intro w; rw [w, h0] at sjc0; exact absurd sjc0 (by decide)
    have hTC : gT κ (tB (nbB σ x.toNatClampNeg).toNatClampNeg) = 1 := by rw [ecc0]; exact (C.2.2.1.2.1 _ hjc0).1
    have vC7 : gI κ (tB (nbB σ x.toNatClampNeg).toNatClampNeg) 7 = σ.2 16 (nbB σ x.toNatClampNeg).toNatClampNeg := by rw [ecc0]; exact (C.2.2.1.2.1 _ hjc0).2.2.2.2.2.2.2.2.1 sjc0
    have R3 := s_er (a := (nbA σ x.toNatClampNeg)) (c := (nbB σ x.toNatClampNeg)) h hxl h0 hp hu
    have hG1 : SG (erH1 κ σ x.toNatClampNeg (nbA σ x.toNatClampNeg) (nbB σ x.toNatClampNeg)) := SG_d e1_D (fun i hi z => tS_B.mp z) hG
    have hGF1 : SG (erF0 κ σ x.toNatClampNeg lo hi vl (nbA σ x.toNatClampNeg) (nbB σ x.toNatClampNeg)) := er0_SG hG
    have hbeg : (gI (sI κ (tB x.toNatClampNeg) 6 (gI κ (tB x.toNatClampNeg) 6 - (cutE σ x.toNatClampNeg (nbA σ x.toNatClampNeg) (nbB σ x.toNatClampNeg)))) (tB (nbB σ x.toNatClampNeg).toNatClampNeg) 7 - 4 - gI (sI κ (tB x.toNatClampNeg) 6 (gI κ (tB x.toNatClampNeg) 6 - (cutE σ x.toNatClampNeg (nbA σ x.toNatClampNeg) (nbB σ x.toNatClampNeg)))) (tB x.toNatClampNeg) 6) = (begE (erA σ x.toNatClampNeg (nbA σ x.toNatClampNeg) (nbB σ x.toNatClampNeg)) x.toNatClampNeg (nbA σ x.toNatClampNeg) (nbB σ x.toNatClampNeg)) := by
        unfold begE
        rw [if_neg (fun w => w ha), if_pos hc, erA_row (by decide), erA_14, ← vC7, ← px6]
        simp [gI_sI, tB_inj, hneC]
    obtain ⟨e10, e11_, e12, lh1, lh2, lh3⟩ := id hp
    have ffr : gI (erF0 κ σ x.toNatClampNeg lo hi vl (nbA σ x.toNatClampNeg) (nbB σ x.toNatClampNeg)) (tB x.toNatClampNeg) 2 - gI (erF0 κ σ x.toNatClampNeg lo hi vl (nbA σ x.toNatClampNeg) (nbB σ x.toNatClampNeg)) (tB x.toNatClampNeg) 1 + 1 = σ.2 11 x.toNatClampNeg - σ.2 10 x.toNatClampNeg + 1 := by rw [er0_I (by decide) (by decide) (by decide), er0_I (by decide) (by decide) (by decide), px1, px2]
    have hTF1 : gT (erF0 κ σ x.toNatClampNeg lo hi vl (nbA σ x.toNatClampNeg) (nbB σ x.toNatClampNeg)) (tB x.toNatClampNeg) = 1 := er0_T.trans pT
    have hle1 : gI (erF0 κ σ x.toNatClampNeg lo hi vl (nbA σ x.toNatClampNeg) (nbB σ x.toNatClampNeg)) (tS 1) 1 = nI (nEn σ nb nw) := ((er0_D (tS 1) (by simp [tB_inj, tB_W, tB_R, tB_P, tB_C, tB_S, tW_inj, tW_B, tW_R, tW_P, tW_C, tW_S, tR_inj, tR_B, tR_W, tR_P, tR_C, tR_S, tP_inj, tP_B, tP_W, tP_R, tP_C, tP_S, tC_inj, tC_B, tC_W, tC_R, tC_P, tC_S, tS_inj, tS_B, tS_W, tS_R, tS_P, tS_C, tM_inj, tM_B, tM_W, tM_R, tM_P, tM_C, tM_S, tB_M, tW_M, tR_M, tP_M, tC_M, tS_M])).2.2.1 1).trans C.2.2.2.2.2.2.2.1
    have hnl : nEn σ nb nw < 337 := by have := nEn_le R3.1; rw [nEn_er hxl h0] at this; omega
    obtain ⟨hhi, jc, hjc, ejc, sjc, fjc⟩ := nA.2 hc
    have ecc : (nbB σ x.toNatClampNeg).toNatClampNeg = jc := by rw [ejc, nI_clamp (by have := I.n8; omega)]
    have hnw2 : nw < 100 := by have := nw_room (k := 1) I (by decide) hcx2 hw; omega
    have f4T : gT (erF κ σ nb nw x.toNatClampNeg lo hi vl (nbA σ x.toNatClampNeg) (nbB σ x.toNatClampNeg)) (tB (nbB σ x.toNatClampNeg).toNatClampNeg) = 1 := by rw [ecc]; exact (R3.2.1.2.2.1.2.1 _ hjc).1
    have e11 : σ.2 10 jc = σ.2 11 x.toNatClampNeg + 1 := by rw [fjc, hp.2.1, nI_1]
    have f4x : gI (erF κ σ nb nw x.toNatClampNeg lo hi vl (nbA σ x.toNatClampNeg) (nbB σ x.toNatClampNeg)) (tB (nbB σ x.toNatClampNeg).toNatClampNeg) 1 = σ.2 11 x.toNatClampNeg + 1 := by rw [ecc, ← e11]; exact ((R3.2.1.2.2.1.2.1 _ hjc).2.2.1).trans (by rw [erC_row (by decide) (by decide) (by decide) (by decide)])
    have R5 := s_mk (j := x.toNatClampNeg) (f := σ.2 11 x.toNatClampNeg + 1) (v := σ.2 12 x.toNatClampNeg) (y := z) R3 hnw2 hxl hz4 (by rw [erC_row (by decide) (by decide) (by decide) (by decide)]) (by rw [hp.2.1, nI_1]; exact ⟨nI_le (a := 1) (by omega) (by omega), nI_le (b := 11) (by omega) (by decide)⟩) ((I.rs _ (isB_cl (by omega) (by assumption : isB nb x))).2.2.2) (by rw [erC_9, if_pos rfl])
    refine runY_go rkX8_erect (fun p => Nat.beq p 21 || Nat.beq p 85 || Nat.beq p 123) 200 rfl ?_
    refine And.intro (by first | exact hTX | exact (C.2.2.1.2.1 _ (isB_cl (by omega) (by assumption : isB nb x))).1) ?_
    refine And.intro (by first | exact hTX | exact (C.2.2.1.2.1 _ (isB_cl (by omega) (by assumption : isB nb x))).1) ?_
    refine pX8_erect_140 rfl rfl rfl (show CY w yX8_beginOf mX8_beginOf [.ref (tB x.toNatClampNeg), .null, .ref (tB (nbB σ x.toNatClampNeg).toNatClampNeg)] (sI κ (tB x.toNatClampNeg) 6 (gI κ (tB x.toNatClampNeg) 6 - (cutE σ x.toNatClampNeg (nbA σ x.toNatClampNeg) (nbB σ x.toNatClampNeg)))) (fun v κ' => v = some (.int (begE (erA σ x.toNatClampNeg (nbA σ x.toNatClampNeg) (nbB σ x.toNatClampNeg)) x.toNatClampNeg (nbA σ x.toNatClampNeg) (nbB σ x.toNatClampNeg))) ∧ κ' = (sI κ (tB x.toNatClampNeg) 6 (gI κ (tB x.toNatClampNeg) 6 - (cutE σ x.toNatClampNeg (nbA σ x.toNatClampNeg) (nbB σ x.toNatClampNeg))))) from by have h9 := c_X8_beginOf3 (w := w) (κ := (sI κ (tB x.toNatClampNeg) 6 (gI κ (tB x.toNatClampNeg) 6 - (cutE σ x.toNatClampNeg (nbA σ x.toNatClampNeg) (nbB σ x.toNatClampNeg))))) hTX hTC; rw [hbeg] at h9; exact h9) (fun v κ1 hq1 ho1 hk1 => ?_)
    obtain ⟨rfl, ehq1⟩ := hq1
    rw [ehq1]
    refine runY_ok rkX8_erect (fun p => Nat.beq p 21 || Nat.beq p 85 || Nat.beq p 123) 200 _ _ _ _ _ _ ?_
    refine And.intro hTX ?_
    refine And.intro hTX ?_
    refine And.intro hG1.t4 ⟨some (tS 0), hG1.r43, ?_⟩
    refine pX8_erect_156 rfl rfl rfl hG1.t0 (show CY w yX1_fill mX1_fill [.ref (tS 0), .ref (tB x.toNatClampNeg)] (erH1 κ σ x.toNatClampNeg (nbA σ x.toNatClampNeg) (nbB σ x.toNatClampNeg)) (fun v κ' => v = none ∧ κ' = (erF0 κ σ x.toNatClampNeg lo hi vl (nbA σ x.toNatClampNeg) (nbB σ x.toNatClampNeg))) from c_X1_fill (j := x.toNatClampNeg) (v := vl) (lo := lo) (hi := hi) hG1 hTX (by rw [← e10, ← px1]; simp [erH1, gI_sI]) (by rw [← e11_, ← px2]; simp [erH1, gI_sI]) (by rw [← e12, ← px3]; simp [erH1, gI_sI]) lh1 lh2 lh3 (fun k hk => C.2.2.2.2.1.2.2 _ (by omega) (hu _ (by omega) (by omega)))) (fun v κ1 hq2 ho2 hk2 => ?_)
    obtain ⟨rfl, ehq2⟩ := hq2
    rw [ehq2]
    refine runY_ok rkX8_erect (fun p => Nat.beq p 21 || Nat.beq p 85 || Nat.beq p 123) 200 _ _ _ _ _ _ ?_
    refine And.intro hGF1.t4 ⟨some (tS 1), hGF1.r46, ?_⟩
    refine pX8_erect_166 rfl rfl rfl hTF1 (show CY w yX0_frames mX0_frames [.ref (tB x.toNatClampNeg)] (erF0 κ σ x.toNatClampNeg lo hi vl (nbA σ x.toNatClampNeg) (nbB σ x.toNatClampNeg)) (fun v κ' => v = some (.int (σ.2 11 x.toNatClampNeg - σ.2 10 x.toNatClampNeg + 1)) ∧ κ' = (erF0 κ σ x.toNatClampNeg lo hi vl (nbA σ x.toNatClampNeg) (nbB σ x.toNatClampNeg))) from by have h9 := c_X0_frames (w := w) hTF1; rw [ffr] at h9; exact h9) (fun v κ1 hq3 ho3 hk3 => ?_)
    obtain ⟨rfl, ehq3⟩ := hq3
    rw [ehq3]
    refine runY_ok rkX8_erect (fun p => Nat.beq p 21 || Nat.beq p 85 || Nat.beq p 123) 200 _ _ _ _ _ _ ?_
    refine pX8_erect_170 rfl rfl rfl hGF1.t1 (show CY w yX2_enter mX2_enter [.ref (tS 1), .int (100 * (σ.2 11 x.toNatClampNeg - σ.2 10 x.toNatClampNeg + 1))] (erF0 κ σ x.toNatClampNeg lo hi vl (nbA σ x.toNatClampNeg) (nbB σ x.toNatClampNeg)) (fun v κ' => v = none ∧ κ' = (erF κ σ nb nw x.toNatClampNeg lo hi vl (nbA σ x.toNatClampNeg) (nbB σ x.toNatClampNeg))) from c_X2_enter (κ := (erF0 κ σ x.toNatClampNeg lo hi vl (nbA σ x.toNatClampNeg) (nbB σ x.toNatClampNeg))) hGF1.t1 hGF1.t10 hGF1.n10 hGF1.r10 hnl hle1) (fun v κ1 hq4 ho4 hk4 => ?_)
    obtain ⟨rfl, ehq4⟩ := hq4
    rw [ehq4]
    refine runY_ok rkX8_erect (fun p => Nat.beq p 21 || Nat.beq p 85 || Nat.beq p 123) 200 _ _ _ _ _ _ ?_
    refine And.intro f4T ?_
    refine pX8_erect_201 rfl rfl rfl R3.2.1.1.t4 (show CY w yX8_makeWeld mX8_makeWeld [.ref (tS 4), .ref (tB x.toNatClampNeg), .int (gI (erF κ σ nb nw x.toNatClampNeg lo hi vl (nbA σ x.toNatClampNeg) (nbB σ x.toNatClampNeg)) (tB (nbB σ x.toNatClampNeg).toNatClampNeg) 1), .int z] (erF κ σ nb nw x.toNatClampNeg lo hi vl (nbA σ x.toNatClampNeg) (nbB σ x.toNatClampNeg)) (fun v κ' => v = none ∧ κ' = (mwH (erF κ σ nb nw x.toNatClampNeg lo hi vl (nbA σ x.toNatClampNeg) (nbB σ x.toNatClampNeg)) (erC σ x.toNatClampNeg (nI x.toNatClampNeg) (nbA σ x.toNatClampNeg) (nbB σ x.toNatClampNeg)) nw x.toNatClampNeg (σ.2 11 x.toNatClampNeg + 1) z (nEn (erC σ x.toNatClampNeg (nI x.toNatClampNeg) (nbA σ x.toNatClampNeg) (nbB σ x.toNatClampNeg)) nb nw))) from by rw [f4x]; exact e_mk R3 hnw2 hxl hz4) (fun v κ1 hq5 ho5 hk5 => ?_)
    obtain ⟨rfl, ehq5⟩ := hq5
    rw [ehq5]
    refine runY_ok rkX8_erect (fun p => Nat.beq p 21 || Nat.beq p 85 || Nat.beq p 123) 200 _ _ _ _ _ _ ?_
    refine And.intro ⟨(show _ ≤ _ by decide), (show _ ≤ _ by decide)⟩ ?_
    refine ⟨hk, rfl, ?_⟩
    have ex : x = nI x.toNatClampNeg := in_n (in_of hx.1 (by have := Int32.lt_iff_toInt_lt.mp hx.2; rw [nI_toInt (by omega)] at this; exact this))
    rw [show sEr σ x.toNatClampNeg x (nbA σ x.toNatClampNeg) (nbB σ x.toNatClampNeg) z.toNatClampNeg = sEr σ x.toNatClampNeg (nI x.toNatClampNeg) (nbA σ x.toNatClampNeg) (nbB σ x.toNatClampNeg) z.toNatClampNeg from by rw [← ex]]
    unfold sEr erD
    rw [if_pos hc, if_neg (fun w => w ha)]
    exact ⟨nb, (nw + 1), np, _, R5⟩
  have K85 : kEr σ x z = 2 → Y w mX8_erect θ0 κ (fun v' κ' => kEr σ x z = 0 ∧ v' = some (.int (cutE σ x.toNatClampNeg (nbA σ x.toNatClampNeg) (nbB σ x.toNatClampNeg))) ∧ RE κ0 κ' (sEr σ x.toNatClampNeg x (nbA σ x.toNatClampNeg) (nbB σ x.toNatClampNeg) z.toNatClampNeg)) (fun E κ' => κ' = κ ∧ ((kEr σ x z = 1 ∧ E = "java/lang/IndexOutOfBoundsException") ∨ (kEr σ x z = 2 ∧ E = "java/lang/IllegalStateException"))) 0 0 85 [some (.ref (tS 4)), some (.int x), some (.int z), some (.ref (tB x.toNatClampNeg)), some (.null), some (.ref (tB (nbB σ x.toNatClampNeg).toNatClampNeg)), some (.int (0 + 1)), none] [] κ := by
    intro hk
    refine yX8_erect_85z (st := []) rfl rfl ?_
    exact ⟨rfl, Or.inr ⟨hk, rfl⟩⟩
  have K21 : kEr σ x z = 1 → ∀ x3, Y w mX8_erect θ0 κ (fun v' κ' => kEr σ x z = 0 ∧ v' = some (.int (cutE σ x.toNatClampNeg (nbA σ x.toNatClampNeg) (nbB σ x.toNatClampNeg))) ∧ RE κ0 κ' (sEr σ x.toNatClampNeg x (nbA σ x.toNatClampNeg) (nbB σ x.toNatClampNeg) z.toNatClampNeg)) (fun E κ' => κ' = κ ∧ ((kEr σ x z = 1 ∧ E = "java/lang/IndexOutOfBoundsException") ∨ (kEr σ x z = 2 ∧ E = "java/lang/IllegalStateException"))) 0 0 21 [some (.ref (tS 4)), some (.int x), some (.int z), x3, none, none, none, none] [] κ := by
    intro hk x3
    refine yX8_erect_21z (st := []) rfl rfl ?_
    exact ⟨rfl, Or.inl ⟨hk, rfl⟩⟩
  refine runY_ok rkX8_erect (fun p => Nat.beq p 21 || Nat.beq p 85 || Nat.beq p 123) 200 _ _ _ _ _ _ ?_
  refine pX8_erect_2 rfl rfl rfl hG.t4 (c_X8_blockOf I.n8 hG C.2.2.1.1) (fun v κ1 hq6 ho6 hk6 => ?_)
  by_cases hs6 : isB nb x
  · skip
    rw [blO_y hs6] at hq6
    obtain ⟨rfl, ehq6⟩ := hq6
    rw [ehq6]
    refine runY_ok rkX8_erect (fun p => Nat.beq p 21 || Nat.beq p 85 || Nat.beq p 123) 200 _ _ _ _ _ _ ?_
    refine And.intro hG.t4 ⟨some (tS 3), hG.r45, ?_⟩
    refine pX8_erect_15 rfl rfl rfl hG.t3 (show CY w yX7_has mX7_has [.ref (tS 3), .int z] κ (fun v κ' => v = some (.int (if isWdr z then 1 else 0)) ∧ κ' = κ) from by have h9 := c_X7_has (w := w) (y := z) hG.t3 hG.t9 hG.n9 hG.r30; simp only [has4_w] at h9; exact h9) (fun v κ1 hq7 ho7 hk7 => ?_)
    obtain ⟨rfl, ehq7⟩ := hq7
    rw [ehq7]
    refine runY_ok rkX8_erect (fun p => Nat.beq p 21 || Nat.beq p 85 || Nat.beq p 123) 200 _ _ _ _ _ _ ?_
    refine And.intro (fun c8 => ?_) (fun c8 => ?_)
    · try simp only [b01_eq, b01_ne, Classical.not_not] at c8
      refine pX8_erect_33 rfl rfl rfl hG.t4 (show CY w yX8_neighbourAhead mX8_neighbourAhead [.ref (tS 4), .ref (tB x.toNatClampNeg)] κ (fun v κ' => v = some (Value.null) ∧ κ' = κ) from by have h9 := c_X8_neighbourAhead (w := w) hG hR (C.2.2.1.2.1 _ (isB_cl (by omega) (by assumption : isB nb x))).1 (by rw [(C.2.2.1.2.1 _ (isB_cl (by omega) (by assumption : isB nb x))).2.2.2.2.1]; exact (I.rs _ (isB_cl (by omega) (by assumption : isB nb x))).2.2.2); rw [(C.2.2.1.2.1 _ (isB_cl (by omega) (by assumption : isB nb x))).2.2.1, (C.2.2.1.2.1 _ (isB_cl (by omega) (by assumption : isB nb x))).2.2.2.2.1, show bAt σ (σ.2 10 x.toNatClampNeg - 1) (σ.2 12 x.toNatClampNeg) = (nbA σ x.toNatClampNeg) from rfl, refO_y ha] at h9; exact h9) (fun v κ1 hq9 ho9 hk9 => ?_)
      obtain ⟨rfl, ehq9⟩ := hq9
      rw [ehq9]
      refine runY_ok rkX8_erect (fun p => Nat.beq p 21 || Nat.beq p 85 || Nat.beq p 123) 200 _ _ _ _ _ _ ?_
      refine pX8_erect_40 rfl rfl rfl hG.t4 (show CY w yX8_neighbourBehind mX8_neighbourBehind [.ref (tS 4), .ref (tB x.toNatClampNeg)] κ (fun v κ' => v = some (Value.ref (tB (nbB σ x.toNatClampNeg).toNatClampNeg)) ∧ κ' = κ) from by have h9 := c_X8_neighbourBehind (w := w) hG hR (C.2.2.1.2.1 _ (isB_cl (by omega) (by assumption : isB nb x))).1 (by rw [(C.2.2.1.2.1 _ (isB_cl (by omega) (by assumption : isB nb x))).2.2.2.2.1]; exact (I.rs _ (isB_cl (by omega) (by assumption : isB nb x))).2.2.2); rw [(C.2.2.1.2.1 _ (isB_cl (by omega) (by assumption : isB nb x))).2.2.2.1, (C.2.2.1.2.1 _ (isB_cl (by omega) (by assumption : isB nb x))).2.2.2.2.1, show bAt σ (σ.2 11 x.toNatClampNeg + 1) (σ.2 12 x.toNatClampNeg) = (nbB σ x.toNatClampNeg) from rfl, refO_n hc] at h9; exact h9) (fun v κ1 hq10 ho10 hk10 => ?_)
      obtain ⟨rfl, ehq10⟩ := hq10
      rw [ehq10]
      refine runY_ok rkX8_erect (fun p => Nat.beq p 21 || Nat.beq p 85 || Nat.beq p 123) 200 _ _ _ _ _ _ ?_
      refine pX8_erect_70 rfl rfl rfl hG.t4 (c_X8_reasonAgainst hG hR C.2.2.1 (isB_cl (by omega) (by assumption)) (I.rs _ (isB_cl (by omega) (by assumption : isB nb x))) I.stF I.n8 hN I.c2) (fun v κ1 hq11 ho11 hk11 => ?_)
      obtain ⟨rfl, ehq11⟩ := hq11
      rw [ehq11]
      refine runY_ok rkX8_erect (fun p => Nat.beq p 21 || Nat.beq p 85 || Nat.beq p 123) 200 _ _ _ _ _ _ ?_
      refine And.intro (fun c12 => ?_) (fun c12 => ?_)
      · try simp only [b01_eq, b01_ne, Classical.not_not] at c12
        exact K85 (by unfold kEr; rw [if_pos ⟨(hbl x).mpr (by assumption), by grind⟩, hcx]; grind)
      · try simp only [b01_eq, b01_ne, Classical.not_not] at c12
        refine pX8_erect_79 rfl rfl rfl hG.t4 (c_X8_hasSpaceForWelds (x := (0 + 1)) hG hN) (fun v κ1 hq13 ho13 hk13 => ?_)
        obtain ⟨rfl, ehq13⟩ := hq13
        rw [ehq13]
        refine runY_ok rkX8_erect (fun p => Nat.beq p 21 || Nat.beq p 85 || Nat.beq p 123) 200 _ _ _ _ _ _ ?_
        refine And.intro (fun c14 => ?_) (fun c14 => ?_)
        · try simp only [b01_eq, b01_ne, Classical.not_not] at c14
          exact K123 _ (by unfold cutE; rw [if_neg (fun w => w.1 ha)]) (by assumption) (by grind) (by unfold kEr; rw [if_pos ⟨(hbl x).mpr (by assumption), by grind⟩, hcx]; grind)
        · try simp only [b01_eq, b01_ne, Classical.not_not] at c14
          exact K85 (by unfold kEr; rw [if_pos ⟨(hbl x).mpr (by assumption), by grind⟩, hcx]; grind)
    · try simp only [b01_eq, b01_ne, Classical.not_not] at c8
      exact K21 (by unfold kEr; rw [if_neg]; grind) _
  · skip
    rw [blO_n hs6] at hq6
    obtain ⟨rfl, ehq6⟩ := hq6
    rw [ehq6]
    refine runY_ok rkX8_erect (fun p => Nat.beq p 21 || Nat.beq p 85 || Nat.beq p 123) 200 _ _ _ _ _ _ ?_
    exact K21 (by unfold kEr; rw [if_neg]; grind) _
set_option maxRecDepth 20000 in
theorem e10_erect {w : W0} {κ : AH} {x z : Int32} {κ0 : AH} {σ : MS} {nb nw np : Nat} {wb : Nat → Nat} (h : RI κ0 κ σ nb nw np wb) (ha : ¬ (nbA σ x.toNatClampNeg) = -1) (hc : (nbB σ x.toNatClampNeg) = -1) : CYV w yX8_erect mX8_erect [.ref (tS 4), .int x, .int z] κ (fun v' κ' => kEr σ x z = 0 ∧ v' = some (.int (cutE σ x.toNatClampNeg (nbA σ x.toNatClampNeg) (nbB σ x.toNatClampNeg))) ∧ RE κ0 κ' (sEr σ x.toNatClampNeg x (nbA σ x.toNatClampNeg) (nbB σ x.toNatClampNeg) z.toNatClampNeg)) (fun E κ' => κ' = κ ∧ ((kEr σ x z = 1 ∧ E = "java/lang/IndexOutOfBoundsException") ∨ (kEr σ x z = 2 ∧ E = "java/lang/IllegalStateException"))) := by
  have I := h.1
  have C := h.2.1
  have hG := C.1
  have hN := C.2.1
  have hR := C.2.2.2.2.1
  have hn := I.n8
  have hnw0 := I.n18
  have hbl := fun x => isB_blk (x := x) I.n8 I.e8
  have hcx : cnx (nbA σ x.toNatClampNeg) + cnx (nbB σ x.toNatClampNeg) = (1 + 0) := by unfold cnx; rw [if_neg ha, if_pos hc]
  have hge := rsn_ge (σ := σ) (i := x.toNatClampNeg)
  refine CYV_of mcX8_erect (Nat.le_of_ble_eq_true rfl) (cat1 rfl) (fun θ0 => ?_)
  have K123 : ∀ r : Int32, r = (cutE σ x.toNatClampNeg (nbA σ x.toNatClampNeg) (nbB σ x.toNatClampNeg)) → isB nb x → isWdr z → kEr σ x z = 0 → Y w mX8_erect θ0 κ (fun v' κ' => kEr σ x z = 0 ∧ v' = some (.int (cutE σ x.toNatClampNeg (nbA σ x.toNatClampNeg) (nbB σ x.toNatClampNeg))) ∧ RE κ0 κ' (sEr σ x.toNatClampNeg x (nbA σ x.toNatClampNeg) (nbB σ x.toNatClampNeg) z.toNatClampNeg)) (fun E κ' => κ' = κ ∧ ((kEr σ x z = 1 ∧ E = "java/lang/IndexOutOfBoundsException") ∨ (kEr σ x z = 2 ∧ E = "java/lang/IllegalStateException"))) 0 0 123 [some (.ref (tS 4)), some (.int x), some (.int z), some (.ref (tB x.toNatClampNeg)), some (.ref (tB (nbA σ x.toNatClampNeg).toNatClampNeg)), some (.null), some (.int (1 + 0)), some (.int r)] [] κ := by
    intro r hr
    subst hr
    intro hx hz hk
    obtain ⟨hr0, hw⟩ := kEr0 hk
    obtain ⟨h0, h6, hfl⟩ := rsn_0 hr0
    have hxl := isB_cl (nb := nb) (by omega) hx
    obtain ⟨lo, hi, vl, hp⟩ := pos_of (I.rs _ hxl)
    have hu := fl_un hp hfl
    have nA := nb_at I hp hu
    have hz4 := in_c (c := 3) (n := 4) (by decide) hz
    have hcx2 : cnx (nbA σ x.toNatClampNeg) + cnx (nbB σ x.toNatClampNeg) = nI 1 := hcx
    obtain ⟨pT, px0, px1, px2, px3, px4, px5, px6, px7, px8, px9⟩ := (C.2.2.1.2.1 _ hxl)
    have hTX : gT κ (tB x.toNatClampNeg) = 1 := pT
    obtain ⟨ja, hja, eja, sja⟩ := (nA.1 ha).2
    have eca : (nbA σ x.toNatClampNeg).toNatClampNeg = ja := by rw [eja, nI_clamp (by have := I.n8; omega)]
    have hneA : ¬ (nbA σ x.toNatClampNeg).toNatClampNeg = x.toNatClampNeg := by rw [eca]; intro w; rw [w, h0] at sja; exact absurd sja (by decide)
    have hTA : gT κ (tB (nbA σ x.toNatClampNeg).toNatClampNeg) = 1 := by rw [eca]; exact (C.2.2.1.2.1 _ hja).1
    have vA7 : gI κ (tB (nbA σ x.toNatClampNeg).toNatClampNeg) 7 = σ.2 16 (nbA σ x.toNatClampNeg).toNatClampNeg := by rw [eca]; exact (C.2.2.1.2.1 _ hja).2.2.2.2.2.2.2.2.1 sja
    have vA6 : gI κ (tB (nbA σ x.toNatClampNeg).toNatClampNeg) 6 = σ.2 14 (nbA σ x.toNatClampNeg).toNatClampNeg := by rw [eca]; exact (C.2.2.1.2.1 _ hja).2.2.2.2.2.2.2.1
    have R3 := s_er (a := (nbA σ x.toNatClampNeg)) (c := (nbB σ x.toNatClampNeg)) h hxl h0 hp hu
    have hG1 : SG (erH1 κ σ x.toNatClampNeg (nbA σ x.toNatClampNeg) (nbB σ x.toNatClampNeg)) := SG_d e1_D (fun i hi z => tS_B.mp z) hG
    have hGF1 : SG (erF0 κ σ x.toNatClampNeg lo hi vl (nbA σ x.toNatClampNeg) (nbB σ x.toNatClampNeg)) := er0_SG hG
    have hbeg : (gI (sI κ (tB x.toNatClampNeg) 6 (gI κ (tB x.toNatClampNeg) 6 - (cutE σ x.toNatClampNeg (nbA σ x.toNatClampNeg) (nbB σ x.toNatClampNeg)))) (tB (nbA σ x.toNatClampNeg).toNatClampNeg) 7 + gI (sI κ (tB x.toNatClampNeg) 6 (gI κ (tB x.toNatClampNeg) 6 - (cutE σ x.toNatClampNeg (nbA σ x.toNatClampNeg) (nbB σ x.toNatClampNeg)))) (tB (nbA σ x.toNatClampNeg).toNatClampNeg) 6 + 4) = (begE (erA σ x.toNatClampNeg (nbA σ x.toNatClampNeg) (nbB σ x.toNatClampNeg)) x.toNatClampNeg (nbA σ x.toNatClampNeg) (nbB σ x.toNatClampNeg)) := by
        unfold begE eOf
        rw [if_pos ha, erA_row (by decide), erA_o hneA, ← vA7, ← vA6]
        simp [gI_sI, tB_inj, hneA]
    obtain ⟨e10, e11_, e12, lh1, lh2, lh3⟩ := id hp
    have ffr : gI (erF0 κ σ x.toNatClampNeg lo hi vl (nbA σ x.toNatClampNeg) (nbB σ x.toNatClampNeg)) (tB x.toNatClampNeg) 2 - gI (erF0 κ σ x.toNatClampNeg lo hi vl (nbA σ x.toNatClampNeg) (nbB σ x.toNatClampNeg)) (tB x.toNatClampNeg) 1 + 1 = σ.2 11 x.toNatClampNeg - σ.2 10 x.toNatClampNeg + 1 := by rw [er0_I (by decide) (by decide) (by decide), er0_I (by decide) (by decide) (by decide), px1, px2]
    have hTF1 : gT (erF0 κ σ x.toNatClampNeg lo hi vl (nbA σ x.toNatClampNeg) (nbB σ x.toNatClampNeg)) (tB x.toNatClampNeg) = 1 := er0_T.trans pT
    have hle1 : gI (erF0 κ σ x.toNatClampNeg lo hi vl (nbA σ x.toNatClampNeg) (nbB σ x.toNatClampNeg)) (tS 1) 1 = nI (nEn σ nb nw) := ((er0_D (tS 1) (by simp [tB_inj, tB_W, tB_R, tB_P, tB_C, tB_S, tW_inj, tW_B, tW_R, tW_P, tW_C, tW_S, tR_inj, tR_B, tR_W, tR_P, tR_C, tR_S, tP_inj, tP_B, tP_W, tP_R, tP_C, tP_S, tC_inj, tC_B, tC_W, tC_R, tC_P, tC_S, tS_inj, tS_B, tS_W, tS_R, tS_P, tS_C, tM_inj, tM_B, tM_W, tM_R, tM_P, tM_C, tM_S, tB_M, tW_M, tR_M, tP_M, tC_M, tS_M])).2.2.1 1).trans C.2.2.2.2.2.2.2.1
    have hnl : nEn σ nb nw < 337 := by have := nEn_le R3.1; rw [nEn_er hxl h0] at this; omega
    have hlo := (nA.1 ha).1
    have hnw : nw < 100 := by have := nw_room (k := 1) I (by decide) hcx2 hw; omega
    have f2x : gI (erF κ σ nb nw x.toNatClampNeg lo hi vl (nbA σ x.toNatClampNeg) (nbB σ x.toNatClampNeg)) (tB x.toNatClampNeg) 1 = σ.2 10 x.toNatClampNeg := ((R3.2.1.2.2.1.2.1 _ hxl).2.2.1).trans (by rw [erC_row (by decide) (by decide) (by decide) (by decide)])
    have R4 := s_mk (j := x.toNatClampNeg) (f := σ.2 10 x.toNatClampNeg) (v := σ.2 12 x.toNatClampNeg) (y := z) R3 hnw hxl hz4 (by rw [erC_row (by decide) (by decide) (by decide) (by decide)]) (by rw [hp.1]; exact ⟨nI_le (a := 1) hlo (by omega), nI_le (b := 11) (by omega) (by decide)⟩) ((I.rs _ (isB_cl (by omega) (by assumption : isB nb x))).2.2.2) (by rw [erC_9, if_pos rfl])
    refine runY_go rkX8_erect (fun p => Nat.beq p 21 || Nat.beq p 85 || Nat.beq p 123) 200 rfl ?_
    refine And.intro (by first | exact hTX | exact (C.2.2.1.2.1 _ (isB_cl (by omega) (by assumption : isB nb x))).1) ?_
    refine And.intro (by first | exact hTX | exact (C.2.2.1.2.1 _ (isB_cl (by omega) (by assumption : isB nb x))).1) ?_
    refine pX8_erect_140 rfl rfl rfl (show CY w yX8_beginOf mX8_beginOf [.ref (tB x.toNatClampNeg), .ref (tB (nbA σ x.toNatClampNeg).toNatClampNeg), .null] (sI κ (tB x.toNatClampNeg) 6 (gI κ (tB x.toNatClampNeg) 6 - (cutE σ x.toNatClampNeg (nbA σ x.toNatClampNeg) (nbB σ x.toNatClampNeg)))) (fun v κ' => v = some (.int (begE (erA σ x.toNatClampNeg (nbA σ x.toNatClampNeg) (nbB σ x.toNatClampNeg)) x.toNatClampNeg (nbA σ x.toNatClampNeg) (nbB σ x.toNatClampNeg))) ∧ κ' = (sI κ (tB x.toNatClampNeg) 6 (gI κ (tB x.toNatClampNeg) 6 - (cutE σ x.toNatClampNeg (nbA σ x.toNatClampNeg) (nbB σ x.toNatClampNeg))))) from by have h9 := c_X8_beginOf1 (w := w) (κ := (sI κ (tB x.toNatClampNeg) 6 (gI κ (tB x.toNatClampNeg) 6 - (cutE σ x.toNatClampNeg (nbA σ x.toNatClampNeg) (nbB σ x.toNatClampNeg))))) hTX hTA; rw [hbeg] at h9; exact h9) (fun v κ1 hq1 ho1 hk1 => ?_)
    obtain ⟨rfl, ehq1⟩ := hq1
    rw [ehq1]
    refine runY_ok rkX8_erect (fun p => Nat.beq p 21 || Nat.beq p 85 || Nat.beq p 123) 200 _ _ _ _ _ _ ?_
    refine And.intro hTX ?_
    refine And.intro hTX ?_
    refine And.intro hG1.t4 ⟨some (tS 0), hG1.r43, ?_⟩
    refine pX8_erect_156 rfl rfl rfl hG1.t0 (show CY w yX1_fill mX1_fill [.ref (tS 0), .ref (tB x.toNatClampNeg)] (erH1 κ σ x.toNatClampNeg (nbA σ x.toNatClampNeg) (nbB σ x.toNatClampNeg)) (fun v κ' => v = none ∧ κ' = (erF0 κ σ x.toNatClampNeg lo hi vl (nbA σ x.toNatClampNeg) (nbB σ x.toNatClampNeg))) from c_X1_fill (j := x.toNatClampNeg) (v := vl) (lo := lo) (hi := hi) hG1 hTX (by rw [← e10, ← px1]; simp [erH1, gI_sI]) (by rw [← e11_, ← px2]; simp [erH1, gI_sI]) (by rw [← e12, ← px3]; simp [erH1, gI_sI]) lh1 lh2 lh3 (fun k hk => C.2.2.2.2.1.2.2 _ (by omega) (hu _ (by omega) (by omega)))) (fun v κ1 hq2 ho2 hk2 => ?_)
    obtain ⟨rfl, ehq2⟩ := hq2
    rw [ehq2]
    refine runY_ok rkX8_erect (fun p => Nat.beq p 21 || Nat.beq p 85 || Nat.beq p 123) 200 _ _ _ _ _ _ ?_
    refine And.intro hGF1.t4 ⟨some (tS 1), hGF1.r46, ?_⟩
    refine pX8_erect_166 rfl rfl rfl hTF1 (show CY w yX0_frames mX0_frames [.ref (tB x.toNatClampNeg)] (erF0 κ σ x.toNatClampNeg lo hi vl (nbA σ x.toNatClampNeg) (nbB σ x.toNatClampNeg)) (fun v κ' => v = some (.int (σ.2 11 x.toNatClampNeg - σ.2 10 x.toNatClampNeg + 1)) ∧ κ' = (erF0 κ σ x.toNatClampNeg lo hi vl (nbA σ x.toNatClampNeg) (nbB σ x.toNatClampNeg))) from by have h9 := c_X0_frames (w := w) hTF1; rw [ffr] at h9; exact h9) (fun v κ1 hq3 ho3 hk3 => ?_)
    obtain ⟨rfl, ehq3⟩ := hq3
    rw [ehq3]
    refine runY_ok rkX8_erect (fun p => Nat.beq p 21 || Nat.beq p 85 || Nat.beq p 123) 200 _ _ _ _ _ _ ?_
    refine pX8_erect_170 rfl rfl rfl hGF1.t1 (show CY w yX2_enter mX2_enter [.ref (tS 1), .int (100 * (σ.2 11 x.toNatClampNeg - σ.2 10 x.toNatClampNeg + 1))] (erF0 κ σ x.toNatClampNeg lo hi vl (nbA σ x.toNatClampNeg) (nbB σ x.toNatClampNeg)) (fun v κ' => v = none ∧ κ' = (erF κ σ nb nw x.toNatClampNeg lo hi vl (nbA σ x.toNatClampNeg) (nbB σ x.toNatClampNeg))) from c_X2_enter (κ := (erF0 κ σ x.toNatClampNeg lo hi vl (nbA σ x.toNatClampNeg) (nbB σ x.toNatClampNeg))) hGF1.t1 hGF1.t10 hGF1.n10 hGF1.r10 hnl hle1) (fun v κ1 hq4 ho4 hk4 => ?_)
    obtain ⟨rfl, ehq4⟩ := hq4
    rw [ehq4]
    refine runY_ok rkX8_erect (fun p => Nat.beq p 21 || Nat.beq p 85 || Nat.beq p 123) 200 _ _ _ _ _ _ ?_
    refine And.intro (R3.2.1.2.2.1.2.1 _ hxl).1 ?_
    refine pX8_erect_185 rfl rfl rfl R3.2.1.1.t4 (show CY w yX8_makeWeld mX8_makeWeld [.ref (tS 4), .ref (tB x.toNatClampNeg), .int (gI (erF κ σ nb nw x.toNatClampNeg lo hi vl (nbA σ x.toNatClampNeg) (nbB σ x.toNatClampNeg)) (tB x.toNatClampNeg) 1), .int z] (erF κ σ nb nw x.toNatClampNeg lo hi vl (nbA σ x.toNatClampNeg) (nbB σ x.toNatClampNeg)) (fun v κ' => v = none ∧ κ' = (mwH (erF κ σ nb nw x.toNatClampNeg lo hi vl (nbA σ x.toNatClampNeg) (nbB σ x.toNatClampNeg)) (erC σ x.toNatClampNeg (nI x.toNatClampNeg) (nbA σ x.toNatClampNeg) (nbB σ x.toNatClampNeg)) nw x.toNatClampNeg (σ.2 10 x.toNatClampNeg) z (nEn (erC σ x.toNatClampNeg (nI x.toNatClampNeg) (nbA σ x.toNatClampNeg) (nbB σ x.toNatClampNeg)) nb nw))) from by rw [f2x]; exact e_mk R3 hnw hxl hz4) (fun v κ1 hq5 ho5 hk5 => ?_)
    obtain ⟨rfl, ehq5⟩ := hq5
    rw [ehq5]
    refine runY_ok rkX8_erect (fun p => Nat.beq p 21 || Nat.beq p 85 || Nat.beq p 123) 200 _ _ _ _ _ _ ?_
    refine And.intro ⟨(show _ ≤ _ by decide), (show _ ≤ _ by decide)⟩ ?_
    refine ⟨hk, rfl, ?_⟩
    have ex : x = nI x.toNatClampNeg := in_n (in_of hx.1 (by have := Int32.lt_iff_toInt_lt.mp hx.2; rw [nI_toInt (by omega)] at this; exact this))
    rw [show sEr σ x.toNatClampNeg x (nbA σ x.toNatClampNeg) (nbB σ x.toNatClampNeg) z.toNatClampNeg = sEr σ x.toNatClampNeg (nI x.toNatClampNeg) (nbA σ x.toNatClampNeg) (nbB σ x.toNatClampNeg) z.toNatClampNeg from by rw [← ex]]
    unfold sEr erD
    rw [if_neg (fun w => w hc), if_pos ha]
    exact ⟨nb, (nw + 1), np, _, R4⟩
  have K85 : kEr σ x z = 2 → Y w mX8_erect θ0 κ (fun v' κ' => kEr σ x z = 0 ∧ v' = some (.int (cutE σ x.toNatClampNeg (nbA σ x.toNatClampNeg) (nbB σ x.toNatClampNeg))) ∧ RE κ0 κ' (sEr σ x.toNatClampNeg x (nbA σ x.toNatClampNeg) (nbB σ x.toNatClampNeg) z.toNatClampNeg)) (fun E κ' => κ' = κ ∧ ((kEr σ x z = 1 ∧ E = "java/lang/IndexOutOfBoundsException") ∨ (kEr σ x z = 2 ∧ E = "java/lang/IllegalStateException"))) 0 0 85 [some (.ref (tS 4)), some (.int x), some (.int z), some (.ref (tB x.toNatClampNeg)), some (.ref (tB (nbA σ x.toNatClampNeg).toNatClampNeg)), some (.null), some (.int (1 + 0)), none] [] κ := by
    intro hk
    refine yX8_erect_85z (st := []) rfl rfl ?_
    exact ⟨rfl, Or.inr ⟨hk, rfl⟩⟩
  have K21 : kEr σ x z = 1 → ∀ x3, Y w mX8_erect θ0 κ (fun v' κ' => kEr σ x z = 0 ∧ v' = some (.int (cutE σ x.toNatClampNeg (nbA σ x.toNatClampNeg) (nbB σ x.toNatClampNeg))) ∧ RE κ0 κ' (sEr σ x.toNatClampNeg x (nbA σ x.toNatClampNeg) (nbB σ x.toNatClampNeg) z.toNatClampNeg)) (fun E κ' => κ' = κ ∧ ((kEr σ x z = 1 ∧ E = "java/lang/IndexOutOfBoundsException") ∨ (kEr σ x z = 2 ∧ E = "java/lang/IllegalStateException"))) 0 0 21 [some (.ref (tS 4)), some (.int x), some (.int z), x3, none, none, none, none] [] κ := by
    intro hk x3
    refine yX8_erect_21z (st := []) rfl rfl ?_
    exact ⟨rfl, Or.inl ⟨hk, rfl⟩⟩
  refine runY_ok rkX8_erect (fun p => Nat.beq p 21 || Nat.beq p 85 || Nat.beq p 123) 200 _ _ _ _ _ _ ?_
  refine pX8_erect_2 rfl rfl rfl hG.t4 (c_X8_blockOf I.n8 hG C.2.2.1.1) (fun v κ1 hq6 ho6 hk6 => ?_)
  by_cases hs6 : isB nb x
  · skip
    rw [blO_y hs6] at hq6
    obtain ⟨rfl, ehq6⟩ := hq6
    rw [ehq6]
    refine runY_ok rkX8_erect (fun p => Nat.beq p 21 || Nat.beq p 85 || Nat.beq p 123) 200 _ _ _ _ _ _ ?_
    refine And.intro hG.t4 ⟨some (tS 3), hG.r45, ?_⟩
    refine pX8_erect_15 rfl rfl rfl hG.t3 (show CY w yX7_has mX7_has [.ref (tS 3), .int z] κ (fun v κ' => v = some (.int (if isWdr z then 1 else 0)) ∧ κ' = κ) from by have h9 := c_X7_has (w := w) (y := z) hG.t3 hG.t9 hG.n9 hG.r30; simp only [has4_w] at h9; exact h9) (fun v κ1 hq7 ho7 hk7 => ?_)
    obtain ⟨rfl, ehq7⟩ := hq7
    rw [ehq7]
    refine runY_ok rkX8_erect (fun p => Nat.beq p 21 || Nat.beq p 85 || Nat.beq p 123) 200 _ _ _ _ _ _ ?_
    refine And.intro (fun c8 => ?_) (fun c8 => ?_)
    · try simp only [b01_eq, b01_ne, Classical.not_not] at c8
      refine pX8_erect_33 rfl rfl rfl hG.t4 (show CY w yX8_neighbourAhead mX8_neighbourAhead [.ref (tS 4), .ref (tB x.toNatClampNeg)] κ (fun v κ' => v = some (Value.ref (tB (nbA σ x.toNatClampNeg).toNatClampNeg)) ∧ κ' = κ) from by have h9 := c_X8_neighbourAhead (w := w) hG hR (C.2.2.1.2.1 _ (isB_cl (by omega) (by assumption : isB nb x))).1 (by rw [(C.2.2.1.2.1 _ (isB_cl (by omega) (by assumption : isB nb x))).2.2.2.2.1]; exact (I.rs _ (isB_cl (by omega) (by assumption : isB nb x))).2.2.2); rw [(C.2.2.1.2.1 _ (isB_cl (by omega) (by assumption : isB nb x))).2.2.1, (C.2.2.1.2.1 _ (isB_cl (by omega) (by assumption : isB nb x))).2.2.2.2.1, show bAt σ (σ.2 10 x.toNatClampNeg - 1) (σ.2 12 x.toNatClampNeg) = (nbA σ x.toNatClampNeg) from rfl, refO_n ha] at h9; exact h9) (fun v κ1 hq9 ho9 hk9 => ?_)
      obtain ⟨rfl, ehq9⟩ := hq9
      rw [ehq9]
      refine runY_ok rkX8_erect (fun p => Nat.beq p 21 || Nat.beq p 85 || Nat.beq p 123) 200 _ _ _ _ _ _ ?_
      refine pX8_erect_40 rfl rfl rfl hG.t4 (show CY w yX8_neighbourBehind mX8_neighbourBehind [.ref (tS 4), .ref (tB x.toNatClampNeg)] κ (fun v κ' => v = some (Value.null) ∧ κ' = κ) from by have h9 := c_X8_neighbourBehind (w := w) hG hR (C.2.2.1.2.1 _ (isB_cl (by omega) (by assumption : isB nb x))).1 (by rw [(C.2.2.1.2.1 _ (isB_cl (by omega) (by assumption : isB nb x))).2.2.2.2.1]; exact (I.rs _ (isB_cl (by omega) (by assumption : isB nb x))).2.2.2); rw [(C.2.2.1.2.1 _ (isB_cl (by omega) (by assumption : isB nb x))).2.2.2.1, (C.2.2.1.2.1 _ (isB_cl (by omega) (by assumption : isB nb x))).2.2.2.2.1, show bAt σ (σ.2 11 x.toNatClampNeg + 1) (σ.2 12 x.toNatClampNeg) = (nbB σ x.toNatClampNeg) from rfl, refO_y hc] at h9; exact h9) (fun v κ1 hq10 ho10 hk10 => ?_)
      obtain ⟨rfl, ehq10⟩ := hq10
      rw [ehq10]
      refine runY_ok rkX8_erect (fun p => Nat.beq p 21 || Nat.beq p 85 || Nat.beq p 123) 200 _ _ _ _ _ _ ?_
      refine pX8_erect_70 rfl rfl rfl hG.t4 (c_X8_reasonAgainst hG hR C.2.2.1 (isB_cl (by omega) (by assumption)) (I.rs _ (isB_cl (by omega) (by assumption : isB nb x))) I.stF I.n8 hN I.c2) (fun v κ1 hq11 ho11 hk11 => ?_)
      obtain ⟨rfl, ehq11⟩ := hq11
      rw [ehq11]
      refine runY_ok rkX8_erect (fun p => Nat.beq p 21 || Nat.beq p 85 || Nat.beq p 123) 200 _ _ _ _ _ _ ?_
      refine And.intro (fun c12 => ?_) (fun c12 => ?_)
      · try simp only [b01_eq, b01_ne, Classical.not_not] at c12
        exact K85 (by unfold kEr; rw [if_pos ⟨(hbl x).mpr (by assumption), by grind⟩, hcx]; grind)
      · try simp only [b01_eq, b01_ne, Classical.not_not] at c12
        refine pX8_erect_79 rfl rfl rfl hG.t4 (c_X8_hasSpaceForWelds (x := (1 + 0)) hG hN) (fun v κ1 hq13 ho13 hk13 => ?_)
        obtain ⟨rfl, ehq13⟩ := hq13
        rw [ehq13]
        refine runY_ok rkX8_erect (fun p => Nat.beq p 21 || Nat.beq p 85 || Nat.beq p 123) 200 _ _ _ _ _ _ ?_
        refine And.intro (fun c14 => ?_) (fun c14 => ?_)
        · try simp only [b01_eq, b01_ne, Classical.not_not] at c14
          exact K123 _ (by unfold cutE; rw [if_neg (fun w => w.2 hc)]) (by assumption) (by grind) (by unfold kEr; rw [if_pos ⟨(hbl x).mpr (by assumption), by grind⟩, hcx]; grind)
        · try simp only [b01_eq, b01_ne, Classical.not_not] at c14
          exact K85 (by unfold kEr; rw [if_pos ⟨(hbl x).mpr (by assumption), by grind⟩, hcx]; grind)
    · try simp only [b01_eq, b01_ne, Classical.not_not] at c8
      exact K21 (by unfold kEr; rw [if_neg]; grind) _
  · skip
    rw [blO_n hs6] at hq6
    obtain ⟨rfl, ehq6⟩ := hq6
    rw [ehq6]
    refine runY_ok rkX8_erect (fun p => Nat.beq p 21 || Nat.beq p 85 || Nat.beq p 123) 200 _ _ _ _ _ _ ?_
    exact K21 (by unfold kEr; rw [if_neg]; grind) _
set_option maxRecDepth 20000 in
theorem e11_erect {w : W0} {κ : AH} {x z : Int32} {κ0 : AH} {σ : MS} {nb nw np : Nat} {wb : Nat → Nat} (h : RI κ0 κ σ nb nw np wb) (ha : ¬ (nbA σ x.toNatClampNeg) = -1) (hc : ¬ (nbB σ x.toNatClampNeg) = -1) : CYV w yX8_erect mX8_erect [.ref (tS 4), .int x, .int z] κ (fun v' κ' => kEr σ x z = 0 ∧ v' = some (.int (cutE σ x.toNatClampNeg (nbA σ x.toNatClampNeg) (nbB σ x.toNatClampNeg))) ∧ RE κ0 κ' (sEr σ x.toNatClampNeg x (nbA σ x.toNatClampNeg) (nbB σ x.toNatClampNeg) z.toNatClampNeg)) (fun E κ' => κ' = κ ∧ ((kEr σ x z = 1 ∧ E = "java/lang/IndexOutOfBoundsException") ∨ (kEr σ x z = 2 ∧ E = "java/lang/IllegalStateException"))) := by
  have I := h.1
  have C := h.2.1
  have hG := C.1
  have hN := C.2.1
  have hR := C.2.2.2.2.1
  have hn := I.n8
  have hnw0 := I.n18
  have hbl := fun x => isB_blk (x := x) I.n8 I.e8
  have hcx : cnx (nbA σ x.toNatClampNeg) + cnx (nbB σ x.toNatClampNeg) = (1 + 1) := by unfold cnx; rw [if_neg ha, if_neg hc]
  have hge := rsn_ge (σ := σ) (i := x.toNatClampNeg)
  refine CYV_of mcX8_erect (Nat.le_of_ble_eq_true rfl) (cat1 rfl) (fun θ0 => ?_)
  have K123 : ∀ r : Int32, r = (cutE σ x.toNatClampNeg (nbA σ x.toNatClampNeg) (nbB σ x.toNatClampNeg)) → isB nb x → isWdr z → kEr σ x z = 0 → Y w mX8_erect θ0 κ (fun v' κ' => kEr σ x z = 0 ∧ v' = some (.int (cutE σ x.toNatClampNeg (nbA σ x.toNatClampNeg) (nbB σ x.toNatClampNeg))) ∧ RE κ0 κ' (sEr σ x.toNatClampNeg x (nbA σ x.toNatClampNeg) (nbB σ x.toNatClampNeg) z.toNatClampNeg)) (fun E κ' => κ' = κ ∧ ((kEr σ x z = 1 ∧ E = "java/lang/IndexOutOfBoundsException") ∨ (kEr σ x z = 2 ∧ E = "java/lang/IllegalStateException"))) 0 0 123 [some (.ref (tS 4)), some (.int x), some (.int z), some (.ref (tB x.toNatClampNeg)), some (.ref (tB (nbA σ x.toNatClampNeg).toNatClampNeg)), some (.ref (tB (nbB σ x.toNatClampNeg).toNatClampNeg)), some (.int (1 + 1)), some (.int r)] [] κ := by
    intro r hr
    subst hr
    intro hx hz hk
    obtain ⟨hr0, hw⟩ := kEr0 hk
    obtain ⟨h0, h6, hfl⟩ := rsn_0 hr0
    have hxl := isB_cl (nb := nb) (by omega) hx
    obtain ⟨lo, hi, vl, hp⟩ := pos_of (I.rs _ hxl)
    have hu := fl_un hp hfl
    have nA := nb_at I hp hu
    have hz4 := in_c (c := 3) (n := 4) (by decide) hz
    have hcx2 : cnx (nbA σ x.toNatClampNeg) + cnx (nbB σ x.toNatClampNeg) = nI 2 := hcx
    obtain ⟨pT, px0, px1, px2, px3, px4, px5, px6, px7, px8, px9⟩ := (C.2.2.1.2.1 _ hxl)
    have hTX : gT κ (tB x.toNatClampNeg) = 1 := pT
    obtain ⟨ja, hja, eja, sja⟩ := (nA.1 ha).2
    have eca : (nbA σ x.toNatClampNeg).toNatClampNeg = ja := by rw [eja, nI_clamp (by have := I.n8; omega)]
    have hneA : ¬ (nbA σ x.toNatClampNeg).toNatClampNeg = x.toNatClampNeg := by rw [eca]; intro w; rw [w, h0] at sja; exact absurd sja (by decide)
    have hTA : gT κ (tB (nbA σ x.toNatClampNeg).toNatClampNeg) = 1 := by rw [eca]; exact (C.2.2.1.2.1 _ hja).1
    have vA7 : gI κ (tB (nbA σ x.toNatClampNeg).toNatClampNeg) 7 = σ.2 16 (nbA σ x.toNatClampNeg).toNatClampNeg := by rw [eca]; exact (C.2.2.1.2.1 _ hja).2.2.2.2.2.2.2.2.1 sja
    have vA6 : gI κ (tB (nbA σ x.toNatClampNeg).toNatClampNeg) 6 = σ.2 14 (nbA σ x.toNatClampNeg).toNatClampNeg := by rw [eca]; exact (C.2.2.1.2.1 _ hja).2.2.2.2.2.2.2.1
    obtain ⟨-, jc0, hjc0, ejc0, sjc0, -⟩ := nA.2 hc
    have ecc0 : (nbB σ x.toNatClampNeg).toNatClampNeg = jc0 := by rw [ejc0, nI_clamp (by have := I.n8; omega)]
    have hneC : ¬ (nbB σ x.toNatClampNeg).toNatClampNeg = x.toNatClampNeg := by rw [ecc0]; intro w; rw [w, h0] at sjc0; exact absurd sjc0 (by decide)
    have hTC : gT κ (tB (nbB σ x.toNatClampNeg).toNatClampNeg) = 1 := by rw [ecc0]; exact (C.2.2.1.2.1 _ hjc0).1
    have vC7 : gI κ (tB (nbB σ x.toNatClampNeg).toNatClampNeg) 7 = σ.2 16 (nbB σ x.toNatClampNeg).toNatClampNeg := by rw [ecc0]; exact (C.2.2.1.2.1 _ hjc0).2.2.2.2.2.2.2.2.1 sjc0
    have R3 := s_er (a := (nbA σ x.toNatClampNeg)) (c := (nbB σ x.toNatClampNeg)) h hxl h0 hp hu
    have hG1 : SG (erH1 κ σ x.toNatClampNeg (nbA σ x.toNatClampNeg) (nbB σ x.toNatClampNeg)) := SG_d e1_D (fun i hi z => tS_B.mp z) hG
    have hGF1 : SG (erF0 κ σ x.toNatClampNeg lo hi vl (nbA σ x.toNatClampNeg) (nbB σ x.toNatClampNeg)) := er0_SG hG
    have hbeg : (gI (sI κ (tB x.toNatClampNeg) 6 (gI κ (tB x.toNatClampNeg) 6 - (cutE σ x.toNatClampNeg (nbA σ x.toNatClampNeg) (nbB σ x.toNatClampNeg)))) (tB (nbA σ x.toNatClampNeg).toNatClampNeg) 7 + gI (sI κ (tB x.toNatClampNeg) 6 (gI κ (tB x.toNatClampNeg) 6 - (cutE σ x.toNatClampNeg (nbA σ x.toNatClampNeg) (nbB σ x.toNatClampNeg)))) (tB (nbA σ x.toNatClampNeg).toNatClampNeg) 6 + 4) = (begE (erA σ x.toNatClampNeg (nbA σ x.toNatClampNeg) (nbB σ x.toNatClampNeg)) x.toNatClampNeg (nbA σ x.toNatClampNeg) (nbB σ x.toNatClampNeg)) := by
        unfold begE eOf
        rw [if_pos ha, erA_row (by decide), erA_o hneA, ← vA7, ← vA6]
        simp [gI_sI, tB_inj, hneA]
    obtain ⟨e10, e11_, e12, lh1, lh2, lh3⟩ := id hp
    have ffr : gI (erF0 κ σ x.toNatClampNeg lo hi vl (nbA σ x.toNatClampNeg) (nbB σ x.toNatClampNeg)) (tB x.toNatClampNeg) 2 - gI (erF0 κ σ x.toNatClampNeg lo hi vl (nbA σ x.toNatClampNeg) (nbB σ x.toNatClampNeg)) (tB x.toNatClampNeg) 1 + 1 = σ.2 11 x.toNatClampNeg - σ.2 10 x.toNatClampNeg + 1 := by rw [er0_I (by decide) (by decide) (by decide), er0_I (by decide) (by decide) (by decide), px1, px2]
    have hTF1 : gT (erF0 κ σ x.toNatClampNeg lo hi vl (nbA σ x.toNatClampNeg) (nbB σ x.toNatClampNeg)) (tB x.toNatClampNeg) = 1 := er0_T.trans pT
    have hle1 : gI (erF0 κ σ x.toNatClampNeg lo hi vl (nbA σ x.toNatClampNeg) (nbB σ x.toNatClampNeg)) (tS 1) 1 = nI (nEn σ nb nw) := ((er0_D (tS 1) (by simp [tB_inj, tB_W, tB_R, tB_P, tB_C, tB_S, tW_inj, tW_B, tW_R, tW_P, tW_C, tW_S, tR_inj, tR_B, tR_W, tR_P, tR_C, tR_S, tP_inj, tP_B, tP_W, tP_R, tP_C, tP_S, tC_inj, tC_B, tC_W, tC_R, tC_P, tC_S, tS_inj, tS_B, tS_W, tS_R, tS_P, tS_C, tM_inj, tM_B, tM_W, tM_R, tM_P, tM_C, tM_S, tB_M, tW_M, tR_M, tP_M, tC_M, tS_M])).2.2.1 1).trans C.2.2.2.2.2.2.2.1
    have hnl : nEn σ nb nw < 337 := by have := nEn_le R3.1; rw [nEn_er hxl h0] at this; omega
    have hlo := (nA.1 ha).1
    have hnw : nw < 100 := by have := nw_room (k := 2) I (by decide) hcx2 hw; omega
    have f2x : gI (erF κ σ nb nw x.toNatClampNeg lo hi vl (nbA σ x.toNatClampNeg) (nbB σ x.toNatClampNeg)) (tB x.toNatClampNeg) 1 = σ.2 10 x.toNatClampNeg := ((R3.2.1.2.2.1.2.1 _ hxl).2.2.1).trans (by rw [erC_row (by decide) (by decide) (by decide) (by decide)])
    have R4 := s_mk (j := x.toNatClampNeg) (f := σ.2 10 x.toNatClampNeg) (v := σ.2 12 x.toNatClampNeg) (y := z) R3 hnw hxl hz4 (by rw [erC_row (by decide) (by decide) (by decide) (by decide)]) (by rw [hp.1]; exact ⟨nI_le (a := 1) hlo (by omega), nI_le (b := 11) (by omega) (by decide)⟩) ((I.rs _ (isB_cl (by omega) (by assumption : isB nb x))).2.2.2) (by rw [erC_9, if_pos rfl])
    obtain ⟨hhi, jc, hjc, ejc, sjc, fjc⟩ := nA.2 hc
    have ecc : (nbB σ x.toNatClampNeg).toNatClampNeg = jc := by rw [ejc, nI_clamp (by have := I.n8; omega)]
    have hnw2 : (nw + 1) < 100 := by have := nw_room (k := 2) I (by decide) hcx2 hw; omega
    have f4T : gT (mwH (erF κ σ nb nw x.toNatClampNeg lo hi vl (nbA σ x.toNatClampNeg) (nbB σ x.toNatClampNeg)) (erC σ x.toNatClampNeg (nI x.toNatClampNeg) (nbA σ x.toNatClampNeg) (nbB σ x.toNatClampNeg)) nw x.toNatClampNeg (σ.2 10 x.toNatClampNeg) z (nEn (erC σ x.toNatClampNeg (nI x.toNatClampNeg) (nbA σ x.toNatClampNeg) (nbB σ x.toNatClampNeg)) nb nw)) (tB (nbB σ x.toNatClampNeg).toNatClampNeg) = 1 := by rw [ecc]; exact (R4.2.1.2.2.1.2.1 _ hjc).1
    have e11 : σ.2 10 jc = σ.2 11 x.toNatClampNeg + 1 := by rw [fjc, hp.2.1, nI_1]
    have f4x : gI (mwH (erF κ σ nb nw x.toNatClampNeg lo hi vl (nbA σ x.toNatClampNeg) (nbB σ x.toNatClampNeg)) (erC σ x.toNatClampNeg (nI x.toNatClampNeg) (nbA σ x.toNatClampNeg) (nbB σ x.toNatClampNeg)) nw x.toNatClampNeg (σ.2 10 x.toNatClampNeg) z (nEn (erC σ x.toNatClampNeg (nI x.toNatClampNeg) (nbA σ x.toNatClampNeg) (nbB σ x.toNatClampNeg)) nb nw)) (tB (nbB σ x.toNatClampNeg).toNatClampNeg) 1 = σ.2 11 x.toNatClampNeg + 1 := by rw [ecc, ← e11]; exact ((R4.2.1.2.2.1.2.1 _ hjc).2.2.1).trans (by rw [sSpo_row (by decide), sMak_row (by decide), erC_row (by decide) (by decide) (by decide) (by decide)])
    have R5 := s_mk (j := x.toNatClampNeg) (f := σ.2 11 x.toNatClampNeg + 1) (v := σ.2 12 x.toNatClampNeg) (y := z) R4 hnw2 hxl hz4 (by rw [sSpo_row (by decide), sMak_row (by decide), erC_row (by decide) (by decide) (by decide) (by decide)]) (by rw [hp.2.1, nI_1]; exact ⟨nI_le (a := 1) (by omega) (by omega), nI_le (b := 11) (by omega) (by decide)⟩) ((I.rs _ (isB_cl (by omega) (by assumption : isB nb x))).2.2.2) (by rw [sSpo_row (by decide), sMak_row (by decide), erC_9, if_pos rfl])
    refine runY_go rkX8_erect (fun p => Nat.beq p 21 || Nat.beq p 85 || Nat.beq p 123) 200 rfl ?_
    refine And.intro (by first | exact hTX | exact (C.2.2.1.2.1 _ (isB_cl (by omega) (by assumption : isB nb x))).1) ?_
    refine And.intro (by first | exact hTX | exact (C.2.2.1.2.1 _ (isB_cl (by omega) (by assumption : isB nb x))).1) ?_
    refine pX8_erect_140 rfl rfl rfl (show CY w yX8_beginOf mX8_beginOf [.ref (tB x.toNatClampNeg), .ref (tB (nbA σ x.toNatClampNeg).toNatClampNeg), .ref (tB (nbB σ x.toNatClampNeg).toNatClampNeg)] (sI κ (tB x.toNatClampNeg) 6 (gI κ (tB x.toNatClampNeg) 6 - (cutE σ x.toNatClampNeg (nbA σ x.toNatClampNeg) (nbB σ x.toNatClampNeg)))) (fun v κ' => v = some (.int (begE (erA σ x.toNatClampNeg (nbA σ x.toNatClampNeg) (nbB σ x.toNatClampNeg)) x.toNatClampNeg (nbA σ x.toNatClampNeg) (nbB σ x.toNatClampNeg))) ∧ κ' = (sI κ (tB x.toNatClampNeg) 6 (gI κ (tB x.toNatClampNeg) 6 - (cutE σ x.toNatClampNeg (nbA σ x.toNatClampNeg) (nbB σ x.toNatClampNeg))))) from by have h9 := c_X8_beginOf2 (w := w) (κ := (sI κ (tB x.toNatClampNeg) 6 (gI κ (tB x.toNatClampNeg) 6 - (cutE σ x.toNatClampNeg (nbA σ x.toNatClampNeg) (nbB σ x.toNatClampNeg))))) hTX hTA hTC; rw [hbeg] at h9; exact h9) (fun v κ1 hq1 ho1 hk1 => ?_)
    obtain ⟨rfl, ehq1⟩ := hq1
    rw [ehq1]
    refine runY_ok rkX8_erect (fun p => Nat.beq p 21 || Nat.beq p 85 || Nat.beq p 123) 200 _ _ _ _ _ _ ?_
    refine And.intro hTX ?_
    refine And.intro hTX ?_
    refine And.intro hG1.t4 ⟨some (tS 0), hG1.r43, ?_⟩
    refine pX8_erect_156 rfl rfl rfl hG1.t0 (show CY w yX1_fill mX1_fill [.ref (tS 0), .ref (tB x.toNatClampNeg)] (erH1 κ σ x.toNatClampNeg (nbA σ x.toNatClampNeg) (nbB σ x.toNatClampNeg)) (fun v κ' => v = none ∧ κ' = (erF0 κ σ x.toNatClampNeg lo hi vl (nbA σ x.toNatClampNeg) (nbB σ x.toNatClampNeg))) from c_X1_fill (j := x.toNatClampNeg) (v := vl) (lo := lo) (hi := hi) hG1 hTX (by rw [← e10, ← px1]; simp [erH1, gI_sI]) (by rw [← e11_, ← px2]; simp [erH1, gI_sI]) (by rw [← e12, ← px3]; simp [erH1, gI_sI]) lh1 lh2 lh3 (fun k hk => C.2.2.2.2.1.2.2 _ (by omega) (hu _ (by omega) (by omega)))) (fun v κ1 hq2 ho2 hk2 => ?_)
    obtain ⟨rfl, ehq2⟩ := hq2
    rw [ehq2]
    refine runY_ok rkX8_erect (fun p => Nat.beq p 21 || Nat.beq p 85 || Nat.beq p 123) 200 _ _ _ _ _ _ ?_
    refine And.intro hGF1.t4 ⟨some (tS 1), hGF1.r46, ?_⟩
    refine pX8_erect_166 rfl rfl rfl hTF1 (show CY w yX0_frames mX0_frames [.ref (tB x.toNatClampNeg)] (erF0 κ σ x.toNatClampNeg lo hi vl (nbA σ x.toNatClampNeg) (nbB σ x.toNatClampNeg)) (fun v κ' => v = some (.int (σ.2 11 x.toNatClampNeg - σ.2 10 x.toNatClampNeg + 1)) ∧ κ' = (erF0 κ σ x.toNatClampNeg lo hi vl (nbA σ x.toNatClampNeg) (nbB σ x.toNatClampNeg))) from by have h9 := c_X0_frames (w := w) hTF1; rw [ffr] at h9; exact h9) (fun v κ1 hq3 ho3 hk3 => ?_)
    obtain ⟨rfl, ehq3⟩ := hq3
    rw [ehq3]
    refine runY_ok rkX8_erect (fun p => Nat.beq p 21 || Nat.beq p 85 || Nat.beq p 123) 200 _ _ _ _ _ _ ?_
    refine pX8_erect_170 rfl rfl rfl hGF1.t1 (show CY w yX2_enter mX2_enter [.ref (tS 1), .int (100 * (σ.2 11 x.toNatClampNeg - σ.2 10 x.toNatClampNeg + 1))] (erF0 κ σ x.toNatClampNeg lo hi vl (nbA σ x.toNatClampNeg) (nbB σ x.toNatClampNeg)) (fun v κ' => v = none ∧ κ' = (erF κ σ nb nw x.toNatClampNeg lo hi vl (nbA σ x.toNatClampNeg) (nbB σ x.toNatClampNeg))) from c_X2_enter (κ := (erF0 κ σ x.toNatClampNeg lo hi vl (nbA σ x.toNatClampNeg) (nbB σ x.toNatClampNeg))) hGF1.t1 hGF1.t10 hGF1.n10 hGF1.r10 hnl hle1) (fun v κ1 hq4 ho4 hk4 => ?_)
    obtain ⟨rfl, ehq4⟩ := hq4
    rw [ehq4]
    refine runY_ok rkX8_erect (fun p => Nat.beq p 21 || Nat.beq p 85 || Nat.beq p 123) 200 _ _ _ _ _ _ ?_
    refine And.intro (R3.2.1.2.2.1.2.1 _ hxl).1 ?_
    refine pX8_erect_185 rfl rfl rfl R3.2.1.1.t4 (show CY w yX8_makeWeld mX8_makeWeld [.ref (tS 4), .ref (tB x.toNatClampNeg), .int (gI (erF κ σ nb nw x.toNatClampNeg lo hi vl (nbA σ x.toNatClampNeg) (nbB σ x.toNatClampNeg)) (tB x.toNatClampNeg) 1), .int z] (erF κ σ nb nw x.toNatClampNeg lo hi vl (nbA σ x.toNatClampNeg) (nbB σ x.toNatClampNeg)) (fun v κ' => v = none ∧ κ' = (mwH (erF κ σ nb nw x.toNatClampNeg lo hi vl (nbA σ x.toNatClampNeg) (nbB σ x.toNatClampNeg)) (erC σ x.toNatClampNeg (nI x.toNatClampNeg) (nbA σ x.toNatClampNeg) (nbB σ x.toNatClampNeg)) nw x.toNatClampNeg (σ.2 10 x.toNatClampNeg) z (nEn (erC σ x.toNatClampNeg (nI x.toNatClampNeg) (nbA σ x.toNatClampNeg) (nbB σ x.toNatClampNeg)) nb nw))) from by rw [f2x]; exact e_mk R3 hnw hxl hz4) (fun v κ1 hq5 ho5 hk5 => ?_)
    obtain ⟨rfl, ehq5⟩ := hq5
    rw [ehq5]
    refine runY_ok rkX8_erect (fun p => Nat.beq p 21 || Nat.beq p 85 || Nat.beq p 123) 200 _ _ _ _ _ _ ?_
    refine And.intro f4T ?_
    refine pX8_erect_201 rfl rfl rfl R4.2.1.1.t4 (show CY w yX8_makeWeld mX8_makeWeld [.ref (tS 4), .ref (tB x.toNatClampNeg), .int (gI (mwH (erF κ σ nb nw x.toNatClampNeg lo hi vl (nbA σ x.toNatClampNeg) (nbB σ x.toNatClampNeg)) (erC σ x.toNatClampNeg (nI x.toNatClampNeg) (nbA σ x.toNatClampNeg) (nbB σ x.toNatClampNeg)) nw x.toNatClampNeg (σ.2 10 x.toNatClampNeg) z (nEn (erC σ x.toNatClampNeg (nI x.toNatClampNeg) (nbA σ x.toNatClampNeg) (nbB σ x.toNatClampNeg)) nb nw)) (tB (nbB σ x.toNatClampNeg).toNatClampNeg) 1), .int z] (mwH (erF κ σ nb nw x.toNatClampNeg lo hi vl (nbA σ x.toNatClampNeg) (nbB σ x.toNatClampNeg)) (erC σ x.toNatClampNeg (nI x.toNatClampNeg) (nbA σ x.toNatClampNeg) (nbB σ x.toNatClampNeg)) nw x.toNatClampNeg (σ.2 10 x.toNatClampNeg) z (nEn (erC σ x.toNatClampNeg (nI x.toNatClampNeg) (nbA σ x.toNatClampNeg) (nbB σ x.toNatClampNeg)) nb nw)) (fun v κ' => v = none ∧ κ' = (mwH (mwH (erF κ σ nb nw x.toNatClampNeg lo hi vl (nbA σ x.toNatClampNeg) (nbB σ x.toNatClampNeg)) (erC σ x.toNatClampNeg (nI x.toNatClampNeg) (nbA σ x.toNatClampNeg) (nbB σ x.toNatClampNeg)) nw x.toNatClampNeg (σ.2 10 x.toNatClampNeg) z (nEn (erC σ x.toNatClampNeg (nI x.toNatClampNeg) (nbA σ x.toNatClampNeg) (nbB σ x.toNatClampNeg)) nb nw)) (sSpo (sMak (erC σ x.toNatClampNeg (nI x.toNatClampNeg) (nbA σ x.toNatClampNeg) (nbB σ x.toNatClampNeg)) (-1) (σ.2 10 x.toNatClampNeg) (σ.2 12 x.toNatClampNeg) z.toNatClampNeg) (σ.2 10 x.toNatClampNeg) (σ.2 12 x.toNatClampNeg)) (nw + 1) x.toNatClampNeg (σ.2 11 x.toNatClampNeg + 1) z (nEn (sSpo (sMak (erC σ x.toNatClampNeg (nI x.toNatClampNeg) (nbA σ x.toNatClampNeg) (nbB σ x.toNatClampNeg)) (-1) (σ.2 10 x.toNatClampNeg) (σ.2 12 x.toNatClampNeg) z.toNatClampNeg) (σ.2 10 x.toNatClampNeg) (σ.2 12 x.toNatClampNeg)) nb (nw + 1)))) from by rw [f4x]; exact e_mk R4 hnw2 hxl hz4) (fun v κ1 hq6 ho6 hk6 => ?_)
    obtain ⟨rfl, ehq6⟩ := hq6
    rw [ehq6]
    refine runY_ok rkX8_erect (fun p => Nat.beq p 21 || Nat.beq p 85 || Nat.beq p 123) 200 _ _ _ _ _ _ ?_
    refine And.intro ⟨(show _ ≤ _ by decide), (show _ ≤ _ by decide)⟩ ?_
    refine ⟨hk, rfl, ?_⟩
    have ex : x = nI x.toNatClampNeg := in_n (in_of hx.1 (by have := Int32.lt_iff_toInt_lt.mp hx.2; rw [nI_toInt (by omega)] at this; exact this))
    rw [show sEr σ x.toNatClampNeg x (nbA σ x.toNatClampNeg) (nbB σ x.toNatClampNeg) z.toNatClampNeg = sEr σ x.toNatClampNeg (nI x.toNatClampNeg) (nbA σ x.toNatClampNeg) (nbB σ x.toNatClampNeg) z.toNatClampNeg from by rw [← ex]]
    unfold sEr erD
    rw [if_pos hc, if_pos ha]
    exact ⟨nb, (nw + 1 + 1), np, _, R5⟩
  have K85 : kEr σ x z = 2 → Y w mX8_erect θ0 κ (fun v' κ' => kEr σ x z = 0 ∧ v' = some (.int (cutE σ x.toNatClampNeg (nbA σ x.toNatClampNeg) (nbB σ x.toNatClampNeg))) ∧ RE κ0 κ' (sEr σ x.toNatClampNeg x (nbA σ x.toNatClampNeg) (nbB σ x.toNatClampNeg) z.toNatClampNeg)) (fun E κ' => κ' = κ ∧ ((kEr σ x z = 1 ∧ E = "java/lang/IndexOutOfBoundsException") ∨ (kEr σ x z = 2 ∧ E = "java/lang/IllegalStateException"))) 0 0 85 [some (.ref (tS 4)), some (.int x), some (.int z), some (.ref (tB x.toNatClampNeg)), some (.ref (tB (nbA σ x.toNatClampNeg).toNatClampNeg)), some (.ref (tB (nbB σ x.toNatClampNeg).toNatClampNeg)), some (.int (1 + 1)), none] [] κ := by
    intro hk
    refine yX8_erect_85z (st := []) rfl rfl ?_
    exact ⟨rfl, Or.inr ⟨hk, rfl⟩⟩
  have K21 : kEr σ x z = 1 → ∀ x3, Y w mX8_erect θ0 κ (fun v' κ' => kEr σ x z = 0 ∧ v' = some (.int (cutE σ x.toNatClampNeg (nbA σ x.toNatClampNeg) (nbB σ x.toNatClampNeg))) ∧ RE κ0 κ' (sEr σ x.toNatClampNeg x (nbA σ x.toNatClampNeg) (nbB σ x.toNatClampNeg) z.toNatClampNeg)) (fun E κ' => κ' = κ ∧ ((kEr σ x z = 1 ∧ E = "java/lang/IndexOutOfBoundsException") ∨ (kEr σ x z = 2 ∧ E = "java/lang/IllegalStateException"))) 0 0 21 [some (.ref (tS 4)), some (.int x), some (.int z), x3, none, none, none, none] [] κ := by
    intro hk x3
    refine yX8_erect_21z (st := []) rfl rfl ?_
    exact ⟨rfl, Or.inl ⟨hk, rfl⟩⟩
  refine runY_ok rkX8_erect (fun p => Nat.beq p 21 || Nat.beq p 85 || Nat.beq p 123) 200 _ _ _ _ _ _ ?_
  refine pX8_erect_2 rfl rfl rfl hG.t4 (c_X8_blockOf I.n8 hG C.2.2.1.1) (fun v κ1 hq7 ho7 hk7 => ?_)
  by_cases hs7 : isB nb x
  · skip
    rw [blO_y hs7] at hq7
    obtain ⟨rfl, ehq7⟩ := hq7
    rw [ehq7]
    refine runY_ok rkX8_erect (fun p => Nat.beq p 21 || Nat.beq p 85 || Nat.beq p 123) 200 _ _ _ _ _ _ ?_
    refine And.intro hG.t4 ⟨some (tS 3), hG.r45, ?_⟩
    refine pX8_erect_15 rfl rfl rfl hG.t3 (show CY w yX7_has mX7_has [.ref (tS 3), .int z] κ (fun v κ' => v = some (.int (if isWdr z then 1 else 0)) ∧ κ' = κ) from by have h9 := c_X7_has (w := w) (y := z) hG.t3 hG.t9 hG.n9 hG.r30; simp only [has4_w] at h9; exact h9) (fun v κ1 hq8 ho8 hk8 => ?_)
    obtain ⟨rfl, ehq8⟩ := hq8
    rw [ehq8]
    refine runY_ok rkX8_erect (fun p => Nat.beq p 21 || Nat.beq p 85 || Nat.beq p 123) 200 _ _ _ _ _ _ ?_
    refine And.intro (fun c9 => ?_) (fun c9 => ?_)
    · try simp only [b01_eq, b01_ne, Classical.not_not] at c9
      refine pX8_erect_33 rfl rfl rfl hG.t4 (show CY w yX8_neighbourAhead mX8_neighbourAhead [.ref (tS 4), .ref (tB x.toNatClampNeg)] κ (fun v κ' => v = some (Value.ref (tB (nbA σ x.toNatClampNeg).toNatClampNeg)) ∧ κ' = κ) from by have h9 := c_X8_neighbourAhead (w := w) hG hR (C.2.2.1.2.1 _ (isB_cl (by omega) (by assumption : isB nb x))).1 (by rw [(C.2.2.1.2.1 _ (isB_cl (by omega) (by assumption : isB nb x))).2.2.2.2.1]; exact (I.rs _ (isB_cl (by omega) (by assumption : isB nb x))).2.2.2); rw [(C.2.2.1.2.1 _ (isB_cl (by omega) (by assumption : isB nb x))).2.2.1, (C.2.2.1.2.1 _ (isB_cl (by omega) (by assumption : isB nb x))).2.2.2.2.1, show bAt σ (σ.2 10 x.toNatClampNeg - 1) (σ.2 12 x.toNatClampNeg) = (nbA σ x.toNatClampNeg) from rfl, refO_n ha] at h9; exact h9) (fun v κ1 hq10 ho10 hk10 => ?_)
      obtain ⟨rfl, ehq10⟩ := hq10
      rw [ehq10]
      refine runY_ok rkX8_erect (fun p => Nat.beq p 21 || Nat.beq p 85 || Nat.beq p 123) 200 _ _ _ _ _ _ ?_
      refine pX8_erect_40 rfl rfl rfl hG.t4 (show CY w yX8_neighbourBehind mX8_neighbourBehind [.ref (tS 4), .ref (tB x.toNatClampNeg)] κ (fun v κ' => v = some (Value.ref (tB (nbB σ x.toNatClampNeg).toNatClampNeg)) ∧ κ' = κ) from by have h9 := c_X8_neighbourBehind (w := w) hG hR (C.2.2.1.2.1 _ (isB_cl (by omega) (by assumption : isB nb x))).1 (by rw [(C.2.2.1.2.1 _ (isB_cl (by omega) (by assumption : isB nb x))).2.2.2.2.1]; exact (I.rs _ (isB_cl (by omega) (by assumption : isB nb x))).2.2.2); rw [(C.2.2.1.2.1 _ (isB_cl (by omega) (by assumption : isB nb x))).2.2.2.1, (C.2.2.1.2.1 _ (isB_cl (by omega) (by assumption : isB nb x))).2.2.2.2.1, show bAt σ (σ.2 11 x.toNatClampNeg + 1) (σ.2 12 x.toNatClampNeg) = (nbB σ x.toNatClampNeg) from rfl, refO_n hc] at h9; exact h9) (fun v κ1 hq11 ho11 hk11 => ?_)
      obtain ⟨rfl, ehq11⟩ := hq11
      rw [ehq11]
      refine runY_ok rkX8_erect (fun p => Nat.beq p 21 || Nat.beq p 85 || Nat.beq p 123) 200 _ _ _ _ _ _ ?_
      refine pX8_erect_70 rfl rfl rfl hG.t4 (c_X8_reasonAgainst hG hR C.2.2.1 (isB_cl (by omega) (by assumption)) (I.rs _ (isB_cl (by omega) (by assumption : isB nb x))) I.stF I.n8 hN I.c2) (fun v κ1 hq12 ho12 hk12 => ?_)
      obtain ⟨rfl, ehq12⟩ := hq12
      rw [ehq12]
      refine runY_ok rkX8_erect (fun p => Nat.beq p 21 || Nat.beq p 85 || Nat.beq p 123) 200 _ _ _ _ _ _ ?_
      refine And.intro (fun c13 => ?_) (fun c13 => ?_)
      · try simp only [b01_eq, b01_ne, Classical.not_not] at c13
        exact K85 (by unfold kEr; rw [if_pos ⟨(hbl x).mpr (by assumption), by grind⟩, hcx]; grind)
      · try simp only [b01_eq, b01_ne, Classical.not_not] at c13
        refine pX8_erect_79 rfl rfl rfl hG.t4 (c_X8_hasSpaceForWelds (x := (1 + 1)) hG hN) (fun v κ1 hq14 ho14 hk14 => ?_)
        obtain ⟨rfl, ehq14⟩ := hq14
        rw [ehq14]
        refine runY_ok rkX8_erect (fun p => Nat.beq p 21 || Nat.beq p 85 || Nat.beq p 123) 200 _ _ _ _ _ _ ?_
        refine And.intro (fun c15 => ?_) (fun c15 => ?_)
        · try simp only [b01_eq, b01_ne, Classical.not_not] at c15
          refine pX8_erect_115 rfl rfl rfl (show CY w yX8_excess mX8_excess [.ref (tB x.toNatClampNeg), .ref (tB (nbA σ x.toNatClampNeg).toNatClampNeg), .ref (tB (nbB σ x.toNatClampNeg).toNatClampNeg)] κ (fun v κ' => v = some (.int (σ.2 14 x.toNatClampNeg - spc σ (nbA σ x.toNatClampNeg) (nbB σ x.toNatClampNeg))) ∧ κ' = κ) from ex_eq h (isB_cl (by omega) (by assumption)) (rsn_0 (by assumption : rsn σ x.toNatClampNeg = 0)) ha hc) (fun v κ1 hq16 ho16 hk16 => ?_)
          obtain ⟨rfl, ehq16⟩ := hq16
          rw [ehq16]
          refine runY_ok rkX8_erect (fun p => Nat.beq p 21 || Nat.beq p 85 || Nat.beq p 123) 200 _ _ _ _ _ _ ?_
          refine pX8_erect_118 rfl rfl rfl ?_
          refine runY_ok rkX8_erect (fun p => Nat.beq p 21 || Nat.beq p 85 || Nat.beq p 123) 200 _ _ _ _ _ _ ?_
          exact K123 _ (by unfold cutE; rw [if_pos (⟨ha, hc⟩ : ¬ (nbA σ x.toNatClampNeg) = -1 ∧ ¬ (nbB σ x.toNatClampNeg) = -1)]) (by assumption) (by grind) (by unfold kEr; rw [if_pos ⟨(hbl x).mpr (by assumption), by grind⟩, hcx]; grind)
        · try simp only [b01_eq, b01_ne, Classical.not_not] at c15
          exact K85 (by unfold kEr; rw [if_pos ⟨(hbl x).mpr (by assumption), by grind⟩, hcx]; grind)
    · try simp only [b01_eq, b01_ne, Classical.not_not] at c9
      exact K21 (by unfold kEr; rw [if_neg]; grind) _
  · skip
    rw [blO_n hs7] at hq7
    obtain ⟨rfl, ehq7⟩ := hq7
    rw [ehq7]
    refine runY_ok rkX8_erect (fun p => Nat.beq p 21 || Nat.beq p 85 || Nat.beq p 123) 200 _ _ _ _ _ _ ?_
    exact K21 (by unfold kEr; rw [if_neg]; grind) _


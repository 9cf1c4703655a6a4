
/-! THE LAW'S isBlock 3: a block is scrapped -/
def saF (l : LSt) (σ : MS) (b : Int32) (k : Nat) : LSt := fun j i => if j = 0 ∧ i < k ∧ whl σ (nI i) = b then l 0 i - l 0 i / 1024 * 1024 + 3072 else l j i
theorem saF_o {l : LSt} {σ : MS} {b : Int32} {k j i : Nat} (h : ¬ (j = 0 ∧ i < k ∧ whl σ (nI i) = b)) : saF l σ b k j i = l j i := if_neg h
theorem saF_0 {l : LSt} {σ : MS} {b : Int32} : saF l σ b 0 = l := funext fun j => funext fun i => saF_o (fun z => absurd z.2.1 (Nat.not_lt_zero _))
theorem saF_y {l : LSt} {σ : MS} {b : Int32} {k : Nat} (h : whl σ (nI k) = b) : lu (saF l σ b k) 0 k (saF l σ b k 0 k - saF l σ b k 0 k / 1024 * 1024 + 3072) = saF l σ b (k + 1) := by
  rw [saF_o (j := 0) (i := k) (fun z => absurd z.2.1 (Nat.lt_irrefl _))]
  funext j i
  by_cases e : j = 0 ∧ i = k
  · obtain ⟨rfl, rfl⟩ := e
    rw [lu_s]; exact (if_pos ⟨rfl, Nat.lt_succ_self _, h⟩).symm
  · rw [lu_o e]
    by_cases e2 : j = 0 ∧ i < k ∧ whl σ (nI i) = b
    · exact (if_pos e2).trans (if_pos ⟨e2.1, by omega, e2.2.2⟩).symm
    · exact (if_neg e2).trans (if_neg (fun z => e2 ⟨z.1, by omega, z.2.2⟩)).symm
theorem saF_n {l : LSt} {σ : MS} {b : Int32} {k : Nat} (h : ¬ whl σ (nI k) = b) : lu (saF l σ b k) 0 k (saF l σ b k 0 k) = saF l σ b (k + 1) := by
  rw [lu_id]
  funext j i
  by_cases e2 : j = 0 ∧ i < k ∧ whl σ (nI i) = b
  · exact (if_pos e2).trans (if_pos ⟨e2.1, by omega, e2.2.2⟩).symm
  · refine (if_neg e2).trans (if_neg (fun z => ?_)).symm
    by_cases ei : i = k
    · rw [ei] at z; exact h z.2.2
    · exact e2 ⟨z.1, by omega, z.2.2⟩
theorem Cp_sc {l : LSt} {σ : MS} {nb nw np : Nat} {b : Int32} (C : Cp l σ nb nw np) : Cp (saF l σ b nb) (scS (upS σ 34 0) b nb) nb nw np := by
  obtain ⟨⟨h1, h2, h3, h4⟩, ⟨B, W, R, G, z18⟩, hln⟩ := C
  have L : ∀ j k, j ≠ 0 → saF l σ b nb j k = l j k := fun j k h => saF_o (fun z => h z.1)
  have S : ∀ j, j ≠ 9 → (scS (upS σ 34 0) b nb).2 j = σ.2 j := fun j h => scS_row h
  have wc : ∀ x, whl (upS σ 34 0) x = whl σ x := fun x => whl_cong (fun _ => rfl) x
  have S9 : ∀ i, i < nb → (scS (upS σ 34 0) b nb).2 9 i = if whl σ (nI i) = b then 3 else σ.2 9 i := fun i hi => by
    rw [scS_9, wc]
    by_cases e : whl σ (nI i) = b
    · rw [if_pos ⟨hi, e⟩, if_pos e]
    · rw [if_neg (fun z => e z.2), if_neg e]; rfl
  refine ⟨⟨h1, h2, h3, h4⟩, ⟨fun i hi => ?_, W.cong (fun k _ => L 6 k (by decide)) (fun j _ _ k _ => by rw [S j (by omega)]) (Nat.le_refl _), R.cong (fun j _ _ c _ => L j c (by omega)) (fun j _ _ c _ => by rw [S j (by omega)]), G.cong (fun k => L 9 k (by decide)) (fun j hj => if_neg (by omega)) (fun y _ => by rw [S 5 (by decide)]), z18⟩, fun i hi h9 => ?_⟩
  · obtain ⟨⟨f, g, e, s, u, a1, a2, a3, a4, a5, a6, a7, a8, a9, a10, a11, a12, a13⟩, q1, q2, q3, q4, q5⟩ := B i hi
    by_cases eh : whl σ (nI i) = b
    · refine ⟨⟨f, g, e, 3, u, a1, a2, a3, by decide, a5, a6, a7, ?_, ?_, ?_, ?_, ?_, ?_⟩, ?_, ?_, ?_, fun z => ?_, ?_⟩
      · rw [S _ (by decide)]; exact a8
      · rw [S _ (by decide)]; exact a9
      · rw [S _ (by decide)]; exact a10
      · rw [S9 i hi, if_pos eh]; rfl
      · rw [S _ (by decide)]; exact a12
      · refine (if_pos ⟨rfl, hi, eh⟩).trans ?_
        rw [a13, eA_r a1 a2 a3 a4, show (3072 : Int32) = nI 3072 from rfl, nI_add]
        congr 1 <;> (unfold eA; omega)
      · rw [L _ _ (by decide), S _ (by decide)]; exact q1
      · rw [L _ _ (by decide), S _ (by decide)]; exact q2
      · rw [L _ _ (by decide), S _ (by decide)]; exact q3
      · rw [S9 i hi, if_pos eh] at z; exact absurd z (by decide)
      · rw [L _ _ (by decide), S _ (by decide)]; exact q5
    · refine ⟨⟨f, g, e, s, u, a1, a2, a3, a4, a5, a6, a7, ?_, ?_, ?_, ?_, ?_, ?_⟩, ?_, ?_, ?_, fun z => ?_, ?_⟩
      · rw [S _ (by decide)]; exact a8
      · rw [S _ (by decide)]; exact a9
      · rw [S _ (by decide)]; exact a10
      · rw [S9 i hi, if_neg eh]; exact a11
      · rw [S _ (by decide)]; exact a12
      · rw [saF_o (fun z => eh z.2.2)]; exact a13
      · rw [L _ _ (by decide), S _ (by decide)]; exact q1
      · rw [L _ _ (by decide), S _ (by decide)]; exact q2
      · rw [L _ _ (by decide), S _ (by decide)]; exact q3
      · rw [S9 i hi, if_neg eh] at z; rw [L _ _ (by decide), S _ (by decide)]; exact q4 z
      · rw [L _ _ (by decide), S _ (by decide)]; exact q5
  · rw [S9 i hi] at h9
    by_cases eh : whl σ (nI i) = b
    · rw [if_pos eh] at h9; exact absurd h9 (by decide)
    · rw [if_neg eh] at h9
      obtain ⟨n, f, g, x1, x2, x3, x4⟩ := hln i hi h9
      exact ⟨n, f, g, by rw [S _ (by decide)]; exact x1, by rw [S _ (by decide)]; exact x2, by rw [S _ (by decide)]; exact x3, x4⟩
set_option maxRecDepth 20000 in
theorem b_scrap {w : W0} {κ : AH} {p : Nat} {l : LSt} {θ0 : Nat → Nat} {x : Int32} {σ : MS} {o q nb nw np : Nat} {wb : Nat → Nat} {b : Nat} {y15 y16 : Int32} (A : AK κ) (hI : RI κ κ σ nb nw np wb) (C : Cp l σ nb nw np) (ho : o < 60000) (hq : q < 60000) (hb : b ≤ nb) : Y w mL_isBlock θ0 (PL κ p l) (fun v κ' => PQ κ p v κ') (fun _ _ => False) 0 0 1074 [some (.ref (tS 4)), some (.ref (tM 0)), some (.ref (tM 1)), some (.ref (tM 2)), some (.ref (tM 3)), some (.ref (tM 4)), some (.ref (tM 5)), some (.ref (tM 6)), some (.ref (tM 7)), some (.ref (tM 8)), some (.ref (tM 9)), some (.int x), some (.int (nI o)), some (.int (nI q)), some (.int (nI b)), some (.int y15), some (.int y16), none, none, none, none, none, none] [] (PL κ p l) := by
  have e8 : σ.1 8 = nI nb := hI.1.e8
  have e18 : σ.1 18 = nI nw := hI.1.e18
  have e30 : σ.1 30 = nI np := hI.1.2.2.2.2.2.1
  obtain ⟨⟨hb40, hw60, hp10, h6⟩, D, hln⟩ := id C
  obtain ⟨CB, CW, CR, CG, z18⟩ := id D
  have a11 : l 9 11 = nI nw := CG.2.2.2.2.2.2.2.2.1
  have a10 : l 9 10 = nI nb := CG.2.2.2.2.2.2.2.1
  have h60 : nb ≤ 60 := by omega
  have IB : ∀ k, k < 100 → (isBlk σ (nI k) ↔ k < nb) := fun k hk => (isB_blk h60 e8).trans ⟨fun z => (nI_ltI (by omega) (by omega)).mp z.2, fun z => ⟨nI_pos' (by omega), nI_lt z (by omega)⟩⟩
  have N1 : b = nb → Y w mL_isBlock θ0 (PL κ p l) (fun v κ' => PQ κ p v κ') (fun _ _ => False) 0 0 1074 [some (.ref (tS 4)), some (.ref (tM 0)), some (.ref (tM 1)), some (.ref (tM 2)), some (.ref (tM 3)), some (.ref (tM 4)), some (.ref (tM 5)), some (.ref (tM 6)), some (.ref (tM 7)), some (.ref (tM 8)), some (.ref (tM 9)), some (.int x), some (.int (nI o)), some (.int (nI q)), some (.int (nI b)), some (.int y15), some (.int y16), none, none, none, none, none, none] [] (PL κ p l) := by
    intro hbn
    have k1 : kScr σ (nI b) = 1 := by unfold kScr; exact if_neg (fun z => by have := (IB b (by omega)).mp z; omega)
    have em : mScr σ nb (nI b) = (0, upS σ 34 1) := by unfold mScr; rw [if_neg (by rw [k1]; decide), k1]
    refine runL_go (κ := κ) (p := p) rkL_isBlock noCut 300 rfl ?_
    refine ⟨9, 10, A.ld (by decide) (by decide) rfl, ?_⟩
    refine And.intro (fun c1081 => ?_) (fun c1081 => False.elim (by first | exact c1081 (by rw [a10, hbn]; exact Int32.le_refl _) | exact absurd (by rw [a10, hbn]; exact Int32.le_refl _) c1081 | exact absurd c1081 (by rw [a10, hbn]; exact Int32.le_refl _)))
    refine And.intro (fun c1093 => ?_) (fun c1093 => False.elim (by first | exact c1093 (by decide) | exact absurd (by decide) c1093 | exact absurd c1093 (by decide)))
    refine ⟨9, 10, A.ld (by decide) (by decide) rfl, ?_⟩
    refine And.intro (fun c1126 => ?_) (fun c1126 => ?_)
    · skip
      refine ⟨9, 10, A.ld (by decide) (by decide) rfl, ?_⟩
      refine And.intro (fun c1184 => ?_) (fun c1184 => ?_)
      · skip
        refine pL_isBlock_1243 rfl rfl rfl (w_scrap (RI_PL hI)) (fun v κ1 hq1243 ho1243 hk1243 => ?_)
        obtain ⟨rfl, hre⟩ := hq1243
        obtain ⟨κ1, rfl, hR1, hk1⟩ := PL_back hre
        have A1 := AK_of A hk1
        refine runL_ok rkL_isBlock noCut 300 _ _ _ _ _ _ ?_
        refine And.intro (fun c1248 => False.elim (by first | exact c1248 (by decide) | exact absurd (by decide) c1248 | exact absurd c1248 (by decide))) (fun c1248 => ?_)
        refine pL_isBlock_1251 ?_
        refine runL_ok rkL_isBlock noCut 300 _ _ _ _ _ _ ?_
        refine And.intro (fun c1268 => False.elim (by first | exact c1268 (show dv (-3000000) (-1000000) 0 (mScr σ nb (nI b)) = -3000000 by rw [em]; rfl) | exact absurd (show dv (-3000000) (-1000000) 0 (mScr σ nb (nI b)) = -3000000 by rw [em]; rfl) c1268 | exact absurd c1268 (show dv (-3000000) (-1000000) 0 (mScr σ nb (nI b)) = -3000000 by rw [em]; rfl))) (fun c1268 => ?_)
        refine And.intro ⟨Nat.le_of_ble_eq_true rfl, Nat.le_of_ble_eq_true rfl⟩ ?_
        refine And.intro (by first | exact Or.inl rfl | exact Or.inr rfl) ?_
        rw [em] at hR1
        exact PQ_of hR1 hk1 e8 e30 (Cp_34 C)
      · skip
        refine And.intro (fun c1189 => ?_) (fun c1189 => False.elim (by first | exact c1189 (by decide) | exact absurd (by decide) c1189 | exact absurd c1189 (by decide)))
        refine pL_isBlock_1243 rfl rfl rfl (w_scrap (RI_PL hI)) (fun v κ1 hq1243 ho1243 hk1243 => ?_)
        obtain ⟨rfl, hre⟩ := hq1243
        obtain ⟨κ1, rfl, hR1, hk1⟩ := PL_back hre
        have A1 := AK_of A hk1
        refine runL_ok rkL_isBlock noCut 300 _ _ _ _ _ _ ?_
        refine And.intro (fun c1248 => False.elim (by first | exact c1248 (by decide) | exact absurd (by decide) c1248 | exact absurd c1248 (by decide))) (fun c1248 => ?_)
        refine pL_isBlock_1251 ?_
        refine runL_ok rkL_isBlock noCut 300 _ _ _ _ _ _ ?_
        refine And.intro (fun c1268 => False.elim (by first | exact c1268 (show dv (-3000000) (-1000000) 0 (mScr σ nb (nI b)) = -3000000 by rw [em]; rfl) | exact absurd (show dv (-3000000) (-1000000) 0 (mScr σ nb (nI b)) = -3000000 by rw [em]; rfl) c1268 | exact absurd c1268 (show dv (-3000000) (-1000000) 0 (mScr σ nb (nI b)) = -3000000 by rw [em]; rfl))) (fun c1268 => ?_)
        refine And.intro ⟨Nat.le_of_ble_eq_true rfl, Nat.le_of_ble_eq_true rfl⟩ ?_
        refine And.intro (by first | exact Or.inl rfl | exact Or.inr rfl) ?_
        rw [em] at hR1
        exact PQ_of hR1 hk1 e8 e30 (Cp_34 C)
    · skip
      refine And.intro (fun c1131 => ?_) (fun c1131 => False.elim (by first | exact c1131 (by decide) | exact absurd (by decide) c1131 | exact absurd c1131 (by decide)))
      refine ⟨9, 10, A.ld (by decide) (by decide) rfl, ?_⟩
      refine And.intro (fun c1184 => ?_) (fun c1184 => ?_)
      · skip
        refine pL_isBlock_1243 rfl rfl rfl (w_scrap (RI_PL hI)) (fun v κ1 hq1243 ho1243 hk1243 => ?_)
        obtain ⟨rfl, hre⟩ := hq1243
        obtain ⟨κ1, rfl, hR1, hk1⟩ := PL_back hre
        have A1 := AK_of A hk1
        refine runL_ok rkL_isBlock noCut 300 _ _ _ _ _ _ ?_
        refine And.intro (fun c1248 => False.elim (by first | exact c1248 (by decide) | exact absurd (by decide) c1248 | exact absurd c1248 (by decide))) (fun c1248 => ?_)
        refine pL_isBlock_1251 ?_
        refine runL_ok rkL_isBlock noCut 300 _ _ _ _ _ _ ?_
        refine And.intro (fun c1268 => False.elim (by first | exact c1268 (show dv (-3000000) (-1000000) 0 (mScr σ nb (nI b)) = -3000000 by rw [em]; rfl) | exact absurd (show dv (-3000000) (-1000000) 0 (mScr σ nb (nI b)) = -3000000 by rw [em]; rfl) c1268 | exact absurd c1268 (show dv (-3000000) (-1000000) 0 (mScr σ nb (nI b)) = -3000000 by rw [em]; rfl))) (fun c1268 => ?_)
        refine And.intro ⟨Nat.le_of_ble_eq_true rfl, Nat.le_of_ble_eq_true rfl⟩ ?_
        refine And.intro (by first | exact Or.inl rfl | exact Or.inr rfl) ?_
        rw [em] at hR1
        exact PQ_of hR1 hk1 e8 e30 (Cp_34 C)
      · skip
        refine And.intro (fun c1189 => ?_) (fun c1189 => False.elim (by first | exact c1189 (by decide) | exact absurd (by decide) c1189 | exact absurd c1189 (by decide)))
        refine pL_isBlock_1243 rfl rfl rfl (w_scrap (RI_PL hI)) (fun v κ1 hq1243 ho1243 hk1243 => ?_)
        obtain ⟨rfl, hre⟩ := hq1243
        obtain ⟨κ1, rfl, hR1, hk1⟩ := PL_back hre
        have A1 := AK_of A hk1
        refine runL_ok rkL_isBlock noCut 300 _ _ _ _ _ _ ?_
        refine And.intro (fun c1248 => False.elim (by first | exact c1248 (by decide) | exact absurd (by decide) c1248 | exact absurd c1248 (by decide))) (fun c1248 => ?_)
        refine pL_isBlock_1251 ?_
        refine runL_ok rkL_isBlock noCut 300 _ _ _ _ _ _ ?_
        refine And.intro (fun c1268 => False.elim (by first | exact c1268 (show dv (-3000000) (-1000000) 0 (mScr σ nb (nI b)) = -3000000 by rw [em]; rfl) | exact absurd (show dv (-3000000) (-1000000) 0 (mScr σ nb (nI b)) = -3000000 by rw [em]; rfl) c1268 | exact absurd c1268 (show dv (-3000000) (-1000000) 0 (mScr σ nb (nI b)) = -3000000 by rw [em]; rfl))) (fun c1268 => ?_)
        refine And.intro ⟨Nat.le_of_ble_eq_true rfl, Nat.le_of_ble_eq_true rfl⟩ ?_
        refine And.intro (by first | exact Or.inl rfl | exact Or.inr rfl) ?_
        rw [em] at hR1
        exact PQ_of hR1 hk1 e8 e30 (Cp_34 C)
  have N2 : b < nb → ¬ σ.2 9 b = 0 → Y w mL_isBlock θ0 (PL κ p l) (fun v κ' => PQ κ p v κ') (fun _ _ => False) 0 0 1074 [some (.ref (tS 4)), some (.ref (tM 0)), some (.ref (tM 1)), some (.ref (tM 2)), some (.ref (tM 3)), some (.ref (tM 4)), some (.ref (tM 5)), some (.ref (tM 6)), some (.ref (tM 7)), some (.ref (tM 8)), some (.ref (tM 9)), some (.int x), some (.int (nI o)), some (.int (nI q)), some (.int (nI b)), some (.int y15), some (.int y16), none, none, none, none, none, none] [] (PL κ p l) := by
    intro hbn h9
    have k1 : kScr σ (nI b) = 2 := by unfold kScr; rw [if_pos ((IB b (by omega)).mpr hbn), nI_clamp (by omega)]; exact if_neg h9
    have em : mScr σ nb (nI b) = (0, upS σ 34 2) := by unfold mScr; rw [if_neg (by rw [k1]; decide), k1]
    have h1024 : ¬ l 0 b < 1024 := by
      obtain ⟨f, g, e, s, u, a1, a2, a3, a4, a5, a6, a7, a8, a9, a10, a11, a12, a13⟩ := (CB b hbn).1
      rw [a13, eA_lo a1 a2 a3 a4]
      exact fun z => h9 (by rw [a11, z]; rfl)
    refine runL_go (κ := κ) (p := p) rkL_isBlock noCut 300 rfl ?_
    refine ⟨9, 10, A.ld (by decide) (by decide) rfl, ?_⟩
    refine And.intro (fun c1081 => False.elim (by first | exact c1081 (by rw [a10]; exact fun z => by have := (nI_leI (by omega) (by omega)).mp z; omega) | exact absurd (by rw [a10]; exact fun z => by have := (nI_leI (by omega) (by omega)).mp z; omega) c1081 | exact absurd c1081 (by rw [a10]; exact fun z => by have := (nI_leI (by omega) (by omega)).mp z; omega))) (fun c1081 => ?_)
    refine And.intro (fun c1093 => False.elim (by first | exact c1093 (by decide) | exact absurd (by decide) c1093 | exact absurd c1093 (by decide))) (fun c1093 => ?_)
    refine ⟨0, b, A.ld (by decide) (show b < 40 by omega) rfl, ?_⟩
    refine And.intro (fun c1103 => ?_) (fun c1103 => False.elim (by first | exact c1103 (Int32.not_lt.mp h1024) | exact absurd (Int32.not_lt.mp h1024) c1103 | exact absurd c1103 (Int32.not_lt.mp h1024)))
    refine ⟨9, 10, A.ld (by decide) (by decide) rfl, ?_⟩
    refine And.intro (fun c1126 => ?_) (fun c1126 => ?_)
    · skip
      refine ⟨9, 10, A.ld (by decide) (by decide) rfl, ?_⟩
      refine And.intro (fun c1184 => ?_) (fun c1184 => ?_)
      · skip
        refine pL_isBlock_1243 rfl rfl rfl (w_scrap (RI_PL hI)) (fun v κ1 hq1243 ho1243 hk1243 => ?_)
        obtain ⟨rfl, hre⟩ := hq1243
        obtain ⟨κ1, rfl, hR1, hk1⟩ := PL_back hre
        have A1 := AK_of A hk1
        refine runL_ok rkL_isBlock noCut 300 _ _ _ _ _ _ ?_
        refine And.intro (fun c1248 => ?_) (fun c1248 => False.elim (by first | exact c1248 (by decide) | exact absurd (by decide) c1248 | exact absurd c1248 (by decide)))
        refine And.intro (fun c1258 => ?_) (fun c1258 => False.elim (by first | exact c1258 (by decide) | exact absurd (by decide) c1258 | exact absurd c1258 (by decide)))
        refine pL_isBlock_1266 ?_
        refine runL_ok rkL_isBlock noCut 300 _ _ _ _ _ _ ?_
        refine And.intro (fun c1268 => False.elim (by first | exact c1268 (show dv (-3000000) (-1000000) 0 (mScr σ nb (nI b)) = -1000000 by rw [em]; rfl) | exact absurd (show dv (-3000000) (-1000000) 0 (mScr σ nb (nI b)) = -1000000 by rw [em]; rfl) c1268 | exact absurd c1268 (show dv (-3000000) (-1000000) 0 (mScr σ nb (nI b)) = -1000000 by rw [em]; rfl))) (fun c1268 => ?_)
        refine And.intro ⟨Nat.le_of_ble_eq_true rfl, Nat.le_of_ble_eq_true rfl⟩ ?_
        refine And.intro (by first | exact Or.inl rfl | exact Or.inr rfl) ?_
        rw [em] at hR1
        exact PQ_of hR1 hk1 e8 e30 (Cp_34 C)
      · skip
        refine And.intro (fun c1189 => ?_) (fun c1189 => False.elim (by first | exact c1189 (by decide) | exact absurd (by decide) c1189 | exact absurd c1189 (by decide)))
        refine pL_isBlock_1243 rfl rfl rfl (w_scrap (RI_PL hI)) (fun v κ1 hq1243 ho1243 hk1243 => ?_)
        obtain ⟨rfl, hre⟩ := hq1243
        obtain ⟨κ1, rfl, hR1, hk1⟩ := PL_back hre
        have A1 := AK_of A hk1
        refine runL_ok rkL_isBlock noCut 300 _ _ _ _ _ _ ?_
        refine And.intro (fun c1248 => ?_) (fun c1248 => False.elim (by first | exact c1248 (by decide) | exact absurd (by decide) c1248 | exact absurd c1248 (by decide)))
        refine And.intro (fun c1258 => ?_) (fun c1258 => False.elim (by first | exact c1258 (by decide) | exact absurd (by decide) c1258 | exact absurd c1258 (by decide)))
        refine pL_isBlock_1266 ?_
        refine runL_ok rkL_isBlock noCut 300 _ _ _ _ _ _ ?_
        refine And.intro (fun c1268 => False.elim (by first | exact c1268 (show dv (-3000000) (-1000000) 0 (mScr σ nb (nI b)) = -1000000 by rw [em]; rfl) | exact absurd (show dv (-3000000) (-1000000) 0 (mScr σ nb (nI b)) = -1000000 by rw [em]; rfl) c1268 | exact absurd c1268 (show dv (-3000000) (-1000000) 0 (mScr σ nb (nI b)) = -1000000 by rw [em]; rfl))) (fun c1268 => ?_)
        refine And.intro ⟨Nat.le_of_ble_eq_true rfl, Nat.le_of_ble_eq_true rfl⟩ ?_
        refine And.intro (by first | exact Or.inl rfl | exact Or.inr rfl) ?_
        rw [em] at hR1
        exact PQ_of hR1 hk1 e8 e30 (Cp_34 C)
    · skip
      refine And.intro (fun c1131 => ?_) (fun c1131 => False.elim (by first | exact c1131 (by decide) | exact absurd (by decide) c1131 | exact absurd c1131 (by decide)))
      refine ⟨9, 10, A.ld (by decide) (by decide) rfl, ?_⟩
      refine And.intro (fun c1184 => ?_) (fun c1184 => ?_)
      · skip
        refine pL_isBlock_1243 rfl rfl rfl (w_scrap (RI_PL hI)) (fun v κ1 hq1243 ho1243 hk1243 => ?_)
        obtain ⟨rfl, hre⟩ := hq1243
        obtain ⟨κ1, rfl, hR1, hk1⟩ := PL_back hre
        have A1 := AK_of A hk1
        refine runL_ok rkL_isBlock noCut 300 _ _ _ _ _ _ ?_
        refine And.intro (fun c1248 => ?_) (fun c1248 => False.elim (by first | exact c1248 (by decide) | exact absurd (by decide) c1248 | exact absurd c1248 (by decide)))
        refine And.intro (fun c1258 => ?_) (fun c1258 => False.elim (by first | exact c1258 (by decide) | exact absurd (by decide) c1258 | exact absurd c1258 (by decide)))
        refine pL_isBlock_1266 ?_
        refine runL_ok rkL_isBlock noCut 300 _ _ _ _ _ _ ?_
        refine And.intro (fun c1268 => False.elim (by first | exact c1268 (show dv (-3000000) (-1000000) 0 (mScr σ nb (nI b)) = -1000000 by rw [em]; rfl) | exact absurd (show dv (-3000000) (-1000000) 0 (mScr σ nb (nI b)) = -1000000 by rw [em]; rfl) c1268 | exact absurd c1268 (show dv (-3000000) (-1000000) 0 (mScr σ nb (nI b)) = -1000000 by rw [em]; rfl))) (fun c1268 => ?_)
        refine And.intro ⟨Nat.le_of_ble_eq_true rfl, Nat.le_of_ble_eq_true rfl⟩ ?_
        refine And.intro (by first | exact Or.inl rfl | exact Or.inr rfl) ?_
        rw [em] at hR1
        exact PQ_of hR1 hk1 e8 e30 (Cp_34 C)
      · skip
        refine And.intro (fun c1189 => ?_) (fun c1189 => False.elim (by first | exact c1189 (by decide) | exact absurd (by decide) c1189 | exact absurd c1189 (by decide)))
        refine pL_isBlock_1243 rfl rfl rfl (w_scrap (RI_PL hI)) (fun v κ1 hq1243 ho1243 hk1243 => ?_)
        obtain ⟨rfl, hre⟩ := hq1243
        obtain ⟨κ1, rfl, hR1, hk1⟩ := PL_back hre
        have A1 := AK_of A hk1
        refine runL_ok rkL_isBlock noCut 300 _ _ _ _ _ _ ?_
        refine And.intro (fun c1248 => ?_) (fun c1248 => False.elim (by first | exact c1248 (by decide) | exact absurd (by decide) c1248 | exact absurd c1248 (by decide)))
        refine And.intro (fun c1258 => ?_) (fun c1258 => False.elim (by first | exact c1258 (by decide) | exact absurd (by decide) c1258 | exact absurd c1258 (by decide)))
        refine pL_isBlock_1266 ?_
        refine runL_ok rkL_isBlock noCut 300 _ _ _ _ _ _ ?_
        refine And.intro (fun c1268 => False.elim (by first | exact c1268 (show dv (-3000000) (-1000000) 0 (mScr σ nb (nI b)) = -1000000 by rw [em]; rfl) | exact absurd (show dv (-3000000) (-1000000) 0 (mScr σ nb (nI b)) = -1000000 by rw [em]; rfl) c1268 | exact absurd c1268 (show dv (-3000000) (-1000000) 0 (mScr σ nb (nI b)) = -1000000 by rw [em]; rfl))) (fun c1268 => ?_)
        refine And.intro ⟨Nat.le_of_ble_eq_true rfl, Nat.le_of_ble_eq_true rfl⟩ ?_
        refine And.intro (by first | exact Or.inl rfl | exact Or.inr rfl) ?_
        rw [em] at hR1
        exact PQ_of hR1 hk1 e8 e30 (Cp_34 C)
  by_cases hbn : b < nb
  · by_cases h9 : σ.2 9 b = 0
    · skip
      have k1 : kScr σ (nI b) = 0 := by unfold kScr; rw [if_pos ((IB b (by omega)).mpr hbn), nI_clamp (by omega)]; exact if_pos h9
      have em : mScr σ nb (nI b) = (sm (fSc σ (nI b)) nb, scS (upS σ 34 0) (nI b) nb) := by unfold mScr; rw [if_pos k1]
      have h1024 : l 0 b < 1024 := by
        obtain ⟨f, g, e, s, u, a1, a2, a3, a4, a5, a6, a7, a8, a9, a10, a11, a12, a13⟩ := (CB b hbn).1
        rw [a13, eA_lo a1 a2 a3 a4]
        exact (nI_eq (b := 0) (by omega) (by decide)).mp (a11.symm.trans h9)
      have Z1233 : ∀ (n k : Int32) (y21 : Option Value), n = sm (fSc σ (nI b)) nb → Y w mL_isBlock θ0 (PL κ p l) (fun v κ' => PQ κ p v κ') (fun _ _ => False) 0 0 1233 [some (.ref (tS 4)), some (.ref (tM 0)), some (.ref (tM 1)), some (.ref (tM 2)), some (.ref (tM 3)), some (.ref (tM 4)), some (.ref (tM 5)), some (.ref (tM 6)), some (.ref (tM 7)), some (.ref (tM 8)), some (.ref (tM 9)), some (.int x), some (.int (nI o)), some (.int (nI q)), some (.int (nI b)), some (.int y15), some (.int y16), some (.int 1), some (.int 1), some (.int n), some (.int k), y21, none] [] (PL κ p (saF l σ (nI b) nb)) := by
        intro n k y21 hn
        refine runL_go (κ := κ) (p := p) rkL_isBlock noCut 300 rfl ?_
        refine pL_isBlock_1243 rfl rfl rfl (w_scrap (RI_PL hI)) (fun v κ1 hq1243 ho1243 hk1243 => ?_)
        obtain ⟨rfl, hre⟩ := hq1243
        obtain ⟨κ1, rfl, hR1, hk1⟩ := PL_back hre
        have A1 := AK_of A hk1
        refine runL_ok rkL_isBlock noCut 300 _ _ _ _ _ _ ?_
        refine And.intro (fun c1248 => ?_) (fun c1248 => False.elim (by first | exact c1248 (by decide) | exact absurd (by decide) c1248 | exact absurd c1248 (by decide)))
        refine And.intro (fun c1258 => False.elim (by first | exact c1258 (by decide) | exact absurd (by decide) c1258 | exact absurd c1258 (by decide))) (fun c1258 => ?_)
        refine And.intro (fun c1268 => False.elim (by first | exact c1268 (show dv (-3000000) (-1000000) 0 (mScr σ nb (nI b)) = n by rw [em, hn]; rfl) | exact absurd (show dv (-3000000) (-1000000) 0 (mScr σ nb (nI b)) = n by rw [em, hn]; rfl) c1268 | exact absurd c1268 (show dv (-3000000) (-1000000) 0 (mScr σ nb (nI b)) = n by rw [em, hn]; rfl))) (fun c1268 => ?_)
        refine And.intro ⟨Nat.le_of_ble_eq_true rfl, Nat.le_of_ble_eq_true rfl⟩ ?_
        refine And.intro (by first | exact Or.inl rfl | exact Or.inr rfl) ?_
        rw [em] at hR1
        exact PQ_of hR1 hk1 e8 e30 (Cp_sc C)
      have L2 : ∀ m k : Nat, m + k = nb → ∀ (n : Int32) (y21 : Option Value), n = sm (fSc σ (nI b)) nb → Y w mL_isBlock θ0 (PL κ p l) (fun v κ' => PQ κ p v κ') (fun _ _ => False) 0 0 1177 [some (.ref (tS 4)), some (.ref (tM 0)), some (.ref (tM 1)), some (.ref (tM 2)), some (.ref (tM 3)), some (.ref (tM 4)), some (.ref (tM 5)), some (.ref (tM 6)), some (.ref (tM 7)), some (.ref (tM 8)), some (.ref (tM 9)), some (.int x), some (.int (nI o)), some (.int (nI q)), some (.int (nI b)), some (.int y15), some (.int y16), some (.int 1), some (.int 1), some (.int n), some (.int (nI k)), y21, none] [] (PL κ p (saF l σ (nI b) k)) := by
        intro m
        induction m with
        | zero =>
          intro k hk n y21 hn
          have ek : k = nb := by omega
          subst ek
          refine runL_go (κ := κ) (p := p) rkL_isBlock (fun p => Nat.beq p 1177 || Nat.beq p 1233) 300 rfl ?_
          refine ⟨9, 10, A.ld (by decide) (by decide) rfl, ?_⟩
          rw [saF_o (fun z => absurd z.1 (by decide)), a10]
          exact And.intro (fun _ => Z1233 n _ _ hn) (fun c => absurd (Int32.le_refl _) c)
        | succ m ih =>
          intro k hk n y21 hn
          refine runL_go (κ := κ) (p := p) rkL_isBlock (fun p => Nat.beq p 1177 || Nat.beq p 1233) 300 rfl ?_
          refine ⟨9, 10, A.ld (by decide) (by decide) rfl, ?_⟩
          rw [saF_o (fun z => absurd z.1 (by decide)), a10]
          refine And.intro (fun c => absurd ((nI_leI (by omega) (by omega)).mp c) (by omega)) (fun _ => ?_)
          refine And.intro (fun c => absurd c (by decide)) (fun _ => ?_)
          refine pL_isBlock_1199 rfl rfl rfl (c_L_whole A (σ := σ) (nb := nb) hI.1.ch hb40 (fun i hi => (saF_o (fun z => absurd z.1 (by decide))).trans (CB i hi).2.2.2.2.2) (Or.inr ⟨k, by omega, rfl⟩)) (fun v κ1 hq ho hk => ?_)
          obtain ⟨rfl, rfl⟩ := hq
          rw [if_neg (nI_mm (by omega) : ¬ nI k = -1)]
          refine runL_ok rkL_isBlock (fun p => Nat.beq p 1177 || Nat.beq p 1233) 300 _ _ _ _ _ _ ?_
          refine And.intro (fun c1204 => ?_) (fun c1204 => ?_)
          · refine ⟨0, k, A.ld (by decide) (show k < 40 by omega) rfl, ?_⟩
            refine ⟨0, k, A.ld (by decide) (show k < 40 by omega) rfl, ?_⟩
            have Z := ih (k + 1) (by omega) n y21 hn
            rw [← nI_1 k, ← saF_n c1204] at Z
            exact Z
          · refine ⟨0, k, A.ld (by decide) (show k < 40 by omega) rfl, ?_⟩
            refine And.intro (by decide) ?_
            refine ⟨0, k, A.ld (by decide) (show k < 40 by omega) rfl, ?_⟩
            have Z := ih (k + 1) (by omega) n y21 hn
            rw [← nI_1 k, ← saF_y c1204] at Z
            exact Z
      have L1 : ∀ m k : Nat, m + k = nb → ∀ (n : Int32) (y21 : Option Value), n = sm (fSc σ (nI b)) k → Y w mL_isBlock θ0 (PL κ p l) (fun v κ' => PQ κ p v κ') (fun _ _ => False) 0 0 1119 [some (.ref (tS 4)), some (.ref (tM 0)), some (.ref (tM 1)), some (.ref (tM 2)), some (.ref (tM 3)), some (.ref (tM 4)), some (.ref (tM 5)), some (.ref (tM 6)), some (.ref (tM 7)), some (.ref (tM 8)), some (.ref (tM 9)), some (.int x), some (.int (nI o)), some (.int (nI q)), some (.int (nI b)), some (.int y15), some (.int y16), some (.int 1), some (.int 1), some (.int n), some (.int (nI k)), y21, none] [] (PL κ p l) := by
        have Z1174 : ∀ (n k : Int32) (y21 : Option Value), n = sm (fSc σ (nI b)) nb → Y w mL_isBlock θ0 (PL κ p l) (fun v κ' => PQ κ p v κ') (fun _ _ => False) 0 0 1174 [some (.ref (tS 4)), some (.ref (tM 0)), some (.ref (tM 1)), some (.ref (tM 2)), some (.ref (tM 3)), some (.ref (tM 4)), some (.ref (tM 5)), some (.ref (tM 6)), some (.ref (tM 7)), some (.ref (tM 8)), some (.ref (tM 9)), some (.int x), some (.int (nI o)), some (.int (nI q)), some (.int (nI b)), some (.int y15), some (.int y16), some (.int 1), some (.int 1), some (.int n), some (.int k), y21, none] [] (PL κ p l) := by
          intro n k y21 hn
          have Z := L2 nb 0 (by omega) n y21 hn
          rw [saF_0] at Z
          refine runL_go (κ := κ) (p := p) rkL_isBlock (fun p => Nat.beq p 1177) 300 rfl ?_
          exact Z
        intro m
        induction m with
        | zero =>
          intro k hk n y21 hn
          have ek : k = nb := by omega
          subst ek
          refine runL_go (κ := κ) (p := p) rkL_isBlock (fun p => Nat.beq p 1119 || Nat.beq p 1174) 300 rfl ?_
          refine ⟨9, 10, A.ld (by decide) (by decide) rfl, ?_⟩
          rw [a10]
          exact And.intro (fun _ => Z1174 n _ _ hn) (fun c => absurd (Int32.le_refl _) c)
        | succ m ih =>
          intro k hk n y21 hn
          refine runL_go (κ := κ) (p := p) rkL_isBlock (fun p => Nat.beq p 1119 || Nat.beq p 1174) 300 rfl ?_
          refine ⟨9, 10, A.ld (by decide) (by decide) rfl, ?_⟩
          rw [a10]
          refine And.intro (fun c => absurd ((nI_leI (by omega) (by omega)).mp c) (by omega)) (fun _ => ?_)
          refine And.intro (fun c => absurd c (by decide)) (fun _ => ?_)
          refine pL_isBlock_1138 rfl rfl rfl (c_L_whole A (σ := σ) (nb := nb) hI.1.ch hb40 (fun i hi => (CB i hi).2.2.2.2.2) (Or.inr ⟨k, by omega, rfl⟩)) (fun v κ1 hq ho hk => ?_)
          obtain ⟨rfl, rfl⟩ := hq
          rw [if_neg (nI_mm (by omega) : ¬ nI k = -1)]
          refine runL_ok rkL_isBlock (fun p => Nat.beq p 1119 || Nat.beq p 1174) 300 _ _ _ _ _ _ ?_
          refine And.intro (fun c1143 => ?_) (fun c1143 => ?_)
          · refine And.intro (fun _ => ?_) (fun c => absurd rfl c)
            have Z := ih (k + 1) (by omega) (n + 0) (some (.int 0)) (by show _ = sm (fSc σ (nI b)) k + fSc σ (nI b) k; rw [show fSc σ (nI b) k = 0 from if_neg c1143, hn])
            rw [← nI_1 k] at Z
            exact Z
          · refine And.intro (fun c => absurd c (by decide)) (fun _ => ?_)
            have Z := ih (k + 1) (by omega) (n + 1) (some (.int 1)) (by show _ = sm (fSc σ (nI b)) k + fSc σ (nI b) k; rw [show fSc σ (nI b) k = 1 from if_pos c1143, hn])
            rw [← nI_1 k] at Z
            exact Z
      refine runL_go (κ := κ) (p := p) rkL_isBlock (fun p => Nat.beq p 1119) 300 rfl ?_
      refine ⟨9, 10, A.ld (by decide) (by decide) rfl, ?_⟩
      refine And.intro (fun c1081 => False.elim (by first | exact c1081 (by rw [a10]; exact fun z => by have := (nI_leI (by omega) (by omega)).mp z; omega) | exact absurd (by rw [a10]; exact fun z => by have := (nI_leI (by omega) (by omega)).mp z; omega) c1081 | exact absurd c1081 (by rw [a10]; exact fun z => by have := (nI_leI (by omega) (by omega)).mp z; omega))) (fun c1081 => ?_)
      refine And.intro (fun c1093 => False.elim (by first | exact c1093 (by decide) | exact absurd (by decide) c1093 | exact absurd c1093 (by decide))) (fun c1093 => ?_)
      refine ⟨0, b, A.ld (by decide) (show b < 40 by omega) rfl, ?_⟩
      refine And.intro (fun c1103 => False.elim (by first | exact c1103 (Int32.not_le.mpr h1024) | exact absurd (Int32.not_le.mpr h1024) c1103 | exact absurd c1103 (Int32.not_le.mpr h1024))) (fun c1103 => ?_)
      exact L1 nb 0 rfl _ _ rfl
    · exact N2 hbn h9
  · exact N1 (by omega)

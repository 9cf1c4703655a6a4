
/-! THE LAW'S isBlock 2: a block is put on the berth; a block is scrapped -/
theorem rsn_34 {σ : MS} {c : Int32} {i : Nat} : rsn (upS σ 34 c) i = rsn σ i := rfl
theorem IV_34x {κ0 κ : AH} {σ : MS} {nb nw np : Nat} {wb : Nat → Nat} (h : RI κ0 κ σ nb nw np wb) (c : Int32) : IV (upS σ 34 c) nb nw np := (s_34 (c := c) h).1

theorem rsnZ0 {σ : MS} {i : Nat} (h : ¬ 0 < rsn σ i) : rsn σ i = 0 := by
  unfold rsn at h ⊢
  split at h
  · exact absurd (by decide) h
  · rename_i z; rw [if_neg z]
    split at h
    · exact absurd (by decide) h
    · rename_i z; rw [if_neg z]
      split at h
      · exact absurd (by decide) h
      · rename_i z; rw [if_neg z]
        unfold rsn2 at h ⊢
        split at h
        · exact absurd (by decide) h
        · rename_i z; rw [if_neg z]
          split at h
          · exact absurd (by decide) h
          · rename_i z; rw [if_neg z]
            split at h
            · rename_i z; rw [if_pos z]
            · rename_i z; rw [if_neg z]
              split at h
              · exact absurd (by decide) h
              · rename_i z; rw [if_neg z]
theorem erD_num {σ : MS} {f v a : Int32} {y n : Nat} (h4 : n ≠ 4) (h7 : n ≠ 7) (h18 : n ≠ 18) : (erD σ f v a y).1 n = σ.1 n := by
  unfold erD
  split
  · exact sMak_num (y := y) h4 h7 h18
  · rfl
theorem er_num {σ : MS} {i y n : Nat} {b a c : Int32} (h4 : n ≠ 4) (h7 : n ≠ 7) (h18 : n ≠ 18) : (sEr σ i b a c y).1 n = σ.1 n := by
  unfold sEr
  rw [erD_num h4 h7 h18, erD_num h4 h7 h18, erC_num h7]
theorem erD_row {σ : MS} {f v a : Int32} {y j : Nat} (h : j < 19) : (erD σ f v a y).2 j = σ.2 j := by
  unfold erD
  split
  · rw [sSpo_row (by omega), sMak_row (Or.inl h)]
  · rfl
theorem er_ln {σ : MS} {nb i y : Nat} {b a c k : Int32} (h : cLn σ nb) : cLn (sEr (upS σ 34 k) i b a c y) nb := by
  intro j hj h9
  have S : ∀ r, r < 19 → ¬ j = i → (sEr (upS σ 34 k) i b a c y).2 r j = σ.2 r j := fun r hr hji => by
    unfold sEr erC
    rw [erD_row hr, erD_row hr, flS_row (by omega), ebB_o hji]; rfl
  by_cases e : j = i
  · subst e
    exfalso
    unfold sEr erC at h9
    rw [erD_row (by decide), erD_row (by decide), flS_row (by decide), ebB_9] at h9
    exact absurd h9 (by decide)
  · rw [S 9 (by decide) e] at h9
    obtain ⟨n, f, g, h1, h2, h3, h4, h5, h6, h7⟩ := h j hj h9
    exact ⟨n, f, g, by rw [S 14 (by decide) e]; exact h1, by rw [S 10 (by decide) e]; exact h2, by rw [S 11 (by decide) e]; exact h3, h4, h5, h6, h7⟩
theorem Cp_er {l l' : LSt} {σ σ' : MS} {nb nw nw' np : Nat} (C : Cp l σ nb nw np) (D : QD l' σ' nb nw' np) (hw : nw' ≤ 60) (h : σ'.1 6 = 0 ∧ cLn σ' nb) : Cp l' σ' nb nw' np := ⟨⟨C.1.1, hw, C.1.2.2.1, h.1⟩, D, h.2⟩
set_option maxRecDepth 20000 in
theorem b_erect {w : W0} {κ : AH} {p : Nat} {l : LSt} {θ0 : Nat → Nat} {x : Int32} {σ : MS} {o q nb nw np : Nat} {wb : Nat → Nat} {k y : Nat} {b16 : Int32} (A : AK κ) (hI : RI κ κ σ nb nw np wb) (C : Cp l σ nb nw np) (ho : o < 60000) (hq : q < 60000) (hx : x = 2) (hk : k ≤ nb) (hy : y < 5) (hb : (b16 = 1 ∧ k < nb ∧ y < 4) ∨ (b16 = 0 ∧ ¬ (k < nb ∧ y < 4))) : Y w mL_isBlock θ0 (PL κ p l) (fun v κ' => PQ κ p v κ') (fun _ _ => False) 0 0 964 [some (.ref (tS 4)), some (.ref (tM 0)), some (.ref (tM 1)), some (.ref (tM 2)), some (.ref (tM 3)), some (.ref (tM 4)), some (.ref (tM 5)), some (.ref (tM 6)), some (.ref (tM 7)), some (.ref (tM 8)), some (.ref (tM 9)), some (.int x), some (.int (nI o)), some (.int (nI q)), some (.int (nI k)), some (.int (nI y)), some (.int b16), none, none, none, none, none, none] [] (PL κ p l) := by
  have e8 : σ.1 8 = nI nb := hI.1.e8
  have e18 : σ.1 18 = nI nw := hI.1.e18
  have e30 : σ.1 30 = nI np := hI.1.2.2.2.2.2.1
  obtain ⟨⟨hb40, hw60, hp10, h6⟩, D, hln⟩ := id C
  obtain ⟨CB, CW, CR, CG, z18⟩ := id D
  have a11 : l 9 11 = nI nw := CG.2.2.2.2.2.2.2.2.1
  have a10 : l 9 10 = nI nb := CG.2.2.2.2.2.2.2.1
  have h60 : nb ≤ 60 := by omega
  have IB : ∀ k, k < 100 → (isBlk σ (nI k) ↔ k < nb) := fun k hk => (isB_blk h60 e8).trans ⟨fun z => (nI_ltI (by omega) (by omega)).mp z.2, fun z => ⟨nI_pos' (by omega), nI_lt z (by omega)⟩⟩
  have IY : ∀ y, y < 5 → (isWdr (nI y) ↔ y < 4) := fun y hy => ⟨fun z => by have := (nI_leI (b := 3) (by omega) (by decide)).mp z.2; omega, fun z => ⟨nI_pos' (by omega), nI_le (b := 3) (by omega) (by decide)⟩⟩
  by_cases h57 : nw ≤ 57
  · rcases hb with ⟨rfl, hk2, hy2⟩ | ⟨rfl, hn⟩
    · by_cases hr : rsn σ k = 0
      · skip
        have k1 : kEr σ (nI k) (nI y) = 0 := by
          unfold kEr; rw [if_pos ⟨(IB k (by omega)).mpr hk2, (IY y hy).mpr hy2⟩, nI_clamp (by omega)]
          refine if_pos ⟨by rw [hr]; decide, ?_⟩
          rw [e18]
          have hc : ∀ z : Int32, cnx z = nI 0 ∨ cnx z = nI 1 := fun z => by unfold cnx; split <;> first | exact Or.inl rfl | exact Or.inr rfl
          rcases hc (nbA σ k) with h1 | h1 <;> rcases hc (nbB σ k) with h2 | h2 <;> rw [h1, h2, nI_add, nI_add] <;> exact nI_le (b := 100) (by omega) (by decide)
        have em : mEr σ (nI k) (nI y) = (cutE σ k (nbA σ k) (nbB σ k), sEr (upS σ 34 0) k (nI k) (nbA σ k) (nbB σ k) y) := by unfold mEr; rw [if_pos k1, nI_clamp (by omega), nI_clamp (by omega)]
        have hE6 : (sEr (upS σ 34 0) k (nI k) (nbA σ k) (nbB σ k) y).1 6 = 0 := by rw [er_num (by decide) (by decide) (by decide)]; exact h6
        have eE8 : (sEr (upS σ 34 0) k (nI k) (nbA σ k) (nbB σ k) y).1 8 = nI nb := by rw [er_num (by decide) (by decide) (by decide)]; exact e8
        have eE30 : (sEr (upS σ 34 0) k (nI k) (nbA σ k) (nbB σ k) y).1 30 = nI np := by rw [er_num (by decide) (by decide) (by decide)]; exact e30
        have eE34 : (sEr (upS σ 34 0) k (nI k) (nbA σ k) (nbB σ k) y).1 34 = 0 := sEr_34
        have dvE : dv (-3000000) (-1000000) 0 (cutE σ k (nbA σ k) (nbB σ k), sEr (upS σ 34 0) k (nI k) (nbA σ k) (nbB σ k) y) = cutE (upS σ 34 0) k (nbA (upS σ 34 0) k) (nbB (upS σ 34 0) k) := if_pos eE34
        have hE : (sEr (upS σ 34 0) k (nI k) (nbA σ k) (nbB σ k) y).1 6 = 0 ∧ cLn (sEr (upS σ 34 0) k (nI k) (nbA σ k) (nbB σ k) y) nb := ⟨hE6, er_ln hln⟩
        refine runL_go (κ := κ) (p := p) rkL_isBlock noCut 300 rfl ?_
        refine And.intro (fun c967 => False.elim (by first | exact c967 hx | exact absurd hx c967 | exact absurd c967 hx)) (fun c967 => ?_)
        refine ⟨9, 11, A.ld (by decide) (by decide) rfl, ?_⟩
        refine And.intro (fun c977 => ?_) (fun c977 => False.elim (by first | exact c977 (by rw [a11]; exact nI_le (b := 57) h57 (by decide)) | exact absurd (by rw [a11]; exact nI_le (b := 57) h57 (by decide)) c977 | exact absurd c977 (by rw [a11]; exact nI_le (b := 57) h57 (by decide))))
        refine And.intro (fun c984 => False.elim (by first | exact c984 (by decide) | exact absurd (by decide) c984 | exact absurd c984 (by decide))) (fun c984 => ?_)
        refine pL_isBlock_1000 rfl rfl rfl (c_L_why A hI.1 h6 hb40 CB CR CG.2.2.1 CG.2.2.2.1 rfl hk2) (fun v κ1 hq1000 ho1000 hk1000 => ?_)
        obtain ⟨rfl, rfl⟩ := hq1000
        refine runL_ok rkL_isBlock noCut 300 _ _ _ _ _ _ ?_
        refine And.intro (fun c1003 => False.elim (by first | exact c1003 (fun z => z hr) | exact absurd (fun z => z hr) c1003 | exact absurd c1003 (fun z => z hr))) (fun c1003 => ?_)
        refine pL_isBlock_1023 rfl rfl rfl (w_erect (RI_PL hI)) (fun v κ1 hq1023 ho1023 hk1023 => ?_)
        obtain ⟨rfl, hre⟩ := hq1023
        obtain ⟨κ1, rfl, hR1, hk1⟩ := PL_back hre
        have A1 := AK_of A hk1
        refine runL_ok rkL_isBlock noCut 300 _ _ _ _ _ _ ?_
        refine And.intro (fun c1028 => ?_) (fun c1028 => False.elim (by first | exact c1028 (by decide) | exact absurd (by decide) c1028 | exact absurd c1028 (by decide)))
        refine And.intro (fun c1038 => False.elim (by first | exact c1038 (by decide) | exact absurd (by decide) c1038 | exact absurd c1038 (by decide))) (fun c1038 => ?_)
        refine pL_isBlock_1057 rfl rfl rfl (c_L_erects A1 (IV_34x hI 0) (Cp_34 C) hr rfl rfl hk2 hy2 h57) (fun v κ1 hq1057 ho1057 hk1057 => ?_)
        obtain ⟨rfl, l1, nw1, rfl, hw1, hw2, DQ⟩ := hq1057
        refine runL_ok rkL_isBlock noCut 300 _ _ _ _ _ _ ?_
        refine And.intro (fun c1065 => False.elim (by first | exact c1065 (show dv (-3000000) (-1000000) 0 (mEr σ (nI k) (nI y)) = cutE (upS σ 34 0) k (nbA (upS σ 34 0) k) (nbB (upS σ 34 0) k) by rw [em]; exact dvE) | exact absurd (show dv (-3000000) (-1000000) 0 (mEr σ (nI k) (nI y)) = cutE (upS σ 34 0) k (nbA (upS σ 34 0) k) (nbB (upS σ 34 0) k) by rw [em]; exact dvE) c1065 | exact absurd c1065 (show dv (-3000000) (-1000000) 0 (mEr σ (nI k) (nI y)) = cutE (upS σ 34 0) k (nbA (upS σ 34 0) k) (nbB (upS σ 34 0) k) by rw [em]; exact dvE))) (fun c1065 => ?_)
        refine And.intro ⟨Nat.le_of_ble_eq_true rfl, Nat.le_of_ble_eq_true rfl⟩ ?_
        refine And.intro (by first | exact Or.inl rfl | exact Or.inr rfl) ?_
        rw [em] at hR1
        exact PQ_of hR1 hk1 eE8 eE30 (Cp_er C DQ (by omega) hE)
      · skip
        have k1 : kEr σ (nI k) (nI y) = 2 := by
          unfold kEr; rw [if_pos ⟨(IB k (by omega)).mpr hk2, (IY y hy).mpr hy2⟩, nI_clamp (by omega)]
          exact if_neg (fun z => hr (rsnZ0 z.1))
        have em : mEr σ (nI k) (nI y) = (0, upS σ 34 2) := by unfold mEr; rw [if_neg (by rw [k1]; decide), k1]
        refine runL_go (κ := κ) (p := p) rkL_isBlock noCut 300 rfl ?_
        refine And.intro (fun c967 => False.elim (by first | exact c967 hx | exact absurd hx c967 | exact absurd c967 hx)) (fun c967 => ?_)
        refine ⟨9, 11, A.ld (by decide) (by decide) rfl, ?_⟩
        refine And.intro (fun c977 => ?_) (fun c977 => False.elim (by first | exact c977 (by rw [a11]; exact nI_le (b := 57) h57 (by decide)) | exact absurd (by rw [a11]; exact nI_le (b := 57) h57 (by decide)) c977 | exact absurd c977 (by rw [a11]; exact nI_le (b := 57) h57 (by decide))))
        refine And.intro (fun c984 => False.elim (by first | exact c984 (by decide) | exact absurd (by decide) c984 | exact absurd c984 (by decide))) (fun c984 => ?_)
        refine pL_isBlock_1000 rfl rfl rfl (c_L_why A hI.1 h6 hb40 CB CR CG.2.2.1 CG.2.2.2.1 rfl hk2) (fun v κ1 hq1000 ho1000 hk1000 => ?_)
        obtain ⟨rfl, rfl⟩ := hq1000
        refine runL_ok rkL_isBlock noCut 300 _ _ _ _ _ _ ?_
        refine And.intro (fun c1003 => ?_) (fun c1003 => False.elim (by first | exact c1003 hr | exact absurd hr c1003 | exact absurd c1003 hr))
        refine pL_isBlock_1023 rfl rfl rfl (w_erect (RI_PL hI)) (fun v κ1 hq1023 ho1023 hk1023 => ?_)
        obtain ⟨rfl, hre⟩ := hq1023
        obtain ⟨κ1, rfl, hR1, hk1⟩ := PL_back hre
        have A1 := AK_of A hk1
        refine runL_ok rkL_isBlock noCut 300 _ _ _ _ _ _ ?_
        refine And.intro (fun c1028 => ?_) (fun c1028 => False.elim (by first | exact c1028 (by decide) | exact absurd (by decide) c1028 | exact absurd c1028 (by decide)))
        refine And.intro (fun c1038 => ?_) (fun c1038 => False.elim (by first | exact c1038 (by decide) | exact absurd (by decide) c1038 | exact absurd c1038 (by decide)))
        refine pL_isBlock_1063 ?_
        refine runL_ok rkL_isBlock noCut 300 _ _ _ _ _ _ ?_
        refine And.intro (fun c1065 => False.elim (by first | exact c1065 (show dv (-3000000) (-1000000) 0 (mEr σ (nI k) (nI y)) = -1000000 by rw [em]; rfl) | exact absurd (show dv (-3000000) (-1000000) 0 (mEr σ (nI k) (nI y)) = -1000000 by rw [em]; rfl) c1065 | exact absurd c1065 (show dv (-3000000) (-1000000) 0 (mEr σ (nI k) (nI y)) = -1000000 by rw [em]; rfl))) (fun c1065 => ?_)
        refine And.intro ⟨Nat.le_of_ble_eq_true rfl, Nat.le_of_ble_eq_true rfl⟩ ?_
        refine And.intro (by first | exact Or.inl rfl | exact Or.inr rfl) ?_
        rw [em] at hR1
        exact PQ_of hR1 hk1 e8 e30 (Cp_34 C)
    · skip
      have k1 : kEr σ (nI k) (nI y) = 1 := by
        unfold kEr; exact if_neg (fun z => hn ⟨(IB k (by omega)).mp z.1, (IY y hy).mp z.2⟩)
      have em : mEr σ (nI k) (nI y) = (0, upS σ 34 1) := by unfold mEr; rw [if_neg (by rw [k1]; decide), k1]
      refine runL_go (κ := κ) (p := p) rkL_isBlock noCut 300 rfl ?_
      refine And.intro (fun c967 => False.elim (by first | exact c967 hx | exact absurd hx c967 | exact absurd c967 hx)) (fun c967 => ?_)
      refine ⟨9, 11, A.ld (by decide) (by decide) rfl, ?_⟩
      refine And.intro (fun c977 => ?_) (fun c977 => False.elim (by first | exact c977 (by rw [a11]; exact nI_le (b := 57) h57 (by decide)) | exact absurd (by rw [a11]; exact nI_le (b := 57) h57 (by decide)) c977 | exact absurd c977 (by rw [a11]; exact nI_le (b := 57) h57 (by decide))))
      refine And.intro (fun c984 => ?_) (fun c984 => False.elim (by first | exact c984 (by decide) | exact absurd (by decide) c984 | exact absurd c984 (by decide)))
      refine pL_isBlock_1023 rfl rfl rfl (w_erect (RI_PL hI)) (fun v κ1 hq1023 ho1023 hk1023 => ?_)
      obtain ⟨rfl, hre⟩ := hq1023
      obtain ⟨κ1, rfl, hR1, hk1⟩ := PL_back hre
      have A1 := AK_of A hk1
      refine runL_ok rkL_isBlock noCut 300 _ _ _ _ _ _ ?_
      refine And.intro (fun c1028 => False.elim (by first | exact c1028 (by decide) | exact absurd (by decide) c1028 | exact absurd c1028 (by decide))) (fun c1028 => ?_)
      refine pL_isBlock_1031 ?_
      refine runL_ok rkL_isBlock noCut 300 _ _ _ _ _ _ ?_
      refine And.intro (fun c1065 => False.elim (by first | exact c1065 (show dv (-3000000) (-1000000) 0 (mEr σ (nI k) (nI y)) = -3000000 by rw [em]; rfl) | exact absurd (show dv (-3000000) (-1000000) 0 (mEr σ (nI k) (nI y)) = -3000000 by rw [em]; rfl) c1065 | exact absurd c1065 (show dv (-3000000) (-1000000) 0 (mEr σ (nI k) (nI y)) = -3000000 by rw [em]; rfl))) (fun c1065 => ?_)
      refine And.intro ⟨Nat.le_of_ble_eq_true rfl, Nat.le_of_ble_eq_true rfl⟩ ?_
      refine And.intro (by first | exact Or.inl rfl | exact Or.inr rfl) ?_
      rw [em] at hR1
      exact PQ_of hR1 hk1 e8 e30 (Cp_34 C)
  · skip
    refine runL_go (κ := κ) (p := p) rkL_isBlock noCut 300 rfl ?_
    refine And.intro (fun c967 => False.elim (by first | exact c967 hx | exact absurd hx c967 | exact absurd c967 hx)) (fun c967 => ?_)
    refine ⟨9, 11, A.ld (by decide) (by decide) rfl, ?_⟩
    refine And.intro (fun c977 => False.elim (by first | exact c977 (by rw [a11]; exact fun z => h57 ((nI_leI (b := 57) (by omega) (by decide)).mp z)) | exact absurd (by rw [a11]; exact fun z => h57 ((nI_leI (b := 57) (by omega) (by decide)).mp z)) c977 | exact absurd c977 (by rw [a11]; exact fun z => h57 ((nI_leI (b := 57) (by omega) (by decide)).mp z)))) (fun c977 => ?_)
    refine And.intro ⟨Nat.le_of_ble_eq_true rfl, Nat.le_of_ble_eq_true rfl⟩ ?_
    refine And.intro (by first | exact Or.inl rfl | exact Or.inr rfl) ?_
    exact PQ_of ⟨nb, nw, np, wb, hI⟩ (fun _ => ⟨rfl, rfl⟩) e8 e30 C

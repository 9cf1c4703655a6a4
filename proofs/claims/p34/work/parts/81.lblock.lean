
/-! THE LAW'S isBlock 1: a block is built -/
theorem ad_B {l : LSt} {σ : MS} {nb f g e u : Nat} {t n : Int32} (B : cB l σ nb) (hf : f ≤ g) (hg : g ≤ 11) (he : e ≤ 2) (hu1 : 1 ≤ u) (hu2 : u ≤ 8 * (g + 1 - f)) : cB (adF l nb (nI (eA f g e 0)) t n (nI u)) (nbS σ nb (nI f) (nI g) (nI e) t n (nI u)) (nb + 1) := by
  intro i hi
  by_cases ei : i = nb
  · subst ei
    obtain ⟨v9, v10, v11, v12, v13, v14, v15, v17⟩ := nbS_n (σ := σ) (nb := i) (f := nI f) (l := nI g) (v := nI e) (t := t) (e := n) (g := nI u)
    refine ⟨⟨f, g, e, 0, u, by omega, hg, he, by decide, hf, hu1, hu2, v10, v11, v12, v9, v15, ?_⟩, ?_, ?_, ?_, fun z => ?_, ?_⟩
    · unfold adF; rw [lu_o (fun z => absurd z.1 (by decide)), lu_o (fun z => absurd z.1 (by decide)), lu_o (fun z => absurd z.1 (by decide)), lu_o (fun z => absurd z.1 (by decide)), lu_o (fun z => absurd z.1 (by decide)), lu_o (fun z => absurd z.1 (by decide)), lu_s]
    · rw [v13]; unfold adF; rw [lu_o (fun z => absurd z.1 (by decide)), lu_o (fun z => absurd z.1 (by decide)), lu_o (fun z => absurd z.1 (by decide)), lu_o (fun z => absurd z.1 (by decide)), lu_o (fun z => absurd z.1 (by decide)), lu_s]
    · rw [v14]; unfold adF; rw [lu_o (fun z => absurd z.1 (by decide)), lu_o (fun z => absurd z.1 (by decide)), lu_o (fun z => absurd z.1 (by decide)), lu_o (fun z => absurd z.1 (by decide)), lu_s]
    · rw [v15]; unfold adF; rw [lu_o (fun z => absurd z.1 (by decide)), lu_o (fun z => absurd z.1 (by decide)), lu_o (fun z => absurd z.1 (by decide)), lu_s]
    · rw [v9] at z; exact absurd z (by decide)
    · rw [v17]; unfold adF; rw [lu_o (fun z => absurd z.1 (by decide)), lu_s]
  · obtain ⟨⟨f', g', e', s', u', h1, h2, h3, h4, h5, h6, h7, h8, h9, h10, h11, h12, h13⟩, q1, q2, q3, q4, q5⟩ := B i (by omega)
    have L : ∀ j, j < 6 → adF l nb (nI (eA f g e 0)) t n (nI u) j i = l j i := fun j hj => by
      unfold adF
      rw [lu_o (fun z => by omega), lu_o (fun z => ei z.2), lu_o (fun z => ei z.2), lu_o (fun z => ei z.2), lu_o (fun z => ei z.2), lu_o (fun z => ei z.2), lu_o (fun z => ei z.2)]
    have S : ∀ j, (nbS σ nb (nI f) (nI g) (nI e) t n (nI u)).2 j i = σ.2 j i := fun j => nbS_o ei
    refine ⟨⟨f', g', e', s', u', h1, h2, h3, h4, h5, h6, h7, ?_, ?_, ?_, ?_, ?_, ?_⟩, ?_, ?_, ?_, ?_, ?_⟩
    · rw [S]; exact h8
    · rw [S]; exact h9
    · rw [S]; exact h10
    · rw [S]; exact h11
    · rw [S]; exact h12
    · rw [L 0 (by decide)]; exact h13
    · rw [L 1 (by decide), S]; exact q1
    · rw [L 2 (by decide), S]; exact q2
    · rw [L 3 (by decide), S]; exact q3
    · rw [L 4 (by decide), S, S]; exact q4
    · rw [L 5 (by decide), S]; exact q5
theorem adF_o {l : LSt} {nb j k : Nat} {x t n u : Int32} (h1 : 6 ≤ j) (h2 : ¬ (j = 9 ∧ k = 10)) : adF l nb x t n u j k = l j k := by
  unfold adF
  rw [lu_o h2, lu_o (fun z => by omega), lu_o (fun z => by omega), lu_o (fun z => by omega), lu_o (fun z => by omega), lu_o (fun z => by omega), lu_o (fun z => by omega)]
theorem ad_QD {l : LSt} {σ : MS} {nb nw np f g e u : Nat} {t n : Int32} (D : QD l σ nb nw np) (hf : f ≤ g) (hg : g ≤ 11) (he : e ≤ 2) (hu1 : 1 ≤ u) (hu2 : u ≤ 8 * (g + 1 - f)) : QD (adF l nb (nI (eA f g e 0)) t n (nI u)) (nbS σ nb (nI f) (nI g) (nI e) t n (nI u)) (nb + 1) nw np := by
  obtain ⟨B, W, R, G, z18⟩ := D
  obtain ⟨a0, a1, a2, a3, a4, a5, a9, a10, a11, a12⟩ := G
  have S : ∀ j, (j < 9 ∨ 17 < j) → (nbS σ nb (nI f) (nI g) (nI e) t n (nI u)).2 j = σ.2 j := fun j h => nbS_row h
  have N : ∀ j, j ≠ 8 → (nbS σ nb (nI f) (nI g) (nI e) t n (nI u)).1 j = σ.1 j := fun j h => nbS_num h
  refine ⟨ad_B B hf hg he hu1 hu2, W.cong (fun k _ => adF_o (by decide) (by omega)) (fun j _ _ k _ => by rw [S j (by omega)]) (by omega), R.cong (fun j _ _ c _ => adF_o (by omega) (by omega)) (fun j _ _ c _ => by rw [S j (by omega)]), ⟨?_, ?_, ?_, ?_, ?_, fun y hy => ?_, ?_, ?_, ?_, ?_⟩, (N 18 (by decide)).trans z18⟩
  · rw [adF_o (by decide) (by omega), N _ (by decide)]; exact a0
  · rw [adF_o (by decide) (by omega), N _ (by decide)]; exact a1
  · rw [adF_o (by decide) (by omega), N _ (by decide)]; exact a2
  · rw [adF_o (by decide) (by omega), N _ (by decide)]; exact a3
  · rw [adF_o (by decide) (by omega), N _ (by decide)]; exact a4
  · rw [adF_o (by decide) (by omega), S 5 (by decide)]; exact a5 y hy
  · rw [adF_o (by decide) (by omega), N _ (by decide)]; exact a9
  · unfold adF; rw [lu_s, a10, nI_1]
  · rw [adF_o (by decide) (by omega)]; exact a11
  · rw [adF_o (by decide) (by omega)]; exact a12
theorem Cp_add {l : LSt} {σ : MS} {nb nw np f g e u m : Nat} {t : Int32} (C : Cp l σ nb nw np) (e8 : σ.1 8 = nI nb) (hnb : nb < 40) (hf : f ≤ g) (hg : g ≤ 11) (he : e ≤ 2) (hu1 : 1 ≤ u) (hu2 : u ≤ 8) (hm : m ≤ 60) : Cp (adF l nb (nI (eA f g e 0)) t (1000 * (nI g - nI f + 1) + nI m) (nI u)) (sAdds (upS σ 34 0) (nI f) (nI g) (nI e) t (1000 * (nI g - nI f + 1) + nI m) (nI u)) (nb + 1) nw np := by
  rw [sAdds_nb (show (upS σ 34 0).1 8 = nI nb from e8) (by omega)]
  refine ⟨⟨by omega, C.1.2.1, C.1.2.2.1, C.1.2.2.2⟩, ad_QD (QD_34 C.2.1) hf hg he hu1 (by omega), fun i hi h9 => ?_⟩
  by_cases ei : i = nb
  · subst ei
    obtain ⟨v9, v10, v11, v12, v13, v14, v15, v17⟩ := nbS_n (σ := upS σ 34 0) (nb := i) (f := nI f) (l := nI g) (v := nI e) (t := t) (e := 1000 * (nI g - nI f + 1) + nI m) (g := nI u)
    refine ⟨1000 * (g + 1 - f) + m, f, g, ?_, v10, v11, hf, hg, by omega, by omega⟩
    rw [v14, show nI g - nI f + 1 = nI (g + 1 - f) by rw [show nI g = nI (g - f) + nI f by rw [nI_add]; congr 1; omega, Int32.add_sub_cancel, nI_1]; congr 1; omega, show (1000 : Int32) = nI 1000 from rfl, pk_mul, nI_add]
  · rw [nbS_o ei] at h9
    obtain ⟨n, f', g', h1, h2, h3, h4, h5, h6, h7⟩ := C.2.2 i (by omega) h9
    exact ⟨n, f', g', by rw [nbS_o ei]; exact h1, by rw [nbS_o ei]; exact h2, by rw [nbS_o ei]; exact h3, h4, h5, h6, h7⟩
set_option maxRecDepth 20000 in
theorem b_block {w : W0} {κ : AH} {p : Nat} {l : LSt} {θ0 : Nat → Nat} {x : Int32} {σ : MS} {o q nb nw np : Nat} {wb : Nat → Nat}  (A : AK κ) (hI : RI κ κ σ nb nw np wb) (C : Cp l σ nb nw np) (ho : o < 60000) (hq : q < 60000) (hx : x = 0) (hn : nb < 40) : Y w mL_isBlock θ0 (PL κ p l) (fun v κ' => PQ κ p v κ') (fun _ _ => False) 0 0 0 [some (.ref (tS 4)), some (.ref (tM 0)), some (.ref (tM 1)), some (.ref (tM 2)), some (.ref (tM 3)), some (.ref (tM 4)), some (.ref (tM 5)), some (.ref (tM 6)), some (.ref (tM 7)), some (.ref (tM 8)), some (.ref (tM 9)), some (.int x), some (.int (nI o)), some (.int (nI q)), none, none, none, none, none, none, none, none, none] [] (PL κ p l) := by
  have e8 : σ.1 8 = nI nb := hI.1.e8
  have e18 : σ.1 18 = nI nw := hI.1.e18
  have e30 : σ.1 30 = nI np := hI.1.2.2.2.2.2.1
  obtain ⟨⟨hb40, hw60, hp10, h6⟩, D, hln⟩ := id C
  obtain ⟨CB, CW, CR, CG, z18⟩ := id D
  have a11 : l 9 11 = nI nw := CG.2.2.2.2.2.2.2.2.1
  have a10 : l 9 10 = nI nb := CG.2.2.2.2.2.2.2.1
  have h60 : nb ≤ 60 := by omega
  have IB : ∀ k, k < 100 → (isBlk σ (nI k) ↔ k < nb) := fun k hk => (isB_blk h60 e8).trans ⟨fun z => (nI_ltI (by omega) (by omega)).mp z.2, fun z => ⟨nI_pos' (by omega), nI_lt z (by omega)⟩⟩
  have E00 : ∀ f, f < 13 → ∀ y15 : Int32, ∀ e, e < 4 → ∀ y17 : Int32, ∀ m, m < 100 → ∀ u, u < 20 → ∀ b : Int32, (b = 0 ∨ b = 1) → ¬ (okB1 (nI f) y15 (nI e)) → Y w mL_isBlock θ0 (PL κ p l) (fun v κ' => PQ κ p v κ') (fun _ _ => False) 0 0 235 [some (.ref (tS 4)), some (.ref (tM 0)), some (.ref (tM 1)), some (.ref (tM 2)), some (.ref (tM 3)), some (.ref (tM 4)), some (.ref (tM 5)), some (.ref (tM 6)), some (.ref (tM 7)), some (.ref (tM 8)), some (.ref (tM 9)), some (.int x), some (.int (nI o)), some (.int (nI q)), some (.int (nI f)), some (.int y15), some (.int (nI e)), some (.int y17), some (.int (nI m)), some (.int (nI u)), some (.int 0), none, none] [.int b] (PL κ p l) := by
    intro f hf y15 e he y17 m hm u hu b hb h1
    have k1 : cBlock σ (nI f) y15 (nI e) y17 (nI m) (nI u) = 1 := by unfold cBlock; exact if_neg h1
    have em : mBlock σ (nI f) y15 (nI e) y17 (nI m) (nI u) = (0, upS σ 34 1) := by
      unfold mBlock; rw [if_neg (by rw [k1]; decide), k1]
    refine runL_go (κ := κ) (p := p) rkL_isBlock noCut 300 rfl ?_
    refine And.intro (fun c239 => ?_) (fun c239 => False.elim (by first | exact c239 (by decide) | exact absurd (by decide) c239 | exact absurd c239 (by decide)))
    refine And.intro (fun c256 => ?_) (fun c256 => False.elim (by first | exact c256 (by decide) | exact absurd (by decide) c256 | exact absurd c256 (by decide)))
    refine pL_isBlock_320 rfl rfl rfl (w_block (RI_PL hI)) (fun v κ1 hq320 ho320 hk320 => ?_)
    obtain ⟨rfl, hre⟩ := hq320
    obtain ⟨κ1, rfl, hR1, hk1⟩ := PL_back hre
    have A1 := AK_of A hk1
    refine runL_ok rkL_isBlock noCut 300 _ _ _ _ _ _ ?_
    refine And.intro (fun c325 => False.elim (by first | exact c325 (by decide) | exact absurd (by decide) c325 | exact absurd c325 (by decide))) (fun c325 => ?_)
    refine pL_isBlock_328 ?_
    refine runL_ok rkL_isBlock noCut 300 _ _ _ _ _ _ ?_
    refine And.intro (fun c350 => False.elim (by first | exact c350 (show dv (-3000000) (-2000000) (-1000000) (mBlock σ (nI f) y15 (nI e) y17 (nI m) (nI u)) = -3000000 by rw [em]; rfl) | exact absurd (show dv (-3000000) (-2000000) (-1000000) (mBlock σ (nI f) y15 (nI e) y17 (nI m) (nI u)) = -3000000 by rw [em]; rfl) c350 | exact absurd c350 (show dv (-3000000) (-2000000) (-1000000) (mBlock σ (nI f) y15 (nI e) y17 (nI m) (nI u)) = -3000000 by rw [em]; rfl))) (fun c350 => ?_)
    refine And.intro ⟨Nat.le_of_ble_eq_true rfl, Nat.le_of_ble_eq_true rfl⟩ ?_
    refine And.intro (by first | exact Or.inl rfl | exact Or.inr rfl) ?_
    rw [em] at hR1
    exact PQ_of hR1 hk1 e8 e30 (Cp_34 C)
  have E10 : ∀ f, f < 13 → ∀ y15 : Int32, ∀ e, e < 4 → ∀ y17 : Int32, ∀ m, m < 100 → ∀ u, u < 20 → okB1 (nI f) y15 (nI e) → ¬ (okB2 (nI f) y15 y17 (nI m) (nI u)) → Y w mL_isBlock θ0 (PL κ p l) (fun v κ' => PQ κ p v κ') (fun _ _ => False) 0 0 235 [some (.ref (tS 4)), some (.ref (tM 0)), some (.ref (tM 1)), some (.ref (tM 2)), some (.ref (tM 3)), some (.ref (tM 4)), some (.ref (tM 5)), some (.ref (tM 6)), some (.ref (tM 7)), some (.ref (tM 8)), some (.ref (tM 9)), some (.int x), some (.int (nI o)), some (.int (nI q)), some (.int (nI f)), some (.int y15), some (.int (nI e)), some (.int y17), some (.int (nI m)), some (.int (nI u)), some (.int 1), none, none] [.int 0] (PL κ p l) := by
    intro f hf y15 e he y17 m hm u hu h1 h2
    have k1 : cBlock σ (nI f) y15 (nI e) y17 (nI m) (nI u) = 2 := by unfold cBlock; rw [if_pos h1]; exact if_neg h2
    have em : mBlock σ (nI f) y15 (nI e) y17 (nI m) (nI u) = (0, upS σ 34 2) := by
      unfold mBlock; rw [if_neg (by rw [k1]; decide), k1]
    refine runL_go (κ := κ) (p := p) rkL_isBlock noCut 300 rfl ?_
    refine And.intro (fun c239 => False.elim (by first | exact c239 (by decide) | exact absurd (by decide) c239 | exact absurd c239 (by decide))) (fun c239 => ?_)
    refine And.intro (fun c244 => ?_) (fun c244 => False.elim (by first | exact c244 (by decide) | exact absurd (by decide) c244 | exact absurd c244 (by decide)))
    refine And.intro (fun c256 => ?_) (fun c256 => False.elim (by first | exact c256 (by decide) | exact absurd (by decide) c256 | exact absurd c256 (by decide)))
    refine pL_isBlock_320 rfl rfl rfl (w_block (RI_PL hI)) (fun v κ1 hq320 ho320 hk320 => ?_)
    obtain ⟨rfl, hre⟩ := hq320
    obtain ⟨κ1, rfl, hR1, hk1⟩ := PL_back hre
    have A1 := AK_of A hk1
    refine runL_ok rkL_isBlock noCut 300 _ _ _ _ _ _ ?_
    refine And.intro (fun c325 => ?_) (fun c325 => False.elim (by first | exact c325 (by decide) | exact absurd (by decide) c325 | exact absurd c325 (by decide)))
    refine And.intro (fun c335 => ?_) (fun c335 => False.elim (by first | exact c335 (by decide) | exact absurd (by decide) c335 | exact absurd c335 (by decide)))
    refine pL_isBlock_348 ?_
    refine runL_ok rkL_isBlock noCut 300 _ _ _ _ _ _ ?_
    refine And.intro (fun c350 => False.elim (by first | exact c350 (show dv (-3000000) (-2000000) (-1000000) (mBlock σ (nI f) y15 (nI e) y17 (nI m) (nI u)) = -2000000 by rw [em]; rfl) | exact absurd (show dv (-3000000) (-2000000) (-1000000) (mBlock σ (nI f) y15 (nI e) y17 (nI m) (nI u)) = -2000000 by rw [em]; rfl) c350 | exact absurd c350 (show dv (-3000000) (-2000000) (-1000000) (mBlock σ (nI f) y15 (nI e) y17 (nI m) (nI u)) = -2000000 by rw [em]; rfl))) (fun c350 => ?_)
    refine And.intro ⟨Nat.le_of_ble_eq_true rfl, Nat.le_of_ble_eq_true rfl⟩ ?_
    refine And.intro (by first | exact Or.inl rfl | exact Or.inr rfl) ?_
    rw [em] at hR1
    exact PQ_of hR1 hk1 e8 e30 (Cp_34 C)
  have E11 : ∀ f, f < 13 → ∀ y15 : Int32, ∀ e, e < 4 → ∀ y17 : Int32, ∀ m, m < 100 → ∀ u, u < 20 → okB1 (nI f) y15 (nI e) → okB2 (nI f) y15 y17 (nI m) (nI u) → Y w mL_isBlock θ0 (PL κ p l) (fun v κ' => PQ κ p v κ') (fun _ _ => False) 0 0 235 [some (.ref (tS 4)), some (.ref (tM 0)), some (.ref (tM 1)), some (.ref (tM 2)), some (.ref (tM 3)), some (.ref (tM 4)), some (.ref (tM 5)), some (.ref (tM 6)), some (.ref (tM 7)), some (.ref (tM 8)), some (.ref (tM 9)), some (.int x), some (.int (nI o)), some (.int (nI q)), some (.int (nI f)), some (.int y15), some (.int (nI e)), some (.int y17), some (.int (nI m)), some (.int (nI u)), some (.int 1), none, none] [.int 1] (PL κ p l) := by
    intro f hf y15 e he y17 m hm u hu h1 h2
    obtain ⟨g9, hg9, rfl⟩ := nI_of2 (M := 11) (n := 11) (by decide) (Int32.not_lt.mpr h1.2.1.1) h1.2.1.2
    have hfg : f ≤ g9 := (nI_leI (by omega) (by omega)).mp h2.1
    have he2 : e ≤ 2 := (nI_leI (b := 2) (by omega) (by decide)).mp h1.2.2.2
    have hu1 : 1 ≤ u := (nI_leI (a := 1) (by decide) (by omega)).mp h2.2.2.2.1
    have hu8 : u ≤ 8 := (nI_leI (b := 8) (by omega) (by decide)).mp h2.2.2.2.2
    have hm60 : m ≤ 60 := (nI_leI (b := 60) (by omega) (by decide)).mp h2.2.2.1.2
    have h3 : okB3 σ := ⟨by rw [e8]; exact fun z => by have := (nI_eq (b := 60) (by omega) (by decide)).mp z; omega, h6⟩
    have k1 : cBlock σ (nI f) (nI g9) (nI e) y17 (nI m) (nI u) = 0 := by unfold cBlock; rw [if_pos h1, if_pos h2]; exact if_pos h3
    have em : mBlock σ (nI f) (nI g9) (nI e) y17 (nI m) (nI u) = (σ.1 8, sAdds (upS σ 34 0) (nI f) (nI g9) (nI e) y17 (1000 * (nI g9 - nI f + 1) + nI m) (nI u)) := by unfold mBlock; rw [if_pos k1]
    have ex : nI f + 16 * nI g9 + 256 * nI e = nI (eA f g9 e 0) := by rw [show (16 : Int32) = nI 16 from rfl, show (256 : Int32) = nI 256 from rfl, pk_mul, pk_mul, nI_add, nI_add]; rfl
    have CA := Cp_add (m := m) (t := y17) (u := u) C e8 hn hfg hg9 he2 hu1 hu8 hm60
    have e8n : (sAdds (upS σ 34 0) (nI f) (nI g9) (nI e) y17 (1000 * (nI g9 - nI f + 1) + nI m) (nI u)).1 8 = nI (nb + 1) := by rw [sAdds_nb (show (upS σ 34 0).1 8 = nI nb from e8) (by omega)]; rfl
    have e30n : (sAdds (upS σ 34 0) (nI f) (nI g9) (nI e) y17 (1000 * (nI g9 - nI f + 1) + nI m) (nI u)).1 30 = nI np := by rw [sAdds_nb (show (upS σ 34 0).1 8 = nI nb from e8) (by omega), nbS_num (by decide)]; exact e30
    have vv : adF l nb (nI f + 16 * nI g9 + 256 * nI e) y17 (1000 * (nI g9 - nI f + 1) + nI m) (nI u) 9 10 - 1 = nI nb := by rw [ex, CA.2.1.2.2.2.1.2.2.2.2.2.2.2.1]; exact nI_pred nb
    refine runL_go (κ := κ) (p := p) rkL_isBlock noCut 300 rfl ?_
    refine And.intro (fun c239 => False.elim (by first | exact c239 (by decide) | exact absurd (by decide) c239 | exact absurd c239 (by decide))) (fun c239 => ?_)
    refine And.intro (fun c244 => False.elim (by first | exact c244 (by decide) | exact absurd (by decide) c244 | exact absurd c244 (by decide))) (fun c244 => ?_)
    refine And.intro (fun c256 => False.elim (by first | exact c256 (by decide) | exact absurd (by decide) c256 | exact absurd c256 (by decide))) (fun c256 => ?_)
    refine pL_isBlock_303 rfl rfl rfl (c_L_adds A (n := nb) a10 hn) (fun v κ1 hq303 ho303 hk303 => ?_)
    obtain ⟨rfl, rfl⟩ := hq303
    refine runL_ok rkL_isBlock noCut 300 _ _ _ _ _ _ ?_
    refine pL_isBlock_320 rfl rfl rfl (w_block (RI_PL hI)) (fun v κ1 hq320 ho320 hk320 => ?_)
    obtain ⟨rfl, hre⟩ := hq320
    obtain ⟨κ1, rfl, hR1, hk1⟩ := PL_back hre
    have A1 := AK_of A hk1
    refine runL_ok rkL_isBlock noCut 300 _ _ _ _ _ _ ?_
    refine And.intro (fun c325 => ?_) (fun c325 => False.elim (by first | exact c325 (by decide) | exact absurd (by decide) c325 | exact absurd c325 (by decide)))
    refine And.intro (fun c335 => False.elim (by first | exact c335 (by decide) | exact absurd (by decide) c335 | exact absurd c335 (by decide))) (fun c335 => ?_)
    refine ⟨9, 10, A1.ld (by decide) (by decide) rfl, ?_⟩
    refine And.intro (fun c350 => False.elim (by first | exact c350 (show dv (-3000000) (-2000000) (-1000000) (mBlock σ (nI f) (nI g9) (nI e) y17 (nI m) (nI u)) = adF l nb (nI f + 16 * nI g9 + 256 * nI e) y17 (1000 * (nI g9 - nI f + 1) + nI m) (nI u) 9 10 - 1 by rw [vv, em]; exact e8) | exact absurd (show dv (-3000000) (-2000000) (-1000000) (mBlock σ (nI f) (nI g9) (nI e) y17 (nI m) (nI u)) = adF l nb (nI f + 16 * nI g9 + 256 * nI e) y17 (1000 * (nI g9 - nI f + 1) + nI m) (nI u) 9 10 - 1 by rw [vv, em]; exact e8) c350 | exact absurd c350 (show dv (-3000000) (-2000000) (-1000000) (mBlock σ (nI f) (nI g9) (nI e) y17 (nI m) (nI u)) = adF l nb (nI f + 16 * nI g9 + 256 * nI e) y17 (1000 * (nI g9 - nI f + 1) + nI m) (nI u) 9 10 - 1 by rw [vv, em]; exact e8))) (fun c350 => ?_)
    refine And.intro ⟨Nat.le_of_ble_eq_true rfl, Nat.le_of_ble_eq_true rfl⟩ ?_
    refine And.intro (by first | exact Or.inl rfl | exact Or.inr rfl) ?_
    rw [em] at hR1
    rw [ex]
    exact PQ_of hR1 hk1 e8n e30n CA
  have D1 : ∀ f, f < 13 → ∀ y15 : Int32, ∀ e, e < 4 → ∀ y17 : Int32, ∀ m, m < 100 → ∀ u, u < 20 → (okB1 (nI f) y15 (nI e)) → Y w mL_isBlock θ0 (PL κ p l) (fun v κ' => PQ κ p v κ') (fun _ _ => False) 0 0 189 [some (.ref (tS 4)), some (.ref (tM 0)), some (.ref (tM 1)), some (.ref (tM 2)), some (.ref (tM 3)), some (.ref (tM 4)), some (.ref (tM 5)), some (.ref (tM 6)), some (.ref (tM 7)), some (.ref (tM 8)), some (.ref (tM 9)), some (.int x), some (.int (nI o)), some (.int (nI q)), some (.int (nI f)), some (.int y15), some (.int (nI e)), some (.int y17), some (.int (nI m)), some (.int (nI u)), none, none, none] [.int 1] (PL κ p l) := by
    intro f hf y15 e he y17 m hm u hu h1
    have u0 : 0 ≤ nI u := nI_pos' (by omega)
    have m0 : 0 ≤ nI m := nI_pos' (by omega)
    refine runL_go (κ := κ) (p := p) rkL_isBlock (fun p => Nat.beq p 235) 300 rfl ?_
    refine And.intro (fun c195 => ?_) (fun c195 => ?_)
    · skip
      exact E10 f hf _ e he _ m hm u hu h1 (by grind)
    · skip
      refine And.intro (fun c200 => ?_) (fun c200 => ?_)
      · skip
        exact E10 f hf _ e he _ m hm u hu h1 (by grind)
      · skip
        refine And.intro (fun c208 => ?_) (fun c208 => ?_)
        · skip
          exact E10 f hf _ e he _ m hm u hu h1 (by grind)
        · skip
          refine And.intro (fun c215 => ?_) (fun c215 => ?_)
          · skip
            exact E10 f hf _ e he _ m hm u hu h1 (by grind)
          · skip
            refine And.intro (fun c220 => ?_) (fun c220 => ?_)
            · skip
              exact E10 f hf _ e he _ m hm u hu h1 (by grind)
            · skip
              refine And.intro (fun c227 => ?_) (fun c227 => ?_)
              · skip
                exact E10 f hf _ e he _ m hm u hu h1 (by grind)
              · skip
                exact E11 f hf _ e he _ m hm u hu h1 (by grind)
  have D0 : ∀ f, f < 13 → ∀ y15 : Int32, ∀ e, e < 4 → ∀ y17 : Int32, ∀ m, m < 100 → ∀ u, u < 20 → ¬ (okB1 (nI f) y15 (nI e)) → Y w mL_isBlock θ0 (PL κ p l) (fun v κ' => PQ κ p v κ') (fun _ _ => False) 0 0 189 [some (.ref (tS 4)), some (.ref (tM 0)), some (.ref (tM 1)), some (.ref (tM 2)), some (.ref (tM 3)), some (.ref (tM 4)), some (.ref (tM 5)), some (.ref (tM 6)), some (.ref (tM 7)), some (.ref (tM 8)), some (.ref (tM 9)), some (.int x), some (.int (nI o)), some (.int (nI q)), some (.int (nI f)), some (.int y15), some (.int (nI e)), some (.int y17), some (.int (nI m)), some (.int (nI u)), none, none, none] [.int 0] (PL κ p l) := by
    intro f hf y15 e he y17 m hm u hu h1
    have u0 : 0 ≤ nI u := nI_pos' (by omega)
    have m0 : 0 ≤ nI m := nI_pos' (by omega)
    refine runL_go (κ := κ) (p := p) rkL_isBlock (fun p => Nat.beq p 235) 300 rfl ?_
    refine And.intro (fun c195 => ?_) (fun c195 => ?_)
    · skip
      exact E00 f hf _ e he _ m hm u hu _ (by first | exact Or.inl rfl | exact Or.inr rfl) h1
    · skip
      refine And.intro (fun c200 => ?_) (fun c200 => ?_)
      · skip
        exact E00 f hf _ e he _ m hm u hu _ (by first | exact Or.inl rfl | exact Or.inr rfl) h1
      · skip
        refine And.intro (fun c208 => ?_) (fun c208 => ?_)
        · skip
          exact E00 f hf _ e he _ m hm u hu _ (by first | exact Or.inl rfl | exact Or.inr rfl) h1
        · skip
          refine And.intro (fun c215 => ?_) (fun c215 => ?_)
          · skip
            exact E00 f hf _ e he _ m hm u hu _ (by first | exact Or.inl rfl | exact Or.inr rfl) h1
          · skip
            refine And.intro (fun c220 => ?_) (fun c220 => ?_)
            · skip
              exact E00 f hf _ e he _ m hm u hu _ (by first | exact Or.inl rfl | exact Or.inr rfl) h1
            · skip
              refine And.intro (fun c227 => ?_) (fun c227 => ?_)
              · skip
                exact E00 f hf _ e he _ m hm u hu _ (by first | exact Or.inl rfl | exact Or.inr rfl) h1
              · skip
                exact E00 f hf _ e he _ m hm u hu _ (by first | exact Or.inl rfl | exact Or.inr rfl) h1
  have D157 : ∀ f, f < 13 → ∀ y15 : Int32, ∀ e, e < 4 → ∀ y17 : Int32, ∀ m, m < 100 → ∀ u, u < 20 → Y w mL_isBlock θ0 (PL κ p l) (fun v κ' => PQ κ p v κ') (fun _ _ => False) 0 0 159 [some (.ref (tS 4)), some (.ref (tM 0)), some (.ref (tM 1)), some (.ref (tM 2)), some (.ref (tM 3)), some (.ref (tM 4)), some (.ref (tM 5)), some (.ref (tM 6)), some (.ref (tM 7)), some (.ref (tM 8)), some (.ref (tM 9)), some (.int x), some (.int (nI o)), some (.int (nI q)), some (.int (nI f)), some (.int y15), some (.int (nI e)), some (.int y17), some (.int (nI m)), some (.int (nI u)), none, none, none] [] (PL κ p l) := by
    intro f hf y15 e he y17 m hm u hu
    have f0 : 0 ≤ nI f := nI_pos' (by omega)
    have v0 : 0 ≤ nI e := nI_pos' (by omega)
    refine runL_go (κ := κ) (p := p) rkL_isBlock (fun p => Nat.beq p 189) 300 rfl ?_
    refine And.intro (fun c163 => ?_) (fun c163 => ?_)
    · skip
      exact D0 f hf _ e he _ m hm u hu (by grind)
    · skip
      refine And.intro (fun c168 => ?_) (fun c168 => ?_)
      · skip
        exact D0 f hf _ e he _ m hm u hu (by grind)
      · skip
        refine And.intro (fun c175 => ?_) (fun c175 => ?_)
        · skip
          exact D0 f hf _ e he _ m hm u hu (by grind)
        · skip
          refine And.intro (fun c181 => ?_) (fun c181 => ?_)
          · skip
            exact D0 f hf _ e he _ m hm u hu (by grind)
          · skip
            exact D1 f hf _ e he _ m hm u hu (by grind)
  have ra13 : nI o - nI o / 13 * 13 = nI (o % 13) := rm_nI (d := 13) (by omega) (by decide) (by decide)
  have ra4 : nI q - nI q / 4 * 4 = nI (q % 4) := rm_nI (d := 4) (by omega) (by decide) (by decide)
  have ra62 : nI q - nI q / 62 * 62 = nI (q % 62) := rm_nI (d := 62) (by omega) (by decide) (by decide)
  have ra10x : nI q - nI q / 10 * 10 = nI (q % 10) := rm_nI (d := 10) (by omega) (by decide) (by decide)
  have r139 : nI o / 13 - nI o / 13 / 9 * 9 = nI (o / 13 % 9) := by rw [show nI o / 13 = nI (o / 13) from pk_div (d := 13) (by omega) (by decide) (by decide)]; exact rm_nI (d := 9) (by omega) (by decide) (by decide)
  have r117 : nI o / 117 - nI o / 117 / 12 * 12 = nI (o / 117 % 12) := by rw [show nI o / 117 = nI (o / 117) from pk_div (d := 117) (by omega) (by decide) (by decide)]; exact rm_nI (d := 12) (by omega) (by decide) (by decide)
  have r1053 : nI o / 1053 - nI o / 1053 / 4 * 4 = nI (o / 1053 % 4) := by rw [show nI o / 1053 = nI (o / 1053) from pk_div (d := 1053) (by omega) (by decide) (by decide)]; exact rm_nI (d := 4) (by omega) (by decide) (by decide)
  have r6 : (nI o / 13 - nI o / 13 / 9 * 9) / 6 = nI (o / 13 % 9 / 6) := by rw [r139]; exact pk_div (d := 6) (by omega) (by decide) (by decide)
  have D159 : ∀ y14 y15 y16 y17 y18 y19 : Int32, (∃ f, f < 13 ∧ y14 = nI f) → (∃ e, e < 4 ∧ y16 = nI e) → (∃ m, m < 100 ∧ y18 = nI m) → (∃ u, u < 20 ∧ y19 = nI u) → Y w mL_isBlock θ0 (PL κ p l) (fun v κ' => PQ κ p v κ') (fun _ _ => False) 0 0 159 [some (.ref (tS 4)), some (.ref (tM 0)), some (.ref (tM 1)), some (.ref (tM 2)), some (.ref (tM 3)), some (.ref (tM 4)), some (.ref (tM 5)), some (.ref (tM 6)), some (.ref (tM 7)), some (.ref (tM 8)), some (.ref (tM 9)), some (.int x), some (.int (nI o)), some (.int (nI q)), some (.int y14), some (.int y15), some (.int y16), some (.int y17), some (.int y18), some (.int y19), none, none, none] [] (PL κ p l) := by
    rintro y14 y15 y16 y17 y18 y19 ⟨f, hf, rfl⟩ ⟨e, he, rfl⟩ ⟨m, hm, rfl⟩ ⟨u, hu, rfl⟩
    exact D157 f hf _ e he _ m hm u hu
  have F157 : ∀ y14 y15 y16 y17 y18 v : Int32, (∃ f, f < 13 ∧ y14 = nI f) → (∃ e, e < 4 ∧ y16 = nI e) → (∃ m, m < 100 ∧ y18 = nI m) → (∃ u, u < 20 ∧ v = nI u) → Y w mL_isBlock θ0 (PL κ p l) (fun v κ' => PQ κ p v κ') (fun _ _ => False) 0 0 157 [some (.ref (tS 4)), some (.ref (tM 0)), some (.ref (tM 1)), some (.ref (tM 2)), some (.ref (tM 3)), some (.ref (tM 4)), some (.ref (tM 5)), some (.ref (tM 6)), some (.ref (tM 7)), some (.ref (tM 8)), some (.ref (tM 9)), some (.int x), some (.int (nI o)), some (.int (nI q)), some (.int y14), some (.int y15), some (.int y16), some (.int y17), some (.int y18), none, none, none, none] [.int v] (PL κ p l) := by
    intro y14 y15 y16 y17 y18 v h14 h16 h18 hv
    refine runL_go (κ := κ) (p := p) rkL_isBlock (fun p => Nat.beq p 159) 300 rfl ?_
    exact D159 _ _ _ _ _ _ h14 h16 h18 hv
  have F125 : ∀ y14 y15 y16 y17 v : Int32, (∃ f, f < 13 ∧ y14 = nI f) → (∃ e, e < 4 ∧ y16 = nI e) → (∃ m, m < 100 ∧ v = nI m) → Y w mL_isBlock θ0 (PL κ p l) (fun v κ' => PQ κ p v κ') (fun _ _ => False) 0 0 125 [some (.ref (tS 4)), some (.ref (tM 0)), some (.ref (tM 1)), some (.ref (tM 2)), some (.ref (tM 3)), some (.ref (tM 4)), some (.ref (tM 5)), some (.ref (tM 6)), some (.ref (tM 7)), some (.ref (tM 8)), some (.ref (tM 9)), some (.int x), some (.int (nI o)), some (.int (nI q)), some (.int y14), some (.int y15), some (.int y16), some (.int y17), none, none, none, none, none] [.int v] (PL κ p l) := by
    intro y14 y15 y16 y17 v h14 h16 h18
    refine runL_go (κ := κ) (p := p) rkL_isBlock (fun p => Nat.beq p 157) 300 rfl ?_
    refine And.intro (by decide) ?_
    refine And.intro (by decide) ?_
    refine And.intro (fun c136 => ?_) (fun c136 => ?_)
    · skip
      refine And.intro (by decide) ?_
      refine And.intro (by decide) ?_
      exact F157 _ _ _ _ _ _ h14 h16 h18 ⟨2 + o / 1053 % 4, by have := Nat.mod_lt (o / 1053) (show 0 < 4 by decide); omega, by rw [r1053]; exact nI_add 2 _⟩
    · skip
      refine And.intro (by decide) ?_
      exact F157 _ _ _ _ _ _ h14 h16 h18 ⟨_, by have := Nat.mod_lt q (show 0 < 10 by decide); omega, ra10x⟩
  have F96 : ∀ y14 y15 y16 v : Int32, (∃ f, f < 13 ∧ y14 = nI f) → (∃ e, e < 4 ∧ y16 = nI e) → Y w mL_isBlock θ0 (PL κ p l) (fun v κ' => PQ κ p v κ') (fun _ _ => False) 0 0 96 [some (.ref (tS 4)), some (.ref (tM 0)), some (.ref (tM 1)), some (.ref (tM 2)), some (.ref (tM 3)), some (.ref (tM 4)), some (.ref (tM 5)), some (.ref (tM 6)), some (.ref (tM 7)), some (.ref (tM 8)), some (.ref (tM 9)), some (.int x), some (.int (nI o)), some (.int (nI q)), some (.int y14), some (.int y15), some (.int y16), none, none, none, none, none, none] [.int v] (PL κ p l) := by
    intro y14 y15 y16 v h14 h16
    refine runL_go (κ := κ) (p := p) rkL_isBlock (fun p => Nat.beq p 125) 300 rfl ?_
    refine And.intro (by decide) ?_
    refine And.intro (by decide) ?_
    refine And.intro (fun c106 => ?_) (fun c106 => ?_)
    · skip
      refine And.intro (by decide) ?_
      refine And.intro (by decide) ?_
      exact F125 _ _ _ _ _ h14 h16 ⟨_, by have := Nat.mod_lt (o / 117) (show 0 < 12 by decide); omega, r117⟩
    · skip
      refine And.intro (by decide) ?_
      exact F125 _ _ _ _ _ h14 h16 ⟨_, by have := Nat.mod_lt q (show 0 < 62 by decide); omega, ra62⟩
  have F61 : ∀ y14 y15 v : Int32, (∃ f, f < 13 ∧ y14 = nI f) → (∃ e, e < 4 ∧ v = nI e) → Y w mL_isBlock θ0 (PL κ p l) (fun v κ' => PQ κ p v κ') (fun _ _ => False) 0 0 61 [some (.ref (tS 4)), some (.ref (tM 0)), some (.ref (tM 1)), some (.ref (tM 2)), some (.ref (tM 3)), some (.ref (tM 4)), some (.ref (tM 5)), some (.ref (tM 6)), some (.ref (tM 7)), some (.ref (tM 8)), some (.ref (tM 9)), some (.int x), some (.int (nI o)), some (.int (nI q)), some (.int y14), some (.int y15), none, none, none, none, none, none, none] [.int v] (PL κ p l) := by
    intro y14 y15 v h14 h16
    refine runL_go (κ := κ) (p := p) rkL_isBlock (fun p => Nat.beq p 96) 300 rfl ?_
    refine And.intro (by decide) ?_
    refine And.intro (by decide) ?_
    refine And.intro (fun c70 => ?_) (fun c70 => ?_)
    · skip
      refine And.intro (by decide) ?_
      refine And.intro (by decide) ?_
      exact F96 _ _ _ _ h14 h16
    · skip
      refine And.intro (by decide) ?_
      refine And.intro (by decide) ?_
      exact F96 _ _ _ _ h14 h16
  refine runL_go (κ := κ) (p := p) rkL_isBlock (fun p => Nat.beq p 61) 300 rfl ?_
  refine And.intro (fun c2 => False.elim (by first | exact c2 (fun z => z hx) | exact absurd (fun z => z hx) c2 | exact absurd c2 (fun z => z hx))) (fun c2 => ?_)
  refine ⟨9, 10, A.ld (by decide) (by decide) rfl, ?_⟩
  refine And.intro (fun c12 => False.elim (by first | exact c12 (by rw [a10]; exact fun z => by have := (nI_leI (a := 40) (by decide) (by omega)).mp z; omega) | exact absurd (by rw [a10]; exact fun z => by have := (nI_leI (a := 40) (by decide) (by omega)).mp z; omega) c12 | exact absurd c12 (by rw [a10]; exact fun z => by have := (nI_leI (a := 40) (by decide) (by omega)).mp z; omega))) (fun c12 => ?_)
  refine And.intro (by decide) ?_
  refine And.intro (by decide) ?_
  refine And.intro (by decide) ?_
  refine And.intro (by decide) ?_
  refine And.intro (fun c43 => ?_) (fun c43 => ?_)
  · skip
    refine And.intro (by decide) ?_
    refine And.intro (by decide) ?_
    refine And.intro (by decide) ?_
    exact F61 _ _ _ ⟨_, Nat.mod_lt o (by decide), ra13⟩ ⟨_, by have := Nat.mod_lt (o / 13) (show 0 < 9 by decide); omega, r6⟩
  · skip
    exact F61 _ _ _ ⟨_, Nat.mod_lt o (by decide), ra13⟩ ⟨3, by decide, rfl⟩

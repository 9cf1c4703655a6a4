
/-! THE LAW'S isWeld -/
theorem whN_cong {σ σ' : MS} (h : ∀ i, σ'.2 17 i = σ.2 17 i) : ∀ n b, whN σ' n b = whN σ n b
  | 0, _ => rfl
  | n + 1, b => by rw [whN_s, whN_s, h, whN_cong h n]
theorem whl_cong {σ σ' : MS} (h : ∀ i, σ'.2 17 i = σ.2 17 i) (b : Int32) : whl σ' b = whl σ b := whN_cong h 60 b
/-- only the welds' row and junk change -/
theorem Cp_6 {l l' : LSt} {σ σ' : MS} {nb nw np : Nat} (h : Cp l σ nb nw np) (hl : ∀ j k, ¬ j = 6 → l' j k = l j k) (hs1 : ∀ j, j ≠ 34 → σ'.1 j = σ.1 j) (hs : ∀ j, (j < 19 ∨ 24 < j) → σ'.2 j = σ.2 j) (hW : cW l' σ' nb nw) : Cp l' σ' nb nw np := by
  obtain ⟨⟨h1, h2, h3, h4⟩, ⟨B, W, R, G, z18⟩, hln⟩ := h
  exact ⟨⟨h1, h2, h3, (hs1 6 (by decide)).trans h4⟩, ⟨B.cong (fun j hj i _ => hl j i (by omega)) (fun j _ _ i _ => by rw [hs j (by omega)]), hW, R.cong (fun j _ _ c _ => hl j c (by omega)) (fun j _ _ c _ => by rw [hs j (by omega)]), G.cong (fun k => hl 9 k (by omega)) (fun j hj => hs1 j (by omega)) (fun y _ => by rw [hs 5 (by omega)]), (hs1 18 (by decide)).trans z18⟩, hln.cong (fun j hj i _ => by rw [hs j (by omega)])⟩
theorem Cp_60 {l : LSt} {σ : MS} {nb nw np : Nat} {x c : Int32} (C : Cp l σ nb nw np) : Cp (lu l 6 60 x) (upS σ 34 c) nb nw np :=
  Cp_6 C (fun j k h => lu_o (fun z => h z.1)) (fun j hj => if_neg hj) (fun j _ => rfl) (C.2.1.2.1.cong (fun k hk => lu_o (fun z => by have := C.1.2.1; omega)) (fun _ _ _ _ _ => rfl) (Nat.le_refl _))
theorem cW_1 {l l' : LSt} {σ σ' : MS} {nb nw k : Nat} (h : cW l σ nb nw) (hl : ∀ i, ¬ i = k → l' 6 i = l 6 i) (hs : ∀ j i, 19 ≤ j → ¬ i = k → σ'.2 j i = σ.2 j i) (hk : k < nw → cW1 (l' 6 k) σ' nb k) : cW l' σ' nb nw := fun i hi => by
  by_cases e : i = k
  · subst e; exact hk hi
  · exact (h i hi).cong (hl i e) (fun j h1 _ => hs j i h1 e) (Nat.le_refl _)
theorem Cp_test {l : LSt} {σ : MS} {nb nw np k : Nat} (C : Cp l σ nb nw np) (hk : k < nw) (h19 : σ.2 19 k = 0) : (l 6 k / 4 - l 6 k / 4 / 2 * 2 = 1 ↔ ¬ σ.2 20 k = 0) ∧ (∀ v, (v = if ¬ σ.2 20 k = 0 then (2 : Int32) else 1) → Cp (lu l 6 k (l 6 k + v)) (upA (upS σ 34 0) 19 k v) nb nw np ∧ (l 6 k + v) - (l 6 k + v) / 4 * 4 = v) := by
  have hb := C.1.1
  obtain ⟨s, d, r, f, e, b, h1, h2, h3, h4, h5, h6, h7, h8, h9, h10, h11, h12, h13, h14⟩ := C.2.1.2.1 k hk
  have s0 : s = 0 := (nI_eq (b := 0) (by omega) (by decide)).mp (h8.symm.trans h19)
  subst s0
  refine ⟨by rw [h14, eW_d h1 h2 h3 h4 h5 (by omega), h9]; rcases (show d = 0 ∨ d = 1 by omega) with rfl | rfl <;> decide, fun v hv => ?_⟩
  have ⟨q, hq, ev⟩ : ∃ q, q ≤ 2 ∧ v = nI q := by
    rw [hv]
    split
    · exact ⟨2, by decide, rfl⟩
    · exact ⟨1, by decide, rfl⟩
  have en : l 6 k + v = nI (eW q d r f e b) := by
    rw [h14, ev, nI_add]; congr 1; unfold eW; omega
  refine ⟨Cp_6 C (fun j i h => lu_o (fun z => h z.1)) (fun j hj => if_neg hj) (fun j hj => funext fun i => upA_o (by omega)) (cW_1 (k := k) C.2.1.2.1 (fun i hi => lu_o (fun z => hi z.2)) (fun j i _ hi => upA_o (fun z => hi z.2)) (fun _ => ?_)), by rw [en, eW_s hq h2 h3 h4 h5 (by omega), ev]⟩
  refine ⟨q, d, r, f, e, b, hq, h2, h3, h4, h5, h6, h7, by rw [upA_s, ev], ?_, ?_, ?_, ?_, ?_, by rw [lu_s, en]⟩
  · rw [upA_o (fun z => absurd z.1 (by decide))]; exact h9
  · rw [upA_o (fun z => absurd z.1 (by decide))]; exact h10
  · rw [upA_o (fun z => absurd z.1 (by decide))]; exact h11
  · rw [upA_o (fun z => absurd z.1 (by decide))]; exact h12
  · rw [upA_o (fun z => absurd z.1 (by decide))]; exact h13
/-- a repair -/
def lrp1 (l : LSt) (k : Nat) : LSt := lu (lu l 6 k (l 6 k + 8)) 9 9 (lu l 6 k (l 6 k + 8) 9 9 - 30)
def lrpS (σ : MS) (k : Nat) : MS := upS (upA σ 21 k (σ.2 21 k + 1)) 7 (σ.1 7 - 30)
theorem rp_QD {l : LSt} {σ : MS} {nb nw np k y : Nat} (D : QD l σ nb nw np) (hb : nb ≤ 40) (hk : k < nw) (hy : y < 4) (hr : ¬ σ.2 21 k = 2) : QD (drF (lrp1 l k) k y) (sDrw (lrpS σ k) k y) nb nw np ∧ drF (lrp1 l k) k y 6 k / 8 - drF (lrp1 l k) k y 6 k / 8 / 4 * 4 = σ.2 21 k + 1 := by
  obtain ⟨B, W, R, G, z18⟩ := D
  have L : ∀ j i, ¬ (j = 6 ∧ i = k) → ¬ (j = 9 ∧ i = 9) → lrp1 l k j i = l j i := fun j i h1 h2 => by unfold lrp1; rw [lu_o h2, lu_o h1]
  have L99 : lrp1 l k 9 9 = l 9 9 - 30 := by unfold lrp1; rw [lu_s, lu_o (fun z => absurd z.1 (by decide))]
  have L6 : lrp1 l k 6 k = l 6 k + 8 := by unfold lrp1; rw [lu_o (fun z => absurd z.1 (by decide)), lu_s]
  have S : ∀ j i, ¬ (j = 21 ∧ i = k) → (lrpS σ k).2 j i = σ.2 j i := fun j i h => upA_o h
  have W1 : cW (lrp1 l k) (lrpS σ k) nb nw := cW_1 (k := k) W (fun i hi => L 6 i (fun z => hi z.2) (by omega)) (fun j i _ hi => S j i (fun z => hi z.2)) (fun _ => by
    obtain ⟨s, d, r, f, e, b, h1, h2, h3, h4, h5, h6, h7, h8, h9, h10, h11, h12, h13, h14⟩ := W k hk
    have r2 : r ≠ 2 := fun z => hr (by rw [h10, z]; rfl)
    refine ⟨s, d, r + 1, f, e, b, h1, h2, by omega, h4, h5, h6, h7, ?_, ?_, ?_, ?_, ?_, ?_, ?_⟩
    · rw [S _ _ (by omega)]; exact h8
    · rw [S _ _ (by omega)]; exact h9
    · show (upA σ 21 k (σ.2 21 k + 1)).2 21 k = _
      rw [upA_s, h10, nI_1]
    · rw [S _ _ (by omega)]; exact h11
    · rw [S _ _ (by omega)]; exact h12
    · rw [S _ _ (by omega)]; exact h13
    · rw [L6, h14, show (8 : Int32) = nI 8 from rfl, nI_add]; congr 1; unfold eW; omega)
  have G1 : cG (lrp1 l k) (lrpS σ k) nb nw np := by
    obtain ⟨a0, a1, a2, a3, a4, a5, a9, a10, a11, a12⟩ := G
    refine ⟨?_, ?_, ?_, ?_, ?_, fun z hz => ?_, ?_, ?_, ?_, ?_⟩
    · rw [L _ _ (by omega) (by omega)]; exact a0
    · rw [L _ _ (by omega) (by omega)]; exact a1
    · rw [L _ _ (by omega) (by omega)]; exact a2
    · rw [L _ _ (by omega) (by omega)]; exact a3
    · rw [L _ _ (by omega) (by omega)]; exact a4
    · rw [L _ _ (by omega) (by omega), S _ _ (by omega)]; exact a5 z hz
    · rw [L99, a9]; rfl
    · rw [L _ _ (by omega) (by omega)]; exact a10
    · rw [L _ _ (by omega) (by omega)]; exact a11
    · rw [L _ _ (by omega) (by omega)]; exact a12
  have W2 := dr_W (k := k) (y := y) (by omega) W1 hk G1.2.2.2.2.1 (G1.2.2.2.2.2.1 y hy)
  refine ⟨⟨B.cong (fun j hj i _ => by rw [drF_o (by omega) (by omega), L _ _ (by omega) (by omega)]) (fun j _ _ i _ => by rw [sD_o (Or.inr (by omega)), S _ _ (by omega)]), W2, R.cong (fun j _ _ c _ => by rw [drF_o (by omega) (by omega), L _ _ (by omega) (by omega)]) (fun j _ _ c _ => by rw [sD_o (Or.inr (by omega)), S _ _ (by omega)]), dr_G G1, z18⟩, ?_⟩
  obtain ⟨s, d, r, f, e, b, h1, h2, h3, h4, h5, h6, h7, h8, h9, h10, h11, h12, h13, h14⟩ := W2 k hk
  rw [h14, eW_r h1 h2 h3 h4 h5 (by omega), ← h10, sD_o (Or.inr (by decide))]
  show (upA σ 21 k (σ.2 21 k + 1)).2 21 k = _
  rw [upA_s]
theorem sp_QD {l : LSt} {σ : MS} {nb nw np f e : Nat} (D : QD l σ nb nw np) (hf1 : 1 ≤ f) (hf : f ≤ 11) (he : e ≤ 2) : QD (spF l (12 * e + f)) (sSpo σ (nI f) (nI e)) nb nw np := by
  obtain ⟨B, W, R, G, z18⟩ := D
  exact ⟨B.cong (fun j hj i _ => spF_o (by omega)) (fun j _ _ i _ => by rw [sSpo_row (by omega)]), W.cong (fun k _ => spF_o (by decide)) (fun j _ _ k _ => by rw [sSpo_row (by omega)]) (Nat.le_refl _), spF_R R hf1 hf he, G.cong (fun k => spF_o (by decide)) (fun j _ => rfl) (fun y _ => by rw [sSpo_row (by decide)]), z18⟩
theorem QD_34 {l : LSt} {σ : MS} {nb nw np : Nat} {c : Int32} (D : QD l σ nb nw np) : QD l (upS σ 34 c) nb nw np := by
  obtain ⟨B, W, R, G, z18⟩ := D
  exact ⟨B.cong (fun _ _ _ _ => rfl) (fun _ _ _ _ _ => rfl), W.cong (fun _ _ => rfl) (fun _ _ _ _ _ => rfl) (Nat.le_refl _), R.cong (fun _ _ _ _ _ => rfl) (fun _ _ _ _ _ => rfl), G.cong (fun _ => rfl) (fun j hj => if_neg (by omega)) (fun _ _ => rfl), z18⟩

theorem kT_0 {σ : MS} {k : Nat} (hk : k < 60) (h : isWld σ (nI k)) (h1 : σ.2 19 k = 0) (h2 : ¬ iScr σ (nI k)) : kTest σ (nI k) = 0 := by
  unfold kTest; rw [if_pos h]
  exact if_pos ⟨by rw [nI_clamp (by omega)]; exact h1, h2⟩
theorem kT_2 {σ : MS} {k : Nat} (hk : k < 60) (h : isWld σ (nI k)) (h1 : ¬ (σ.2 19 k = 0 ∧ ¬ iScr σ (nI k))) : kTest σ (nI k) = 2 := by
  unfold kTest; rw [if_pos h]
  exact if_neg (fun z => h1 ⟨by have := z.1; rw [nI_clamp (by omega)] at this; exact this, z.2⟩)
theorem kR_0 {σ : MS} {k : Nat} {y : Int32} (hk : k < 60) (h : isWld σ (nI k)) (hy : isWdr y) (h1 : σ.2 19 k = 2) (h2 : ¬ iScr σ (nI k)) (h3 : ¬ σ.2 21 k = 2) (h6 : σ.1 6 = 0) : kRep σ (nI k) y = 0 := by
  unfold kRep; rw [if_pos ⟨h, hy⟩]
  exact if_pos ⟨by rw [nI_clamp (by omega)]; exact h1, h2, by rw [nI_clamp (by omega)]; exact h3, h6⟩
theorem kR_2 {σ : MS} {k : Nat} {y : Int32} (hk : k < 60) (h : isWld σ (nI k)) (hy : isWdr y) (h1 : ¬ (σ.2 19 k = 2 ∧ ¬ iScr σ (nI k) ∧ ¬ σ.2 21 k = 2 ∧ σ.1 6 = 0)) : kRep σ (nI k) y = 2 := by
  unfold kRep; rw [if_pos ⟨h, hy⟩]
  refine if_neg (fun z => h1 ?_)
  rw [nI_clamp (by omega)] at z
  exact z

theorem Cp_rp {l l' : LSt} {σ σ' : MS} {nb nw np : Nat} (C : Cp l σ nb nw np) (D : QD l' σ' nb nw np) (hs : ∀ j, j < 19 → σ'.2 j = σ.2 j) (h6 : σ'.1 6 = 0) : Cp l' σ' nb nw np :=
  ⟨⟨C.1.1, C.1.2.1, C.1.2.2.1, h6⟩, D, C.2.2.cong (fun j hj i _ => by rw [hs j (by omega)])⟩
set_option maxRecDepth 20000 in
theorem c_L_isWeld {w : W0} {κ : AH} {p : Nat} {l : LSt} {x : Int32} {σ : MS} {o q nb nw np : Nat} {wb : Nat → Nat} (A : AK κ) (hI : RI κ κ σ nb nw np wb) (C : Cp l σ nb nw np) (ho : o < 60000) (hq : q < 60000) : CY w yL_isWeld mL_isWeld [.ref (tS 4), .ref (tM 0), .ref (tM 5), .ref (tM 6), .ref (tM 8), .ref (tM 9), .int x, .int (nI o), .int (nI q)] (PL κ p l) (fun v κ' => PQ κ p v κ') := by
  refine CY_of mcL_isWeld (Nat.le_of_ble_eq_true rfl) (cat1 rfl) (fun θ0 => ?_)
  have e8 : σ.1 8 = nI nb := hI.1.e8
  have e18 : σ.1 18 = nI nw := hI.1.e18
  have e30 : σ.1 30 = nI np := hI.1.2.2.2.2.2.1
  obtain ⟨⟨hb40, hw60, hp10, h6⟩, D, hln⟩ := id C
  obtain ⟨CB, CW, CR, CG, z18⟩ := id D
  have a11 : l 9 11 = nI nw := CG.2.2.2.2.2.2.2.2.1
  have IW : ∀ k, k < 100 → (isWld σ (nI k) ↔ k < nw) := fun k hk => (isB_wld hI.1.n18 e18).trans ⟨fun z => (nI_ltI (by omega) (by have := hI.1.n18; omega)).mp z.2, fun z => ⟨nI_pos' (by omega), nI_lt z (by have := hI.1.n18; omega)⟩⟩
  have IY : ∀ y, y < 5 → (isWdr (nI y) ↔ y < 4) := fun y hy => ⟨fun z => by have := (nI_leI (b := 3) (by omega) (by decide)).mp z.2; omega, fun z => ⟨nI_pos' (by omega), nI_le (b := 3) (by omega) (by decide)⟩⟩
  have TN : ∀ y, y < 5 → x = 0 → Y w mL_isWeld θ0 (PL κ p l) (fun v κ' => PQ κ p v κ') (fun _ _ => False) 0 0 92 [some (.ref (tS 4)), some (.ref (tM 0)), some (.ref (tM 5)), some (.ref (tM 6)), some (.ref (tM 8)), some (.ref (tM 9)), some (.int x), some (.int (nI o)), some (.int (nI q)), some (.int (nI nw)), some (.int (nI y)), some (.int 0), some (.int (-1)), some (.int 0), none, none, none] [] (PL κ p l) := by
    intro y hy hx
    have em : mTest σ (nI nw) = (0, upS σ 34 1) := by
      have k1 : kTest σ (nI nw) = 1 := by unfold kTest; rw [if_neg (fun z => absurd ((IW nw (by omega)).mp z) (Nat.lt_irrefl _))]
      unfold mTest; rw [if_neg (by rw [k1]; decide), k1]
    refine runL_go (κ := κ) (p := p) rkL_isWeld noCut 300 rfl ?_
    refine And.intro (fun c94 => False.elim (by first | exact c94 (fun z => z hx) | exact absurd (fun z => z hx) c94 | exact absurd c94 (fun z => z hx))) (fun c94 => ?_)
    refine And.intro (fun c99 => ?_) (fun c99 => False.elim (by first | exact c99 (by decide) | exact absurd (by decide) c99 | exact absurd c99 (by decide)))
    refine And.intro (fun c126 => ?_) (fun c126 => False.elim (by first | exact c126 (by decide) | exact absurd (by decide) c126 | exact absurd c126 (by decide)))
    refine ⟨6, 60, A.ld (by decide) (by decide) rfl, ?_⟩
    refine And.intro (fun c140 => ?_) (fun c140 => False.elim (by first | exact c140 (by decide) | exact absurd (by decide) c140 | exact absurd c140 (by decide)))
    refine ⟨6, 60, A.ld (by decide) (by decide) rfl, ?_⟩
    refine pL_isWeld_172 rfl rfl rfl (w_test (RI_PL hI)) (fun v κ1 hq172 ho172 hk172 => ?_)
    obtain ⟨rfl, hre⟩ := hq172
    obtain ⟨κ1, rfl, hR1, hk1⟩ := PL_back hre
    have A1 := AK_of A hk1
    refine runL_ok rkL_isWeld noCut 300 _ _ _ _ _ _ ?_
    refine And.intro (fun c177 => False.elim (by first | exact c177 (by decide) | exact absurd (by decide) c177 | exact absurd c177 (by decide))) (fun c177 => ?_)
    refine pL_isWeld_180 ?_
    refine runL_ok rkL_isWeld noCut 300 _ _ _ _ _ _ ?_
    refine And.intro (fun c201 => False.elim (by first | exact c201 (show dv (-3000000) (-1000000) 0 (mTest σ (nI nw)) = -3000000 by rw [em]; rfl) | exact absurd (show dv (-3000000) (-1000000) 0 (mTest σ (nI nw)) = -3000000 by rw [em]; rfl) c201 | exact absurd c201 (show dv (-3000000) (-1000000) 0 (mTest σ (nI nw)) = -3000000 by rw [em]; rfl))) (fun c201 => ?_)
    refine And.intro ⟨Nat.le_of_ble_eq_true rfl, Nat.le_of_ble_eq_true rfl⟩ ?_
    refine And.intro (by first | exact Or.inl rfl | exact Or.inr rfl) ?_
    rw [em] at hR1
    exact PQ_of hR1 hk1 e8 e30 (Cp_60 C)
  have TS1 : ∀ k, k < nw → ∀ y, y < 5 → ∀ y12 : Int32, iScr σ (nI k) → x = 0 → Y w mL_isWeld θ0 (PL κ p l) (fun v κ' => PQ κ p v κ') (fun _ _ => False) 0 0 92 [some (.ref (tS 4)), some (.ref (tM 0)), some (.ref (tM 5)), some (.ref (tM 6)), some (.ref (tM 8)), some (.ref (tM 9)), some (.int x), some (.int (nI o)), some (.int (nI q)), some (.int (nI k)), some (.int (nI y)), some (.int 1), some (.int y12), some (.int 1), none, none, none] [] (PL κ p l) := by
    intro k hk y hy y12 hyp hx
    have hk60 : k < 60 := by omega
    have s4 : l 6 k - l 6 k / 4 * 4 = σ.2 19 k := by
      obtain ⟨s, d, r, f, e, b, h1, h2, h3, h4, h5, h6, h7, h8, h9, h10, h11, h12, h13, h14⟩ := CW k hk
      rw [h14, eW_s h1 h2 h3 h4 h5 (by omega), h8]
    have IK : isWld σ (nI k) := (IW k (by omega)).mpr hk
    have em : mTest σ (nI k) = (0, upS σ 34 2) := by
      have k1 : kTest σ (nI k) = 2 := kT_2 hk60 IK (fun z => z.2 hyp)
      unfold mTest; rw [if_neg (by rw [k1]; decide), k1]
    refine runL_go (κ := κ) (p := p) rkL_isWeld noCut 300 rfl ?_
    refine And.intro (fun c94 => False.elim (by first | exact c94 (fun z => z hx) | exact absurd (fun z => z hx) c94 | exact absurd c94 (fun z => z hx))) (fun c94 => ?_)
    refine And.intro (fun c99 => False.elim (by first | exact c99 (by decide) | exact absurd (by decide) c99 | exact absurd c99 (by decide))) (fun c99 => ?_)
    refine ⟨6, k, A.ld (by decide) (show k < 61 by omega) rfl, ?_⟩
    refine And.intro (by decide) ?_
    refine And.intro (fun c108 => ?_) (fun c108 => ?_)
    · skip
      refine And.intro (fun c126 => ?_) (fun c126 => False.elim (by first | exact c126 (by decide) | exact absurd (by decide) c126 | exact absurd c126 (by decide)))
      refine ⟨6, 60, A.ld (by decide) (by decide) rfl, ?_⟩
      refine And.intro (fun c140 => ?_) (fun c140 => False.elim (by first | exact c140 (by decide) | exact absurd (by decide) c140 | exact absurd c140 (by decide)))
      refine ⟨6, 60, A.ld (by decide) (by decide) rfl, ?_⟩
      refine pL_isWeld_172 rfl rfl rfl (w_test (RI_PL hI)) (fun v κ1 hq172 ho172 hk172 => ?_)
      obtain ⟨rfl, hre⟩ := hq172
      obtain ⟨κ1, rfl, hR1, hk1⟩ := PL_back hre
      have A1 := AK_of A hk1
      refine runL_ok rkL_isWeld noCut 300 _ _ _ _ _ _ ?_
      refine And.intro (fun c177 => ?_) (fun c177 => False.elim (by first | exact c177 (by decide) | exact absurd (by decide) c177 | exact absurd c177 (by decide)))
      refine And.intro (fun c187 => ?_) (fun c187 => False.elim (by first | exact c187 (by decide) | exact absurd (by decide) c187 | exact absurd c187 (by decide)))
      refine pL_isWeld_199 ?_
      refine runL_ok rkL_isWeld noCut 300 _ _ _ _ _ _ ?_
      refine And.intro (fun c201 => False.elim (by first | exact c201 (show dv (-3000000) (-1000000) 0 (mTest σ (nI k)) = -1000000 by rw [em]; rfl) | exact absurd (show dv (-3000000) (-1000000) 0 (mTest σ (nI k)) = -1000000 by rw [em]; rfl) c201 | exact absurd c201 (show dv (-3000000) (-1000000) 0 (mTest σ (nI k)) = -1000000 by rw [em]; rfl))) (fun c201 => ?_)
      refine And.intro ⟨Nat.le_of_ble_eq_true rfl, Nat.le_of_ble_eq_true rfl⟩ ?_
      refine And.intro (by first | exact Or.inl rfl | exact Or.inr rfl) ?_
      rw [em] at hR1
      exact PQ_of hR1 hk1 e8 e30 (Cp_60 C)
    · skip
      refine And.intro (fun c113 => ?_) (fun c113 => False.elim (by first | exact c113 (by decide) | exact absurd (by decide) c113 | exact absurd c113 (by decide)))
      refine And.intro (fun c126 => ?_) (fun c126 => False.elim (by first | exact c126 (by decide) | exact absurd (by decide) c126 | exact absurd c126 (by decide)))
      refine ⟨6, 60, A.ld (by decide) (by decide) rfl, ?_⟩
      refine And.intro (fun c140 => ?_) (fun c140 => False.elim (by first | exact c140 (by decide) | exact absurd (by decide) c140 | exact absurd c140 (by decide)))
      refine ⟨6, 60, A.ld (by decide) (by decide) rfl, ?_⟩
      refine pL_isWeld_172 rfl rfl rfl (w_test (RI_PL hI)) (fun v κ1 hq172 ho172 hk172 => ?_)
      obtain ⟨rfl, hre⟩ := hq172
      obtain ⟨κ1, rfl, hR1, hk1⟩ := PL_back hre
      have A1 := AK_of A hk1
      refine runL_ok rkL_isWeld noCut 300 _ _ _ _ _ _ ?_
      refine And.intro (fun c177 => ?_) (fun c177 => False.elim (by first | exact c177 (by decide) | exact absurd (by decide) c177 | exact absurd c177 (by decide)))
      refine And.intro (fun c187 => ?_) (fun c187 => False.elim (by first | exact c187 (by decide) | exact absurd (by decide) c187 | exact absurd c187 (by decide)))
      refine pL_isWeld_199 ?_
      refine runL_ok rkL_isWeld noCut 300 _ _ _ _ _ _ ?_
      refine And.intro (fun c201 => False.elim (by first | exact c201 (show dv (-3000000) (-1000000) 0 (mTest σ (nI k)) = -1000000 by rw [em]; rfl) | exact absurd (show dv (-3000000) (-1000000) 0 (mTest σ (nI k)) = -1000000 by rw [em]; rfl) c201 | exact absurd c201 (show dv (-3000000) (-1000000) 0 (mTest σ (nI k)) = -1000000 by rw [em]; rfl))) (fun c201 => ?_)
      refine And.intro ⟨Nat.le_of_ble_eq_true rfl, Nat.le_of_ble_eq_true rfl⟩ ?_
      refine And.intro (by first | exact Or.inl rfl | exact Or.inr rfl) ?_
      rw [em] at hR1
      exact PQ_of hR1 hk1 e8 e30 (Cp_60 C)
  have TS0 : ∀ k, k < nw → ∀ y, y < 5 → ∀ y12 : Int32, ¬ σ.2 19 k = 0 → x = 0 → Y w mL_isWeld θ0 (PL κ p l) (fun v κ' => PQ κ p v κ') (fun _ _ => False) 0 0 92 [some (.ref (tS 4)), some (.ref (tM 0)), some (.ref (tM 5)), some (.ref (tM 6)), some (.ref (tM 8)), some (.ref (tM 9)), some (.int x), some (.int (nI o)), some (.int (nI q)), some (.int (nI k)), some (.int (nI y)), some (.int 1), some (.int y12), some (.int 0), none, none, none] [] (PL κ p l) := by
    intro k hk y hy y12 hyp hx
    have hk60 : k < 60 := by omega
    have s4 : l 6 k - l 6 k / 4 * 4 = σ.2 19 k := by
      obtain ⟨s, d, r, f, e, b, h1, h2, h3, h4, h5, h6, h7, h8, h9, h10, h11, h12, h13, h14⟩ := CW k hk
      rw [h14, eW_s h1 h2 h3 h4 h5 (by omega), h8]
    have IK : isWld σ (nI k) := (IW k (by omega)).mpr hk
    have em : mTest σ (nI k) = (0, upS σ 34 2) := by
      have k1 : kTest σ (nI k) = 2 := kT_2 hk60 IK (fun z => hyp z.1)
      unfold mTest; rw [if_neg (by rw [k1]; decide), k1]
    refine runL_go (κ := κ) (p := p) rkL_isWeld noCut 300 rfl ?_
    refine And.intro (fun c94 => False.elim (by first | exact c94 (fun z => z hx) | exact absurd (fun z => z hx) c94 | exact absurd c94 (fun z => z hx))) (fun c94 => ?_)
    refine And.intro (fun c99 => False.elim (by first | exact c99 (by decide) | exact absurd (by decide) c99 | exact absurd c99 (by decide))) (fun c99 => ?_)
    refine ⟨6, k, A.ld (by decide) (show k < 61 by omega) rfl, ?_⟩
    refine And.intro (by decide) ?_
    refine And.intro (fun c108 => ?_) (fun c108 => False.elim (by first | exact c108 (by rw [s4]; exact hyp) | exact absurd (by rw [s4]; exact hyp) c108 | exact absurd c108 (by rw [s4]; exact hyp)))
    refine And.intro (fun c126 => ?_) (fun c126 => False.elim (by first | exact c126 (by decide) | exact absurd (by decide) c126 | exact absurd c126 (by decide)))
    refine ⟨6, 60, A.ld (by decide) (by decide) rfl, ?_⟩
    refine And.intro (fun c140 => ?_) (fun c140 => False.elim (by first | exact c140 (by decide) | exact absurd (by decide) c140 | exact absurd c140 (by decide)))
    refine ⟨6, 60, A.ld (by decide) (by decide) rfl, ?_⟩
    refine pL_isWeld_172 rfl rfl rfl (w_test (RI_PL hI)) (fun v κ1 hq172 ho172 hk172 => ?_)
    obtain ⟨rfl, hre⟩ := hq172
    obtain ⟨κ1, rfl, hR1, hk1⟩ := PL_back hre
    have A1 := AK_of A hk1
    refine runL_ok rkL_isWeld noCut 300 _ _ _ _ _ _ ?_
    refine And.intro (fun c177 => ?_) (fun c177 => False.elim (by first | exact c177 (by decide) | exact absurd (by decide) c177 | exact absurd c177 (by decide)))
    refine And.intro (fun c187 => ?_) (fun c187 => False.elim (by first | exact c187 (by decide) | exact absurd (by decide) c187 | exact absurd c187 (by decide)))
    refine pL_isWeld_199 ?_
    refine runL_ok rkL_isWeld noCut 300 _ _ _ _ _ _ ?_
    refine And.intro (fun c201 => False.elim (by first | exact c201 (show dv (-3000000) (-1000000) 0 (mTest σ (nI k)) = -1000000 by rw [em]; rfl) | exact absurd (show dv (-3000000) (-1000000) 0 (mTest σ (nI k)) = -1000000 by rw [em]; rfl) c201 | exact absurd c201 (show dv (-3000000) (-1000000) 0 (mTest σ (nI k)) = -1000000 by rw [em]; rfl))) (fun c201 => ?_)
    refine And.intro ⟨Nat.le_of_ble_eq_true rfl, Nat.le_of_ble_eq_true rfl⟩ ?_
    refine And.intro (by first | exact Or.inl rfl | exact Or.inr rfl) ?_
    rw [em] at hR1
    exact PQ_of hR1 hk1 e8 e30 (Cp_60 C)
  have TC0 : ∀ k, k < nw → ∀ y, y < 5 → ∀ y12 : Int32, σ.2 19 k = 0 → ¬ iScr σ (nI k) → ¬ ¬ σ.2 20 k = 0 → x = 0 → Y w mL_isWeld θ0 (PL κ p l) (fun v κ' => PQ κ p v κ') (fun _ _ => False) 0 0 92 [some (.ref (tS 4)), some (.ref (tM 0)), some (.ref (tM 5)), some (.ref (tM 6)), some (.ref (tM 8)), some (.ref (tM 9)), some (.int x), some (.int (nI o)), some (.int (nI q)), some (.int (nI k)), some (.int (nI y)), some (.int 1), some (.int y12), some (.int 0), none, none, none] [] (PL κ p l) := by
    intro k hk y hy y12 hs0 hsc hd hx
    have hk60 : k < 60 := by omega
    have s4 : l 6 k - l 6 k / 4 * 4 = σ.2 19 k := by
      obtain ⟨s, d, r, f, e, b, h1, h2, h3, h4, h5, h6, h7, h8, h9, h10, h11, h12, h13, h14⟩ := CW k hk
      rw [h14, eW_s h1 h2 h3 h4 h5 (by omega), h8]
    have IK : isWld σ (nI k) := (IW k (by omega)).mpr hk
    obtain ⟨q1, q2⟩ := Cp_test C hk hs0
    obtain ⟨q3, q4⟩ := q2 1 (if_neg hd).symm
    have em : mTest σ (nI k) = (1, upA (upS σ 34 0) 19 k 1) := by
      have k1 : kTest σ (nI k) = 0 := kT_0 hk60 IK hs0 hsc
      unfold mTest; rw [if_pos k1, nI_clamp (by omega), if_neg hd]
    refine runL_go (κ := κ) (p := p) rkL_isWeld noCut 300 rfl ?_
    refine And.intro (fun c94 => False.elim (by first | exact c94 (fun z => z hx) | exact absurd (fun z => z hx) c94 | exact absurd c94 (fun z => z hx))) (fun c94 => ?_)
    refine And.intro (fun c99 => False.elim (by first | exact c99 (by decide) | exact absurd (by decide) c99 | exact absurd c99 (by decide))) (fun c99 => ?_)
    refine ⟨6, k, A.ld (by decide) (show k < 61 by omega) rfl, ?_⟩
    refine And.intro (by decide) ?_
    refine And.intro (fun c108 => False.elim (by first | exact c108 (fun z => z (by rw [s4]; exact hs0)) | exact absurd (fun z => z (by rw [s4]; exact hs0)) c108 | exact absurd c108 (fun z => z (by rw [s4]; exact hs0)))) (fun c108 => ?_)
    refine And.intro (fun c113 => False.elim (by first | exact c113 (by decide) | exact absurd (by decide) c113 | exact absurd c113 (by decide))) (fun c113 => ?_)
    refine And.intro (fun c126 => False.elim (by first | exact c126 (by decide) | exact absurd (by decide) c126 | exact absurd c126 (by decide))) (fun c126 => ?_)
    refine ⟨6, k, A.ld (by decide) (show k < 61 by omega) rfl, ?_⟩
    refine And.intro (fun c140 => False.elim (by first | exact c140 (by decide) | exact absurd (by decide) c140 | exact absurd c140 (by decide))) (fun c140 => ?_)
    refine ⟨6, k, A.ld (by decide) (show k < 61 by omega) rfl, ?_⟩
    refine And.intro (by decide) ?_
    refine And.intro (by decide) ?_
    refine And.intro (fun c152 => ?_) (fun c152 => False.elim (by first | exact c152 (fun z => hd (q1.mp z)) | exact absurd (fun z => hd (q1.mp z)) c152 | exact absurd c152 (fun z => hd (q1.mp z))))
    refine ⟨6, k, A.ld (by decide) (show k < 61 by omega) rfl, ?_⟩
    refine pL_isWeld_172 rfl rfl rfl (w_test (RI_PL hI)) (fun v κ1 hq172 ho172 hk172 => ?_)
    obtain ⟨rfl, hre⟩ := hq172
    obtain ⟨κ1, rfl, hR1, hk1⟩ := PL_back hre
    have A1 := AK_of A hk1
    refine runL_ok rkL_isWeld noCut 300 _ _ _ _ _ _ ?_
    refine And.intro (fun c177 => ?_) (fun c177 => False.elim (by first | exact c177 (by decide) | exact absurd (by decide) c177 | exact absurd c177 (by decide)))
    refine And.intro (fun c187 => False.elim (by first | exact c187 (by decide) | exact absurd (by decide) c187 | exact absurd c187 (by decide))) (fun c187 => ?_)
    refine ⟨6, k, A1.ld (by decide) (show k < 61 by omega) rfl, ?_⟩
    refine And.intro (by decide) ?_
    refine And.intro (fun c201 => False.elim (by first | exact c201 (show dv (-3000000) (-1000000) 0 (mTest σ (nI k)) = lu l 6 k (l 6 k + 1) 6 k - lu l 6 k (l 6 k + 1) 6 k / 4 * 4 by rw [em, lu_s, q4]; rfl) | exact absurd (show dv (-3000000) (-1000000) 0 (mTest σ (nI k)) = lu l 6 k (l 6 k + 1) 6 k - lu l 6 k (l 6 k + 1) 6 k / 4 * 4 by rw [em, lu_s, q4]; rfl) c201 | exact absurd c201 (show dv (-3000000) (-1000000) 0 (mTest σ (nI k)) = lu l 6 k (l 6 k + 1) 6 k - lu l 6 k (l 6 k + 1) 6 k / 4 * 4 by rw [em, lu_s, q4]; rfl))) (fun c201 => ?_)
    refine And.intro ⟨Nat.le_of_ble_eq_true rfl, Nat.le_of_ble_eq_true rfl⟩ ?_
    refine And.intro (by first | exact Or.inl rfl | exact Or.inr rfl) ?_
    rw [em] at hR1
    exact PQ_of hR1 hk1 e8 e30 (q3)
  have TC1 : ∀ k, k < nw → ∀ y, y < 5 → ∀ y12 : Int32, σ.2 19 k = 0 → ¬ iScr σ (nI k) → ¬ σ.2 20 k = 0 → x = 0 → Y w mL_isWeld θ0 (PL κ p l) (fun v κ' => PQ κ p v κ') (fun _ _ => False) 0 0 92 [some (.ref (tS 4)), some (.ref (tM 0)), some (.ref (tM 5)), some (.ref (tM 6)), some (.ref (tM 8)), some (.ref (tM 9)), some (.int x), some (.int (nI o)), some (.int (nI q)), some (.int (nI k)), some (.int (nI y)), some (.int 1), some (.int y12), some (.int 0), none, none, none] [] (PL κ p l) := by
    intro k hk y hy y12 hs0 hsc hd hx
    have hk60 : k < 60 := by omega
    have s4 : l 6 k - l 6 k / 4 * 4 = σ.2 19 k := by
      obtain ⟨s, d, r, f, e, b, h1, h2, h3, h4, h5, h6, h7, h8, h9, h10, h11, h12, h13, h14⟩ := CW k hk
      rw [h14, eW_s h1 h2 h3 h4 h5 (by omega), h8]
    have IK : isWld σ (nI k) := (IW k (by omega)).mpr hk
    obtain ⟨q1, q2⟩ := Cp_test C hk hs0
    obtain ⟨q3, q4⟩ := q2 2 (if_pos hd).symm
    have em : mTest σ (nI k) = (2, upA (upS σ 34 0) 19 k 2) := by
      have k1 : kTest σ (nI k) = 0 := kT_0 hk60 IK hs0 hsc
      unfold mTest; rw [if_pos k1, nI_clamp (by omega), if_pos hd]
    refine runL_go (κ := κ) (p := p) rkL_isWeld noCut 300 rfl ?_
    refine And.intro (fun c94 => False.elim (by first | exact c94 (fun z => z hx) | exact absurd (fun z => z hx) c94 | exact absurd c94 (fun z => z hx))) (fun c94 => ?_)
    refine And.intro (fun c99 => False.elim (by first | exact c99 (by decide) | exact absurd (by decide) c99 | exact absurd c99 (by decide))) (fun c99 => ?_)
    refine ⟨6, k, A.ld (by decide) (show k < 61 by omega) rfl, ?_⟩
    refine And.intro (by decide) ?_
    refine And.intro (fun c108 => False.elim (by first | exact c108 (fun z => z (by rw [s4]; exact hs0)) | exact absurd (fun z => z (by rw [s4]; exact hs0)) c108 | exact absurd c108 (fun z => z (by rw [s4]; exact hs0)))) (fun c108 => ?_)
    refine And.intro (fun c113 => False.elim (by first | exact c113 (by decide) | exact absurd (by decide) c113 | exact absurd c113 (by decide))) (fun c113 => ?_)
    refine And.intro (fun c126 => False.elim (by first | exact c126 (by decide) | exact absurd (by decide) c126 | exact absurd c126 (by decide))) (fun c126 => ?_)
    refine ⟨6, k, A.ld (by decide) (show k < 61 by omega) rfl, ?_⟩
    refine And.intro (fun c140 => False.elim (by first | exact c140 (by decide) | exact absurd (by decide) c140 | exact absurd c140 (by decide))) (fun c140 => ?_)
    refine ⟨6, k, A.ld (by decide) (show k < 61 by omega) rfl, ?_⟩
    refine And.intro (by decide) ?_
    refine And.intro (by decide) ?_
    refine And.intro (fun c152 => False.elim (by first | exact c152 (q1.mpr hd) | exact absurd (q1.mpr hd) c152 | exact absurd c152 (q1.mpr hd))) (fun c152 => ?_)
    refine ⟨6, k, A.ld (by decide) (show k < 61 by omega) rfl, ?_⟩
    refine pL_isWeld_172 rfl rfl rfl (w_test (RI_PL hI)) (fun v κ1 hq172 ho172 hk172 => ?_)
    obtain ⟨rfl, hre⟩ := hq172
    obtain ⟨κ1, rfl, hR1, hk1⟩ := PL_back hre
    have A1 := AK_of A hk1
    refine runL_ok rkL_isWeld noCut 300 _ _ _ _ _ _ ?_
    refine And.intro (fun c177 => ?_) (fun c177 => False.elim (by first | exact c177 (by decide) | exact absurd (by decide) c177 | exact absurd c177 (by decide)))
    refine And.intro (fun c187 => False.elim (by first | exact c187 (by decide) | exact absurd (by decide) c187 | exact absurd c187 (by decide))) (fun c187 => ?_)
    refine ⟨6, k, A1.ld (by decide) (show k < 61 by omega) rfl, ?_⟩
    refine And.intro (by decide) ?_
    refine And.intro (fun c201 => False.elim (by first | exact c201 (show dv (-3000000) (-1000000) 0 (mTest σ (nI k)) = lu l 6 k (l 6 k + 2) 6 k - lu l 6 k (l 6 k + 2) 6 k / 4 * 4 by rw [em, lu_s, q4]; rfl) | exact absurd (show dv (-3000000) (-1000000) 0 (mTest σ (nI k)) = lu l 6 k (l 6 k + 2) 6 k - lu l 6 k (l 6 k + 2) 6 k / 4 * 4 by rw [em, lu_s, q4]; rfl) c201 | exact absurd c201 (show dv (-3000000) (-1000000) 0 (mTest σ (nI k)) = lu l 6 k (l 6 k + 2) 6 k - lu l 6 k (l 6 k + 2) 6 k / 4 * 4 by rw [em, lu_s, q4]; rfl))) (fun c201 => ?_)
    refine And.intro ⟨Nat.le_of_ble_eq_true rfl, Nat.le_of_ble_eq_true rfl⟩ ?_
    refine And.intro (by first | exact Or.inl rfl | exact Or.inr rfl) ?_
    rw [em] at hR1
    exact PQ_of hR1 hk1 e8 e30 (q3)
  have RN : ∀ y, y < 5 → ¬ x = 0 → Y w mL_isWeld θ0 (PL κ p l) (fun v κ' => PQ κ p v κ') (fun _ _ => False) 0 0 92 [some (.ref (tS 4)), some (.ref (tM 0)), some (.ref (tM 5)), some (.ref (tM 6)), some (.ref (tM 8)), some (.ref (tM 9)), some (.int x), some (.int (nI o)), some (.int (nI q)), some (.int (nI nw)), some (.int (nI y)), some (.int 0), some (.int (-1)), some (.int 0), none, none, none] [] (PL κ p l) := by
    intro y hy hx
    have em : mRep σ (nI nw) (nI y) = (0, upS σ 34 1) := by
      have k1 : kRep σ (nI nw) (nI y) = 1 := by unfold kRep; rw [if_neg (fun z => absurd ((IW nw (by omega)).mp z.1) (Nat.lt_irrefl _))]
      unfold mRep; rw [if_neg (by rw [k1]; decide), k1]
    refine runL_go (κ := κ) (p := p) rkL_isWeld noCut 300 rfl ?_
    refine And.intro (fun c94 => ?_) (fun c94 => False.elim (by first | exact c94 hx | exact absurd hx c94 | exact absurd c94 hx))
    refine And.intro (fun c212 => ?_) (fun c212 => False.elim (by first | exact c212 (by decide) | exact absurd (by decide) c212 | exact absurd c212 (by decide)))
    refine And.intro (fun c230 => ?_) (fun c230 => False.elim (by first | exact c230 (by decide) | exact absurd (by decide) c230 | exact absurd c230 (by decide)))
    refine And.intro (fun c270 => ?_) (fun c270 => False.elim (by first | exact c270 (by decide) | exact absurd (by decide) c270 | exact absurd c270 (by decide)))
    refine pL_isWeld_363 rfl rfl rfl (w_repair (RI_PL hI)) (fun v κ1 hq363 ho363 hk363 => ?_)
    obtain ⟨rfl, hre⟩ := hq363
    obtain ⟨κ1, rfl, hR1, hk1⟩ := PL_back hre
    have A1 := AK_of A hk1
    refine runL_ok rkL_isWeld noCut 300 _ _ _ _ _ _ ?_
    refine And.intro (fun c368 => False.elim (by first | exact c368 (by decide) | exact absurd (by decide) c368 | exact absurd c368 (by decide))) (fun c368 => ?_)
    refine pL_isWeld_371 ?_
    refine runL_ok rkL_isWeld noCut 300 _ _ _ _ _ _ ?_
    refine And.intro (fun c395 => False.elim (by first | exact c395 (show dv (-3000000) (-1000000) 0 (mRep σ (nI nw) (nI y)) = -3000000 by rw [em]; rfl) | exact absurd (show dv (-3000000) (-1000000) 0 (mRep σ (nI nw) (nI y)) = -3000000 by rw [em]; rfl) c395 | exact absurd c395 (show dv (-3000000) (-1000000) 0 (mRep σ (nI nw) (nI y)) = -3000000 by rw [em]; rfl))) (fun c395 => ?_)
    refine And.intro ⟨Nat.le_of_ble_eq_true rfl, Nat.le_of_ble_eq_true rfl⟩ ?_
    refine And.intro (by first | exact Or.inl rfl | exact Or.inr rfl) ?_
    rw [em] at hR1
    exact PQ_of hR1 hk1 e8 e30 (Cp_34 C)
  have R40 : ∀ k, k < nw → ∀ y, y < 5 → ∀ y12 : Int32, y = 4 → ¬ x = 0 → Y w mL_isWeld θ0 (PL κ p l) (fun v κ' => PQ κ p v κ') (fun _ _ => False) 0 0 92 [some (.ref (tS 4)), some (.ref (tM 0)), some (.ref (tM 5)), some (.ref (tM 6)), some (.ref (tM 8)), some (.ref (tM 9)), some (.int x), some (.int (nI o)), some (.int (nI q)), some (.int (nI k)), some (.int (nI y)), some (.int 1), some (.int y12), some (.int 0), none, none, none] [] (PL κ p l) := by
    intro k hk y hy y12 hy4 hx
    have hk60 : k < 60 := by omega
    have s4 : l 6 k - l 6 k / 4 * 4 = σ.2 19 k := by
      obtain ⟨s, d, r, f, e, b, h1, h2, h3, h4, h5, h6, h7, h8, h9, h10, h11, h12, h13, h14⟩ := CW k hk
      rw [h14, eW_s h1 h2 h3 h4 h5 (by omega), h8]
    have IK : isWld σ (nI k) := (IW k (by omega)).mpr hk
    have em : mRep σ (nI k) (nI y) = (0, upS σ 34 1) := by
      have k1 : kRep σ (nI k) (nI y) = 1 := by unfold kRep; rw [if_neg (fun z => by have := (IY y hy).mp z.2; omega)]
      unfold mRep; rw [if_neg (by rw [k1]; decide), k1]
    refine runL_go (κ := κ) (p := p) rkL_isWeld noCut 300 rfl ?_
    refine And.intro (fun c94 => ?_) (fun c94 => False.elim (by first | exact c94 hx | exact absurd hx c94 | exact absurd c94 hx))
    refine And.intro (fun c212 => False.elim (by first | exact c212 (by decide) | exact absurd (by decide) c212 | exact absurd c212 (by decide))) (fun c212 => ?_)
    refine And.intro (fun c218 => ?_) (fun c218 => False.elim (by first | exact c218 (by rw [hy4]; decide) | exact absurd (by rw [hy4]; decide) c218 | exact absurd c218 (by rw [hy4]; decide)))
    refine And.intro (fun c230 => ?_) (fun c230 => False.elim (by first | exact c230 (by decide) | exact absurd (by decide) c230 | exact absurd c230 (by decide)))
    refine And.intro (fun c270 => ?_) (fun c270 => False.elim (by first | exact c270 (by decide) | exact absurd (by decide) c270 | exact absurd c270 (by decide)))
    refine pL_isWeld_363 rfl rfl rfl (w_repair (RI_PL hI)) (fun v κ1 hq363 ho363 hk363 => ?_)
    obtain ⟨rfl, hre⟩ := hq363
    obtain ⟨κ1, rfl, hR1, hk1⟩ := PL_back hre
    have A1 := AK_of A hk1
    refine runL_ok rkL_isWeld noCut 300 _ _ _ _ _ _ ?_
    refine And.intro (fun c368 => False.elim (by first | exact c368 (by decide) | exact absurd (by decide) c368 | exact absurd c368 (by decide))) (fun c368 => ?_)
    refine pL_isWeld_371 ?_
    refine runL_ok rkL_isWeld noCut 300 _ _ _ _ _ _ ?_
    refine And.intro (fun c395 => False.elim (by first | exact c395 (show dv (-3000000) (-1000000) 0 (mRep σ (nI k) (nI y)) = -3000000 by rw [em]; rfl) | exact absurd (show dv (-3000000) (-1000000) 0 (mRep σ (nI k) (nI y)) = -3000000 by rw [em]; rfl) c395 | exact absurd c395 (show dv (-3000000) (-1000000) 0 (mRep σ (nI k) (nI y)) = -3000000 by rw [em]; rfl))) (fun c395 => ?_)
    refine And.intro ⟨Nat.le_of_ble_eq_true rfl, Nat.le_of_ble_eq_true rfl⟩ ?_
    refine And.intro (by first | exact Or.inl rfl | exact Or.inr rfl) ?_
    rw [em] at hR1
    exact PQ_of hR1 hk1 e8 e30 (Cp_34 C)
  have R41 : ∀ k, k < nw → ∀ y, y < 5 → ∀ y12 : Int32, y = 4 → ¬ x = 0 → Y w mL_isWeld θ0 (PL κ p l) (fun v κ' => PQ κ p v κ') (fun _ _ => False) 0 0 92 [some (.ref (tS 4)), some (.ref (tM 0)), some (.ref (tM 5)), some (.ref (tM 6)), some (.ref (tM 8)), some (.ref (tM 9)), some (.int x), some (.int (nI o)), some (.int (nI q)), some (.int (nI k)), some (.int (nI y)), some (.int 1), some (.int y12), some (.int 1), none, none, none] [] (PL κ p l) := by
    intro k hk y hy y12 hy4 hx
    have hk60 : k < 60 := by omega
    have s4 : l 6 k - l 6 k / 4 * 4 = σ.2 19 k := by
      obtain ⟨s, d, r, f, e, b, h1, h2, h3, h4, h5, h6, h7, h8, h9, h10, h11, h12, h13, h14⟩ := CW k hk
      rw [h14, eW_s h1 h2 h3 h4 h5 (by omega), h8]
    have IK : isWld σ (nI k) := (IW k (by omega)).mpr hk
    have em : mRep σ (nI k) (nI y) = (0, upS σ 34 1) := by
      have k1 : kRep σ (nI k) (nI y) = 1 := by unfold kRep; rw [if_neg (fun z => by have := (IY y hy).mp z.2; omega)]
      unfold mRep; rw [if_neg (by rw [k1]; decide), k1]
    refine runL_go (κ := κ) (p := p) rkL_isWeld noCut 300 rfl ?_
    refine And.intro (fun c94 => ?_) (fun c94 => False.elim (by first | exact c94 hx | exact absurd hx c94 | exact absurd c94 hx))
    refine And.intro (fun c212 => False.elim (by first | exact c212 (by decide) | exact absurd (by decide) c212 | exact absurd c212 (by decide))) (fun c212 => ?_)
    refine And.intro (fun c218 => ?_) (fun c218 => False.elim (by first | exact c218 (by rw [hy4]; decide) | exact absurd (by rw [hy4]; decide) c218 | exact absurd c218 (by rw [hy4]; decide)))
    refine And.intro (fun c230 => ?_) (fun c230 => False.elim (by first | exact c230 (by decide) | exact absurd (by decide) c230 | exact absurd c230 (by decide)))
    refine And.intro (fun c270 => ?_) (fun c270 => False.elim (by first | exact c270 (by decide) | exact absurd (by decide) c270 | exact absurd c270 (by decide)))
    refine pL_isWeld_363 rfl rfl rfl (w_repair (RI_PL hI)) (fun v κ1 hq363 ho363 hk363 => ?_)
    obtain ⟨rfl, hre⟩ := hq363
    obtain ⟨κ1, rfl, hR1, hk1⟩ := PL_back hre
    have A1 := AK_of A hk1
    refine runL_ok rkL_isWeld noCut 300 _ _ _ _ _ _ ?_
    refine And.intro (fun c368 => False.elim (by first | exact c368 (by decide) | exact absurd (by decide) c368 | exact absurd c368 (by decide))) (fun c368 => ?_)
    refine pL_isWeld_371 ?_
    refine runL_ok rkL_isWeld noCut 300 _ _ _ _ _ _ ?_
    refine And.intro (fun c395 => False.elim (by first | exact c395 (show dv (-3000000) (-1000000) 0 (mRep σ (nI k) (nI y)) = -3000000 by rw [em]; rfl) | exact absurd (show dv (-3000000) (-1000000) 0 (mRep σ (nI k) (nI y)) = -3000000 by rw [em]; rfl) c395 | exact absurd c395 (show dv (-3000000) (-1000000) 0 (mRep σ (nI k) (nI y)) = -3000000 by rw [em]; rfl))) (fun c395 => ?_)
    refine And.intro ⟨Nat.le_of_ble_eq_true rfl, Nat.le_of_ble_eq_true rfl⟩ ?_
    refine And.intro (by first | exact Or.inl rfl | exact Or.inr rfl) ?_
    rw [em] at hR1
    exact PQ_of hR1 hk1 e8 e30 (Cp_34 C)
  have RS : ∀ k, k < nw → ∀ y, y < 4 → ∀ y12 : Int32, σ.2 19 k = 2 → iScr σ (nI k) → ¬ x = 0 → Y w mL_isWeld θ0 (PL κ p l) (fun v κ' => PQ κ p v κ') (fun _ _ => False) 0 0 92 [some (.ref (tS 4)), some (.ref (tM 0)), some (.ref (tM 5)), some (.ref (tM 6)), some (.ref (tM 8)), some (.ref (tM 9)), some (.int x), some (.int (nI o)), some (.int (nI q)), some (.int (nI k)), some (.int (nI y)), some (.int 1), some (.int y12), some (.int 1), none, none, none] [] (PL κ p l) := by
    intro k hk y hy y12 h19 hyp hx
    have hk60 : k < 60 := by omega
    have s4 : l 6 k - l 6 k / 4 * 4 = σ.2 19 k := by
      obtain ⟨s, d, r, f, e, b, h1, h2, h3, h4, h5, h6, h7, h8, h9, h10, h11, h12, h13, h14⟩ := CW k hk
      rw [h14, eW_s h1 h2 h3 h4 h5 (by omega), h8]
    have IK : isWld σ (nI k) := (IW k (by omega)).mpr hk
    have em : mRep σ (nI k) (nI y) = (0, upS σ 34 2) := by
      have k1 : kRep σ (nI k) (nI y) = 2 := by exact kR_2 hk60 IK ((IY y (by omega)).mpr hy) (fun z => z.2.1 hyp)
      unfold mRep; rw [if_neg (by rw [k1]; decide), k1]
    refine runL_go (κ := κ) (p := p) rkL_isWeld noCut 300 rfl ?_
    refine And.intro (fun c94 => ?_) (fun c94 => False.elim (by first | exact c94 hx | exact absurd hx c94 | exact absurd c94 hx))
    refine And.intro (fun c212 => False.elim (by first | exact c212 (by decide) | exact absurd (by decide) c212 | exact absurd c212 (by decide))) (fun c212 => ?_)
    refine And.intro (fun c218 => False.elim (by first | exact c218 (fun z => by have := (nI_leI (a := 4) (by decide) (by omega)).mp z; omega) | exact absurd (fun z => by have := (nI_leI (a := 4) (by decide) (by omega)).mp z; omega) c218 | exact absurd c218 (fun z => by have := (nI_leI (a := 4) (by decide) (by omega)).mp z; omega))) (fun c218 => ?_)
    refine And.intro (fun c230 => False.elim (by first | exact c230 (by decide) | exact absurd (by decide) c230 | exact absurd c230 (by decide))) (fun c230 => ?_)
    refine ⟨6, k, A.ld (by decide) (show k < 61 by omega) rfl, ?_⟩
    refine And.intro (by decide) ?_
    refine And.intro (fun c240 => False.elim (by first | exact c240 (by rw [s4]; exact h19) | exact absurd (by rw [s4]; exact h19) c240 | exact absurd c240 (by rw [s4]; exact h19))) (fun c240 => ?_)
    refine And.intro (fun c245 => ?_) (fun c245 => False.elim (by first | exact c245 (by decide) | exact absurd (by decide) c245 | exact absurd c245 (by decide)))
    refine And.intro (fun c270 => ?_) (fun c270 => False.elim (by first | exact c270 (by decide) | exact absurd (by decide) c270 | exact absurd c270 (by decide)))
    refine pL_isWeld_363 rfl rfl rfl (w_repair (RI_PL hI)) (fun v κ1 hq363 ho363 hk363 => ?_)
    obtain ⟨rfl, hre⟩ := hq363
    obtain ⟨κ1, rfl, hR1, hk1⟩ := PL_back hre
    have A1 := AK_of A hk1
    refine runL_ok rkL_isWeld noCut 300 _ _ _ _ _ _ ?_
    refine And.intro (fun c368 => ?_) (fun c368 => False.elim (by first | exact c368 (by decide) | exact absurd (by decide) c368 | exact absurd c368 (by decide)))
    refine And.intro (fun c378 => ?_) (fun c378 => False.elim (by first | exact c378 (by decide) | exact absurd (by decide) c378 | exact absurd c378 (by decide)))
    refine pL_isWeld_393 ?_
    refine runL_ok rkL_isWeld noCut 300 _ _ _ _ _ _ ?_
    refine And.intro (fun c395 => False.elim (by first | exact c395 (show dv (-3000000) (-1000000) 0 (mRep σ (nI k) (nI y)) = -1000000 by rw [em]; rfl) | exact absurd (show dv (-3000000) (-1000000) 0 (mRep σ (nI k) (nI y)) = -1000000 by rw [em]; rfl) c395 | exact absurd c395 (show dv (-3000000) (-1000000) 0 (mRep σ (nI k) (nI y)) = -1000000 by rw [em]; rfl))) (fun c395 => ?_)
    refine And.intro ⟨Nat.le_of_ble_eq_true rfl, Nat.le_of_ble_eq_true rfl⟩ ?_
    refine And.intro (by first | exact Or.inl rfl | exact Or.inr rfl) ?_
    rw [em] at hR1
    exact PQ_of hR1 hk1 e8 e30 (Cp_34 C)
  have RB0 : ∀ k, k < nw → ∀ y, y < 4 → ∀ y12 : Int32, ¬ σ.2 19 k = 2 → ¬ x = 0 → Y w mL_isWeld θ0 (PL κ p l) (fun v κ' => PQ κ p v κ') (fun _ _ => False) 0 0 92 [some (.ref (tS 4)), some (.ref (tM 0)), some (.ref (tM 5)), some (.ref (tM 6)), some (.ref (tM 8)), some (.ref (tM 9)), some (.int x), some (.int (nI o)), some (.int (nI q)), some (.int (nI k)), some (.int (nI y)), some (.int 1), some (.int y12), some (.int 0), none, none, none] [] (PL κ p l) := by
    intro k hk y hy y12 hyp hx
    have hk60 : k < 60 := by omega
    have s4 : l 6 k - l 6 k / 4 * 4 = σ.2 19 k := by
      obtain ⟨s, d, r, f, e, b, h1, h2, h3, h4, h5, h6, h7, h8, h9, h10, h11, h12, h13, h14⟩ := CW k hk
      rw [h14, eW_s h1 h2 h3 h4 h5 (by omega), h8]
    have IK : isWld σ (nI k) := (IW k (by omega)).mpr hk
    have em : mRep σ (nI k) (nI y) = (0, upS σ 34 2) := by
      have k1 : kRep σ (nI k) (nI y) = 2 := by exact kR_2 hk60 IK ((IY y (by omega)).mpr hy) (fun z => hyp z.1)
      unfold mRep; rw [if_neg (by rw [k1]; decide), k1]
    refine runL_go (κ := κ) (p := p) rkL_isWeld noCut 300 rfl ?_
    refine And.intro (fun c94 => ?_) (fun c94 => False.elim (by first | exact c94 hx | exact absurd hx c94 | exact absurd c94 hx))
    refine And.intro (fun c212 => False.elim (by first | exact c212 (by decide) | exact absurd (by decide) c212 | exact absurd c212 (by decide))) (fun c212 => ?_)
    refine And.intro (fun c218 => False.elim (by first | exact c218 (fun z => by have := (nI_leI (a := 4) (by decide) (by omega)).mp z; omega) | exact absurd (fun z => by have := (nI_leI (a := 4) (by decide) (by omega)).mp z; omega) c218 | exact absurd c218 (fun z => by have := (nI_leI (a := 4) (by decide) (by omega)).mp z; omega))) (fun c218 => ?_)
    refine And.intro (fun c230 => False.elim (by first | exact c230 (by decide) | exact absurd (by decide) c230 | exact absurd c230 (by decide))) (fun c230 => ?_)
    refine ⟨6, k, A.ld (by decide) (show k < 61 by omega) rfl, ?_⟩
    refine And.intro (by decide) ?_
    refine And.intro (fun c240 => ?_) (fun c240 => False.elim (by first | exact c240 (by rw [s4]; exact hyp) | exact absurd (by rw [s4]; exact hyp) c240 | exact absurd c240 (by rw [s4]; exact hyp)))
    refine And.intro (fun c270 => ?_) (fun c270 => False.elim (by first | exact c270 (by decide) | exact absurd (by decide) c270 | exact absurd c270 (by decide)))
    refine pL_isWeld_363 rfl rfl rfl (w_repair (RI_PL hI)) (fun v κ1 hq363 ho363 hk363 => ?_)
    obtain ⟨rfl, hre⟩ := hq363
    obtain ⟨κ1, rfl, hR1, hk1⟩ := PL_back hre
    have A1 := AK_of A hk1
    refine runL_ok rkL_isWeld noCut 300 _ _ _ _ _ _ ?_
    refine And.intro (fun c368 => ?_) (fun c368 => False.elim (by first | exact c368 (by decide) | exact absurd (by decide) c368 | exact absurd c368 (by decide)))
    refine And.intro (fun c378 => ?_) (fun c378 => False.elim (by first | exact c378 (by decide) | exact absurd (by decide) c378 | exact absurd c378 (by decide)))
    refine pL_isWeld_393 ?_
    refine runL_ok rkL_isWeld noCut 300 _ _ _ _ _ _ ?_
    refine And.intro (fun c395 => False.elim (by first | exact c395 (show dv (-3000000) (-1000000) 0 (mRep σ (nI k) (nI y)) = -1000000 by rw [em]; rfl) | exact absurd (show dv (-3000000) (-1000000) 0 (mRep σ (nI k) (nI y)) = -1000000 by rw [em]; rfl) c395 | exact absurd c395 (show dv (-3000000) (-1000000) 0 (mRep σ (nI k) (nI y)) = -1000000 by rw [em]; rfl))) (fun c395 => ?_)
    refine And.intro ⟨Nat.le_of_ble_eq_true rfl, Nat.le_of_ble_eq_true rfl⟩ ?_
    refine And.intro (by first | exact Or.inl rfl | exact Or.inr rfl) ?_
    rw [em] at hR1
    exact PQ_of hR1 hk1 e8 e30 (Cp_34 C)
  have RB1 : ∀ k, k < nw → ∀ y, y < 4 → ∀ y12 : Int32, ¬ σ.2 19 k = 2 → ¬ x = 0 → Y w mL_isWeld θ0 (PL κ p l) (fun v κ' => PQ κ p v κ') (fun _ _ => False) 0 0 92 [some (.ref (tS 4)), some (.ref (tM 0)), some (.ref (tM 5)), some (.ref (tM 6)), some (.ref (tM 8)), some (.ref (tM 9)), some (.int x), some (.int (nI o)), some (.int (nI q)), some (.int (nI k)), some (.int (nI y)), some (.int 1), some (.int y12), some (.int 1), none, none, none] [] (PL κ p l) := by
    intro k hk y hy y12 hyp hx
    have hk60 : k < 60 := by omega
    have s4 : l 6 k - l 6 k / 4 * 4 = σ.2 19 k := by
      obtain ⟨s, d, r, f, e, b, h1, h2, h3, h4, h5, h6, h7, h8, h9, h10, h11, h12, h13, h14⟩ := CW k hk
      rw [h14, eW_s h1 h2 h3 h4 h5 (by omega), h8]
    have IK : isWld σ (nI k) := (IW k (by omega)).mpr hk
    have em : mRep σ (nI k) (nI y) = (0, upS σ 34 2) := by
      have k1 : kRep σ (nI k) (nI y) = 2 := by exact kR_2 hk60 IK ((IY y (by omega)).mpr hy) (fun z => hyp z.1)
      unfold mRep; rw [if_neg (by rw [k1]; decide), k1]
    refine runL_go (κ := κ) (p := p) rkL_isWeld noCut 300 rfl ?_
    refine And.intro (fun c94 => ?_) (fun c94 => False.elim (by first | exact c94 hx | exact absurd hx c94 | exact absurd c94 hx))
    refine And.intro (fun c212 => False.elim (by first | exact c212 (by decide) | exact absurd (by decide) c212 | exact absurd c212 (by decide))) (fun c212 => ?_)
    refine And.intro (fun c218 => False.elim (by first | exact c218 (fun z => by have := (nI_leI (a := 4) (by decide) (by omega)).mp z; omega) | exact absurd (fun z => by have := (nI_leI (a := 4) (by decide) (by omega)).mp z; omega) c218 | exact absurd c218 (fun z => by have := (nI_leI (a := 4) (by decide) (by omega)).mp z; omega))) (fun c218 => ?_)
    refine And.intro (fun c230 => False.elim (by first | exact c230 (by decide) | exact absurd (by decide) c230 | exact absurd c230 (by decide))) (fun c230 => ?_)
    refine ⟨6, k, A.ld (by decide) (show k < 61 by omega) rfl, ?_⟩
    refine And.intro (by decide) ?_
    refine And.intro (fun c240 => ?_) (fun c240 => False.elim (by first | exact c240 (by rw [s4]; exact hyp) | exact absurd (by rw [s4]; exact hyp) c240 | exact absurd c240 (by rw [s4]; exact hyp)))
    refine And.intro (fun c270 => ?_) (fun c270 => False.elim (by first | exact c270 (by decide) | exact absurd (by decide) c270 | exact absurd c270 (by decide)))
    refine pL_isWeld_363 rfl rfl rfl (w_repair (RI_PL hI)) (fun v κ1 hq363 ho363 hk363 => ?_)
    obtain ⟨rfl, hre⟩ := hq363
    obtain ⟨κ1, rfl, hR1, hk1⟩ := PL_back hre
    have A1 := AK_of A hk1
    refine runL_ok rkL_isWeld noCut 300 _ _ _ _ _ _ ?_
    refine And.intro (fun c368 => ?_) (fun c368 => False.elim (by first | exact c368 (by decide) | exact absurd (by decide) c368 | exact absurd c368 (by decide)))
    refine And.intro (fun c378 => ?_) (fun c378 => False.elim (by first | exact c378 (by decide) | exact absurd (by decide) c378 | exact absurd c378 (by decide)))
    refine pL_isWeld_393 ?_
    refine runL_ok rkL_isWeld noCut 300 _ _ _ _ _ _ ?_
    refine And.intro (fun c395 => False.elim (by first | exact c395 (show dv (-3000000) (-1000000) 0 (mRep σ (nI k) (nI y)) = -1000000 by rw [em]; rfl) | exact absurd (show dv (-3000000) (-1000000) 0 (mRep σ (nI k) (nI y)) = -1000000 by rw [em]; rfl) c395 | exact absurd c395 (show dv (-3000000) (-1000000) 0 (mRep σ (nI k) (nI y)) = -1000000 by rw [em]; rfl))) (fun c395 => ?_)
    refine And.intro ⟨Nat.le_of_ble_eq_true rfl, Nat.le_of_ble_eq_true rfl⟩ ?_
    refine And.intro (by first | exact Or.inl rfl | exact Or.inr rfl) ?_
    rw [em] at hR1
    exact PQ_of hR1 hk1 e8 e30 (Cp_34 C)
  have RT : ∀ k, k < nw → ∀ y, y < 4 → ∀ y12 : Int32, σ.2 19 k = 2 → σ.2 21 k = 2 → ¬ x = 0 → Y w mL_isWeld θ0 (PL κ p l) (fun v κ' => PQ κ p v κ') (fun _ _ => False) 0 0 92 [some (.ref (tS 4)), some (.ref (tM 0)), some (.ref (tM 5)), some (.ref (tM 6)), some (.ref (tM 8)), some (.ref (tM 9)), some (.int x), some (.int (nI o)), some (.int (nI q)), some (.int (nI k)), some (.int (nI y)), some (.int 1), some (.int y12), some (.int 0), none, none, none] [] (PL κ p l) := by
    intro k hk y hy y12 h19 hyp hx
    have hk60 : k < 60 := by omega
    have s4 : l 6 k - l 6 k / 4 * 4 = σ.2 19 k := by
      obtain ⟨s, d, r, f, e, b, h1, h2, h3, h4, h5, h6, h7, h8, h9, h10, h11, h12, h13, h14⟩ := CW k hk
      rw [h14, eW_s h1 h2 h3 h4 h5 (by omega), h8]
    have IK : isWld σ (nI k) := (IW k (by omega)).mpr hk
    have r8 : l 6 k / 8 - l 6 k / 8 / 4 * 4 = σ.2 21 k := by
      obtain ⟨s, d, r, f, e, b, h1, h2, h3, h4, h5, h6, h7, h8, h9, h10, h11, h12, h13, h14⟩ := CW k hk
      rw [h14, eW_r h1 h2 h3 h4 h5 (by omega), h10]
    have r2 : (2 ≤ σ.2 21 k ↔ σ.2 21 k = 2) := by
      obtain ⟨s, d, r, f, e, b, h1, h2, h3, h4, h5, h6, h7, h8, h9, h10, h11, h12, h13, h14⟩ := CW k hk
      rw [h10]
      rcases (show r = 0 ∨ r = 1 ∨ r = 2 by omega) with rfl | rfl | rfl <;> decide
    have em : mRep σ (nI k) (nI y) = (0, upS σ 34 2) := by
      have k1 : kRep σ (nI k) (nI y) = 2 := by exact kR_2 hk60 IK ((IY y (by omega)).mpr hy) (fun z => z.2.2.1 hyp)
      unfold mRep; rw [if_neg (by rw [k1]; decide), k1]
    refine runL_go (κ := κ) (p := p) rkL_isWeld noCut 300 rfl ?_
    refine And.intro (fun c94 => ?_) (fun c94 => False.elim (by first | exact c94 hx | exact absurd hx c94 | exact absurd c94 hx))
    refine And.intro (fun c212 => False.elim (by first | exact c212 (by decide) | exact absurd (by decide) c212 | exact absurd c212 (by decide))) (fun c212 => ?_)
    refine And.intro (fun c218 => False.elim (by first | exact c218 (fun z => by have := (nI_leI (a := 4) (by decide) (by omega)).mp z; omega) | exact absurd (fun z => by have := (nI_leI (a := 4) (by decide) (by omega)).mp z; omega) c218 | exact absurd c218 (fun z => by have := (nI_leI (a := 4) (by decide) (by omega)).mp z; omega))) (fun c218 => ?_)
    refine And.intro (fun c230 => False.elim (by first | exact c230 (by decide) | exact absurd (by decide) c230 | exact absurd c230 (by decide))) (fun c230 => ?_)
    refine ⟨6, k, A.ld (by decide) (show k < 61 by omega) rfl, ?_⟩
    refine And.intro (by decide) ?_
    refine And.intro (fun c240 => False.elim (by first | exact c240 (by rw [s4]; exact h19) | exact absurd (by rw [s4]; exact h19) c240 | exact absurd c240 (by rw [s4]; exact h19))) (fun c240 => ?_)
    refine And.intro (fun c245 => False.elim (by first | exact c245 (by decide) | exact absurd (by decide) c245 | exact absurd c245 (by decide))) (fun c245 => ?_)
    refine ⟨6, k, A.ld (by decide) (show k < 61 by omega) rfl, ?_⟩
    refine And.intro (by decide) ?_
    refine And.intro (by decide) ?_
    refine And.intro (fun c258 => ?_) (fun c258 => False.elim (by first | exact c258 (by rw [r8]; exact r2.mpr hyp) | exact absurd (by rw [r8]; exact r2.mpr hyp) c258 | exact absurd c258 (by rw [r8]; exact r2.mpr hyp)))
    refine And.intro (fun c270 => ?_) (fun c270 => False.elim (by first | exact c270 (by decide) | exact absurd (by decide) c270 | exact absurd c270 (by decide)))
    refine pL_isWeld_363 rfl rfl rfl (w_repair (RI_PL hI)) (fun v κ1 hq363 ho363 hk363 => ?_)
    obtain ⟨rfl, hre⟩ := hq363
    obtain ⟨κ1, rfl, hR1, hk1⟩ := PL_back hre
    have A1 := AK_of A hk1
    refine runL_ok rkL_isWeld noCut 300 _ _ _ _ _ _ ?_
    refine And.intro (fun c368 => ?_) (fun c368 => False.elim (by first | exact c368 (by decide) | exact absurd (by decide) c368 | exact absurd c368 (by decide)))
    refine And.intro (fun c378 => ?_) (fun c378 => False.elim (by first | exact c378 (by decide) | exact absurd (by decide) c378 | exact absurd c378 (by decide)))
    refine pL_isWeld_393 ?_
    refine runL_ok rkL_isWeld noCut 300 _ _ _ _ _ _ ?_
    refine And.intro (fun c395 => False.elim (by first | exact c395 (show dv (-3000000) (-1000000) 0 (mRep σ (nI k) (nI y)) = -1000000 by rw [em]; rfl) | exact absurd (show dv (-3000000) (-1000000) 0 (mRep σ (nI k) (nI y)) = -1000000 by rw [em]; rfl) c395 | exact absurd c395 (show dv (-3000000) (-1000000) 0 (mRep σ (nI k) (nI y)) = -1000000 by rw [em]; rfl))) (fun c395 => ?_)
    refine And.intro ⟨Nat.le_of_ble_eq_true rfl, Nat.le_of_ble_eq_true rfl⟩ ?_
    refine And.intro (by first | exact Or.inl rfl | exact Or.inr rfl) ?_
    rw [em] at hR1
    exact PQ_of hR1 hk1 e8 e30 (Cp_34 C)
  have RW : ∀ k, k < nw → ∀ y, y < 4 → σ.2 24 k = -1 → σ.2 19 k = 2 → ¬ iScr σ (nI k) → ¬ σ.2 21 k = 2 → ¬ x = 0 → Y w mL_isWeld θ0 (PL κ p l) (fun v κ' => PQ κ p v κ') (fun _ _ => False) 0 0 92 [some (.ref (tS 4)), some (.ref (tM 0)), some (.ref (tM 5)), some (.ref (tM 6)), some (.ref (tM 8)), some (.ref (tM 9)), some (.int x), some (.int (nI o)), some (.int (nI q)), some (.int (nI k)), some (.int (nI y)), some (.int 1), some (.int (-1)), some (.int 0), none, none, none] [] (PL κ p l) := by
    intro k hk y hy h24 h19 hsc h21 hx
    have hk60 : k < 60 := by omega
    have s4 : l 6 k - l 6 k / 4 * 4 = σ.2 19 k := by
      obtain ⟨s, d, r, f, e, b, h1, h2, h3, h4, h5, h6, h7, h8, h9, h10, h11, h12, h13, h14⟩ := CW k hk
      rw [h14, eW_s h1 h2 h3 h4 h5 (by omega), h8]
    have IK : isWld σ (nI k) := (IW k (by omega)).mpr hk
    have r8 : l 6 k / 8 - l 6 k / 8 / 4 * 4 = σ.2 21 k := by
      obtain ⟨s, d, r, f, e, b, h1, h2, h3, h4, h5, h6, h7, h8, h9, h10, h11, h12, h13, h14⟩ := CW k hk
      rw [h14, eW_r h1 h2 h3 h4 h5 (by omega), h10]
    have r2 : (2 ≤ σ.2 21 k ↔ σ.2 21 k = 2) := by
      obtain ⟨s, d, r, f, e, b, h1, h2, h3, h4, h5, h6, h7, h8, h9, h10, h11, h12, h13, h14⟩ := CW k hk
      rw [h10]
      rcases (show r = 0 ∨ r = 1 ∨ r = 2 by omega) with rfl | rfl | rfl <;> decide
    have DW := rp_QD (k := k) (y := y) (QD_34 (c := 0) D) hb40 hk hy h21
    have k1 : kRep σ (nI k) (nI y) = 0 := kR_0 hk60 IK ((IY y (by omega)).mpr hy) h19 hsc h21 h6
    have eS : sRep (upS σ 34 0) (nI k) (nI y).toNatClampNeg = (sDrw (lrpS (upS σ 34 0) k) k y) := by unfold sRep lrpS; rw [nI_clamp (by omega), nI_clamp (by omega)]
    obtain ⟨s, d, r, f, e, b, h1, h2, h3, h4, h5, h6b, h7, h8, h9, h10, h11, h12, h13, h14⟩ := DW.1.2.1 k hk
    have HS : ∀ j i, ¬ (j = 21 ∧ i = k) → j ≠ 19 → j ≠ 20 → (sDrw (lrpS (upS σ 34 0) k) k y).2 j i = σ.2 j i := fun j i h z1 z2 => by rw [sD_o (Or.inr ⟨z1, z2⟩)]; exact upA_o h
    have HL : ∀ j i, j ≠ 6 → j ≠ 9 → drF (lrp1 l k) k y j i = l j i := fun j i z1 z2 => by rw [drF_o z1 z2]; unfold lrp1; rw [lu_o (fun z => z2 z.1), lu_o (fun z => z1 z.1)]
    have hF : (drF (lrp1 l k) k y) 6 k / 32 - (drF (lrp1 l k) k y) 6 k / 32 / 16 * 16 = nI f := by rw [h14]; exact eW_f h1 h2 h3 h4 h5 (by omega)
    have hE : (drF (lrp1 l k) k y) 6 k / 512 - (drF (lrp1 l k) k y) 6 k / 512 / 4 * 4 = nI e := by rw [h14]; exact eW_e h1 h2 h3 h4 h5 (by omega)
    have hm : (-1 : Int32) = -1 ∨ ∃ i, i < nb ∧ (-1 : Int32) = nI i := Or.inl rfl
    have hst : iSta (sDrw (lrpS (upS σ 34 0) k) k y) (nI k) := Or.inl (by rw [nI_clamp (by omega), HS 24 k (by omega) (by decide) (by decide)]; exact h24)
    have em : mRep σ (nI k) (nI y) = (σ.2 21 k + 1, sSpo (sDrw (lrpS (upS σ 34 0) k) k y) (nI f) (nI e)) := by
      unfold mRep; rw [if_pos k1]; unfold sRep3
      rw [eS, if_pos hst, nI_clamp (by omega), h11, h12, sSpo_row (by decide), sD_o (Or.inr (by decide))]
      refine Prod.ext ?_ rfl
      show (upA (upS σ 34 0) 21 k _).2 21 k = _
      rw [upA_s]; rfl
    have vv : (spF (drF (lrp1 l k) k y) (12 * e + f)) 6 k / 8 - (spF (drF (lrp1 l k) k y) (12 * e + f)) 6 k / 8 / 4 * 4 = σ.2 21 k + 1 := by rw [spF_o (by decide)]; exact DW.2
    refine runL_go (κ := κ) (p := p) rkL_isWeld noCut 300 rfl ?_
    refine And.intro (fun c94 => ?_) (fun c94 => False.elim (by first | exact c94 hx | exact absurd hx c94 | exact absurd c94 hx))
    refine And.intro (fun c212 => False.elim (by first | exact c212 (by decide) | exact absurd (by decide) c212 | exact absurd c212 (by decide))) (fun c212 => ?_)
    refine And.intro (fun c218 => False.elim (by first | exact c218 (fun z => by have := (nI_leI (a := 4) (by decide) (by omega)).mp z; omega) | exact absurd (fun z => by have := (nI_leI (a := 4) (by decide) (by omega)).mp z; omega) c218 | exact absurd c218 (fun z => by have := (nI_leI (a := 4) (by decide) (by omega)).mp z; omega))) (fun c218 => ?_)
    refine And.intro (fun c230 => False.elim (by first | exact c230 (by decide) | exact absurd (by decide) c230 | exact absurd c230 (by decide))) (fun c230 => ?_)
    refine ⟨6, k, A.ld (by decide) (show k < 61 by omega) rfl, ?_⟩
    refine And.intro (by decide) ?_
    refine And.intro (fun c240 => False.elim (by first | exact c240 (by rw [s4]; exact h19) | exact absurd (by rw [s4]; exact h19) c240 | exact absurd c240 (by rw [s4]; exact h19))) (fun c240 => ?_)
    refine And.intro (fun c245 => False.elim (by first | exact c245 (by decide) | exact absurd (by decide) c245 | exact absurd c245 (by decide))) (fun c245 => ?_)
    refine ⟨6, k, A.ld (by decide) (show k < 61 by omega) rfl, ?_⟩
    refine And.intro (by decide) ?_
    refine And.intro (by decide) ?_
    refine And.intro (fun c258 => False.elim (by first | exact c258 (by rw [r8]; exact fun z => h21 (r2.mp z)) | exact absurd (by rw [r8]; exact fun z => h21 (r2.mp z)) c258 | exact absurd c258 (by rw [r8]; exact fun z => h21 (r2.mp z)))) (fun c258 => ?_)
    refine And.intro (fun c270 => False.elim (by first | exact c270 (by decide) | exact absurd (by decide) c270 | exact absurd c270 (by decide))) (fun c270 => ?_)
    refine ⟨6, k, A.ld (by decide) (show k < 61 by omega) rfl, ?_⟩
    refine ⟨6, k, A.ld (by decide) (show k < 61 by omega) rfl, ?_⟩
    refine ⟨9, 9, A.ld (by decide) (by decide) rfl, ?_⟩
    refine ⟨9, 9, A.ld (by decide) (by decide) rfl, ?_⟩
    refine pL_isWeld_299 rfl rfl rfl (c_L_draws A (k := k) (y := y) rfl rfl (by omega) hy) (fun v κ1 hq299 ho299 hk299 => ?_)
    obtain ⟨rfl, rfl⟩ := hq299
    refine runL_ok rkL_isWeld noCut 300 _ _ _ _ _ _ ?_
    refine pL_isWeld_305 rfl rfl rfl (c_L_whole A (σ := σ) (nb := nb) hI.1.ch hb40 (fun i hi => (HL 5 i (by decide) (by decide)).trans (CB i hi).2.2.2.2.2) hm) (fun v κ1 hq305 ho305 hk305 => ?_)
    obtain ⟨rfl, rfl⟩ := hq305
    refine runL_ok rkL_isWeld noCut 300 _ _ _ _ _ _ ?_
    refine And.intro (fun c312 => ?_) (fun c312 => False.elim (by first | exact c312 (by rw [if_pos rfl]; decide) | exact absurd (by rw [if_pos rfl]; decide) c312 | exact absurd c312 (by rw [if_pos rfl]; decide)))
    refine ⟨6, k, A.ld (by decide) (show k < 61 by omega) rfl, ?_⟩
    refine And.intro (by decide) ?_
    refine And.intro (by decide) ?_
    refine ⟨6, k, A.ld (by decide) (show k < 61 by omega) rfl, ?_⟩
    refine And.intro (by decide) ?_
    refine And.intro (by decide) ?_
    refine pL_isWeld_349 rfl rfl rfl (c_L_spoils A (f0 := f) (e0 := e) hF hE h5 h7 h4) (fun v κ1 hq349 ho349 hk349 => ?_)
    obtain ⟨rfl, rfl⟩ := hq349
    refine runL_ok rkL_isWeld noCut 300 _ _ _ _ _ _ ?_
    refine pL_isWeld_363 rfl rfl rfl (w_repair (RI_PL hI)) (fun v κ1 hq363 ho363 hk363 => ?_)
    obtain ⟨rfl, hre⟩ := hq363
    obtain ⟨κ1, rfl, hR1, hk1⟩ := PL_back hre
    have A1 := AK_of A hk1
    refine runL_ok rkL_isWeld noCut 300 _ _ _ _ _ _ ?_
    refine And.intro (fun c368 => ?_) (fun c368 => False.elim (by first | exact c368 (by decide) | exact absurd (by decide) c368 | exact absurd c368 (by decide)))
    refine And.intro (fun c378 => False.elim (by first | exact c378 (by decide) | exact absurd (by decide) c378 | exact absurd c378 (by decide))) (fun c378 => ?_)
    refine ⟨6, k, A1.ld (by decide) (show k < 61 by omega) rfl, ?_⟩
    refine And.intro (by decide) ?_
    refine And.intro (by decide) ?_
    refine And.intro (fun c395 => False.elim (by first | exact c395 (show dv (-3000000) (-1000000) 0 (mRep σ (nI k) (nI y)) = (spF (drF (lrp1 l k) k y) (12 * e + f)) 6 k / 8 - (spF (drF (lrp1 l k) k y) (12 * e + f)) 6 k / 8 / 4 * 4 by rw [em, vv]; rfl) | exact absurd (show dv (-3000000) (-1000000) 0 (mRep σ (nI k) (nI y)) = (spF (drF (lrp1 l k) k y) (12 * e + f)) 6 k / 8 - (spF (drF (lrp1 l k) k y) (12 * e + f)) 6 k / 8 / 4 * 4 by rw [em, vv]; rfl) c395 | exact absurd c395 (show dv (-3000000) (-1000000) 0 (mRep σ (nI k) (nI y)) = (spF (drF (lrp1 l k) k y) (12 * e + f)) 6 k / 8 - (spF (drF (lrp1 l k) k y) (12 * e + f)) 6 k / 8 / 4 * 4 by rw [em, vv]; rfl))) (fun c395 => ?_)
    refine And.intro ⟨Nat.le_of_ble_eq_true rfl, Nat.le_of_ble_eq_true rfl⟩ ?_
    refine And.intro (by first | exact Or.inl rfl | exact Or.inr rfl) ?_
    rw [em] at hR1
    exact PQ_of hR1 hk1 e8 e30 (Cp_rp C (sp_QD DW.1 h7 h4 h5) (fun j hj => by rw [sSpo_row (by omega)]; exact funext fun i => HS j i (by omega) (by omega) (by omega)) h6)
  have RJ0 : ∀ k, k < nw → ∀ y, y < 4 → ∀ j, j < nb → σ.2 24 k = nI j → ¬ σ.2 9 (whI σ j) = 2 → σ.2 19 k = 2 → ¬ iScr σ (nI k) → ¬ σ.2 21 k = 2 → ¬ x = 0 → Y w mL_isWeld θ0 (PL κ p l) (fun v κ' => PQ κ p v κ') (fun _ _ => False) 0 0 92 [some (.ref (tS 4)), some (.ref (tM 0)), some (.ref (tM 5)), some (.ref (tM 6)), some (.ref (tM 8)), some (.ref (tM 9)), some (.int x), some (.int (nI o)), some (.int (nI q)), some (.int (nI k)), some (.int (nI y)), some (.int 1), some (.int (nI j)), some (.int 0), none, none, none] [] (PL κ p l) := by
    intro k hk y hy j hj h24 h92 h19 hsc h21 hx
    have hk60 : k < 60 := by omega
    have s4 : l 6 k - l 6 k / 4 * 4 = σ.2 19 k := by
      obtain ⟨s, d, r, f, e, b, h1, h2, h3, h4, h5, h6, h7, h8, h9, h10, h11, h12, h13, h14⟩ := CW k hk
      rw [h14, eW_s h1 h2 h3 h4 h5 (by omega), h8]
    have IK : isWld σ (nI k) := (IW k (by omega)).mpr hk
    have r8 : l 6 k / 8 - l 6 k / 8 / 4 * 4 = σ.2 21 k := by
      obtain ⟨s, d, r, f, e, b, h1, h2, h3, h4, h5, h6, h7, h8, h9, h10, h11, h12, h13, h14⟩ := CW k hk
      rw [h14, eW_r h1 h2 h3 h4 h5 (by omega), h10]
    have r2 : (2 ≤ σ.2 21 k ↔ σ.2 21 k = 2) := by
      obtain ⟨s, d, r, f, e, b, h1, h2, h3, h4, h5, h6, h7, h8, h9, h10, h11, h12, h13, h14⟩ := CW k hk
      rw [h10]
      rcases (show r = 0 ∨ r = 1 ∨ r = 2 by omega) with rfl | rfl | rfl <;> decide
    have DW := rp_QD (k := k) (y := y) (QD_34 (c := 0) D) hb40 hk hy h21
    have k1 : kRep σ (nI k) (nI y) = 0 := kR_0 hk60 IK ((IY y (by omega)).mpr hy) h19 hsc h21 h6
    have eS : sRep (upS σ 34 0) (nI k) (nI y).toNatClampNeg = (sDrw (lrpS (upS σ 34 0) k) k y) := by unfold sRep lrpS; rw [nI_clamp (by omega), nI_clamp (by omega)]
    obtain ⟨s, d, r, f, e, b, h1, h2, h3, h4, h5, h6b, h7, h8, h9, h10, h11, h12, h13, h14⟩ := DW.1.2.1 k hk
    have HS : ∀ j i, ¬ (j = 21 ∧ i = k) → j ≠ 19 → j ≠ 20 → (sDrw (lrpS (upS σ 34 0) k) k y).2 j i = σ.2 j i := fun j i h z1 z2 => by rw [sD_o (Or.inr ⟨z1, z2⟩)]; exact upA_o h
    have HL : ∀ j i, j ≠ 6 → j ≠ 9 → drF (lrp1 l k) k y j i = l j i := fun j i z1 z2 => by rw [drF_o z1 z2]; unfold lrp1; rw [lu_o (fun z => z2 z.1), lu_o (fun z => z1 z.1)]
    have hF : (drF (lrp1 l k) k y) 6 k / 32 - (drF (lrp1 l k) k y) 6 k / 32 / 16 * 16 = nI f := by rw [h14]; exact eW_f h1 h2 h3 h4 h5 (by omega)
    have hE : (drF (lrp1 l k) k y) 6 k / 512 - (drF (lrp1 l k) k y) 6 k / 512 / 4 * 4 = nI e := by rw [h14]; exact eW_e h1 h2 h3 h4 h5 (by omega)
    have hm : nI j = -1 ∨ ∃ i, i < nb ∧ nI j = nI i := Or.inr ⟨j, hj, rfl⟩
    have nm : ¬ nI j = (-1 : Int32) := nI_mm (by omega)
    obtain ⟨w1, w2⟩ := whI_lt hI.1.ch hj
    have hiw : (if nI j = (-1 : Int32) then -1 else whl σ (nI j)) = nI (whI σ j) := by rw [if_neg nm, w2]
    obtain ⟨fa, ga, ea, sa, ua, t1, t2, t3, t4, t5, t6, t7, t8, t9, t10, t11, t12, t13⟩ := (CB (whI σ j) w1).1
    have a1024 : drF (lrp1 l k) k y 0 (whI σ j) / 1024 = σ.2 9 (whI σ j) := by
      rw [HL 0 _ (by decide) (by decide), t13, eA_s t1 t2 t3 t4, t11]
    have s24 : (sDrw (lrpS (upS σ 34 0) k) k y).2 24 k = nI j := (HS 24 k (by omega) (by decide) (by decide)).trans h24
    have swh : whl (sDrw (lrpS (upS σ 34 0) k) k y) (nI j) = nI (whI σ j) := (whl_cong (fun i => HS 17 i (by omega) (by decide) (by decide)) _).trans w2
    have s9 : (sDrw (lrpS (upS σ 34 0) k) k y).2 9 (whI σ j) = σ.2 9 (whI σ j) := HS 9 _ (by omega) (by decide) (by decide)
    have hst : ¬ iSta (sDrw (lrpS (upS σ 34 0) k) k y) (nI k) := by
      rintro (z | z)
      · rw [nI_clamp (by omega), s24] at z; exact nm z
      · rw [nI_clamp (by omega), s24, swh, nI_clamp (by omega), s9] at z; exact h92 z
    have h324 : ¬ drF (lrp1 l k) k y 0 (whI σ j) / 1024 = 2 := by rw [a1024]; exact h92
    have em : mRep σ (nI k) (nI y) = (σ.2 21 k + 1, (sDrw (lrpS (upS σ 34 0) k) k y)) := by
      unfold mRep; rw [if_pos k1]; unfold sRep3
      rw [eS, if_neg hst, nI_clamp (by omega), sD_o (Or.inr (by decide))]
      refine Prod.ext ?_ rfl
      show (upA (upS σ 34 0) 21 k _).2 21 k = _
      rw [upA_s]; rfl
    have vv : (drF (lrp1 l k) k y) 6 k / 8 - (drF (lrp1 l k) k y) 6 k / 8 / 4 * 4 = σ.2 21 k + 1 := DW.2
    refine runL_go (κ := κ) (p := p) rkL_isWeld noCut 300 rfl ?_
    refine And.intro (fun c94 => ?_) (fun c94 => False.elim (by first | exact c94 hx | exact absurd hx c94 | exact absurd c94 hx))
    refine And.intro (fun c212 => False.elim (by first | exact c212 (by decide) | exact absurd (by decide) c212 | exact absurd c212 (by decide))) (fun c212 => ?_)
    refine And.intro (fun c218 => False.elim (by first | exact c218 (fun z => by have := (nI_leI (a := 4) (by decide) (by omega)).mp z; omega) | exact absurd (fun z => by have := (nI_leI (a := 4) (by decide) (by omega)).mp z; omega) c218 | exact absurd c218 (fun z => by have := (nI_leI (a := 4) (by decide) (by omega)).mp z; omega))) (fun c218 => ?_)
    refine And.intro (fun c230 => False.elim (by first | exact c230 (by decide) | exact absurd (by decide) c230 | exact absurd c230 (by decide))) (fun c230 => ?_)
    refine ⟨6, k, A.ld (by decide) (show k < 61 by omega) rfl, ?_⟩
    refine And.intro (by decide) ?_
    refine And.intro (fun c240 => False.elim (by first | exact c240 (by rw [s4]; exact h19) | exact absurd (by rw [s4]; exact h19) c240 | exact absurd c240 (by rw [s4]; exact h19))) (fun c240 => ?_)
    refine And.intro (fun c245 => False.elim (by first | exact c245 (by decide) | exact absurd (by decide) c245 | exact absurd c245 (by decide))) (fun c245 => ?_)
    refine ⟨6, k, A.ld (by decide) (show k < 61 by omega) rfl, ?_⟩
    refine And.intro (by decide) ?_
    refine And.intro (by decide) ?_
    refine And.intro (fun c258 => False.elim (by first | exact c258 (by rw [r8]; exact fun z => h21 (r2.mp z)) | exact absurd (by rw [r8]; exact fun z => h21 (r2.mp z)) c258 | exact absurd c258 (by rw [r8]; exact fun z => h21 (r2.mp z)))) (fun c258 => ?_)
    refine And.intro (fun c270 => False.elim (by first | exact c270 (by decide) | exact absurd (by decide) c270 | exact absurd c270 (by decide))) (fun c270 => ?_)
    refine ⟨6, k, A.ld (by decide) (show k < 61 by omega) rfl, ?_⟩
    refine ⟨6, k, A.ld (by decide) (show k < 61 by omega) rfl, ?_⟩
    refine ⟨9, 9, A.ld (by decide) (by decide) rfl, ?_⟩
    refine ⟨9, 9, A.ld (by decide) (by decide) rfl, ?_⟩
    refine pL_isWeld_299 rfl rfl rfl (c_L_draws A (k := k) (y := y) rfl rfl (by omega) hy) (fun v κ1 hq299 ho299 hk299 => ?_)
    obtain ⟨rfl, rfl⟩ := hq299
    refine runL_ok rkL_isWeld noCut 300 _ _ _ _ _ _ ?_
    refine pL_isWeld_305 rfl rfl rfl (c_L_whole A (σ := σ) (nb := nb) hI.1.ch hb40 (fun i hi => (HL 5 i (by decide) (by decide)).trans (CB i hi).2.2.2.2.2) hm) (fun v κ1 hq305 ho305 hk305 => ?_)
    obtain ⟨rfl, rfl⟩ := hq305
    refine runL_ok rkL_isWeld noCut 300 _ _ _ _ _ _ ?_
    refine And.intro (fun c312 => False.elim (by first | exact c312 (by rw [hiw]; exact nI_pos (by omega)) | exact absurd (by rw [hiw]; exact nI_pos (by omega)) c312 | exact absurd c312 (by rw [hiw]; exact nI_pos (by omega)))) (fun c312 => ?_)
    refine ⟨0, whI σ j, A.ld (by decide) (show whI σ j < 40 by omega) hiw, ?_⟩
    refine And.intro (by decide) ?_
    refine And.intro (fun c324 => ?_) (fun c324 => False.elim (by first | exact c324 h324 | exact absurd h324 c324 | exact absurd c324 h324))
    refine pL_isWeld_363 rfl rfl rfl (w_repair (RI_PL hI)) (fun v κ1 hq363 ho363 hk363 => ?_)
    obtain ⟨rfl, hre⟩ := hq363
    obtain ⟨κ1, rfl, hR1, hk1⟩ := PL_back hre
    have A1 := AK_of A hk1
    refine runL_ok rkL_isWeld noCut 300 _ _ _ _ _ _ ?_
    refine And.intro (fun c368 => ?_) (fun c368 => False.elim (by first | exact c368 (by decide) | exact absurd (by decide) c368 | exact absurd c368 (by decide)))
    refine And.intro (fun c378 => False.elim (by first | exact c378 (by decide) | exact absurd (by decide) c378 | exact absurd c378 (by decide))) (fun c378 => ?_)
    refine ⟨6, k, A1.ld (by decide) (show k < 61 by omega) rfl, ?_⟩
    refine And.intro (by decide) ?_
    refine And.intro (by decide) ?_
    refine And.intro (fun c395 => False.elim (by first | exact c395 (show dv (-3000000) (-1000000) 0 (mRep σ (nI k) (nI y)) = (drF (lrp1 l k) k y) 6 k / 8 - (drF (lrp1 l k) k y) 6 k / 8 / 4 * 4 by rw [em, vv]; rfl) | exact absurd (show dv (-3000000) (-1000000) 0 (mRep σ (nI k) (nI y)) = (drF (lrp1 l k) k y) 6 k / 8 - (drF (lrp1 l k) k y) 6 k / 8 / 4 * 4 by rw [em, vv]; rfl) c395 | exact absurd c395 (show dv (-3000000) (-1000000) 0 (mRep σ (nI k) (nI y)) = (drF (lrp1 l k) k y) 6 k / 8 - (drF (lrp1 l k) k y) 6 k / 8 / 4 * 4 by rw [em, vv]; rfl))) (fun c395 => ?_)
    refine And.intro ⟨Nat.le_of_ble_eq_true rfl, Nat.le_of_ble_eq_true rfl⟩ ?_
    refine And.intro (by first | exact Or.inl rfl | exact Or.inr rfl) ?_
    rw [em] at hR1
    exact PQ_of hR1 hk1 e8 e30 (Cp_rp C DW.1 (fun j hj => funext fun i => HS j i (by omega) (by omega) (by omega)) h6)
  have RJ1 : ∀ k, k < nw → ∀ y, y < 4 → ∀ j, j < nb → σ.2 24 k = nI j → σ.2 9 (whI σ j) = 2 → σ.2 19 k = 2 → ¬ iScr σ (nI k) → ¬ σ.2 21 k = 2 → ¬ x = 0 → Y w mL_isWeld θ0 (PL κ p l) (fun v κ' => PQ κ p v κ') (fun _ _ => False) 0 0 92 [some (.ref (tS 4)), some (.ref (tM 0)), some (.ref (tM 5)), some (.ref (tM 6)), some (.ref (tM 8)), some (.ref (tM 9)), some (.int x), some (.int (nI o)), some (.int (nI q)), some (.int (nI k)), some (.int (nI y)), some (.int 1), some (.int (nI j)), some (.int 0), none, none, none] [] (PL κ p l) := by
    intro k hk y hy j hj h24 h92 h19 hsc h21 hx
    have hk60 : k < 60 := by omega
    have s4 : l 6 k - l 6 k / 4 * 4 = σ.2 19 k := by
      obtain ⟨s, d, r, f, e, b, h1, h2, h3, h4, h5, h6, h7, h8, h9, h10, h11, h12, h13, h14⟩ := CW k hk
      rw [h14, eW_s h1 h2 h3 h4 h5 (by omega), h8]
    have IK : isWld σ (nI k) := (IW k (by omega)).mpr hk
    have r8 : l 6 k / 8 - l 6 k / 8 / 4 * 4 = σ.2 21 k := by
      obtain ⟨s, d, r, f, e, b, h1, h2, h3, h4, h5, h6, h7, h8, h9, h10, h11, h12, h13, h14⟩ := CW k hk
      rw [h14, eW_r h1 h2 h3 h4 h5 (by omega), h10]
    have r2 : (2 ≤ σ.2 21 k ↔ σ.2 21 k = 2) := by
      obtain ⟨s, d, r, f, e, b, h1, h2, h3, h4, h5, h6, h7, h8, h9, h10, h11, h12, h13, h14⟩ := CW k hk
      rw [h10]
      rcases (show r = 0 ∨ r = 1 ∨ r = 2 by omega) with rfl | rfl | rfl <;> decide
    have DW := rp_QD (k := k) (y := y) (QD_34 (c := 0) D) hb40 hk hy h21
    have k1 : kRep σ (nI k) (nI y) = 0 := kR_0 hk60 IK ((IY y (by omega)).mpr hy) h19 hsc h21 h6
    have eS : sRep (upS σ 34 0) (nI k) (nI y).toNatClampNeg = (sDrw (lrpS (upS σ 34 0) k) k y) := by unfold sRep lrpS; rw [nI_clamp (by omega), nI_clamp (by omega)]
    obtain ⟨s, d, r, f, e, b, h1, h2, h3, h4, h5, h6b, h7, h8, h9, h10, h11, h12, h13, h14⟩ := DW.1.2.1 k hk
    have HS : ∀ j i, ¬ (j = 21 ∧ i = k) → j ≠ 19 → j ≠ 20 → (sDrw (lrpS (upS σ 34 0) k) k y).2 j i = σ.2 j i := fun j i h z1 z2 => by rw [sD_o (Or.inr ⟨z1, z2⟩)]; exact upA_o h
    have HL : ∀ j i, j ≠ 6 → j ≠ 9 → drF (lrp1 l k) k y j i = l j i := fun j i z1 z2 => by rw [drF_o z1 z2]; unfold lrp1; rw [lu_o (fun z => z2 z.1), lu_o (fun z => z1 z.1)]
    have hF : (drF (lrp1 l k) k y) 6 k / 32 - (drF (lrp1 l k) k y) 6 k / 32 / 16 * 16 = nI f := by rw [h14]; exact eW_f h1 h2 h3 h4 h5 (by omega)
    have hE : (drF (lrp1 l k) k y) 6 k / 512 - (drF (lrp1 l k) k y) 6 k / 512 / 4 * 4 = nI e := by rw [h14]; exact eW_e h1 h2 h3 h4 h5 (by omega)
    have hm : nI j = -1 ∨ ∃ i, i < nb ∧ nI j = nI i := Or.inr ⟨j, hj, rfl⟩
    have nm : ¬ nI j = (-1 : Int32) := nI_mm (by omega)
    obtain ⟨w1, w2⟩ := whI_lt hI.1.ch hj
    have hiw : (if nI j = (-1 : Int32) then -1 else whl σ (nI j)) = nI (whI σ j) := by rw [if_neg nm, w2]
    obtain ⟨fa, ga, ea, sa, ua, t1, t2, t3, t4, t5, t6, t7, t8, t9, t10, t11, t12, t13⟩ := (CB (whI σ j) w1).1
    have a1024 : drF (lrp1 l k) k y 0 (whI σ j) / 1024 = σ.2 9 (whI σ j) := by
      rw [HL 0 _ (by decide) (by decide), t13, eA_s t1 t2 t3 t4, t11]
    have s24 : (sDrw (lrpS (upS σ 34 0) k) k y).2 24 k = nI j := (HS 24 k (by omega) (by decide) (by decide)).trans h24
    have swh : whl (sDrw (lrpS (upS σ 34 0) k) k y) (nI j) = nI (whI σ j) := (whl_cong (fun i => HS 17 i (by omega) (by decide) (by decide)) _).trans w2
    have s9 : (sDrw (lrpS (upS σ 34 0) k) k y).2 9 (whI σ j) = σ.2 9 (whI σ j) := HS 9 _ (by omega) (by decide) (by decide)
    have hst : iSta (sDrw (lrpS (upS σ 34 0) k) k y) (nI k) := by
      exact Or.inr (by rw [nI_clamp (by omega), s24, swh, nI_clamp (by omega), s9]; exact h92)
    have h324 : drF (lrp1 l k) k y 0 (whI σ j) / 1024 = 2 := by rw [a1024]; exact h92
    have em : mRep σ (nI k) (nI y) = (σ.2 21 k + 1, sSpo (sDrw (lrpS (upS σ 34 0) k) k y) (nI f) (nI e)) := by
      unfold mRep; rw [if_pos k1]; unfold sRep3
      rw [eS, if_pos hst, nI_clamp (by omega), h11, h12, sSpo_row (by decide), sD_o (Or.inr (by decide))]
      refine Prod.ext ?_ rfl
      show (upA (upS σ 34 0) 21 k _).2 21 k = _
      rw [upA_s]; rfl
    have vv : (spF (drF (lrp1 l k) k y) (12 * e + f)) 6 k / 8 - (spF (drF (lrp1 l k) k y) (12 * e + f)) 6 k / 8 / 4 * 4 = σ.2 21 k + 1 := by rw [spF_o (by decide)]; exact DW.2
    refine runL_go (κ := κ) (p := p) rkL_isWeld noCut 300 rfl ?_
    refine And.intro (fun c94 => ?_) (fun c94 => False.elim (by first | exact c94 hx | exact absurd hx c94 | exact absurd c94 hx))
    refine And.intro (fun c212 => False.elim (by first | exact c212 (by decide) | exact absurd (by decide) c212 | exact absurd c212 (by decide))) (fun c212 => ?_)
    refine And.intro (fun c218 => False.elim (by first | exact c218 (fun z => by have := (nI_leI (a := 4) (by decide) (by omega)).mp z; omega) | exact absurd (fun z => by have := (nI_leI (a := 4) (by decide) (by omega)).mp z; omega) c218 | exact absurd c218 (fun z => by have := (nI_leI (a := 4) (by decide) (by omega)).mp z; omega))) (fun c218 => ?_)
    refine And.intro (fun c230 => False.elim (by first | exact c230 (by decide) | exact absurd (by decide) c230 | exact absurd c230 (by decide))) (fun c230 => ?_)
    refine ⟨6, k, A.ld (by decide) (show k < 61 by omega) rfl, ?_⟩
    refine And.intro (by decide) ?_
    refine And.intro (fun c240 => False.elim (by first | exact c240 (by rw [s4]; exact h19) | exact absurd (by rw [s4]; exact h19) c240 | exact absurd c240 (by rw [s4]; exact h19))) (fun c240 => ?_)
    refine And.intro (fun c245 => False.elim (by first | exact c245 (by decide) | exact absurd (by decide) c245 | exact absurd c245 (by decide))) (fun c245 => ?_)
    refine ⟨6, k, A.ld (by decide) (show k < 61 by omega) rfl, ?_⟩
    refine And.intro (by decide) ?_
    refine And.intro (by decide) ?_
    refine And.intro (fun c258 => False.elim (by first | exact c258 (by rw [r8]; exact fun z => h21 (r2.mp z)) | exact absurd (by rw [r8]; exact fun z => h21 (r2.mp z)) c258 | exact absurd c258 (by rw [r8]; exact fun z => h21 (r2.mp z)))) (fun c258 => ?_)
    refine And.intro (fun c270 => False.elim (by first | exact c270 (by decide) | exact absurd (by decide) c270 | exact absurd c270 (by decide))) (fun c270 => ?_)
    refine ⟨6, k, A.ld (by decide) (show k < 61 by omega) rfl, ?_⟩
    refine ⟨6, k, A.ld (by decide) (show k < 61 by omega) rfl, ?_⟩
    refine ⟨9, 9, A.ld (by decide) (by decide) rfl, ?_⟩
    refine ⟨9, 9, A.ld (by decide) (by decide) rfl, ?_⟩
    refine pL_isWeld_299 rfl rfl rfl (c_L_draws A (k := k) (y := y) rfl rfl (by omega) hy) (fun v κ1 hq299 ho299 hk299 => ?_)
    obtain ⟨rfl, rfl⟩ := hq299
    refine runL_ok rkL_isWeld noCut 300 _ _ _ _ _ _ ?_
    refine pL_isWeld_305 rfl rfl rfl (c_L_whole A (σ := σ) (nb := nb) hI.1.ch hb40 (fun i hi => (HL 5 i (by decide) (by decide)).trans (CB i hi).2.2.2.2.2) hm) (fun v κ1 hq305 ho305 hk305 => ?_)
    obtain ⟨rfl, rfl⟩ := hq305
    refine runL_ok rkL_isWeld noCut 300 _ _ _ _ _ _ ?_
    refine And.intro (fun c312 => False.elim (by first | exact c312 (by rw [hiw]; exact nI_pos (by omega)) | exact absurd (by rw [hiw]; exact nI_pos (by omega)) c312 | exact absurd c312 (by rw [hiw]; exact nI_pos (by omega)))) (fun c312 => ?_)
    refine ⟨0, whI σ j, A.ld (by decide) (show whI σ j < 40 by omega) hiw, ?_⟩
    refine And.intro (by decide) ?_
    refine And.intro (fun c324 => False.elim (by first | exact c324 h324 | exact absurd h324 c324 | exact absurd c324 h324)) (fun c324 => ?_)
    refine ⟨6, k, A.ld (by decide) (show k < 61 by omega) rfl, ?_⟩
    refine And.intro (by decide) ?_
    refine And.intro (by decide) ?_
    refine ⟨6, k, A.ld (by decide) (show k < 61 by omega) rfl, ?_⟩
    refine And.intro (by decide) ?_
    refine And.intro (by decide) ?_
    refine pL_isWeld_349 rfl rfl rfl (c_L_spoils A (f0 := f) (e0 := e) hF hE h5 h7 h4) (fun v κ1 hq349 ho349 hk349 => ?_)
    obtain ⟨rfl, rfl⟩ := hq349
    refine runL_ok rkL_isWeld noCut 300 _ _ _ _ _ _ ?_
    refine pL_isWeld_363 rfl rfl rfl (w_repair (RI_PL hI)) (fun v κ1 hq363 ho363 hk363 => ?_)
    obtain ⟨rfl, hre⟩ := hq363
    obtain ⟨κ1, rfl, hR1, hk1⟩ := PL_back hre
    have A1 := AK_of A hk1
    refine runL_ok rkL_isWeld noCut 300 _ _ _ _ _ _ ?_
    refine And.intro (fun c368 => ?_) (fun c368 => False.elim (by first | exact c368 (by decide) | exact absurd (by decide) c368 | exact absurd c368 (by decide)))
    refine And.intro (fun c378 => False.elim (by first | exact c378 (by decide) | exact absurd (by decide) c378 | exact absurd c378 (by decide))) (fun c378 => ?_)
    refine ⟨6, k, A1.ld (by decide) (show k < 61 by omega) rfl, ?_⟩
    refine And.intro (by decide) ?_
    refine And.intro (by decide) ?_
    refine And.intro (fun c395 => False.elim (by first | exact c395 (show dv (-3000000) (-1000000) 0 (mRep σ (nI k) (nI y)) = (spF (drF (lrp1 l k) k y) (12 * e + f)) 6 k / 8 - (spF (drF (lrp1 l k) k y) (12 * e + f)) 6 k / 8 / 4 * 4 by rw [em, vv]; rfl) | exact absurd (show dv (-3000000) (-1000000) 0 (mRep σ (nI k) (nI y)) = (spF (drF (lrp1 l k) k y) (12 * e + f)) 6 k / 8 - (spF (drF (lrp1 l k) k y) (12 * e + f)) 6 k / 8 / 4 * 4 by rw [em, vv]; rfl) c395 | exact absurd c395 (show dv (-3000000) (-1000000) 0 (mRep σ (nI k) (nI y)) = (spF (drF (lrp1 l k) k y) (12 * e + f)) 6 k / 8 - (spF (drF (lrp1 l k) k y) (12 * e + f)) 6 k / 8 / 4 * 4 by rw [em, vv]; rfl))) (fun c395 => ?_)
    refine And.intro ⟨Nat.le_of_ble_eq_true rfl, Nat.le_of_ble_eq_true rfl⟩ ?_
    refine And.intro (by first | exact Or.inl rfl | exact Or.inr rfl) ?_
    rw [em] at hR1
    exact PQ_of hR1 hk1 e8 e30 (Cp_rp C (sp_QD DW.1 h7 h4 h5) (fun j hj => by rw [sSpo_row (by omega)]; exact funext fun i => HS j i (by omega) (by omega) (by omega)) h6)
  have K92 : ∀ k, k < nw → ∀ y, y < 5 → ∀ b, b ≤ nb → σ.2 24 k = nI b - 1 → (iScr σ (nI k) → Y w mL_isWeld θ0 (PL κ p l) (fun v κ' => PQ κ p v κ') (fun _ _ => False) 0 0 92 [some (.ref (tS 4)), some (.ref (tM 0)), some (.ref (tM 5)), some (.ref (tM 6)), some (.ref (tM 8)), some (.ref (tM 9)), some (.int x), some (.int (nI o)), some (.int (nI q)), some (.int (nI k)), some (.int (nI y)), some (.int 1), some (.int (nI b - 1)), some (.int 1), none, none, none] [] (PL κ p l)) ∧ (¬ iScr σ (nI k) → Y w mL_isWeld θ0 (PL κ p l) (fun v κ' => PQ κ p v κ') (fun _ _ => False) 0 0 92 [some (.ref (tS 4)), some (.ref (tM 0)), some (.ref (tM 5)), some (.ref (tM 6)), some (.ref (tM 8)), some (.ref (tM 9)), some (.int x), some (.int (nI o)), some (.int (nI q)), some (.int (nI k)), some (.int (nI y)), some (.int 1), some (.int (nI b - 1)), some (.int 0), none, none, none] [] (PL κ p l)) := by
    intro k hk y hy b hb h24
    refine ⟨fun hsc => ?_, fun hsc => ?_⟩
    · by_cases hx : x = 0
      · exact TS1 k hk y hy _ hsc hx
      · by_cases hy4 : y = 4
        · exact R41 k hk y hy _ hy4 hx
        · by_cases h19 : σ.2 19 k = 2
          · exact RS k hk y (by omega) _ h19 hsc hx
          · exact RB1 k hk y (by omega) _ h19 hx
    · by_cases hx : x = 0
      · by_cases h19 : σ.2 19 k = 0
        · by_cases hd : ¬ σ.2 20 k = 0
          · exact TC1 k hk y hy _ h19 hsc hd hx
          · exact TC0 k hk y hy _ h19 hsc hd hx
        · exact TS0 k hk y hy _ h19 hx
      · by_cases hy4 : y = 4
        · exact R40 k hk y hy _ hy4 hx
        · by_cases h19 : σ.2 19 k = 2
          · by_cases h21 : σ.2 21 k = 2
            · exact RT k hk y (by omega) _ h19 h21 hx
            · by_cases hb0 : b = 0
              · have e1 : nI b - 1 = (-1 : Int32) := by rw [hb0]; decide
                have Z := RW k hk y (by omega) (h24.trans e1) h19 hsc h21 hx
                rw [e1]; exact Z
              · have e1 : nI b - 1 = nI (b - 1) := nI_s1 (by omega)
                rw [e1]
                by_cases h92 : σ.2 9 (whI σ (b - 1)) = 2
                · exact RJ1 k hk y (by omega) (b - 1) (by omega) (h24.trans e1) h92 h19 hsc h21 hx
                · exact RJ0 k hk y (by omega) (b - 1) (by omega) (h24.trans e1) h92 h19 hsc h21 hx
          · exact RB0 k hk y (by omega) _ h19 hx
  have K32n : ∀ y, y < 5 → Y w mL_isWeld θ0 (PL κ p l) (fun v κ' => PQ κ p v κ') (fun _ _ => False) 0 0 32 [some (.ref (tS 4)), some (.ref (tM 0)), some (.ref (tM 5)), some (.ref (tM 6)), some (.ref (tM 8)), some (.ref (tM 9)), some (.int x), some (.int (nI o)), some (.int (nI q)), some (.int (nI nw)), some (.int (nI y)), none, none, none, none, none, none] [] (PL κ p l) := by
    intro y hy
    refine runL_go (κ := κ) (p := p) rkL_isWeld (fun p => Nat.beq p 92) 300 rfl ?_
    refine ⟨9, 11, A.ld (by decide) (by decide) rfl, ?_⟩
    refine And.intro (fun c39 => ?_) (fun c39 => False.elim (by first | exact c39 (by rw [a11]; exact Int32.le_refl _) | exact absurd (by rw [a11]; exact Int32.le_refl _) c39 | exact absurd c39 (by rw [a11]; exact Int32.le_refl _)))
    refine And.intro (fun c51 => ?_) (fun c51 => False.elim (by first | exact c51 (by decide) | exact absurd (by decide) c51 | exact absurd c51 (by decide)))
    refine And.intro (fun c72 => ?_) (fun c72 => False.elim (by first | exact c72 (by decide) | exact absurd (by decide) c72 | exact absurd c72 (by decide)))
    by_cases hx : x = 0
    · exact TN y hy hx
    · exact RN y hy hx
  have K32y : ∀ k, k < nw → ∀ y, y < 5 → Y w mL_isWeld θ0 (PL κ p l) (fun v κ' => PQ κ p v κ') (fun _ _ => False) 0 0 32 [some (.ref (tS 4)), some (.ref (tM 0)), some (.ref (tM 5)), some (.ref (tM 6)), some (.ref (tM 8)), some (.ref (tM 9)), some (.int x), some (.int (nI o)), some (.int (nI q)), some (.int (nI k)), some (.int (nI y)), none, none, none, none, none, none] [] (PL κ p l) := by
    intro k hk y hy
    obtain ⟨s, d, r, f, e, b, h1, h2, h3, h4, h5, h6b, h7, h8, h9, h10, h11, h12, h13, h14⟩ := CW k hk
    have e2048 : l 6 k / 2048 - 1 = nI b - 1 := by rw [h14, eW_b h1 h2 h3 h4 h5 (by omega)]
    have Z := K92 k hk y hy b h6b h13
    rw [← e2048] at Z
    have hsb : ¬ b = 0 → b - 1 < nb := by omega
    have hix : ¬ b = 0 → l 6 k / 2048 - 1 = nI (b - 1) := fun z => by rw [e2048]; exact nI_s1 (by omega)
    have hlt : (l 6 k / 2048 - 1 < 0 ↔ b = 0) := by
      rw [e2048]
      by_cases z : b = 0
      · rw [z]; exact ⟨fun _ => rfl, fun _ => by decide⟩
      · rw [nI_s1 (by omega)]; exact ⟨fun q => absurd q (nI_pos (by omega)), fun q => absurd q z⟩
    have hsc : (iScr σ (nI k) ↔ ¬ b = 0 ∧ σ.2 9 (b - 1) = 3) := by
      show (¬ σ.2 24 (nI k).toNatClampNeg = -1 ∧ _) ↔ _
      rw [nI_clamp (by omega), h13]
      by_cases z : b = 0
      · rw [z]; exact ⟨fun q => absurd (by decide) q.1, fun q => absurd rfl q.1⟩
      · rw [nI_s1 (by omega), nI_clamp (by omega)]; exact ⟨fun q => ⟨z, q.2⟩, fun q => ⟨nI_mm (by omega), q.2⟩⟩
    have hi3 : ¬ b = 0 → (l 0 (b - 1) ≤ 3071 ↔ ¬ σ.2 9 (b - 1) = 3) := fun z => by
      obtain ⟨fa, ga, ea, sa, ua, t1, t2, t3, t4, t5, t6, t7, t8, t9, t10, t11, t12, t13⟩ := (CB (b - 1) (hsb z)).1
      rw [t13, eA_hi t1 t2 t3 t4, t11]
      exact ⟨fun q r => by have := (nI_eq (b := 3) (by omega) (by decide)).mp r; omega, fun q => by have := mt (fun r : sa = 3 => (by rw [r]; rfl : nI sa = 3)) q; omega⟩
    refine runL_go (κ := κ) (p := p) rkL_isWeld (fun p => Nat.beq p 92) 300 rfl ?_
    refine ⟨9, 11, A.ld (by decide) (by decide) rfl, ?_⟩
    refine And.intro (fun c39 => False.elim (by first | exact c39 (by rw [a11]; exact fun z => by have := (nI_leI (by omega) (by omega)).mp z; omega) | exact absurd (by rw [a11]; exact fun z => by have := (nI_leI (by omega) (by omega)).mp z; omega) c39 | exact absurd c39 (by rw [a11]; exact fun z => by have := (nI_leI (by omega) (by omega)).mp z; omega))) (fun c39 => ?_)
    refine And.intro (fun c51 => False.elim (by first | exact c51 (by decide) | exact absurd (by decide) c51 | exact absurd c51 (by decide))) (fun c51 => ?_)
    refine ⟨6, k, A.ld (by decide) (show k < 61 by omega) rfl, ?_⟩
    refine And.intro (by decide) ?_
    refine And.intro (fun c72 => ?_) (fun c72 => ?_)
    · skip
      first | exact Z.2 (fun z => (hsc.mp z).1 (hlt.mp c72)) | exact Z.2 (fun z => ((hi3 (hsc.mp z).1).mp c82) (hsc.mp z).2)
    · skip
      refine ⟨0, (b - 1), A.ld (by decide) (show b - 1 < 40 by omega) (hix (fun z => c72 (hlt.mpr z))), ?_⟩
      refine And.intro (fun c82 => ?_) (fun c82 => ?_)
      · skip
        first | exact Z.2 (fun z => (hsc.mp z).1 (hlt.mp c72)) | exact Z.2 (fun z => ((hi3 (hsc.mp z).1).mp c82) (hsc.mp z).2)
      · skip
        exact Z.1 (hsc.mpr ⟨fun z => c72 (hlt.mpr z), Classical.byContradiction fun z => c82 ((hi3 (fun z => c72 (hlt.mpr z))).mpr z)⟩)
  have r9 : nI q - nI q / 9 * 9 = nI (q % 9) := rm_nI (d := 9) (by omega) (by decide) (by decide)
  have r4 : nI q - nI q / 4 * 4 = nI (q % 4) := rm_nI (d := 4) (by omega) (by decide) (by decide)
  have rw1 : nI o - nI o / (l 9 11 + 1) * (l 9 11 + 1) = nI (o % (nw + 1)) := by rw [a11, nI_1]; exact rm_nI (by omega) (by omega) (by omega)
  have nz : ¬ l 9 11 + 1 = 0 := by rw [a11, nI_1]; exact nI_ne0 (by omega) (by omega)
  have K30 : ∀ y9 y10 : Int32, (∃ k, k ≤ nw ∧ y9 = nI k) → (∃ y, y < 5 ∧ y10 = nI y) → Y w mL_isWeld θ0 (PL κ p l) (fun v κ' => PQ κ p v κ') (fun _ _ => False) 0 0 32 [some (.ref (tS 4)), some (.ref (tM 0)), some (.ref (tM 5)), some (.ref (tM 6)), some (.ref (tM 8)), some (.ref (tM 9)), some (.int x), some (.int (nI o)), some (.int (nI q)), some (.int y9), some (.int y10), none, none, none, none, none, none] [] (PL κ p l) := by
    rintro y9 y10 ⟨k, hk, rfl⟩ ⟨y, hy, rfl⟩
    by_cases e : k = nw
    · rw [e]; exact K32n y hy
    · exact K32y k (by omega) y hy
  refine runL_ok rkL_isWeld (fun p => Nat.beq p 32) 300 _ _ _ _ _ _ ?_
  refine ⟨9, 11, A.ld (by decide) (by decide) rfl, ?_⟩
  refine And.intro nz ?_
  refine And.intro (by decide) ?_
  refine And.intro (fun c19 => ?_) (fun c19 => ?_)
  · skip
    refine And.intro (by decide) ?_
    exact K30 _ _ ⟨_, Nat.lt_succ_iff.mp (Nat.mod_lt _ (Nat.succ_pos _)), rw1⟩ ⟨_, by have := Nat.mod_lt q (show 0 < 4 by decide); omega, r4⟩
  · skip
    exact K30 _ _ ⟨_, Nat.lt_succ_iff.mp (Nat.mod_lt _ (Nat.succ_pos _)), rw1⟩ ⟨4, by decide, rfl⟩


/-! THE LAW'S isRoom -/
theorem Cp_r {l l' : LSt} {σ σ' : MS} {nb nw np : Nat} (h : Cp l σ nb nw np) (hl : ∀ j k, j ≠ 8 → l' j k = l j k) (hs1 : ∀ j, j ≠ 34 → σ'.1 j = σ.1 j) (hs : ∀ j, j < 26 → σ'.2 j = σ.2 j) (hR : cR l' σ') : Cp l' σ' nb nw np := by
  obtain ⟨⟨h1, h2, h3, h4⟩, ⟨B, W, R, G, z18⟩, hln⟩ := h
  exact ⟨⟨h1, h2, h3, (hs1 6 (by decide)).trans h4⟩, ⟨B.cong (fun j hj i _ => hl j i (by omega)) (fun j _ _ i _ => by rw [hs j (by omega)]), W.cong (fun k _ => hl 6 k (by omega)) (fun j _ _ k _ => by rw [hs j (by omega)]) (Nat.le_refl _), hR, G.cong (fun k => hl 9 k (by omega)) (fun j hj => hs1 j (by omega)) (fun y _ => by rw [hs 5 (by omega)]), (hs1 18 (by decide)).trans z18⟩, hln.cong (fun j hj i _ => by rw [hs j (by omega)])⟩
theorem cR_1 {l l' : LSt} {σ σ' : MS} {c : Nat} (h : cR l σ) (hl : ∀ j k, ¬ (j = 8 ∧ k = c) → l' j k = l j k) (hs : ∀ j k, ¬ (26 ≤ j ∧ k = c) → σ'.2 j k = σ.2 j k) (hc : c < 36 → cH1 (l' 8 c) σ' c) : cR l' σ' := by
  intro i hi
  obtain ⟨q, r⟩ := h i hi
  refine ⟨by rw [hl _ _ (by omega), hs _ _ (by omega)]; exact q, ?_⟩
  by_cases e : i = c
  · subst e; exact hc hi
  · exact r.cong (hl _ _ (fun z => e z.2)) (fun j _ _ => hs _ _ (fun z => e z.2))
theorem bit_0 : ∀ H, H < 16 → ∀ s, s < 4 → ((nI H >>> (nI s &&& 31)) &&& 1 = 0 ↔ nI H &&& pw s = 0) := by decide +kernel
theorem or_add : ∀ H, H < 16 → ∀ s, s < 4 → nI H &&& pw s = 0 → nI H ||| pw s = nI (H + 2 ^ s) ∧ H + 2 ^ s < 16 := by decide +kernel
theorem cH1.bit0 {x : Int32} {σ : MS} {c s : Nat} (h : cH1 x σ c) (hs : s < 4) : ((x / 2 - x / 2 / 16 * 16) >>> (nI s &&& 31)) &&& 1 = 0 ↔ σ.2 29 c &&& pw s = 0 := by
  obtain ⟨P, H, Q, T, h1, h2, h3, h4, -, h6, -, -, rfl⟩ := h
  rw [eH_h h1 h2 h3 h4, bit_0 H h2 s hs, h6]
/-- a hole's side in a room -/
theorem cH1.hole {x : Int32} {σ σ' : MS} {c s : Nat} (h : cH1 x σ c) (hs : s < 4) (h0 : σ.2 29 c &&& pw s = 0) (k26 : σ'.2 26 c = 0) (k27 : σ'.2 27 c = σ.2 27 c) (k28 : σ'.2 28 c = σ.2 28 c) (k29 : σ'.2 29 c = σ.2 29 c ||| pw s) : cH1 (x + (nI (2 * 2 ^ s) - (x - x / 2 * 2))) σ' c := by
  obtain ⟨P, H, Q, T, h1, h2, h3, h4, h5, h6, h7, h8, rfl⟩ := h
  rw [h6] at h0
  obtain ⟨o1, o2⟩ := or_add H h2 s hs h0
  refine ⟨0, H + 2 ^ s, Q, T, by decide, o2, h3, h4, k26, by rw [k29, h6, o1], by rw [k28]; exact h7, by rw [k27]; exact h8, ?_⟩
  rw [eH_p h1 h2 h3 h4]
  have e : nI (eH P H Q T) = nI (eH 0 H Q T) + nI P := by rw [nI_add]; congr 1; unfold eH; omega
  have e2 : nI (eH 0 (H + 2 ^ s) Q T) = nI (eH 0 H Q T) + nI (2 * 2 ^ s) := by rw [nI_add]; congr 1; unfold eH; omega
  rw [e, e2]
  grind
theorem cH1.paint {x : Int32} {σ σ' : MS} {c : Nat} (h : cH1 x σ c) (h0 : σ.2 26 c = 0) (k26 : σ'.2 26 c = 1) (ks : ∀ j, 27 ≤ j → σ'.2 j c = σ.2 j c) : cH1 (x + 1) σ' c := by
  obtain ⟨P, H, Q, T, h1, h2, h3, h4, h5, h6, h7, h8, rfl⟩ := h
  have p0 : P = 0 := (nI_eq (b := 0) (by omega) (by decide)).mp (h5.symm.trans h0)
  subst p0
  refine ⟨1, H, Q, T, by decide, h2, h3, h4, k26, by rw [ks _ (by decide)]; exact h6, by rw [ks _ (by decide)]; exact h7, by rw [ks _ (by decide)]; exact h8, ?_⟩
  rw [nI_1]; congr 1; unfold eH; omega
theorem cH1.fit {x : Int32} {σ σ' : MS} {c t : Nat} (h : cH1 x σ c) (ht : σ.2 27 c + nI t ≤ 300) (ht2 : t ≤ 100) (k27 : σ'.2 27 c = σ.2 27 c + nI t) (ks : ∀ j, j ≠ 27 → σ'.2 j c = σ.2 j c) : cH1 (x + 128 * nI t) σ' c := by
  obtain ⟨P, H, Q, T, h1, h2, h3, h4, h5, h6, h7, h8, rfl⟩ := h
  rw [h8, nI_add] at ht k27
  refine ⟨P, H, Q, T + t, h1, h2, h3, (nI_leI (b := 300) (by omega) (by decide)).mp ht, by rw [ks _ (by decide)]; exact h5, by rw [ks _ (by decide)]; exact h6, by rw [ks _ (by decide)]; exact h7, k27, ?_⟩
  rw [show (128 : Int32) = nI 128 from rfl, pk_mul, nI_add]; congr 1; unfold eH; omega
theorem rm_lt {l : LSt} {σ : MS} {nb nw np c : Nat} (C : Cp l σ nb nw np) (hn : nb ≤ 60) (hX : fX σ nb) (hc : c < 36) : (l 7 c < 0 ↔ σ.2 25 c = -1) := by
  rw [(C.2.1.2.2.1 c hc).1]
  refine ⟨fun z => Classical.byContradiction fun h => ?_, fun z => by rw [z]; decide⟩
  obtain ⟨j, h1, h2, -⟩ := hX c hc h
  rw [h2] at z
  exact nI_pos (by omega) z
theorem isRmL {σ : MS} {c : Nat} (hc : c < 36) : isRm σ (nI c) ↔ ¬ σ.2 25 c = -1 := by
  show (0 ≤ nI c ∧ nI c ≤ 35) ∧ ¬ σ.2 25 (nI c).toNatClampNeg = -1 ↔ _
  rw [nI_clamp (by omega)]
  exact ⟨fun z => z.2, fun z => ⟨⟨nI_pos' (by omega), nI_le (b := 35) (by omega) (by decide)⟩, z⟩⟩
theorem cH1.p01 {x : Int32} {σ : MS} {c : Nat} (h : cH1 x σ c) : x - x / 2 * 2 = if ¬ σ.2 26 c = 0 then 1 else 0 := by
  rw [h.pnt]
  obtain ⟨P, H, Q, T, h1, h2, h3, h4, h5, -⟩ := h
  rw [h5]
  rcases (show P = 0 ∨ P = 1 by omega) with rfl | rfl <;> decide
theorem Cp_hole {l : LSt} {σ : MS} {nb nw np c d s t : Nat} {u : Int32} (C : Cp l σ nb nw np) (hc : c < 36) (hd : d < 36) (hs : s < 4) (ht : t < 4) (hcd : c ≠ d) (eo : oth (nI c) u = nI d) (es : bitU u = pw s) (et : bitU u / 2 = pw t) (h0 : σ.2 29 c &&& pw s = 0) (h1 : σ.2 29 d &&& pw t = 0) :
    Cp (lu (lu l 8 c (l 8 c + (nI (2 * 2 ^ s) - (l 8 c - l 8 c / 2 * 2)))) 8 d (lu l 8 c (l 8 c + (nI (2 * 2 ^ s) - (l 8 c - l 8 c / 2 * 2))) 8 d + (nI (2 * 2 ^ t) - (lu l 8 c (l 8 c + (nI (2 * 2 ^ s) - (l 8 c - l 8 c / 2 * 2))) 8 d - lu l 8 c (l 8 c + (nI (2 * 2 ^ s) - (l 8 c - l 8 c / 2 * 2))) 8 d / 2 * 2)))) (sHole (upS σ 34 0) (nI c) u) nb nw np := by
  rw [show lu l 8 c (l 8 c + (nI (2 * 2 ^ s) - (l 8 c - l 8 c / 2 * 2))) 8 d = l 8 d from lu_o (fun z => hcd z.2.symm)]
  have R := C.2.1.2.2.1
  have es' : sHole (upS σ 34 0) (nI c) u = upA (upA (upA (upA (upS σ 34 0) 29 c (σ.2 29 c ||| pw s)) 29 d (σ.2 29 d ||| pw t)) 26 c 0) 26 d 0 := by
    unfold sHole
    rw [et, eo, es, nI_clamp (by omega), nI_clamp (by omega), upA_o (fun z => hcd z.2.symm)]
    rfl
  rw [es']
  refine Cp_r C (fun j k hj => by rw [lu_o (fun z => hj z.1), lu_o (fun z => hj z.1)]) (fun j hj => if_neg hj) (fun j hj => funext fun k => by rw [upA_o (by omega), upA_o (by omega), upA_o (by omega), upA_o (by omega)]; rfl) ?_
  have hcd' : d ≠ c := fun z => hcd z.symm
  intro i hi
  obtain ⟨q, r⟩ := R i hi
  refine ⟨by rw [lu_o (fun z => absurd z.1 (by decide)), lu_o (fun z => absurd z.1 (by decide)), upA_o (fun z => absurd z.1 (by decide)), upA_o (fun z => absurd z.1 (by decide)), upA_o (fun z => absurd z.1 (by decide)), upA_o (fun z => absurd z.1 (by decide))]; exact q, ?_⟩
  by_cases e1 : i = c
  · subst e1
    rw [lu_o (fun z => hcd z.2), lu_s]
    exact r.hole hs h0 (by rw [upA_o (fun z => hcd z.2), upA_s]) (by rw [upA_o (fun z => hcd z.2), upA_o (fun z => absurd z.1 (by decide)), upA_o (fun z => hcd z.2), upA_o (fun z => absurd z.1 (by decide))]; rfl) (by rw [upA_o (fun z => hcd z.2), upA_o (fun z => absurd z.1 (by decide)), upA_o (fun z => hcd z.2), upA_o (fun z => absurd z.1 (by decide))]; rfl) (by rw [upA_o (fun z => hcd z.2), upA_o (fun z => absurd z.1 (by decide)), upA_o (fun z => hcd z.2), upA_s])
  · by_cases e2 : i = d
    · subst e2
      rw [lu_s]
      exact r.hole ht h1 upA_s (by rw [upA_o (fun z => absurd z.1 (by decide)), upA_o (fun z => e1 z.2), upA_o (fun z => absurd z.1 (by decide)), upA_o (fun z => e1 z.2)]; rfl) (by rw [upA_o (fun z => absurd z.1 (by decide)), upA_o (fun z => e1 z.2), upA_o (fun z => absurd z.1 (by decide)), upA_o (fun z => e1 z.2)]; rfl) (by rw [upA_o (fun z => absurd z.1 (by decide)), upA_o (fun z => e1 z.2), upA_s])
    · exact r.cong (by rw [lu_o (fun z => e2 z.2), lu_o (fun z => e1 z.2)]) (fun j _ _ => by rw [upA_o (fun z => e2 z.2), upA_o (fun z => e1 z.2), upA_o (fun z => e2 z.2), upA_o (fun z => e1 z.2)]; rfl)
theorem Cp_1 {l : LSt} {σ : MS} {nb nw np c k : Nat} {x v : Int32} (C : Cp l σ nb nw np) (hk : 26 ≤ k) (hc : c < 36) (hh : cH1 x (upA (upS σ 34 0) k c v) c) : Cp (lu l 8 c x) (upA (upS σ 34 0) k c v) nb nw np :=
  Cp_r C (fun j i hj => lu_o (fun z => hj z.1)) (fun j hj => if_neg hj) (fun j hj => funext fun i => upA_o (by omega)) (cR_1 (c := c) C.2.1.2.2.1 (fun j i h => lu_o h) (fun j i h => upA_o (fun z => h ⟨by omega, z.2⟩)) (fun _ => by rw [lu_s]; exact hh))
theorem Cp_j {l : LSt} {σ : MS} {nb nw np : Nat} {x c : Int32} (C : Cp l σ nb nw np) : Cp (lu l 8 36 x) (upS σ 34 c) nb nw np :=
  Cp_r C (fun j i hj => lu_o (fun z => hj z.1)) (fun j hj => if_neg hj) (fun j hj => rfl) (C.2.1.2.2.1.cong (fun j _ _ c hc => lu_o (fun z => by omega)) (fun _ _ _ _ _ => rfl))
set_option maxRecDepth 20000 in
theorem c_L_isRoom {w : W0} {κ : AH} {p : Nat} {l : LSt} {x : Int32} {σ : MS} {o q nb nw np : Nat} {wb : Nat → Nat} (A : AK κ) (hI : RI κ κ σ nb nw np wb) (C : Cp l σ nb nw np) (ho : o < 60000) (hq : q < 60000) : CY w yL_isRoom mL_isRoom [.ref (tS 4), .ref (tM 7), .ref (tM 8), .ref (tM 9), .int x, .int (nI o), .int (nI q)] (PL κ p l) (fun v κ' => PQ κ p v κ') := by
  refine CY_of mcL_isRoom (Nat.le_of_ble_eq_true rfl) (cat1 rfl) (fun θ0 => ?_)
  have e8 : σ.1 8 = nI nb := hI.1.e8
  have e30 : σ.1 30 = nI np := hI.1.2.2.2.2.2.1
  have h6 : σ.1 6 = 0 := C.1.2.2.2
  have R := C.2.1.2.2.1
  have hX : fX σ nb := hI.1.fx
  have LT : ∀ c, c < 36 → (l 7 c < 0 ↔ σ.2 25 c = -1) := fun c hc => rm_lt C hI.1.n8 hX hc
  have IR : ∀ c, c < 36 → (isRm σ (nI c) ↔ ¬ σ.2 25 c = -1) := fun c hc => isRmL hc
  have HN0 : ∀ RR v : Int32, ¬ isRm σ RR → Y w mL_isRoom θ0 (PL κ p l) (fun v κ' => PQ κ p v κ') (fun _ _ => False) 0 0 103 [some (.ref (tS 4)), some (.ref (tM 7)), some (.ref (tM 8)), some (.ref (tM 9)), some (.int x), some (.int (nI o)), some (.int (nI q)), some (.int RR), some (.int 0), some (.int 0), none, none, none, none] [.int v] (PL κ p l) := by
    intro RR v hNr
    have em : mHole σ RR 0 = (0, upS σ 34 1) := by have hn : ¬ hR σ RR 0 := fun z => hNr z.1; unfold mHole kHole; rw [if_neg hn, if_neg (by decide)]
    refine runL_go (κ := κ) (p := p) rkL_isRoom noCut 300 rfl ?_
    refine And.intro (fun c107 => ?_) (fun c107 => False.elim (by first | exact c107 (by decide) | exact absurd (by decide) c107 | exact absurd c107 (by decide)))
    refine And.intro (fun c149 => ?_) (fun c149 => False.elim (by first | exact c149 (by decide) | exact absurd (by decide) c149 | exact absurd c149 (by decide)))
    refine And.intro (fun c186 => ?_) (fun c186 => False.elim (by first | exact c186 (by decide) | exact absurd (by decide) c186 | exact absurd c186 (by decide)))
    refine And.intro (fun c210 => ?_) (fun c210 => False.elim (by first | exact c210 (by decide) | exact absurd (by decide) c210 | exact absurd c210 (by decide)))
    refine And.intro (fun c270 => ?_) (fun c270 => False.elim (by first | exact c270 (by decide) | exact absurd (by decide) c270 | exact absurd c270 (by decide)))
    refine pL_isRoom_282 rfl rfl rfl (w_hole (RI_PL hI) (by decide)) (fun v κ1 hq282 ho282 hk282 => ?_)
    obtain ⟨rfl, hre⟩ := hq282
    obtain ⟨κ1, rfl, hR1, hk1⟩ := PL_back hre
    have A1 := AK_of A hk1
    refine runL_ok rkL_isRoom noCut 300 _ _ _ _ _ _ ?_
    refine And.intro (fun c287 => False.elim (by first | exact c287 (by decide) | exact absurd (by decide) c287 | exact absurd c287 (by decide))) (fun c287 => ?_)
    refine pL_isRoom_290 ?_
    refine runL_ok rkL_isRoom noCut 300 _ _ _ _ _ _ ?_
    refine And.intro (fun c307 => False.elim (by first | exact c307 (show dv (-3000000) (-1000000) 0 (mHole σ RR 0) = -3000000 by rw [em]; rfl) | exact absurd (show dv (-3000000) (-1000000) 0 (mHole σ RR 0) = -3000000 by rw [em]; rfl) c307 | exact absurd c307 (show dv (-3000000) (-1000000) 0 (mHole σ RR 0) = -3000000 by rw [em]; rfl))) (fun c307 => ?_)
    refine And.intro ⟨Nat.le_of_ble_eq_true rfl, Nat.le_of_ble_eq_true rfl⟩ ?_
    refine And.intro (by first | exact Or.inl rfl | exact Or.inr rfl) ?_
    rw [em] at hR1
    exact PQ_of hR1 hk1 e8 e30 (Cp_34 C)
  have MN0 : ∀ RR : Int32, ¬ isRm σ RR → Y w mL_isRoom θ0 (PL κ p l) (fun v κ' => PQ κ p v κ') (fun _ _ => False) 0 0 69 [some (.ref (tS 4)), some (.ref (tM 7)), some (.ref (tM 8)), some (.ref (tM 9)), some (.int x), some (.int (nI o)), some (.int (nI q)), some (.int RR), some (.int 0), none, none, none, none, none] [.int 0] (PL κ p l) := by
    intro RR hNr
    refine runL_go (κ := κ) (p := p) rkL_isRoom (fun p => Nat.beq p 103) 300 rfl ?_
    refine And.intro (fun c73 => ?_) (fun c73 => False.elim (by first | exact c73 (by decide) | exact absurd (by decide) c73 | exact absurd c73 (by decide)))
    refine And.intro (by decide) ?_
    refine And.intro (fun c91 => ?_) (fun c91 => ?_)
    · skip
      exact HN0 _ _ hNr
    · skip
      exact HN0 _ _ hNr
  have HN1 : ∀ RR v : Int32, ¬ isRm σ RR → Y w mL_isRoom θ0 (PL κ p l) (fun v κ' => PQ κ p v κ') (fun _ _ => False) 0 0 103 [some (.ref (tS 4)), some (.ref (tM 7)), some (.ref (tM 8)), some (.ref (tM 9)), some (.int x), some (.int (nI o)), some (.int (nI q)), some (.int RR), some (.int 0), some (.int 1), none, none, none, none] [.int v] (PL κ p l) := by
    intro RR v hNr
    have em : mHole σ RR 1 = (0, upS σ 34 1) := by have hn : ¬ hR σ RR 1 := fun z => hNr z.1; unfold mHole kHole; rw [if_neg hn, if_neg (by decide)]
    refine runL_go (κ := κ) (p := p) rkL_isRoom noCut 300 rfl ?_
    refine And.intro (fun c107 => ?_) (fun c107 => False.elim (by first | exact c107 (by decide) | exact absurd (by decide) c107 | exact absurd c107 (by decide)))
    refine And.intro (fun c149 => ?_) (fun c149 => False.elim (by first | exact c149 (by decide) | exact absurd (by decide) c149 | exact absurd c149 (by decide)))
    refine And.intro (fun c186 => ?_) (fun c186 => False.elim (by first | exact c186 (by decide) | exact absurd (by decide) c186 | exact absurd c186 (by decide)))
    refine And.intro (fun c210 => ?_) (fun c210 => False.elim (by first | exact c210 (by decide) | exact absurd (by decide) c210 | exact absurd c210 (by decide)))
    refine And.intro (fun c270 => False.elim (by first | exact c270 (by decide) | exact absurd (by decide) c270 | exact absurd c270 (by decide))) (fun c270 => ?_)
    refine pL_isRoom_282 rfl rfl rfl (w_hole (RI_PL hI) (by decide)) (fun v κ1 hq282 ho282 hk282 => ?_)
    obtain ⟨rfl, hre⟩ := hq282
    obtain ⟨κ1, rfl, hR1, hk1⟩ := PL_back hre
    have A1 := AK_of A hk1
    refine runL_ok rkL_isRoom noCut 300 _ _ _ _ _ _ ?_
    refine And.intro (fun c287 => False.elim (by first | exact c287 (by decide) | exact absurd (by decide) c287 | exact absurd c287 (by decide))) (fun c287 => ?_)
    refine pL_isRoom_290 ?_
    refine runL_ok rkL_isRoom noCut 300 _ _ _ _ _ _ ?_
    refine And.intro (fun c307 => False.elim (by first | exact c307 (show dv (-3000000) (-1000000) 0 (mHole σ RR 1) = -3000000 by rw [em]; rfl) | exact absurd (show dv (-3000000) (-1000000) 0 (mHole σ RR 1) = -3000000 by rw [em]; rfl) c307 | exact absurd c307 (show dv (-3000000) (-1000000) 0 (mHole σ RR 1) = -3000000 by rw [em]; rfl))) (fun c307 => ?_)
    refine And.intro ⟨Nat.le_of_ble_eq_true rfl, Nat.le_of_ble_eq_true rfl⟩ ?_
    refine And.intro (by first | exact Or.inl rfl | exact Or.inr rfl) ?_
    rw [em] at hR1
    exact PQ_of hR1 hk1 e8 e30 (Cp_34 C)
  have MN1 : ∀ RR : Int32, ¬ isRm σ RR → Y w mL_isRoom θ0 (PL κ p l) (fun v κ' => PQ κ p v κ') (fun _ _ => False) 0 0 69 [some (.ref (tS 4)), some (.ref (tM 7)), some (.ref (tM 8)), some (.ref (tM 9)), some (.int x), some (.int (nI o)), some (.int (nI q)), some (.int RR), some (.int 0), none, none, none, none, none] [.int 1] (PL κ p l) := by
    intro RR hNr
    refine runL_go (κ := κ) (p := p) rkL_isRoom (fun p => Nat.beq p 103) 300 rfl ?_
    refine And.intro (fun c73 => False.elim (by first | exact c73 (by decide) | exact absurd (by decide) c73 | exact absurd c73 (by decide))) (fun c73 => ?_)
    exact HN1 _ _ hNr
  have HA0 : ∀ c, c < 36 → ¬ hR σ (nI c) 0 → ∀ v : Int32, 36 ≤ v → Y w mL_isRoom θ0 (PL κ p l) (fun v κ' => PQ κ p v κ') (fun _ _ => False) 0 0 103 [some (.ref (tS 4)), some (.ref (tM 7)), some (.ref (tM 8)), some (.ref (tM 9)), some (.int x), some (.int (nI o)), some (.int (nI q)), some (.int (nI c)), some (.int 1), some (.int 0), none, none, none, none] [.int v] (PL κ p l) := by
    intro c hc hN v hv
    have em : mHole σ (nI c) 0 = (0, upS σ 34 1) := by unfold mHole kHole; rw [if_neg hN, if_neg (by decide)]
    refine runL_go (κ := κ) (p := p) rkL_isRoom noCut 300 rfl ?_
    refine And.intro (fun c107 => False.elim (by first | exact c107 (by decide) | exact absurd (by decide) c107 | exact absurd c107 (by decide))) (fun c107 => ?_)
    refine And.intro (fun c114 => ?_) (fun c114 => False.elim (by first | exact c114 hv | exact absurd hv c114 | exact absurd c114 hv))
    refine And.intro (fun c149 => ?_) (fun c149 => False.elim (by first | exact c149 (by decide) | exact absurd (by decide) c149 | exact absurd c149 (by decide)))
    refine And.intro (fun c186 => ?_) (fun c186 => False.elim (by first | exact c186 (by decide) | exact absurd (by decide) c186 | exact absurd c186 (by decide)))
    refine And.intro (fun c210 => ?_) (fun c210 => False.elim (by first | exact c210 (by decide) | exact absurd (by decide) c210 | exact absurd c210 (by decide)))
    refine And.intro (fun c270 => ?_) (fun c270 => False.elim (by first | exact c270 (by decide) | exact absurd (by decide) c270 | exact absurd c270 (by decide)))
    refine pL_isRoom_282 rfl rfl rfl (w_hole (RI_PL hI) (by decide)) (fun v κ1 hq282 ho282 hk282 => ?_)
    obtain ⟨rfl, hre⟩ := hq282
    obtain ⟨κ1, rfl, hR1, hk1⟩ := PL_back hre
    have A1 := AK_of A hk1
    refine runL_ok rkL_isRoom noCut 300 _ _ _ _ _ _ ?_
    refine And.intro (fun c287 => False.elim (by first | exact c287 (by decide) | exact absurd (by decide) c287 | exact absurd c287 (by decide))) (fun c287 => ?_)
    refine pL_isRoom_290 ?_
    refine runL_ok rkL_isRoom noCut 300 _ _ _ _ _ _ ?_
    refine And.intro (fun c307 => False.elim (by first | exact c307 (show dv (-3000000) (-1000000) 0 (mHole σ (nI c) 0) = -3000000 by rw [em]; rfl) | exact absurd (show dv (-3000000) (-1000000) 0 (mHole σ (nI c) 0) = -3000000 by rw [em]; rfl) c307 | exact absurd c307 (show dv (-3000000) (-1000000) 0 (mHole σ (nI c) 0) = -3000000 by rw [em]; rfl))) (fun c307 => ?_)
    refine And.intro ⟨Nat.le_of_ble_eq_true rfl, Nat.le_of_ble_eq_true rfl⟩ ?_
    refine And.intro (by first | exact Or.inl rfl | exact Or.inr rfl) ?_
    rw [em] at hR1
    exact PQ_of hR1 hk1 e8 e30 (Cp_34 C)
  have HB0 : ∀ c, c < 36 → ¬ hR σ (nI c) 0 → ∀ d, d < 36 → σ.2 25 d = -1 → Y w mL_isRoom θ0 (PL κ p l) (fun v κ' => PQ κ p v κ') (fun _ _ => False) 0 0 103 [some (.ref (tS 4)), some (.ref (tM 7)), some (.ref (tM 8)), some (.ref (tM 9)), some (.int x), some (.int (nI o)), some (.int (nI q)), some (.int (nI c)), some (.int 1), some (.int 0), none, none, none, none] [.int (nI d)] (PL κ p l) := by
    intro c hc hN d hd hd1
    have em : mHole σ (nI c) 0 = (0, upS σ 34 1) := by unfold mHole kHole; rw [if_neg hN, if_neg (by decide)]
    refine runL_go (κ := κ) (p := p) rkL_isRoom noCut 300 rfl ?_
    refine And.intro (fun c107 => False.elim (by first | exact c107 (by decide) | exact absurd (by decide) c107 | exact absurd c107 (by decide))) (fun c107 => ?_)
    refine And.intro (fun c114 => False.elim (by first | exact c114 (fun z => by have := (nI_leI (a := 36) (by decide) (by omega)).mp z; omega) | exact absurd (fun z => by have := (nI_leI (a := 36) (by decide) (by omega)).mp z; omega) c114 | exact absurd c114 (fun z => by have := (nI_leI (a := 36) (by decide) (by omega)).mp z; omega))) (fun c114 => ?_)
    refine And.intro (fun c122 => False.elim (by first | exact c122 (fun z => by have := (nI_leI (a := 36) (by decide) (by omega)).mp z; omega) | exact absurd (fun z => by have := (nI_leI (a := 36) (by decide) (by omega)).mp z; omega) c122 | exact absurd c122 (fun z => by have := (nI_leI (a := 36) (by decide) (by omega)).mp z; omega))) (fun c122 => ?_)
    refine And.intro (fun c127 => False.elim (by first | exact c127 (nI_pos (by omega)) | exact absurd (nI_pos (by omega)) c127 | exact absurd c127 (nI_pos (by omega)))) (fun c127 => ?_)
    refine ⟨7, d, A.ld (by decide) (show d < 36 by omega) rfl, ?_⟩
    refine And.intro (fun c137 => ?_) (fun c137 => False.elim (by first | exact c137 ((LT d hd).mpr hd1) | exact absurd ((LT d hd).mpr hd1) c137 | exact absurd c137 ((LT d hd).mpr hd1)))
    refine And.intro (fun c149 => ?_) (fun c149 => False.elim (by first | exact c149 (by decide) | exact absurd (by decide) c149 | exact absurd c149 (by decide)))
    refine And.intro (fun c186 => ?_) (fun c186 => False.elim (by first | exact c186 (by decide) | exact absurd (by decide) c186 | exact absurd c186 (by decide)))
    refine And.intro (fun c210 => ?_) (fun c210 => False.elim (by first | exact c210 (by decide) | exact absurd (by decide) c210 | exact absurd c210 (by decide)))
    refine And.intro (fun c270 => ?_) (fun c270 => False.elim (by first | exact c270 (by decide) | exact absurd (by decide) c270 | exact absurd c270 (by decide)))
    refine pL_isRoom_282 rfl rfl rfl (w_hole (RI_PL hI) (by decide)) (fun v κ1 hq282 ho282 hk282 => ?_)
    obtain ⟨rfl, hre⟩ := hq282
    obtain ⟨κ1, rfl, hR1, hk1⟩ := PL_back hre
    have A1 := AK_of A hk1
    refine runL_ok rkL_isRoom noCut 300 _ _ _ _ _ _ ?_
    refine And.intro (fun c287 => False.elim (by first | exact c287 (by decide) | exact absurd (by decide) c287 | exact absurd c287 (by decide))) (fun c287 => ?_)
    refine pL_isRoom_290 ?_
    refine runL_ok rkL_isRoom noCut 300 _ _ _ _ _ _ ?_
    refine And.intro (fun c307 => False.elim (by first | exact c307 (show dv (-3000000) (-1000000) 0 (mHole σ (nI c) 0) = -3000000 by rw [em]; rfl) | exact absurd (show dv (-3000000) (-1000000) 0 (mHole σ (nI c) 0) = -3000000 by rw [em]; rfl) c307 | exact absurd c307 (show dv (-3000000) (-1000000) 0 (mHole σ (nI c) 0) = -3000000 by rw [em]; rfl))) (fun c307 => ?_)
    refine And.intro ⟨Nat.le_of_ble_eq_true rfl, Nat.le_of_ble_eq_true rfl⟩ ?_
    refine And.intro (by first | exact Or.inl rfl | exact Or.inr rfl) ?_
    rw [em] at hR1
    exact PQ_of hR1 hk1 e8 e30 (Cp_34 C)
  have HC00 : ∀ c, c < 36 → ¬ σ.2 25 c = -1 → ∀ d, d < 36 → ¬ σ.2 25 d = -1 → d = c + 1 → c % 12 < 11 → oth (nI c) 0 = nI d → ¬ σ.2 29 c &&& pw 1 = 0 → Y w mL_isRoom θ0 (PL κ p l) (fun v κ' => PQ κ p v κ') (fun _ _ => False) 0 0 103 [some (.ref (tS 4)), some (.ref (tM 7)), some (.ref (tM 8)), some (.ref (tM 9)), some (.int x), some (.int (nI o)), some (.int (nI q)), some (.int (nI c)), some (.int 1), some (.int 0), none, none, none, none] [.int (nI d)] (PL κ p l) := by
    intro c hc hc1 d hd hd1 hdc hm eo h0
    have hh : hR σ (nI c) 0 := ⟨(IR c hc).mpr hc1, Or.inr (by rw [show (12 : Int32) = nI 12 from rfl, rm_nI (by omega) (by decide) (by decide)]; exact nI_lt (b := 11) hm (by decide)), by rw [eo]; exact (IR d hd).mpr hd1⟩
    have eb : bitU 0 = pw 1 := by decide
    have kz : kHole σ (nI c) 0 = 2 := by unfold kHole; rw [if_pos hh, if_neg (fun z => h0 (by have := z.1; rw [eb, nI_clamp (by omega)] at this; exact this))]
    have em : mHole σ (nI c) 0 = (0, upS σ 34 2) := by unfold mHole; rw [if_neg (by rw [kz]; decide), kz]
    refine runL_go (κ := κ) (p := p) rkL_isRoom noCut 300 rfl ?_
    refine And.intro (fun c107 => False.elim (by first | exact c107 (by decide) | exact absurd (by decide) c107 | exact absurd c107 (by decide))) (fun c107 => ?_)
    refine And.intro (fun c114 => False.elim (by first | exact c114 (fun z => by have := (nI_leI (a := 36) (by decide) (by omega)).mp z; omega) | exact absurd (fun z => by have := (nI_leI (a := 36) (by decide) (by omega)).mp z; omega) c114 | exact absurd c114 (fun z => by have := (nI_leI (a := 36) (by decide) (by omega)).mp z; omega))) (fun c114 => ?_)
    refine And.intro (fun c122 => False.elim (by first | exact c122 (fun z => by have := (nI_leI (a := 36) (by decide) (by omega)).mp z; omega) | exact absurd (fun z => by have := (nI_leI (a := 36) (by decide) (by omega)).mp z; omega) c122 | exact absurd c122 (fun z => by have := (nI_leI (a := 36) (by decide) (by omega)).mp z; omega))) (fun c122 => ?_)
    refine And.intro (fun c127 => False.elim (by first | exact c127 (nI_pos (by omega)) | exact absurd (nI_pos (by omega)) c127 | exact absurd c127 (nI_pos (by omega)))) (fun c127 => ?_)
    refine ⟨7, d, A.ld (by decide) (show d < 36 by omega) rfl, ?_⟩
    refine And.intro (fun c137 => False.elim (by first | exact c137 (fun z => hd1 ((LT d hd).mp z)) | exact absurd (fun z => hd1 ((LT d hd).mp z)) c137 | exact absurd c137 (fun z => hd1 ((LT d hd).mp z)))) (fun c137 => ?_)
    refine And.intro (fun c149 => False.elim (by first | exact c149 (by decide) | exact absurd (by decide) c149 | exact absurd c149 (by decide))) (fun c149 => ?_)
    refine ⟨8, c, A.ld (by decide) (show c < 37 by omega) rfl, ?_⟩
    refine And.intro (by decide) ?_
    refine And.intro (by decide) ?_
    refine And.intro (fun c163 => ?_) (fun c163 => False.elim (by first | exact c163 (by decide) | exact absurd (by decide) c163 | exact absurd c163 (by decide)))
    refine And.intro (fun c174 => ?_) (fun c174 => False.elim (by first | exact c174 (fun z => h0 (((R c hc).2.bit0 (s := 1) (by decide)).mp z)) | exact absurd (fun z => h0 (((R c hc).2.bit0 (s := 1) (by decide)).mp z)) c174 | exact absurd c174 (fun z => h0 (((R c hc).2.bit0 (s := 1) (by decide)).mp z))))
    refine And.intro (fun c186 => ?_) (fun c186 => False.elim (by first | exact c186 (by decide) | exact absurd (by decide) c186 | exact absurd c186 (by decide)))
    refine And.intro (fun c210 => ?_) (fun c210 => False.elim (by first | exact c210 (by decide) | exact absurd (by decide) c210 | exact absurd c210 (by decide)))
    refine And.intro (fun c270 => ?_) (fun c270 => False.elim (by first | exact c270 (by decide) | exact absurd (by decide) c270 | exact absurd c270 (by decide)))
    refine pL_isRoom_282 rfl rfl rfl (w_hole (RI_PL hI) (by decide)) (fun v κ1 hq282 ho282 hk282 => ?_)
    obtain ⟨rfl, hre⟩ := hq282
    obtain ⟨κ1, rfl, hR1, hk1⟩ := PL_back hre
    have A1 := AK_of A hk1
    refine runL_ok rkL_isRoom noCut 300 _ _ _ _ _ _ ?_
    refine And.intro (fun c287 => ?_) (fun c287 => False.elim (by first | exact c287 (by decide) | exact absurd (by decide) c287 | exact absurd c287 (by decide)))
    refine And.intro (fun c297 => ?_) (fun c297 => False.elim (by first | exact c297 (by decide) | exact absurd (by decide) c297 | exact absurd c297 (by decide)))
    refine pL_isRoom_305 ?_
    refine runL_ok rkL_isRoom noCut 300 _ _ _ _ _ _ ?_
    refine And.intro (fun c307 => False.elim (by first | exact c307 (show dv (-3000000) (-1000000) 0 (mHole σ (nI c) 0) = -1000000 by rw [em]; rfl) | exact absurd (show dv (-3000000) (-1000000) 0 (mHole σ (nI c) 0) = -1000000 by rw [em]; rfl) c307 | exact absurd c307 (show dv (-3000000) (-1000000) 0 (mHole σ (nI c) 0) = -1000000 by rw [em]; rfl))) (fun c307 => ?_)
    refine And.intro ⟨Nat.le_of_ble_eq_true rfl, Nat.le_of_ble_eq_true rfl⟩ ?_
    refine And.intro (by first | exact Or.inl rfl | exact Or.inr rfl) ?_
    rw [em] at hR1
    exact PQ_of hR1 hk1 e8 e30 (Cp_34 C)
  have HC01 : ∀ c, c < 36 → ¬ σ.2 25 c = -1 → ∀ d, d < 36 → ¬ σ.2 25 d = -1 → d = c + 1 → c % 12 < 11 → oth (nI c) 0 = nI d → σ.2 29 c &&& pw 1 = 0 → Y w mL_isRoom θ0 (PL κ p l) (fun v κ' => PQ κ p v κ') (fun _ _ => False) 0 0 103 [some (.ref (tS 4)), some (.ref (tM 7)), some (.ref (tM 8)), some (.ref (tM 9)), some (.int x), some (.int (nI o)), some (.int (nI q)), some (.int (nI c)), some (.int 1), some (.int 0), none, none, none, none] [.int (nI d)] (PL κ p l) := by
    intro c hc hc1 d hd hd1 hdc hm eo h0
    have hh : hR σ (nI c) 0 := ⟨(IR c hc).mpr hc1, Or.inr (by rw [show (12 : Int32) = nI 12 from rfl, rm_nI (by omega) (by decide) (by decide)]; exact nI_lt (b := 11) hm (by decide)), by rw [eo]; exact (IR d hd).mpr hd1⟩
    have eb : bitU 0 = pw 1 := by decide
    have kz : kHole σ (nI c) 0 = 0 := by unfold kHole; rw [if_pos hh, if_pos ⟨by rw [eb, nI_clamp (by omega)]; exact h0, h6⟩]
    have em : mHole σ (nI c) 0 = (nP σ (nI c) + nP σ (nI d), sHole (upS σ 34 0) (nI c) 0) := by unfold mHole; rw [if_pos kz, eo]
    have hcd : c ≠ d := by omega
    have h1 : σ.2 29 d &&& pw 0 = 0 := Classical.byContradiction fun z => by
      have q := hI.1.ho d 0 hd (by decide) z
      have e : stp d 0 = c := by unfold stp; simp; omega
      rw [e] at q
      exact q.2.2 h0
    have en : (l 8 c - l 8 c / 2 * 2) + (l 8 d - l 8 d / 2 * 2) = nP σ (nI c) + nP σ (nI d) := by rw [(R c hc).2.p01, (R d hd).2.p01]; unfold nP; rw [nI_clamp (by omega), nI_clamp (by omega)]
    refine runL_go (κ := κ) (p := p) rkL_isRoom noCut 300 rfl ?_
    refine And.intro (fun c107 => False.elim (by first | exact c107 (by decide) | exact absurd (by decide) c107 | exact absurd c107 (by decide))) (fun c107 => ?_)
    refine And.intro (fun c114 => False.elim (by first | exact c114 (fun z => by have := (nI_leI (a := 36) (by decide) (by omega)).mp z; omega) | exact absurd (fun z => by have := (nI_leI (a := 36) (by decide) (by omega)).mp z; omega) c114 | exact absurd c114 (fun z => by have := (nI_leI (a := 36) (by decide) (by omega)).mp z; omega))) (fun c114 => ?_)
    refine And.intro (fun c122 => False.elim (by first | exact c122 (fun z => by have := (nI_leI (a := 36) (by decide) (by omega)).mp z; omega) | exact absurd (fun z => by have := (nI_leI (a := 36) (by decide) (by omega)).mp z; omega) c122 | exact absurd c122 (fun z => by have := (nI_leI (a := 36) (by decide) (by omega)).mp z; omega))) (fun c122 => ?_)
    refine And.intro (fun c127 => False.elim (by first | exact c127 (nI_pos (by omega)) | exact absurd (nI_pos (by omega)) c127 | exact absurd c127 (nI_pos (by omega)))) (fun c127 => ?_)
    refine ⟨7, d, A.ld (by decide) (show d < 36 by omega) rfl, ?_⟩
    refine And.intro (fun c137 => False.elim (by first | exact c137 (fun z => hd1 ((LT d hd).mp z)) | exact absurd (fun z => hd1 ((LT d hd).mp z)) c137 | exact absurd c137 (fun z => hd1 ((LT d hd).mp z)))) (fun c137 => ?_)
    refine And.intro (fun c149 => False.elim (by first | exact c149 (by decide) | exact absurd (by decide) c149 | exact absurd c149 (by decide))) (fun c149 => ?_)
    refine ⟨8, c, A.ld (by decide) (show c < 37 by omega) rfl, ?_⟩
    refine And.intro (by decide) ?_
    refine And.intro (by decide) ?_
    refine And.intro (fun c163 => ?_) (fun c163 => False.elim (by first | exact c163 (by decide) | exact absurd (by decide) c163 | exact absurd c163 (by decide)))
    refine And.intro (fun c174 => False.elim (by first | exact c174 (fun z => z (((R c hc).2.bit0 (s := 1) (by decide)).mpr h0)) | exact absurd (fun z => z (((R c hc).2.bit0 (s := 1) (by decide)).mpr h0)) c174 | exact absurd c174 (fun z => z (((R c hc).2.bit0 (s := 1) (by decide)).mpr h0)))) (fun c174 => ?_)
    refine And.intro (fun c186 => False.elim (by first | exact c186 (by decide) | exact absurd (by decide) c186 | exact absurd c186 (by decide))) (fun c186 => ?_)
    refine ⟨8, c, A.ld (by decide) (show c < 37 by omega) rfl, ?_⟩
    refine And.intro (by decide) ?_
    refine ⟨8, d, A.ld (by decide) (show d < 37 by omega) rfl, ?_⟩
    refine And.intro (by decide) ?_
    refine And.intro (fun c210 => False.elim (by first | exact c210 (by decide) | exact absurd (by decide) c210 | exact absurd c210 (by decide))) (fun c210 => ?_)
    refine ⟨8, c, A.ld (by decide) (show c < 37 by omega) rfl, ?_⟩
    refine And.intro (fun c220 => ?_) (fun c220 => False.elim (by first | exact c220 (by decide) | exact absurd (by decide) c220 | exact absurd c220 (by decide)))
    refine ⟨8, c, A.ld (by decide) (show c < 37 by omega) rfl, ?_⟩
    refine And.intro (by decide) ?_
    refine ⟨8, c, A.ld (by decide) (show c < 37 by omega) rfl, ?_⟩
    refine ⟨8, d, A.ld (by decide) (show d < 37 by omega) rfl, ?_⟩
    refine And.intro (fun c245 => ?_) (fun c245 => False.elim (by first | exact c245 (by decide) | exact absurd (by decide) c245 | exact absurd c245 (by decide)))
    refine ⟨8, d, A.ld (by decide) (show d < 37 by omega) rfl, ?_⟩
    refine And.intro (by decide) ?_
    refine ⟨8, d, A.ld (by decide) (show d < 37 by omega) rfl, ?_⟩
    refine And.intro (fun c270 => ?_) (fun c270 => False.elim (by first | exact c270 (by decide) | exact absurd (by decide) c270 | exact absurd c270 (by decide)))
    refine pL_isRoom_282 rfl rfl rfl (w_hole (RI_PL hI) (by decide)) (fun v κ1 hq282 ho282 hk282 => ?_)
    obtain ⟨rfl, hre⟩ := hq282
    obtain ⟨κ1, rfl, hR1, hk1⟩ := PL_back hre
    have A1 := AK_of A hk1
    refine runL_ok rkL_isRoom noCut 300 _ _ _ _ _ _ ?_
    refine And.intro (fun c287 => ?_) (fun c287 => False.elim (by first | exact c287 (by decide) | exact absurd (by decide) c287 | exact absurd c287 (by decide)))
    refine And.intro (fun c297 => False.elim (by first | exact c297 (by decide) | exact absurd (by decide) c297 | exact absurd c297 (by decide))) (fun c297 => ?_)
    refine And.intro (fun c307 => False.elim (by first | exact c307 (show dv (-3000000) (-1000000) 0 (mHole σ (nI c) 0) = (l 8 c - l 8 c / 2 * 2) + (l 8 d - l 8 d / 2 * 2) by rw [em, en]; rfl) | exact absurd (show dv (-3000000) (-1000000) 0 (mHole σ (nI c) 0) = (l 8 c - l 8 c / 2 * 2) + (l 8 d - l 8 d / 2 * 2) by rw [em, en]; rfl) c307 | exact absurd c307 (show dv (-3000000) (-1000000) 0 (mHole σ (nI c) 0) = (l 8 c - l 8 c / 2 * 2) + (l 8 d - l 8 d / 2 * 2) by rw [em, en]; rfl))) (fun c307 => ?_)
    refine And.intro ⟨Nat.le_of_ble_eq_true rfl, Nat.le_of_ble_eq_true rfl⟩ ?_
    refine And.intro (by first | exact Or.inl rfl | exact Or.inr rfl) ?_
    rw [em] at hR1
    exact PQ_of hR1 hk1 e8 e30 (Cp_hole (s := 1) (t := 0) (u := 0) C hc hd (by decide) (by decide) hcd eo (by decide) (by decide) h0 h1)
  have MY0 : ∀ c, c < 36 → ¬ σ.2 25 c = -1 → Y w mL_isRoom θ0 (PL κ p l) (fun v κ' => PQ κ p v κ') (fun _ _ => False) 0 0 69 [some (.ref (tS 4)), some (.ref (tM 7)), some (.ref (tM 8)), some (.ref (tM 9)), some (.int x), some (.int (nI o)), some (.int (nI q)), some (.int (nI c)), some (.int 1), none, none, none, none, none] [.int 0] (PL κ p l) := by
    intro c hc hc1
    refine runL_go (κ := κ) (p := p) rkL_isRoom (fun p => Nat.beq p 103) 300 rfl ?_
    refine And.intro (fun c73 => ?_) (fun c73 => False.elim (by first | exact c73 (by decide) | exact absurd (by decide) c73 | exact absurd c73 (by decide)))
    refine And.intro (by decide) ?_
    refine And.intro (fun c91 => ?_) (fun c91 => ?_)
    · skip
      have hm : c % 12 < 11 := by
        have e12 : nI c - nI c / 12 * 12 = nI (c % 12) := rm_nI (d := 12) (by omega) (by decide) (by decide)
        have : c % 12 ≠ 11 := fun z => c91 (by rw [e12, z]; rfl)
        omega
      have eo : oth (nI c) 0 = nI (c + 1) := nI_add c 1
      have ev : nI c + 1 = nI (c + 1) := nI_add c 1
      by_cases hd : c + 1 < 36
      · by_cases hd1 : σ.2 25 (c + 1) = -1
        · skip
          have Z := HB0 c hc (fun z => (IR _ hd).mp (eo ▸ z.2.2) hd1) _ hd hd1
          rw [← ev] at Z
          exact Z
        · by_cases h0 : σ.2 29 c &&& pw 1 = 0
          · skip
            have Z := HC01 c hc hc1 _ hd hd1 rfl hm eo h0
            rw [← ev] at Z
            exact Z
          · skip
            have Z := HC00 c hc hc1 _ hd hd1 rfl hm eo h0
            rw [← ev] at Z
            exact Z
      · exact HA0 c hc (fun z => by have := z.2.2.1.2; rw [eo] at this; have := (nI_leI (b := 35) (by omega) (by decide)).mp this; omega) _ (by rw [ev]; exact nI_le (a := 36) (by omega) (by omega))
    · skip
      exact HA0 c hc (fun z => z.2.1.elim (fun q => q rfl) (fun q => by rw [c91] at q; exact absurd q (by decide))) _ (by decide)
  have HA1 : ∀ c, c < 36 → ¬ hR σ (nI c) 1 → ∀ v : Int32, 36 ≤ v → Y w mL_isRoom θ0 (PL κ p l) (fun v κ' => PQ κ p v κ') (fun _ _ => False) 0 0 103 [some (.ref (tS 4)), some (.ref (tM 7)), some (.ref (tM 8)), some (.ref (tM 9)), some (.int x), some (.int (nI o)), some (.int (nI q)), some (.int (nI c)), some (.int 1), some (.int 1), none, none, none, none] [.int v] (PL κ p l) := by
    intro c hc hN v hv
    have em : mHole σ (nI c) 1 = (0, upS σ 34 1) := by unfold mHole kHole; rw [if_neg hN, if_neg (by decide)]
    refine runL_go (κ := κ) (p := p) rkL_isRoom noCut 300 rfl ?_
    refine And.intro (fun c107 => False.elim (by first | exact c107 (by decide) | exact absurd (by decide) c107 | exact absurd c107 (by decide))) (fun c107 => ?_)
    refine And.intro (fun c114 => ?_) (fun c114 => False.elim (by first | exact c114 hv | exact absurd hv c114 | exact absurd c114 hv))
    refine And.intro (fun c149 => ?_) (fun c149 => False.elim (by first | exact c149 (by decide) | exact absurd (by decide) c149 | exact absurd c149 (by decide)))
    refine And.intro (fun c186 => ?_) (fun c186 => False.elim (by first | exact c186 (by decide) | exact absurd (by decide) c186 | exact absurd c186 (by decide)))
    refine And.intro (fun c210 => ?_) (fun c210 => False.elim (by first | exact c210 (by decide) | exact absurd (by decide) c210 | exact absurd c210 (by decide)))
    refine And.intro (fun c270 => False.elim (by first | exact c270 (by decide) | exact absurd (by decide) c270 | exact absurd c270 (by decide))) (fun c270 => ?_)
    refine pL_isRoom_282 rfl rfl rfl (w_hole (RI_PL hI) (by decide)) (fun v κ1 hq282 ho282 hk282 => ?_)
    obtain ⟨rfl, hre⟩ := hq282
    obtain ⟨κ1, rfl, hR1, hk1⟩ := PL_back hre
    have A1 := AK_of A hk1
    refine runL_ok rkL_isRoom noCut 300 _ _ _ _ _ _ ?_
    refine And.intro (fun c287 => False.elim (by first | exact c287 (by decide) | exact absurd (by decide) c287 | exact absurd c287 (by decide))) (fun c287 => ?_)
    refine pL_isRoom_290 ?_
    refine runL_ok rkL_isRoom noCut 300 _ _ _ _ _ _ ?_
    refine And.intro (fun c307 => False.elim (by first | exact c307 (show dv (-3000000) (-1000000) 0 (mHole σ (nI c) 1) = -3000000 by rw [em]; rfl) | exact absurd (show dv (-3000000) (-1000000) 0 (mHole σ (nI c) 1) = -3000000 by rw [em]; rfl) c307 | exact absurd c307 (show dv (-3000000) (-1000000) 0 (mHole σ (nI c) 1) = -3000000 by rw [em]; rfl))) (fun c307 => ?_)
    refine And.intro ⟨Nat.le_of_ble_eq_true rfl, Nat.le_of_ble_eq_true rfl⟩ ?_
    refine And.intro (by first | exact Or.inl rfl | exact Or.inr rfl) ?_
    rw [em] at hR1
    exact PQ_of hR1 hk1 e8 e30 (Cp_34 C)
  have HB1 : ∀ c, c < 36 → ¬ hR σ (nI c) 1 → ∀ d, d < 36 → σ.2 25 d = -1 → Y w mL_isRoom θ0 (PL κ p l) (fun v κ' => PQ κ p v κ') (fun _ _ => False) 0 0 103 [some (.ref (tS 4)), some (.ref (tM 7)), some (.ref (tM 8)), some (.ref (tM 9)), some (.int x), some (.int (nI o)), some (.int (nI q)), some (.int (nI c)), some (.int 1), some (.int 1), none, none, none, none] [.int (nI d)] (PL κ p l) := by
    intro c hc hN d hd hd1
    have em : mHole σ (nI c) 1 = (0, upS σ 34 1) := by unfold mHole kHole; rw [if_neg hN, if_neg (by decide)]
    refine runL_go (κ := κ) (p := p) rkL_isRoom noCut 300 rfl ?_
    refine And.intro (fun c107 => False.elim (by first | exact c107 (by decide) | exact absurd (by decide) c107 | exact absurd c107 (by decide))) (fun c107 => ?_)
    refine And.intro (fun c114 => False.elim (by first | exact c114 (fun z => by have := (nI_leI (a := 36) (by decide) (by omega)).mp z; omega) | exact absurd (fun z => by have := (nI_leI (a := 36) (by decide) (by omega)).mp z; omega) c114 | exact absurd c114 (fun z => by have := (nI_leI (a := 36) (by decide) (by omega)).mp z; omega))) (fun c114 => ?_)
    refine And.intro (fun c122 => False.elim (by first | exact c122 (fun z => by have := (nI_leI (a := 36) (by decide) (by omega)).mp z; omega) | exact absurd (fun z => by have := (nI_leI (a := 36) (by decide) (by omega)).mp z; omega) c122 | exact absurd c122 (fun z => by have := (nI_leI (a := 36) (by decide) (by omega)).mp z; omega))) (fun c122 => ?_)
    refine And.intro (fun c127 => False.elim (by first | exact c127 (nI_pos (by omega)) | exact absurd (nI_pos (by omega)) c127 | exact absurd c127 (nI_pos (by omega)))) (fun c127 => ?_)
    refine ⟨7, d, A.ld (by decide) (show d < 36 by omega) rfl, ?_⟩
    refine And.intro (fun c137 => ?_) (fun c137 => False.elim (by first | exact c137 ((LT d hd).mpr hd1) | exact absurd ((LT d hd).mpr hd1) c137 | exact absurd c137 ((LT d hd).mpr hd1)))
    refine And.intro (fun c149 => ?_) (fun c149 => False.elim (by first | exact c149 (by decide) | exact absurd (by decide) c149 | exact absurd c149 (by decide)))
    refine And.intro (fun c186 => ?_) (fun c186 => False.elim (by first | exact c186 (by decide) | exact absurd (by decide) c186 | exact absurd c186 (by decide)))
    refine And.intro (fun c210 => ?_) (fun c210 => False.elim (by first | exact c210 (by decide) | exact absurd (by decide) c210 | exact absurd c210 (by decide)))
    refine And.intro (fun c270 => False.elim (by first | exact c270 (by decide) | exact absurd (by decide) c270 | exact absurd c270 (by decide))) (fun c270 => ?_)
    refine pL_isRoom_282 rfl rfl rfl (w_hole (RI_PL hI) (by decide)) (fun v κ1 hq282 ho282 hk282 => ?_)
    obtain ⟨rfl, hre⟩ := hq282
    obtain ⟨κ1, rfl, hR1, hk1⟩ := PL_back hre
    have A1 := AK_of A hk1
    refine runL_ok rkL_isRoom noCut 300 _ _ _ _ _ _ ?_
    refine And.intro (fun c287 => False.elim (by first | exact c287 (by decide) | exact absurd (by decide) c287 | exact absurd c287 (by decide))) (fun c287 => ?_)
    refine pL_isRoom_290 ?_
    refine runL_ok rkL_isRoom noCut 300 _ _ _ _ _ _ ?_
    refine And.intro (fun c307 => False.elim (by first | exact c307 (show dv (-3000000) (-1000000) 0 (mHole σ (nI c) 1) = -3000000 by rw [em]; rfl) | exact absurd (show dv (-3000000) (-1000000) 0 (mHole σ (nI c) 1) = -3000000 by rw [em]; rfl) c307 | exact absurd c307 (show dv (-3000000) (-1000000) 0 (mHole σ (nI c) 1) = -3000000 by rw [em]; rfl))) (fun c307 => ?_)
    refine And.intro ⟨Nat.le_of_ble_eq_true rfl, Nat.le_of_ble_eq_true rfl⟩ ?_
    refine And.intro (by first | exact Or.inl rfl | exact Or.inr rfl) ?_
    rw [em] at hR1
    exact PQ_of hR1 hk1 e8 e30 (Cp_34 C)
  have HC10 : ∀ c, c < 36 → ¬ σ.2 25 c = -1 → ∀ d, d < 36 → ¬ σ.2 25 d = -1 → d = c + 12 → oth (nI c) 1 = nI d → ¬ σ.2 29 c &&& pw 3 = 0 → Y w mL_isRoom θ0 (PL κ p l) (fun v κ' => PQ κ p v κ') (fun _ _ => False) 0 0 103 [some (.ref (tS 4)), some (.ref (tM 7)), some (.ref (tM 8)), some (.ref (tM 9)), some (.int x), some (.int (nI o)), some (.int (nI q)), some (.int (nI c)), some (.int 1), some (.int 1), none, none, none, none] [.int (nI d)] (PL κ p l) := by
    intro c hc hc1 d hd hd1 hdc eo h0
    have hh : hR σ (nI c) 1 := ⟨(IR c hc).mpr hc1, Or.inl (by decide), by rw [eo]; exact (IR d hd).mpr hd1⟩
    have eb : bitU 1 = pw 3 := by decide
    have kz : kHole σ (nI c) 1 = 2 := by unfold kHole; rw [if_pos hh, if_neg (fun z => h0 (by have := z.1; rw [eb, nI_clamp (by omega)] at this; exact this))]
    have em : mHole σ (nI c) 1 = (0, upS σ 34 2) := by unfold mHole; rw [if_neg (by rw [kz]; decide), kz]
    refine runL_go (κ := κ) (p := p) rkL_isRoom noCut 300 rfl ?_
    refine And.intro (fun c107 => False.elim (by first | exact c107 (by decide) | exact absurd (by decide) c107 | exact absurd c107 (by decide))) (fun c107 => ?_)
    refine And.intro (fun c114 => False.elim (by first | exact c114 (fun z => by have := (nI_leI (a := 36) (by decide) (by omega)).mp z; omega) | exact absurd (fun z => by have := (nI_leI (a := 36) (by decide) (by omega)).mp z; omega) c114 | exact absurd c114 (fun z => by have := (nI_leI (a := 36) (by decide) (by omega)).mp z; omega))) (fun c114 => ?_)
    refine And.intro (fun c122 => False.elim (by first | exact c122 (fun z => by have := (nI_leI (a := 36) (by decide) (by omega)).mp z; omega) | exact absurd (fun z => by have := (nI_leI (a := 36) (by decide) (by omega)).mp z; omega) c122 | exact absurd c122 (fun z => by have := (nI_leI (a := 36) (by decide) (by omega)).mp z; omega))) (fun c122 => ?_)
    refine And.intro (fun c127 => False.elim (by first | exact c127 (nI_pos (by omega)) | exact absurd (nI_pos (by omega)) c127 | exact absurd c127 (nI_pos (by omega)))) (fun c127 => ?_)
    refine ⟨7, d, A.ld (by decide) (show d < 36 by omega) rfl, ?_⟩
    refine And.intro (fun c137 => False.elim (by first | exact c137 (fun z => hd1 ((LT d hd).mp z)) | exact absurd (fun z => hd1 ((LT d hd).mp z)) c137 | exact absurd c137 (fun z => hd1 ((LT d hd).mp z)))) (fun c137 => ?_)
    refine And.intro (fun c149 => False.elim (by first | exact c149 (by decide) | exact absurd (by decide) c149 | exact absurd c149 (by decide))) (fun c149 => ?_)
    refine ⟨8, c, A.ld (by decide) (show c < 37 by omega) rfl, ?_⟩
    refine And.intro (by decide) ?_
    refine And.intro (by decide) ?_
    refine And.intro (fun c163 => False.elim (by first | exact c163 (by decide) | exact absurd (by decide) c163 | exact absurd c163 (by decide))) (fun c163 => ?_)
    refine And.intro (fun c174 => ?_) (fun c174 => False.elim (by first | exact c174 (fun z => h0 (((R c hc).2.bit0 (s := 3) (by decide)).mp z)) | exact absurd (fun z => h0 (((R c hc).2.bit0 (s := 3) (by decide)).mp z)) c174 | exact absurd c174 (fun z => h0 (((R c hc).2.bit0 (s := 3) (by decide)).mp z))))
    refine And.intro (fun c186 => ?_) (fun c186 => False.elim (by first | exact c186 (by decide) | exact absurd (by decide) c186 | exact absurd c186 (by decide)))
    refine And.intro (fun c210 => ?_) (fun c210 => False.elim (by first | exact c210 (by decide) | exact absurd (by decide) c210 | exact absurd c210 (by decide)))
    refine And.intro (fun c270 => False.elim (by first | exact c270 (by decide) | exact absurd (by decide) c270 | exact absurd c270 (by decide))) (fun c270 => ?_)
    refine pL_isRoom_282 rfl rfl rfl (w_hole (RI_PL hI) (by decide)) (fun v κ1 hq282 ho282 hk282 => ?_)
    obtain ⟨rfl, hre⟩ := hq282
    obtain ⟨κ1, rfl, hR1, hk1⟩ := PL_back hre
    have A1 := AK_of A hk1
    refine runL_ok rkL_isRoom noCut 300 _ _ _ _ _ _ ?_
    refine And.intro (fun c287 => ?_) (fun c287 => False.elim (by first | exact c287 (by decide) | exact absurd (by decide) c287 | exact absurd c287 (by decide)))
    refine And.intro (fun c297 => ?_) (fun c297 => False.elim (by first | exact c297 (by decide) | exact absurd (by decide) c297 | exact absurd c297 (by decide)))
    refine pL_isRoom_305 ?_
    refine runL_ok rkL_isRoom noCut 300 _ _ _ _ _ _ ?_
    refine And.intro (fun c307 => False.elim (by first | exact c307 (show dv (-3000000) (-1000000) 0 (mHole σ (nI c) 1) = -1000000 by rw [em]; rfl) | exact absurd (show dv (-3000000) (-1000000) 0 (mHole σ (nI c) 1) = -1000000 by rw [em]; rfl) c307 | exact absurd c307 (show dv (-3000000) (-1000000) 0 (mHole σ (nI c) 1) = -1000000 by rw [em]; rfl))) (fun c307 => ?_)
    refine And.intro ⟨Nat.le_of_ble_eq_true rfl, Nat.le_of_ble_eq_true rfl⟩ ?_
    refine And.intro (by first | exact Or.inl rfl | exact Or.inr rfl) ?_
    rw [em] at hR1
    exact PQ_of hR1 hk1 e8 e30 (Cp_34 C)
  have HC11 : ∀ c, c < 36 → ¬ σ.2 25 c = -1 → ∀ d, d < 36 → ¬ σ.2 25 d = -1 → d = c + 12 → oth (nI c) 1 = nI d → σ.2 29 c &&& pw 3 = 0 → Y w mL_isRoom θ0 (PL κ p l) (fun v κ' => PQ κ p v κ') (fun _ _ => False) 0 0 103 [some (.ref (tS 4)), some (.ref (tM 7)), some (.ref (tM 8)), some (.ref (tM 9)), some (.int x), some (.int (nI o)), some (.int (nI q)), some (.int (nI c)), some (.int 1), some (.int 1), none, none, none, none] [.int (nI d)] (PL κ p l) := by
    intro c hc hc1 d hd hd1 hdc eo h0
    have hh : hR σ (nI c) 1 := ⟨(IR c hc).mpr hc1, Or.inl (by decide), by rw [eo]; exact (IR d hd).mpr hd1⟩
    have eb : bitU 1 = pw 3 := by decide
    have kz : kHole σ (nI c) 1 = 0 := by unfold kHole; rw [if_pos hh, if_pos ⟨by rw [eb, nI_clamp (by omega)]; exact h0, h6⟩]
    have em : mHole σ (nI c) 1 = (nP σ (nI c) + nP σ (nI d), sHole (upS σ 34 0) (nI c) 1) := by unfold mHole; rw [if_pos kz, eo]
    have hcd : c ≠ d := by omega
    have h1 : σ.2 29 d &&& pw 2 = 0 := Classical.byContradiction fun z => by
      have q := hI.1.ho d 2 hd (by decide) z
      have e : stp d 2 = c := by unfold stp; simp; omega
      rw [e] at q
      exact q.2.2 h0
    have en : (l 8 c - l 8 c / 2 * 2) + (l 8 d - l 8 d / 2 * 2) = nP σ (nI c) + nP σ (nI d) := by rw [(R c hc).2.p01, (R d hd).2.p01]; unfold nP; rw [nI_clamp (by omega), nI_clamp (by omega)]
    refine runL_go (κ := κ) (p := p) rkL_isRoom noCut 300 rfl ?_
    refine And.intro (fun c107 => False.elim (by first | exact c107 (by decide) | exact absurd (by decide) c107 | exact absurd c107 (by decide))) (fun c107 => ?_)
    refine And.intro (fun c114 => False.elim (by first | exact c114 (fun z => by have := (nI_leI (a := 36) (by decide) (by omega)).mp z; omega) | exact absurd (fun z => by have := (nI_leI (a := 36) (by decide) (by omega)).mp z; omega) c114 | exact absurd c114 (fun z => by have := (nI_leI (a := 36) (by decide) (by omega)).mp z; omega))) (fun c114 => ?_)
    refine And.intro (fun c122 => False.elim (by first | exact c122 (fun z => by have := (nI_leI (a := 36) (by decide) (by omega)).mp z; omega) | exact absurd (fun z => by have := (nI_leI (a := 36) (by decide) (by omega)).mp z; omega) c122 | exact absurd c122 (fun z => by have := (nI_leI (a := 36) (by decide) (by omega)).mp z; omega))) (fun c122 => ?_)
    refine And.intro (fun c127 => False.elim (by first | exact c127 (nI_pos (by omega)) | exact absurd (nI_pos (by omega)) c127 | exact absurd c127 (nI_pos (by omega)))) (fun c127 => ?_)
    refine ⟨7, d, A.ld (by decide) (show d < 36 by omega) rfl, ?_⟩
    refine And.intro (fun c137 => False.elim (by first | exact c137 (fun z => hd1 ((LT d hd).mp z)) | exact absurd (fun z => hd1 ((LT d hd).mp z)) c137 | exact absurd c137 (fun z => hd1 ((LT d hd).mp z)))) (fun c137 => ?_)
    refine And.intro (fun c149 => False.elim (by first | exact c149 (by decide) | exact absurd (by decide) c149 | exact absurd c149 (by decide))) (fun c149 => ?_)
    refine ⟨8, c, A.ld (by decide) (show c < 37 by omega) rfl, ?_⟩
    refine And.intro (by decide) ?_
    refine And.intro (by decide) ?_
    refine And.intro (fun c163 => False.elim (by first | exact c163 (by decide) | exact absurd (by decide) c163 | exact absurd c163 (by decide))) (fun c163 => ?_)
    refine And.intro (fun c174 => False.elim (by first | exact c174 (fun z => z (((R c hc).2.bit0 (s := 3) (by decide)).mpr h0)) | exact absurd (fun z => z (((R c hc).2.bit0 (s := 3) (by decide)).mpr h0)) c174 | exact absurd c174 (fun z => z (((R c hc).2.bit0 (s := 3) (by decide)).mpr h0)))) (fun c174 => ?_)
    refine And.intro (fun c186 => False.elim (by first | exact c186 (by decide) | exact absurd (by decide) c186 | exact absurd c186 (by decide))) (fun c186 => ?_)
    refine ⟨8, c, A.ld (by decide) (show c < 37 by omega) rfl, ?_⟩
    refine And.intro (by decide) ?_
    refine ⟨8, d, A.ld (by decide) (show d < 37 by omega) rfl, ?_⟩
    refine And.intro (by decide) ?_
    refine And.intro (fun c210 => False.elim (by first | exact c210 (by decide) | exact absurd (by decide) c210 | exact absurd c210 (by decide))) (fun c210 => ?_)
    refine ⟨8, c, A.ld (by decide) (show c < 37 by omega) rfl, ?_⟩
    refine And.intro (fun c220 => False.elim (by first | exact c220 (by decide) | exact absurd (by decide) c220 | exact absurd c220 (by decide))) (fun c220 => ?_)
    refine ⟨8, c, A.ld (by decide) (show c < 37 by omega) rfl, ?_⟩
    refine And.intro (by decide) ?_
    refine ⟨8, c, A.ld (by decide) (show c < 37 by omega) rfl, ?_⟩
    refine ⟨8, d, A.ld (by decide) (show d < 37 by omega) rfl, ?_⟩
    refine And.intro (fun c245 => False.elim (by first | exact c245 (by decide) | exact absurd (by decide) c245 | exact absurd c245 (by decide))) (fun c245 => ?_)
    refine ⟨8, d, A.ld (by decide) (show d < 37 by omega) rfl, ?_⟩
    refine And.intro (by decide) ?_
    refine ⟨8, d, A.ld (by decide) (show d < 37 by omega) rfl, ?_⟩
    refine And.intro (fun c270 => False.elim (by first | exact c270 (by decide) | exact absurd (by decide) c270 | exact absurd c270 (by decide))) (fun c270 => ?_)
    refine pL_isRoom_282 rfl rfl rfl (w_hole (RI_PL hI) (by decide)) (fun v κ1 hq282 ho282 hk282 => ?_)
    obtain ⟨rfl, hre⟩ := hq282
    obtain ⟨κ1, rfl, hR1, hk1⟩ := PL_back hre
    have A1 := AK_of A hk1
    refine runL_ok rkL_isRoom noCut 300 _ _ _ _ _ _ ?_
    refine And.intro (fun c287 => ?_) (fun c287 => False.elim (by first | exact c287 (by decide) | exact absurd (by decide) c287 | exact absurd c287 (by decide)))
    refine And.intro (fun c297 => False.elim (by first | exact c297 (by decide) | exact absurd (by decide) c297 | exact absurd c297 (by decide))) (fun c297 => ?_)
    refine And.intro (fun c307 => False.elim (by first | exact c307 (show dv (-3000000) (-1000000) 0 (mHole σ (nI c) 1) = (l 8 c - l 8 c / 2 * 2) + (l 8 d - l 8 d / 2 * 2) by rw [em, en]; rfl) | exact absurd (show dv (-3000000) (-1000000) 0 (mHole σ (nI c) 1) = (l 8 c - l 8 c / 2 * 2) + (l 8 d - l 8 d / 2 * 2) by rw [em, en]; rfl) c307 | exact absurd c307 (show dv (-3000000) (-1000000) 0 (mHole σ (nI c) 1) = (l 8 c - l 8 c / 2 * 2) + (l 8 d - l 8 d / 2 * 2) by rw [em, en]; rfl))) (fun c307 => ?_)
    refine And.intro ⟨Nat.le_of_ble_eq_true rfl, Nat.le_of_ble_eq_true rfl⟩ ?_
    refine And.intro (by first | exact Or.inl rfl | exact Or.inr rfl) ?_
    rw [em] at hR1
    exact PQ_of hR1 hk1 e8 e30 (Cp_hole (s := 3) (t := 2) (u := 1) C hc hd (by decide) (by decide) hcd eo (by decide) (by decide) h0 h1)
  have MY1 : ∀ c, c < 36 → ¬ σ.2 25 c = -1 → Y w mL_isRoom θ0 (PL κ p l) (fun v κ' => PQ κ p v κ') (fun _ _ => False) 0 0 69 [some (.ref (tS 4)), some (.ref (tM 7)), some (.ref (tM 8)), some (.ref (tM 9)), some (.int x), some (.int (nI o)), some (.int (nI q)), some (.int (nI c)), some (.int 1), none, none, none, none, none] [.int 1] (PL κ p l) := by
    intro c hc hc1
    refine runL_go (κ := κ) (p := p) rkL_isRoom (fun p => Nat.beq p 103) 300 rfl ?_
    refine And.intro (fun c73 => False.elim (by first | exact c73 (by decide) | exact absurd (by decide) c73 | exact absurd c73 (by decide))) (fun c73 => ?_)
    have eo : oth (nI c) 1 = nI (c + 12) := nI_add c 12
    have ev : nI c + 12 = nI (c + 12) := nI_add c 12
    by_cases hd : c + 12 < 36
    · by_cases hd1 : σ.2 25 (c + 12) = -1
      · skip
        have Z := HB1 c hc (fun z => (IR _ hd).mp (eo ▸ z.2.2) hd1) _ hd hd1
        rw [← ev] at Z
        exact Z
      · by_cases h0 : σ.2 29 c &&& pw 3 = 0
        · skip
          have Z := HC11 c hc hc1 _ hd hd1 rfl eo h0
          rw [← ev] at Z
          exact Z
        · skip
          have Z := HC10 c hc hc1 _ hd hd1 rfl eo h0
          rw [← ev] at Z
          exact Z
    · exact HA1 c hc (fun z => by have := z.2.2.1.2; rw [eo] at this; have := (nI_leI (b := 35) (by omega) (by decide)).mp this; omega) _ (by rw [ev]; exact nI_le (a := 36) (by omega) (by omega))
  have PNZ : ∀ RR : Int32, ¬ isRm σ RR → ∀ n k : Int32, n = sm (fPt σ) 36 → Y w mL_isRoom θ0 (PL κ p l) (fun v κ' => PQ κ p v κ') (fun _ _ => False) 0 0 400 [some (.ref (tS 4)), some (.ref (tM 7)), some (.ref (tM 8)), some (.ref (tM 9)), some (.int x), some (.int (nI o)), some (.int (nI q)), some (.int RR), some (.int 0), some (.int 0), some (.int n), some (.int k), none, none] [] (PL κ p (lu l 8 36 (l 8 36 + 0))) := by
    intro RR hNr
    intro n k hn
    have em : mPai σ RR = (0, upS σ 34 1) := by
      have k1 : kPai σ RR = 1 := by unfold kPai; rw [if_neg hNr]
      unfold mPai; rw [if_neg (by rw [k1]; decide), k1]
    refine runL_go (κ := κ) (p := p) rkL_isRoom noCut 300 rfl ?_
    refine pL_isRoom_410 rfl rfl rfl (w_paint (RI_PL hI)) (fun v κ1 hq410 ho410 hk410 => ?_)
    obtain ⟨rfl, hre⟩ := hq410
    obtain ⟨κ1, rfl, hR1, hk1⟩ := PL_back hre
    have A1 := AK_of A hk1
    refine runL_ok rkL_isRoom noCut 300 _ _ _ _ _ _ ?_
    refine And.intro (fun c415 => False.elim (by first | exact c415 (by decide) | exact absurd (by decide) c415 | exact absurd c415 (by decide))) (fun c415 => ?_)
    refine pL_isRoom_418 ?_
    refine runL_ok rkL_isRoom noCut 300 _ _ _ _ _ _ ?_
    refine And.intro (fun c435 => False.elim (by first | exact c435 (show dv (-3000000) (-1000000) 0 (mPai σ RR) = -3000000 by rw [em]; rfl) | exact absurd (show dv (-3000000) (-1000000) 0 (mPai σ RR) = -3000000 by rw [em]; rfl) c435 | exact absurd c435 (show dv (-3000000) (-1000000) 0 (mPai σ RR) = -3000000 by rw [em]; rfl))) (fun c435 => ?_)
    refine And.intro ⟨Nat.le_of_ble_eq_true rfl, Nat.le_of_ble_eq_true rfl⟩ ?_
    refine And.intro (by first | exact Or.inl rfl | exact Or.inr rfl) ?_
    rw [em] at hR1
    exact PQ_of hR1 hk1 e8 e30 (Cp_j C)
  have PNL : ∀ RR : Int32, ¬ isRm σ RR → ∀ m k : Nat, m + k = 36 → ∀ n : Int32, n = sm (fPt σ) k → Y w mL_isRoom θ0 (PL κ p l) (fun v κ' => PQ κ p v κ') (fun _ _ => False) 0 0 376 [some (.ref (tS 4)), some (.ref (tM 7)), some (.ref (tM 8)), some (.ref (tM 9)), some (.int x), some (.int (nI o)), some (.int (nI q)), some (.int RR), some (.int 0), some (.int 0), some (.int n), some (.int (nI k)), none, none] [] (PL κ p (lu l 8 36 (l 8 36 + 0))) := by
    intro RR hNr
    intro m
    have R1 : cR (lu l 8 36 (l 8 36 + 0)) σ := R.cong (fun j _ _ c hc => lu_o (fun z => by omega)) (fun _ _ _ _ _ => rfl)
    induction m with
    | zero =>
      intro k hk n hn
      have ek : k = 36 := by omega
      subst ek
      refine runL_go (κ := κ) (p := p) rkL_isRoom (fun p => Nat.beq p 376 || Nat.beq p 400) 300 rfl ?_
      exact And.intro (fun _ => PNZ RR hNr n _ hn) (fun c => absurd (show (36 : Int32) ≤ nI 36 by decide) c)
    | succ m ih =>
      intro k hk n hn
      refine runL_go (κ := κ) (p := p) rkL_isRoom (fun p => Nat.beq p 376 || Nat.beq p 400) 300 rfl ?_
      refine And.intro (fun c => absurd ((nI_leI (a := 36) (by decide) (by omega)).mp c) (by omega)) (fun c378 => ?_)
      refine ⟨8, k, A.ld (by decide) (show k < 37 by omega) rfl, ?_⟩
      refine And.intro (by decide) ?_
      have := ih (k + 1) (by omega) _ (by show _ = sm (fPt σ) k + fPt σ k; rw [← hn, show fPt σ k = _ from (R1 k (by omega)).2.p01.symm])
      rw [← nI_1 k] at this
      exact this
  have POZ : ∀ c, c < 36 → ¬ σ.2 25 c = -1 → ¬ σ.2 26 c = 0 → ∀ n k : Int32, n = sm (fPt σ) 36 → Y w mL_isRoom θ0 (PL κ p l) (fun v κ' => PQ κ p v κ') (fun _ _ => False) 0 0 400 [some (.ref (tS 4)), some (.ref (tM 7)), some (.ref (tM 8)), some (.ref (tM 9)), some (.int x), some (.int (nI o)), some (.int (nI q)), some (.int (nI c)), some (.int 1), some (.int 0), some (.int n), some (.int k), none, none] [] (PL κ p (lu l 8 36 (l 8 36 + 0))) := by
    intro c hc hc1 hp
    intro n k hn
    have em : mPai σ (nI c) = (0, upS σ 34 2) := by
      have k1 : kPai σ (nI c) = 2 := by unfold kPai; rw [if_pos ((IR c hc).mpr hc1), nI_clamp (by omega), if_neg hp]
      unfold mPai; rw [if_neg (by rw [k1]; decide), k1]
    refine runL_go (κ := κ) (p := p) rkL_isRoom noCut 300 rfl ?_
    refine pL_isRoom_410 rfl rfl rfl (w_paint (RI_PL hI)) (fun v κ1 hq410 ho410 hk410 => ?_)
    obtain ⟨rfl, hre⟩ := hq410
    obtain ⟨κ1, rfl, hR1, hk1⟩ := PL_back hre
    have A1 := AK_of A hk1
    refine runL_ok rkL_isRoom noCut 300 _ _ _ _ _ _ ?_
    refine And.intro (fun c415 => ?_) (fun c415 => False.elim (by first | exact c415 (by decide) | exact absurd (by decide) c415 | exact absurd c415 (by decide)))
    refine And.intro (fun c425 => ?_) (fun c425 => False.elim (by first | exact c425 (by decide) | exact absurd (by decide) c425 | exact absurd c425 (by decide)))
    refine pL_isRoom_433 ?_
    refine runL_ok rkL_isRoom noCut 300 _ _ _ _ _ _ ?_
    refine And.intro (fun c435 => False.elim (by first | exact c435 (show dv (-3000000) (-1000000) 0 (mPai σ (nI c)) = -1000000 by rw [em]; rfl) | exact absurd (show dv (-3000000) (-1000000) 0 (mPai σ (nI c)) = -1000000 by rw [em]; rfl) c435 | exact absurd c435 (show dv (-3000000) (-1000000) 0 (mPai σ (nI c)) = -1000000 by rw [em]; rfl))) (fun c435 => ?_)
    refine And.intro ⟨Nat.le_of_ble_eq_true rfl, Nat.le_of_ble_eq_true rfl⟩ ?_
    refine And.intro (by first | exact Or.inl rfl | exact Or.inr rfl) ?_
    rw [em] at hR1
    exact PQ_of hR1 hk1 e8 e30 (Cp_j C)
  have POL : ∀ c, c < 36 → ¬ σ.2 25 c = -1 → ¬ σ.2 26 c = 0 → ∀ m k : Nat, m + k = 36 → ∀ n : Int32, n = sm (fPt σ) k → Y w mL_isRoom θ0 (PL κ p l) (fun v κ' => PQ κ p v κ') (fun _ _ => False) 0 0 376 [some (.ref (tS 4)), some (.ref (tM 7)), some (.ref (tM 8)), some (.ref (tM 9)), some (.int x), some (.int (nI o)), some (.int (nI q)), some (.int (nI c)), some (.int 1), some (.int 0), some (.int n), some (.int (nI k)), none, none] [] (PL κ p (lu l 8 36 (l 8 36 + 0))) := by
    intro c hc hc1 hp
    intro m
    have R1 : cR (lu l 8 36 (l 8 36 + 0)) σ := R.cong (fun j _ _ c hc => lu_o (fun z => by omega)) (fun _ _ _ _ _ => rfl)
    induction m with
    | zero =>
      intro k hk n hn
      have ek : k = 36 := by omega
      subst ek
      refine runL_go (κ := κ) (p := p) rkL_isRoom (fun p => Nat.beq p 376 || Nat.beq p 400) 300 rfl ?_
      exact And.intro (fun _ => POZ c hc hc1 hp n _ hn) (fun c => absurd (show (36 : Int32) ≤ nI 36 by decide) c)
    | succ m ih =>
      intro k hk n hn
      refine runL_go (κ := κ) (p := p) rkL_isRoom (fun p => Nat.beq p 376 || Nat.beq p 400) 300 rfl ?_
      refine And.intro (fun c => absurd ((nI_leI (a := 36) (by decide) (by omega)).mp c) (by omega)) (fun c378 => ?_)
      refine ⟨8, k, A.ld (by decide) (show k < 37 by omega) rfl, ?_⟩
      refine And.intro (by decide) ?_
      have := ih (k + 1) (by omega) _ (by show _ = sm (fPt σ) k + fPt σ k; rw [← hn, show fPt σ k = _ from (R1 k (by omega)).2.p01.symm])
      rw [← nI_1 k] at this
      exact this
  have PPZ : ∀ c, c < 36 → ¬ σ.2 25 c = -1 → σ.2 26 c = 0 → ∀ n k : Int32, n = sm (fPt (sPai (upS σ 34 0) c)) 36 → Y w mL_isRoom θ0 (PL κ p l) (fun v κ' => PQ κ p v κ') (fun _ _ => False) 0 0 400 [some (.ref (tS 4)), some (.ref (tM 7)), some (.ref (tM 8)), some (.ref (tM 9)), some (.int x), some (.int (nI o)), some (.int (nI q)), some (.int (nI c)), some (.int 1), some (.int 1), some (.int n), some (.int k), none, none] [] (PL κ p (lu l 8 c (l 8 c + 1))) := by
    intro c hc hc1 hp
    intro n k hn
    have em : mPai σ (nI c) = (sm (fPt (sPai (upS σ 34 0) c)) 36, sPai (upS σ 34 0) c) := by
      have k1 : kPai σ (nI c) = 0 := by unfold kPai; rw [if_pos ((IR c hc).mpr hc1), nI_clamp (by omega), if_pos hp]
      unfold mPai; rw [if_pos k1, nI_clamp (by omega)]
    refine runL_go (κ := κ) (p := p) rkL_isRoom noCut 300 rfl ?_
    refine pL_isRoom_410 rfl rfl rfl (w_paint (RI_PL hI)) (fun v κ1 hq410 ho410 hk410 => ?_)
    obtain ⟨rfl, hre⟩ := hq410
    obtain ⟨κ1, rfl, hR1, hk1⟩ := PL_back hre
    have A1 := AK_of A hk1
    refine runL_ok rkL_isRoom noCut 300 _ _ _ _ _ _ ?_
    refine And.intro (fun c415 => ?_) (fun c415 => False.elim (by first | exact c415 (by decide) | exact absurd (by decide) c415 | exact absurd c415 (by decide)))
    refine And.intro (fun c425 => False.elim (by first | exact c425 (by decide) | exact absurd (by decide) c425 | exact absurd c425 (by decide))) (fun c425 => ?_)
    refine And.intro (fun c435 => False.elim (by first | exact c435 (show dv (-3000000) (-1000000) 0 (mPai σ (nI c)) = n by rw [em, hn]; rfl) | exact absurd (show dv (-3000000) (-1000000) 0 (mPai σ (nI c)) = n by rw [em, hn]; rfl) c435 | exact absurd c435 (show dv (-3000000) (-1000000) 0 (mPai σ (nI c)) = n by rw [em, hn]; rfl))) (fun c435 => ?_)
    refine And.intro ⟨Nat.le_of_ble_eq_true rfl, Nat.le_of_ble_eq_true rfl⟩ ?_
    refine And.intro (by first | exact Or.inl rfl | exact Or.inr rfl) ?_
    rw [em] at hR1
    exact PQ_of hR1 hk1 e8 e30 (Cp_1 (k := 26) (v := 1) C (by decide) hc (((R c hc).2).paint hp upA_s (fun j hj => upA_o (fun z => by omega))))
  have PPL : ∀ c, c < 36 → ¬ σ.2 25 c = -1 → σ.2 26 c = 0 → ∀ m k : Nat, m + k = 36 → ∀ n : Int32, n = sm (fPt (sPai (upS σ 34 0) c)) k → Y w mL_isRoom θ0 (PL κ p l) (fun v κ' => PQ κ p v κ') (fun _ _ => False) 0 0 376 [some (.ref (tS 4)), some (.ref (tM 7)), some (.ref (tM 8)), some (.ref (tM 9)), some (.int x), some (.int (nI o)), some (.int (nI q)), some (.int (nI c)), some (.int 1), some (.int 1), some (.int n), some (.int (nI k)), none, none] [] (PL κ p (lu l 8 c (l 8 c + 1))) := by
    intro c hc hc1 hp
    intro m
    have R1 : cR (lu l 8 c (l 8 c + 1)) (sPai (upS σ 34 0) c) := (Cp_1 (k := 26) (v := 1) C (by decide) hc (((R c hc).2).paint hp upA_s (fun j hj => upA_o (fun z => by omega)))).2.1.2.2.1
    induction m with
    | zero =>
      intro k hk n hn
      have ek : k = 36 := by omega
      subst ek
      refine runL_go (κ := κ) (p := p) rkL_isRoom (fun p => Nat.beq p 376 || Nat.beq p 400) 300 rfl ?_
      exact And.intro (fun _ => PPZ c hc hc1 hp n _ hn) (fun c => absurd (show (36 : Int32) ≤ nI 36 by decide) c)
    | succ m ih =>
      intro k hk n hn
      refine runL_go (κ := κ) (p := p) rkL_isRoom (fun p => Nat.beq p 376 || Nat.beq p 400) 300 rfl ?_
      refine And.intro (fun c => absurd ((nI_leI (a := 36) (by decide) (by omega)).mp c) (by omega)) (fun c378 => ?_)
      refine ⟨8, k, A.ld (by decide) (show k < 37 by omega) rfl, ?_⟩
      refine And.intro (by decide) ?_
      have := ih (k + 1) (by omega) _ (by show _ = sm (fPt (sPai (upS σ 34 0) c)) k + fPt (sPai (upS σ 34 0) c) k; rw [← hn, show fPt (sPai (upS σ 34 0) c) k = _ from (R1 k (by omega)).2.p01.symm])
      rw [← nI_1 k] at this
      exact this
  have QN : ∀ RR : Int32, ¬ isRm σ RR → Y w mL_isRoom θ0 (PL κ p l) (fun v κ' => PQ κ p v κ') (fun _ _ => False) 0 0 322 [some (.ref (tS 4)), some (.ref (tM 7)), some (.ref (tM 8)), some (.ref (tM 9)), some (.int x), some (.int (nI o)), some (.int (nI q)), some (.int RR), some (.int 0), none, none, none, none, none] [] (PL κ p l) := by
    intro RR hNr
    refine runL_go (κ := κ) (p := p) rkL_isRoom (fun p => Nat.beq p 376) 300 rfl ?_
    refine And.intro (fun c324 => ?_) (fun c324 => False.elim (by first | exact c324 (by decide) | exact absurd (by decide) c324 | exact absurd c324 (by decide)))
    refine And.intro (fun c346 => ?_) (fun c346 => False.elim (by first | exact c346 (by decide) | exact absurd (by decide) c346 | exact absurd c346 (by decide)))
    refine ⟨8, 36, A.ld (by decide) (by decide) rfl, ?_⟩
    refine And.intro (fun c360 => ?_) (fun c360 => False.elim (by first | exact c360 (by decide) | exact absurd (by decide) c360 | exact absurd c360 (by decide)))
    refine ⟨8, 36, A.ld (by decide) (by decide) rfl, ?_⟩
    exact PNL RR hNr 36 0 rfl _ rfl
  have QO : ∀ c, c < 36 → ¬ σ.2 25 c = -1 → ¬ σ.2 26 c = 0 → Y w mL_isRoom θ0 (PL κ p l) (fun v κ' => PQ κ p v κ') (fun _ _ => False) 0 0 322 [some (.ref (tS 4)), some (.ref (tM 7)), some (.ref (tM 8)), some (.ref (tM 9)), some (.int x), some (.int (nI o)), some (.int (nI q)), some (.int (nI c)), some (.int 1), none, none, none, none, none] [] (PL κ p l) := by
    intro c hc hc1 hp
    have hp2 : ¬ l 8 c - l 8 c / 2 * 2 = 0 := by rw [(R c hc).2.pnt]; exact hp
    refine runL_go (κ := κ) (p := p) rkL_isRoom (fun p => Nat.beq p 376) 300 rfl ?_
    refine And.intro (fun c324 => False.elim (by first | exact c324 (by decide) | exact absurd (by decide) c324 | exact absurd c324 (by decide))) (fun c324 => ?_)
    refine ⟨8, c, A.ld (by decide) (show c < 37 by omega) rfl, ?_⟩
    refine And.intro (by decide) ?_
    refine And.intro (fun c333 => ?_) (fun c333 => False.elim (by first | exact c333 hp2 | exact absurd hp2 c333 | exact absurd c333 hp2))
    refine And.intro (fun c346 => ?_) (fun c346 => False.elim (by first | exact c346 (by decide) | exact absurd (by decide) c346 | exact absurd c346 (by decide)))
    refine ⟨8, 36, A.ld (by decide) (by decide) rfl, ?_⟩
    refine And.intro (fun c360 => ?_) (fun c360 => False.elim (by first | exact c360 (by decide) | exact absurd (by decide) c360 | exact absurd c360 (by decide)))
    refine ⟨8, 36, A.ld (by decide) (by decide) rfl, ?_⟩
    exact POL c hc hc1 hp 36 0 rfl _ rfl
  have QP : ∀ c, c < 36 → ¬ σ.2 25 c = -1 → σ.2 26 c = 0 → Y w mL_isRoom θ0 (PL κ p l) (fun v κ' => PQ κ p v κ') (fun _ _ => False) 0 0 322 [some (.ref (tS 4)), some (.ref (tM 7)), some (.ref (tM 8)), some (.ref (tM 9)), some (.int x), some (.int (nI o)), some (.int (nI q)), some (.int (nI c)), some (.int 1), none, none, none, none, none] [] (PL κ p l) := by
    intro c hc hc1 hp
    have hp2 : l 8 c - l 8 c / 2 * 2 = 0 := by rw [(R c hc).2.pnt]; exact hp
    refine runL_go (κ := κ) (p := p) rkL_isRoom (fun p => Nat.beq p 376) 300 rfl ?_
    refine And.intro (fun c324 => False.elim (by first | exact c324 (by decide) | exact absurd (by decide) c324 | exact absurd c324 (by decide))) (fun c324 => ?_)
    refine ⟨8, c, A.ld (by decide) (show c < 37 by omega) rfl, ?_⟩
    refine And.intro (by decide) ?_
    refine And.intro (fun c333 => False.elim (by first | exact c333 (fun z => z hp2) | exact absurd (fun z => z hp2) c333 | exact absurd c333 (fun z => z hp2))) (fun c333 => ?_)
    refine And.intro (fun c346 => False.elim (by first | exact c346 (by decide) | exact absurd (by decide) c346 | exact absurd c346 (by decide))) (fun c346 => ?_)
    refine ⟨8, c, A.ld (by decide) (show c < 37 by omega) rfl, ?_⟩
    refine And.intro (fun c360 => False.elim (by first | exact c360 (by decide) | exact absurd (by decide) c360 | exact absurd c360 (by decide))) (fun c360 => ?_)
    refine ⟨8, c, A.ld (by decide) (show c < 37 by omega) rfl, ?_⟩
    exact PPL c hc hc1 hp 36 0 rfl _ rfl
  have FN0 : ∀ RR : Int32, ¬ isRm σ RR → ∀ m, m < 102 → ¬ (1 ≤ m ∧ m ≤ 100) → Y w mL_isRoom θ0 (PL κ p l) (fun v κ' => PQ κ p v κ') (fun _ _ => False) 0 0 468 [some (.ref (tS 4)), some (.ref (tM 7)), some (.ref (tM 8)), some (.ref (tM 9)), some (.int x), some (.int (nI o)), some (.int (nI q)), some (.int RR), some (.int 0), some (.int (nI m)), none, none, none, none] [.int 0] (PL κ p l) := by
    intro RR hNr m hm hok
    have okt : (1 ≤ nI m ∧ nI m ≤ 100) ↔ (1 ≤ m ∧ m ≤ 100) := by rw [show (1 : Int32) = nI 1 from rfl, show (100 : Int32) = nI 100 from rfl, nI_leI (by decide) (by omega), nI_leI (by omega) (by decide)]
    have k1 : kFit σ RR (nI m) = 1 := by unfold kFit; rw [if_neg hNr]
    have em : mFit σ RR (nI m) = (0, upS σ 34 1) := by unfold mFit; rw [if_neg (by rw [k1]; decide), k1]
    refine runL_go (κ := κ) (p := p) rkL_isRoom noCut 300 rfl ?_
    refine And.intro (fun c472 => ?_) (fun c472 => False.elim (by first | exact c472 (by decide) | exact absurd (by decide) c472 | exact absurd c472 (by decide)))
    refine And.intro (fun c517 => ?_) (fun c517 => False.elim (by first | exact c517 (by decide) | exact absurd (by decide) c517 | exact absurd c517 (by decide)))
    refine ⟨8, 36, A.ld (by decide) (by decide) rfl, ?_⟩
    refine And.intro (fun c531 => ?_) (fun c531 => False.elim (by first | exact c531 (by decide) | exact absurd (by decide) c531 | exact absurd c531 (by decide)))
    refine ⟨8, 36, A.ld (by decide) (by decide) rfl, ?_⟩
    refine pL_isRoom_557 rfl rfl rfl (w_fit (RI_PL hI)) (fun v κ1 hq557 ho557 hk557 => ?_)
    obtain ⟨rfl, hre⟩ := hq557
    obtain ⟨κ1, rfl, hR1, hk1⟩ := PL_back hre
    have A1 := AK_of A hk1
    refine runL_ok rkL_isRoom noCut 300 _ _ _ _ _ _ ?_
    refine And.intro (fun c562 => False.elim (by first | exact c562 (by decide) | exact absurd (by decide) c562 | exact absurd c562 (by decide))) (fun c562 => ?_)
    refine pL_isRoom_565 ?_
    refine runL_ok rkL_isRoom noCut 300 _ _ _ _ _ _ ?_
    refine And.intro (fun c598 => False.elim (by first | exact c598 (show dv (-3000000) (-2000000) (-1000000) (mFit σ RR (nI m)) = -3000000 by rw [em]; rfl) | exact absurd (show dv (-3000000) (-2000000) (-1000000) (mFit σ RR (nI m)) = -3000000 by rw [em]; rfl) c598 | exact absurd c598 (show dv (-3000000) (-2000000) (-1000000) (mFit σ RR (nI m)) = -3000000 by rw [em]; rfl))) (fun c598 => ?_)
    refine And.intro ⟨Nat.le_of_ble_eq_true rfl, Nat.le_of_ble_eq_true rfl⟩ ?_
    refine And.intro (by first | exact Or.inl rfl | exact Or.inr rfl) ?_
    rw [em] at hR1
    exact PQ_of hR1 hk1 e8 e30 (Cp_j C)
  have FN1 : ∀ RR : Int32, ¬ isRm σ RR → ∀ m, m < 102 → (1 ≤ m ∧ m ≤ 100) → Y w mL_isRoom θ0 (PL κ p l) (fun v κ' => PQ κ p v κ') (fun _ _ => False) 0 0 468 [some (.ref (tS 4)), some (.ref (tM 7)), some (.ref (tM 8)), some (.ref (tM 9)), some (.int x), some (.int (nI o)), some (.int (nI q)), some (.int RR), some (.int 0), some (.int (nI m)), none, none, none, none] [.int 1] (PL κ p l) := by
    intro RR hNr m hm hok
    have okt : (1 ≤ nI m ∧ nI m ≤ 100) ↔ (1 ≤ m ∧ m ≤ 100) := by rw [show (1 : Int32) = nI 1 from rfl, show (100 : Int32) = nI 100 from rfl, nI_leI (by decide) (by omega), nI_leI (by omega) (by decide)]
    have k1 : kFit σ RR (nI m) = 1 := by unfold kFit; rw [if_neg hNr]
    have em : mFit σ RR (nI m) = (0, upS σ 34 1) := by unfold mFit; rw [if_neg (by rw [k1]; decide), k1]
    refine runL_go (κ := κ) (p := p) rkL_isRoom noCut 300 rfl ?_
    refine And.intro (fun c472 => ?_) (fun c472 => False.elim (by first | exact c472 (by decide) | exact absurd (by decide) c472 | exact absurd c472 (by decide)))
    refine And.intro (fun c517 => ?_) (fun c517 => False.elim (by first | exact c517 (by decide) | exact absurd (by decide) c517 | exact absurd c517 (by decide)))
    refine ⟨8, 36, A.ld (by decide) (by decide) rfl, ?_⟩
    refine And.intro (fun c531 => ?_) (fun c531 => False.elim (by first | exact c531 (by decide) | exact absurd (by decide) c531 | exact absurd c531 (by decide)))
    refine ⟨8, 36, A.ld (by decide) (by decide) rfl, ?_⟩
    refine pL_isRoom_557 rfl rfl rfl (w_fit (RI_PL hI)) (fun v κ1 hq557 ho557 hk557 => ?_)
    obtain ⟨rfl, hre⟩ := hq557
    obtain ⟨κ1, rfl, hR1, hk1⟩ := PL_back hre
    have A1 := AK_of A hk1
    refine runL_ok rkL_isRoom noCut 300 _ _ _ _ _ _ ?_
    refine And.intro (fun c562 => False.elim (by first | exact c562 (by decide) | exact absurd (by decide) c562 | exact absurd c562 (by decide))) (fun c562 => ?_)
    refine pL_isRoom_565 ?_
    refine runL_ok rkL_isRoom noCut 300 _ _ _ _ _ _ ?_
    refine And.intro (fun c598 => False.elim (by first | exact c598 (show dv (-3000000) (-2000000) (-1000000) (mFit σ RR (nI m)) = -3000000 by rw [em]; rfl) | exact absurd (show dv (-3000000) (-2000000) (-1000000) (mFit σ RR (nI m)) = -3000000 by rw [em]; rfl) c598 | exact absurd c598 (show dv (-3000000) (-2000000) (-1000000) (mFit σ RR (nI m)) = -3000000 by rw [em]; rfl))) (fun c598 => ?_)
    refine And.intro ⟨Nat.le_of_ble_eq_true rfl, Nat.le_of_ble_eq_true rfl⟩ ?_
    refine And.intro (by first | exact Or.inl rfl | exact Or.inr rfl) ?_
    rw [em] at hR1
    exact PQ_of hR1 hk1 e8 e30 (Cp_j C)
  have FB : ∀ c, c < 36 → ¬ σ.2 25 c = -1 → ∀ m, m < 102 → ¬ (1 ≤ m ∧ m ≤ 100) → Y w mL_isRoom θ0 (PL κ p l) (fun v κ' => PQ κ p v κ') (fun _ _ => False) 0 0 468 [some (.ref (tS 4)), some (.ref (tM 7)), some (.ref (tM 8)), some (.ref (tM 9)), some (.int x), some (.int (nI o)), some (.int (nI q)), some (.int (nI c)), some (.int 1), some (.int (nI m)), none, none, none, none] [.int 0] (PL κ p l) := by
    intro c hc hc1 m hm hok
    have okt : (1 ≤ nI m ∧ nI m ≤ 100) ↔ (1 ≤ m ∧ m ≤ 100) := by rw [show (1 : Int32) = nI 1 from rfl, show (100 : Int32) = nI 100 from rfl, nI_leI (by decide) (by omega), nI_leI (by omega) (by decide)]
    have k1 : kFit σ (nI c) (nI m) = 2 := by unfold kFit; rw [if_pos ((IR c hc).mpr hc1), if_neg (fun z => hok (okt.mp z))]
    have em : mFit σ (nI c) (nI m) = (0, upS σ 34 2) := by unfold mFit; rw [if_neg (by rw [k1]; decide), k1]
    refine runL_go (κ := κ) (p := p) rkL_isRoom noCut 300 rfl ?_
    refine And.intro (fun c472 => False.elim (by first | exact c472 (by decide) | exact absurd (by decide) c472 | exact absurd c472 (by decide))) (fun c472 => ?_)
    refine And.intro (fun c477 => ?_) (fun c477 => False.elim (by first | exact c477 (by decide) | exact absurd (by decide) c477 | exact absurd c477 (by decide)))
    refine And.intro (fun c517 => ?_) (fun c517 => False.elim (by first | exact c517 (by decide) | exact absurd (by decide) c517 | exact absurd c517 (by decide)))
    refine ⟨8, 36, A.ld (by decide) (by decide) rfl, ?_⟩
    refine And.intro (fun c531 => ?_) (fun c531 => False.elim (by first | exact c531 (by decide) | exact absurd (by decide) c531 | exact absurd c531 (by decide)))
    refine ⟨8, 36, A.ld (by decide) (by decide) rfl, ?_⟩
    refine pL_isRoom_557 rfl rfl rfl (w_fit (RI_PL hI)) (fun v κ1 hq557 ho557 hk557 => ?_)
    obtain ⟨rfl, hre⟩ := hq557
    obtain ⟨κ1, rfl, hR1, hk1⟩ := PL_back hre
    have A1 := AK_of A hk1
    refine runL_ok rkL_isRoom noCut 300 _ _ _ _ _ _ ?_
    refine And.intro (fun c562 => ?_) (fun c562 => False.elim (by first | exact c562 (by decide) | exact absurd (by decide) c562 | exact absurd c562 (by decide)))
    refine And.intro (fun c572 => False.elim (by first | exact c572 (by decide) | exact absurd (by decide) c572 | exact absurd c572 (by decide))) (fun c572 => ?_)
    refine pL_isRoom_575 ?_
    refine runL_ok rkL_isRoom noCut 300 _ _ _ _ _ _ ?_
    refine And.intro (fun c598 => False.elim (by first | exact c598 (show dv (-3000000) (-2000000) (-1000000) (mFit σ (nI c) (nI m)) = -2000000 by rw [em]; rfl) | exact absurd (show dv (-3000000) (-2000000) (-1000000) (mFit σ (nI c) (nI m)) = -2000000 by rw [em]; rfl) c598 | exact absurd c598 (show dv (-3000000) (-2000000) (-1000000) (mFit σ (nI c) (nI m)) = -2000000 by rw [em]; rfl))) (fun c598 => ?_)
    refine And.intro ⟨Nat.le_of_ble_eq_true rfl, Nat.le_of_ble_eq_true rfl⟩ ?_
    refine And.intro (by first | exact Or.inl rfl | exact Or.inr rfl) ?_
    rw [em] at hR1
    exact PQ_of hR1 hk1 e8 e30 (Cp_j C)
  have FCp : ∀ c, c < 36 → ¬ σ.2 25 c = -1 → ∀ m, m < 102 → (1 ≤ m ∧ m ≤ 100) → ¬ (¬ σ.2 26 c = 0) → Y w mL_isRoom θ0 (PL κ p l) (fun v κ' => PQ κ p v κ') (fun _ _ => False) 0 0 468 [some (.ref (tS 4)), some (.ref (tM 7)), some (.ref (tM 8)), some (.ref (tM 9)), some (.int x), some (.int (nI o)), some (.int (nI q)), some (.int (nI c)), some (.int 1), some (.int (nI m)), none, none, none, none] [.int 1] (PL κ p l) := by
    intro c hc hc1 m hm hok hf
    have p1 : (l 8 c - l 8 c / 2 * 2 = 1 ↔ ¬ σ.2 26 c = 0) := by
      rw [(R c hc).2.p01]
      by_cases z : ¬ σ.2 26 c = 0
      · rw [if_pos z]; exact ⟨fun _ => z, fun _ => rfl⟩
      · rw [if_neg z]; exact ⟨fun q => absurd q (by decide), fun q => absurd q z⟩
    have t1 : l 8 c / 128 = σ.2 27 c := (R c hc).2.thg
    have t2 : (σ.2 27 c + nI m < 301 ↔ σ.2 27 c + nI m ≤ 300) := by
      obtain ⟨P, H, Q, T, h1, h2, h3, h4, h5, h6, h7, h8, h9⟩ := (R c hc).2
      rw [h8, nI_add, show (301 : Int32) = nI 301 from rfl, show (300 : Int32) = nI 300 from rfl, nI_ltI (by omega) (by decide), nI_leI (by omega) (by decide)]; omega
    have okt : (1 ≤ nI m ∧ nI m ≤ 100) ↔ (1 ≤ m ∧ m ≤ 100) := by rw [show (1 : Int32) = nI 1 from rfl, show (100 : Int32) = nI 100 from rfl, nI_leI (by decide) (by omega), nI_leI (by omega) (by decide)]
    have k1 : kFit σ (nI c) (nI m) = 3 := by unfold kFit; rw [if_pos ((IR c hc).mpr hc1), if_pos (okt.mpr hok), nI_clamp (by omega), if_neg (fun z => hf z.1)]
    have em : mFit σ (nI c) (nI m) = (0, upS σ 34 3) := by unfold mFit; rw [if_neg (by rw [k1]; decide), k1]
    refine runL_go (κ := κ) (p := p) rkL_isRoom noCut 300 rfl ?_
    refine And.intro (fun c472 => False.elim (by first | exact c472 (by decide) | exact absurd (by decide) c472 | exact absurd c472 (by decide))) (fun c472 => ?_)
    refine And.intro (fun c477 => False.elim (by first | exact c477 (by decide) | exact absurd (by decide) c477 | exact absurd c477 (by decide))) (fun c477 => ?_)
    refine ⟨8, c, A.ld (by decide) (show c < 37 by omega) rfl, ?_⟩
    refine And.intro (by decide) ?_
    refine And.intro (fun c487 => ?_) (fun c487 => False.elim (by first | exact c487 (fun z => hf (p1.mp z)) | exact absurd (fun z => hf (p1.mp z)) c487 | exact absurd c487 (fun z => hf (p1.mp z))))
    refine And.intro (fun c517 => ?_) (fun c517 => False.elim (by first | exact c517 (by decide) | exact absurd (by decide) c517 | exact absurd c517 (by decide)))
    refine ⟨8, 36, A.ld (by decide) (by decide) rfl, ?_⟩
    refine And.intro (fun c531 => ?_) (fun c531 => False.elim (by first | exact c531 (by decide) | exact absurd (by decide) c531 | exact absurd c531 (by decide)))
    refine ⟨8, 36, A.ld (by decide) (by decide) rfl, ?_⟩
    refine pL_isRoom_557 rfl rfl rfl (w_fit (RI_PL hI)) (fun v κ1 hq557 ho557 hk557 => ?_)
    obtain ⟨rfl, hre⟩ := hq557
    obtain ⟨κ1, rfl, hR1, hk1⟩ := PL_back hre
    have A1 := AK_of A hk1
    refine runL_ok rkL_isRoom noCut 300 _ _ _ _ _ _ ?_
    refine And.intro (fun c562 => ?_) (fun c562 => False.elim (by first | exact c562 (by decide) | exact absurd (by decide) c562 | exact absurd c562 (by decide)))
    refine And.intro (fun c572 => ?_) (fun c572 => False.elim (by first | exact c572 (by decide) | exact absurd (by decide) c572 | exact absurd c572 (by decide)))
    refine And.intro (fun c582 => ?_) (fun c582 => False.elim (by first | exact c582 (by decide) | exact absurd (by decide) c582 | exact absurd c582 (by decide)))
    refine pL_isRoom_596 ?_
    refine runL_ok rkL_isRoom noCut 300 _ _ _ _ _ _ ?_
    refine And.intro (fun c598 => False.elim (by first | exact c598 (show dv (-3000000) (-2000000) (-1000000) (mFit σ (nI c) (nI m)) = -1000000 by rw [em]; rfl) | exact absurd (show dv (-3000000) (-2000000) (-1000000) (mFit σ (nI c) (nI m)) = -1000000 by rw [em]; rfl) c598 | exact absurd c598 (show dv (-3000000) (-2000000) (-1000000) (mFit σ (nI c) (nI m)) = -1000000 by rw [em]; rfl))) (fun c598 => ?_)
    refine And.intro ⟨Nat.le_of_ble_eq_true rfl, Nat.le_of_ble_eq_true rfl⟩ ?_
    refine And.intro (by first | exact Or.inl rfl | exact Or.inr rfl) ?_
    rw [em] at hR1
    exact PQ_of hR1 hk1 e8 e30 (Cp_j C)
  have FCt : ∀ c, c < 36 → ¬ σ.2 25 c = -1 → ∀ m, m < 102 → (1 ≤ m ∧ m ≤ 100) → ¬ σ.2 26 c = 0 → ¬ σ.2 27 c + nI m ≤ 300 → Y w mL_isRoom θ0 (PL κ p l) (fun v κ' => PQ κ p v κ') (fun _ _ => False) 0 0 468 [some (.ref (tS 4)), some (.ref (tM 7)), some (.ref (tM 8)), some (.ref (tM 9)), some (.int x), some (.int (nI o)), some (.int (nI q)), some (.int (nI c)), some (.int 1), some (.int (nI m)), none, none, none, none] [.int 1] (PL κ p l) := by
    intro c hc hc1 m hm hok hp hf
    have p1 : (l 8 c - l 8 c / 2 * 2 = 1 ↔ ¬ σ.2 26 c = 0) := by
      rw [(R c hc).2.p01]
      by_cases z : ¬ σ.2 26 c = 0
      · rw [if_pos z]; exact ⟨fun _ => z, fun _ => rfl⟩
      · rw [if_neg z]; exact ⟨fun q => absurd q (by decide), fun q => absurd q z⟩
    have t1 : l 8 c / 128 = σ.2 27 c := (R c hc).2.thg
    have t2 : (σ.2 27 c + nI m < 301 ↔ σ.2 27 c + nI m ≤ 300) := by
      obtain ⟨P, H, Q, T, h1, h2, h3, h4, h5, h6, h7, h8, h9⟩ := (R c hc).2
      rw [h8, nI_add, show (301 : Int32) = nI 301 from rfl, show (300 : Int32) = nI 300 from rfl, nI_ltI (by omega) (by decide), nI_leI (by omega) (by decide)]; omega
    have okt : (1 ≤ nI m ∧ nI m ≤ 100) ↔ (1 ≤ m ∧ m ≤ 100) := by rw [show (1 : Int32) = nI 1 from rfl, show (100 : Int32) = nI 100 from rfl, nI_leI (by decide) (by omega), nI_leI (by omega) (by decide)]
    have k1 : kFit σ (nI c) (nI m) = 3 := by unfold kFit; rw [if_pos ((IR c hc).mpr hc1), if_pos (okt.mpr hok), nI_clamp (by omega), if_neg (fun z => hf z.2)]
    have em : mFit σ (nI c) (nI m) = (0, upS σ 34 3) := by unfold mFit; rw [if_neg (by rw [k1]; decide), k1]
    refine runL_go (κ := κ) (p := p) rkL_isRoom noCut 300 rfl ?_
    refine And.intro (fun c472 => False.elim (by first | exact c472 (by decide) | exact absurd (by decide) c472 | exact absurd c472 (by decide))) (fun c472 => ?_)
    refine And.intro (fun c477 => False.elim (by first | exact c477 (by decide) | exact absurd (by decide) c477 | exact absurd c477 (by decide))) (fun c477 => ?_)
    refine ⟨8, c, A.ld (by decide) (show c < 37 by omega) rfl, ?_⟩
    refine And.intro (by decide) ?_
    refine And.intro (fun c487 => False.elim (by first | exact c487 (fun z => z (p1.mpr hp)) | exact absurd (fun z => z (p1.mpr hp)) c487 | exact absurd c487 (fun z => z (p1.mpr hp)))) (fun c487 => ?_)
    refine ⟨8, c, A.ld (by decide) (show c < 37 by omega) rfl, ?_⟩
    refine And.intro (by decide) ?_
    refine And.intro (fun c504 => ?_) (fun c504 => False.elim (by first | exact c504 (by rw [t1]; exact Int32.not_lt.mp (fun z => hf (t2.mp z))) | exact absurd (by rw [t1]; exact Int32.not_lt.mp (fun z => hf (t2.mp z))) c504 | exact absurd c504 (by rw [t1]; exact Int32.not_lt.mp (fun z => hf (t2.mp z)))))
    refine And.intro (fun c517 => ?_) (fun c517 => False.elim (by first | exact c517 (by decide) | exact absurd (by decide) c517 | exact absurd c517 (by decide)))
    refine ⟨8, 36, A.ld (by decide) (by decide) rfl, ?_⟩
    refine And.intro (fun c531 => ?_) (fun c531 => False.elim (by first | exact c531 (by decide) | exact absurd (by decide) c531 | exact absurd c531 (by decide)))
    refine ⟨8, 36, A.ld (by decide) (by decide) rfl, ?_⟩
    refine pL_isRoom_557 rfl rfl rfl (w_fit (RI_PL hI)) (fun v κ1 hq557 ho557 hk557 => ?_)
    obtain ⟨rfl, hre⟩ := hq557
    obtain ⟨κ1, rfl, hR1, hk1⟩ := PL_back hre
    have A1 := AK_of A hk1
    refine runL_ok rkL_isRoom noCut 300 _ _ _ _ _ _ ?_
    refine And.intro (fun c562 => ?_) (fun c562 => False.elim (by first | exact c562 (by decide) | exact absurd (by decide) c562 | exact absurd c562 (by decide)))
    refine And.intro (fun c572 => ?_) (fun c572 => False.elim (by first | exact c572 (by decide) | exact absurd (by decide) c572 | exact absurd c572 (by decide)))
    refine And.intro (fun c582 => ?_) (fun c582 => False.elim (by first | exact c582 (by decide) | exact absurd (by decide) c582 | exact absurd c582 (by decide)))
    refine pL_isRoom_596 ?_
    refine runL_ok rkL_isRoom noCut 300 _ _ _ _ _ _ ?_
    refine And.intro (fun c598 => False.elim (by first | exact c598 (show dv (-3000000) (-2000000) (-1000000) (mFit σ (nI c) (nI m)) = -1000000 by rw [em]; rfl) | exact absurd (show dv (-3000000) (-2000000) (-1000000) (mFit σ (nI c) (nI m)) = -1000000 by rw [em]; rfl) c598 | exact absurd c598 (show dv (-3000000) (-2000000) (-1000000) (mFit σ (nI c) (nI m)) = -1000000 by rw [em]; rfl))) (fun c598 => ?_)
    refine And.intro ⟨Nat.le_of_ble_eq_true rfl, Nat.le_of_ble_eq_true rfl⟩ ?_
    refine And.intro (by first | exact Or.inl rfl | exact Or.inr rfl) ?_
    rw [em] at hR1
    exact PQ_of hR1 hk1 e8 e30 (Cp_j C)
  have FD : ∀ c, c < 36 → ¬ σ.2 25 c = -1 → ∀ m, m < 102 → (1 ≤ m ∧ m ≤ 100) → ¬ σ.2 26 c = 0 → σ.2 27 c + nI m ≤ 300 → Y w mL_isRoom θ0 (PL κ p l) (fun v κ' => PQ κ p v κ') (fun _ _ => False) 0 0 468 [some (.ref (tS 4)), some (.ref (tM 7)), some (.ref (tM 8)), some (.ref (tM 9)), some (.int x), some (.int (nI o)), some (.int (nI q)), some (.int (nI c)), some (.int 1), some (.int (nI m)), none, none, none, none] [.int 1] (PL κ p l) := by
    intro c hc hc1 m hm hok hp hf
    have p1 : (l 8 c - l 8 c / 2 * 2 = 1 ↔ ¬ σ.2 26 c = 0) := by
      rw [(R c hc).2.p01]
      by_cases z : ¬ σ.2 26 c = 0
      · rw [if_pos z]; exact ⟨fun _ => z, fun _ => rfl⟩
      · rw [if_neg z]; exact ⟨fun q => absurd q (by decide), fun q => absurd q z⟩
    have t1 : l 8 c / 128 = σ.2 27 c := (R c hc).2.thg
    have t2 : (σ.2 27 c + nI m < 301 ↔ σ.2 27 c + nI m ≤ 300) := by
      obtain ⟨P, H, Q, T, h1, h2, h3, h4, h5, h6, h7, h8, h9⟩ := (R c hc).2
      rw [h8, nI_add, show (301 : Int32) = nI 301 from rfl, show (300 : Int32) = nI 300 from rfl, nI_ltI (by omega) (by decide), nI_leI (by omega) (by decide)]; omega
    have okt : (1 ≤ nI m ∧ nI m ≤ 100) ↔ (1 ≤ m ∧ m ≤ 100) := by rw [show (1 : Int32) = nI 1 from rfl, show (100 : Int32) = nI 100 from rfl, nI_leI (by decide) (by omega), nI_leI (by omega) (by decide)]
    have k1 : kFit σ (nI c) (nI m) = 0 := by unfold kFit; rw [if_pos ((IR c hc).mpr hc1), if_pos (okt.mpr hok), nI_clamp (by omega), if_pos ⟨hp, hf⟩]
    have em : mFit σ (nI c) (nI m) = (σ.2 27 c + nI m, upA (upS σ 34 0) 27 c (σ.2 27 c + nI m)) := by unfold mFit; rw [if_pos k1, nI_clamp (by omega)]
    have hh : cH1 (l 8 c + 128 * nI m) (upA (upS σ 34 0) 27 c (σ.2 27 c + nI m)) c := (R c hc).2.fit hf (by omega) upA_s (fun j hj => upA_o (fun z => hj z.1))
    have vv : dv (-3000000) (-2000000) (-1000000) (σ.2 27 c + nI m, upA (upS σ 34 0) 27 c (σ.2 27 c + nI m)) = lu l 8 c (l 8 c + 128 * nI m) 8 c / 128 := by
      rw [lu_s, hh.thg, upA_s]; rfl
    refine runL_go (κ := κ) (p := p) rkL_isRoom noCut 300 rfl ?_
    refine And.intro (fun c472 => False.elim (by first | exact c472 (by decide) | exact absurd (by decide) c472 | exact absurd c472 (by decide))) (fun c472 => ?_)
    refine And.intro (fun c477 => False.elim (by first | exact c477 (by decide) | exact absurd (by decide) c477 | exact absurd c477 (by decide))) (fun c477 => ?_)
    refine ⟨8, c, A.ld (by decide) (show c < 37 by omega) rfl, ?_⟩
    refine And.intro (by decide) ?_
    refine And.intro (fun c487 => False.elim (by first | exact c487 (fun z => z (p1.mpr hp)) | exact absurd (fun z => z (p1.mpr hp)) c487 | exact absurd c487 (fun z => z (p1.mpr hp)))) (fun c487 => ?_)
    refine ⟨8, c, A.ld (by decide) (show c < 37 by omega) rfl, ?_⟩
    refine And.intro (by decide) ?_
    refine And.intro (fun c504 => False.elim (by first | exact c504 (by rw [t1]; exact Int32.not_le.mpr (t2.mpr hf)) | exact absurd (by rw [t1]; exact Int32.not_le.mpr (t2.mpr hf)) c504 | exact absurd c504 (by rw [t1]; exact Int32.not_le.mpr (t2.mpr hf)))) (fun c504 => ?_)
    refine And.intro (fun c517 => False.elim (by first | exact c517 (by decide) | exact absurd (by decide) c517 | exact absurd c517 (by decide))) (fun c517 => ?_)
    refine ⟨8, c, A.ld (by decide) (show c < 37 by omega) rfl, ?_⟩
    refine And.intro (fun c531 => False.elim (by first | exact c531 (by decide) | exact absurd (by decide) c531 | exact absurd c531 (by decide))) (fun c531 => ?_)
    refine ⟨8, c, A.ld (by decide) (show c < 37 by omega) rfl, ?_⟩
    refine pL_isRoom_557 rfl rfl rfl (w_fit (RI_PL hI)) (fun v κ1 hq557 ho557 hk557 => ?_)
    obtain ⟨rfl, hre⟩ := hq557
    obtain ⟨κ1, rfl, hR1, hk1⟩ := PL_back hre
    have A1 := AK_of A hk1
    refine runL_ok rkL_isRoom noCut 300 _ _ _ _ _ _ ?_
    refine And.intro (fun c562 => ?_) (fun c562 => False.elim (by first | exact c562 (by decide) | exact absurd (by decide) c562 | exact absurd c562 (by decide)))
    refine And.intro (fun c572 => ?_) (fun c572 => False.elim (by first | exact c572 (by decide) | exact absurd (by decide) c572 | exact absurd c572 (by decide)))
    refine And.intro (fun c582 => False.elim (by first | exact c582 (by decide) | exact absurd (by decide) c582 | exact absurd c582 (by decide))) (fun c582 => ?_)
    refine ⟨8, c, A1.ld (by decide) (show c < 37 by omega) rfl, ?_⟩
    refine And.intro (by decide) ?_
    refine And.intro (fun c598 => False.elim (by first | exact c598 (show dv (-3000000) (-2000000) (-1000000) (mFit σ (nI c) (nI m)) = lu l 8 c (l 8 c + 128 * nI m) 8 c / 128 by rw [em]; exact vv) | exact absurd (show dv (-3000000) (-2000000) (-1000000) (mFit σ (nI c) (nI m)) = lu l 8 c (l 8 c + 128 * nI m) 8 c / 128 by rw [em]; exact vv) c598 | exact absurd c598 (show dv (-3000000) (-2000000) (-1000000) (mFit σ (nI c) (nI m)) = lu l 8 c (l 8 c + 128 * nI m) 8 c / 128 by rw [em]; exact vv))) (fun c598 => ?_)
    refine And.intro ⟨Nat.le_of_ble_eq_true rfl, Nat.le_of_ble_eq_true rfl⟩ ?_
    refine And.intro (by first | exact Or.inl rfl | exact Or.inr rfl) ?_
    rw [em] at hR1
    exact PQ_of hR1 hk1 e8 e30 (Cp_1 (k := 27) C (by decide) hc hh)
  have GN : ∀ RR : Int32, ¬ isRm σ RR → Y w mL_isRoom θ0 (PL κ p l) (fun v κ' => PQ κ p v κ') (fun _ _ => False) 0 0 444 [some (.ref (tS 4)), some (.ref (tM 7)), some (.ref (tM 8)), some (.ref (tM 9)), some (.int x), some (.int (nI o)), some (.int (nI q)), some (.int RR), some (.int 0), none, none, none, none, none] [] (PL κ p l) := by
    intro RR hNr
    refine runL_go (κ := κ) (p := p) rkL_isRoom (fun p => Nat.beq p 468) 300 rfl ?_
    refine And.intro (by decide) ?_
    refine And.intro (fun c453 => ?_) (fun c453 => ?_)
    · skip
      have rt : nI q - nI q / 102 * 102 = nI (q % 102) := rm_nI (d := 102) (by omega) (by decide) (by decide)
      have hm : q % 102 < 102 := Nat.mod_lt _ (by decide)
      have okm : ¬ (1 ≤ q % 102 ∧ q % 102 ≤ 100) := fun z => by
        first
        | (rw [rt] at c453; exact nI_nle (n := q % 102) (by omega) (by omega) c453)
        | (rw [rt] at c460; have := (nI_leI (a := 101) (by decide) (by omega)).mp c460; omega)
      rw [rt]
      exact FN0 RR hNr _ hm okm
    · skip
      refine And.intro (fun c460 => ?_) (fun c460 => ?_)
      · skip
        have rt : nI q - nI q / 102 * 102 = nI (q % 102) := rm_nI (d := 102) (by omega) (by decide) (by decide)
        have hm : q % 102 < 102 := Nat.mod_lt _ (by decide)
        have okm : ¬ (1 ≤ q % 102 ∧ q % 102 ≤ 100) := fun z => by
          first
          | (rw [rt] at c453; exact nI_nle (n := q % 102) (by omega) (by omega) c453)
          | (rw [rt] at c460; have := (nI_leI (a := 101) (by decide) (by omega)).mp c460; omega)
        rw [rt]
        exact FN0 RR hNr _ hm okm
      · skip
        have rt : nI q - nI q / 102 * 102 = nI (q % 102) := rm_nI (d := 102) (by omega) (by decide) (by decide)
        have hm : q % 102 < 102 := Nat.mod_lt _ (by decide)
        have okm : 1 ≤ q % 102 ∧ q % 102 ≤ 100 := ⟨Nat.pos_of_ne_zero (fun z => c453 (by rw [rt, z]; decide)), by have := mt (fun h => (nI_le (a := 101) h (by omega) : (101 : Int32) ≤ nI (q % 102))) (by rw [rt] at c460; exact c460); omega⟩
        rw [rt]
        exact FN1 RR hNr _ hm okm
  have GY : ∀ c, c < 36 → ¬ σ.2 25 c = -1 → Y w mL_isRoom θ0 (PL κ p l) (fun v κ' => PQ κ p v κ') (fun _ _ => False) 0 0 444 [some (.ref (tS 4)), some (.ref (tM 7)), some (.ref (tM 8)), some (.ref (tM 9)), some (.int x), some (.int (nI o)), some (.int (nI q)), some (.int (nI c)), some (.int 1), none, none, none, none, none] [] (PL κ p l) := by
    intro c hc hc1
    refine runL_go (κ := κ) (p := p) rkL_isRoom (fun p => Nat.beq p 468) 300 rfl ?_
    refine And.intro (by decide) ?_
    refine And.intro (fun c453 => ?_) (fun c453 => ?_)
    · skip
      have rt : nI q - nI q / 102 * 102 = nI (q % 102) := rm_nI (d := 102) (by omega) (by decide) (by decide)
      have hm : q % 102 < 102 := Nat.mod_lt _ (by decide)
      have okm : ¬ (1 ≤ q % 102 ∧ q % 102 ≤ 100) := fun z => by
        first
        | (rw [rt] at c453; exact nI_nle (n := q % 102) (by omega) (by omega) c453)
        | (rw [rt] at c460; have := (nI_leI (a := 101) (by decide) (by omega)).mp c460; omega)
      rw [rt]
      exact FB c hc hc1 _ hm okm
    · skip
      refine And.intro (fun c460 => ?_) (fun c460 => ?_)
      · skip
        have rt : nI q - nI q / 102 * 102 = nI (q % 102) := rm_nI (d := 102) (by omega) (by decide) (by decide)
        have hm : q % 102 < 102 := Nat.mod_lt _ (by decide)
        have okm : ¬ (1 ≤ q % 102 ∧ q % 102 ≤ 100) := fun z => by
          first
          | (rw [rt] at c453; exact nI_nle (n := q % 102) (by omega) (by omega) c453)
          | (rw [rt] at c460; have := (nI_leI (a := 101) (by decide) (by omega)).mp c460; omega)
        rw [rt]
        exact FB c hc hc1 _ hm okm
      · skip
        have rt : nI q - nI q / 102 * 102 = nI (q % 102) := rm_nI (d := 102) (by omega) (by decide) (by decide)
        have hm : q % 102 < 102 := Nat.mod_lt _ (by decide)
        have okm : 1 ≤ q % 102 ∧ q % 102 ≤ 100 := ⟨Nat.pos_of_ne_zero (fun z => c453 (by rw [rt, z]; decide)), by have := mt (fun h => (nI_le (a := 101) h (by omega) : (101 : Int32) ≤ nI (q % 102))) (by rw [rt] at c460; exact c460); omega⟩
        rw [rt]
        by_cases hp : ¬ σ.2 26 c = 0
        · by_cases hf : σ.2 27 c + nI (q % 102) ≤ 300
          · exact FD c hc hc1 _ hm okm hp hf
          · exact FCt c hc hc1 _ hm okm hp hf
        · exact FCp c hc hc1 _ hm okm hp
  have TN : ∀ RR : Int32, ¬ isRm σ RR → Y w mL_isRoom θ0 (PL κ p l) (fun v κ' => PQ κ p v κ') (fun _ _ => False) 0 0 49 [some (.ref (tS 4)), some (.ref (tM 7)), some (.ref (tM 8)), some (.ref (tM 9)), some (.int x), some (.int (nI o)), some (.int (nI q)), some (.int RR), none, none, none, none, none, none] [.int 0] (PL κ p l) := by
    intro RR hNr
    refine runL_go (κ := κ) (p := p) rkL_isRoom (fun p => Nat.beq p 69 || Nat.beq p 322 || Nat.beq p 444) 300 rfl ?_
    refine And.intro (fun c53 => ?_) (fun c53 => ?_)
    · skip
      refine And.intro (fun c319 => ?_) (fun c319 => ?_)
      · skip
        exact GN RR hNr
      · skip
        exact QN RR hNr
    · skip
      refine And.intro (by decide) ?_
      refine And.intro (fun c61 => ?_) (fun c61 => ?_)
      · skip
        exact MN0 RR hNr
      · skip
        exact MN1 RR hNr
  have TY : ∀ c, c < 36 → ¬ σ.2 25 c = -1 → Y w mL_isRoom θ0 (PL κ p l) (fun v κ' => PQ κ p v κ') (fun _ _ => False) 0 0 49 [some (.ref (tS 4)), some (.ref (tM 7)), some (.ref (tM 8)), some (.ref (tM 9)), some (.int x), some (.int (nI o)), some (.int (nI q)), some (.int (nI c)), none, none, none, none, none, none] [.int 1] (PL κ p l) := by
    intro c hc hc1
    refine runL_go (κ := κ) (p := p) rkL_isRoom (fun p => Nat.beq p 69 || Nat.beq p 322 || Nat.beq p 444) 300 rfl ?_
    refine And.intro (fun c53 => ?_) (fun c53 => ?_)
    · skip
      refine And.intro (fun c319 => ?_) (fun c319 => ?_)
      · skip
        exact GY c hc hc1
      · skip
        by_cases hp : σ.2 26 c = 0
        · exact QP c hc hc1 hp
        · exact QO c hc hc1 hp
    · skip
      refine And.intro (by decide) ?_
      refine And.intro (fun c61 => ?_) (fun c61 => ?_)
      · skip
        exact MY0 c hc hc1
      · skip
        exact MY1 c hc hc1
  have S0 : Y w mL_isRoom θ0 (PL κ p l) (fun v κ' => PQ κ p v κ') (fun _ _ => False) 0 0 9 [some (.ref (tS 4)), some (.ref (tM 7)), some (.ref (tM 8)), some (.ref (tM 9)), some (.int x), some (.int (nI o)), some (.int (nI q)), some (.int (-1)), none, none, none, none, none, none] [] (PL κ p l) := by
    refine runL_go (κ := κ) (p := p) rkL_isRoom (fun p => Nat.beq p 49) 300 rfl ?_
    refine And.intro (fun c11 => ?_) (fun c11 => False.elim (by first | exact c11 (by decide) | exact absurd (by decide) c11 | exact absurd c11 (by decide)))
    exact TN _ (fun z => absurd z.1.1 (by decide))
  have S37 : Y w mL_isRoom θ0 (PL κ p l) (fun v κ' => PQ κ p v κ') (fun _ _ => False) 0 0 9 [some (.ref (tS 4)), some (.ref (tM 7)), some (.ref (tM 8)), some (.ref (tM 9)), some (.int x), some (.int (nI o)), some (.int (nI q)), some (.int 36), none, none, none, none, none, none] [] (PL κ p l) := by
    refine runL_go (κ := κ) (p := p) rkL_isRoom (fun p => Nat.beq p 49) 300 rfl ?_
    refine And.intro (fun c11 => False.elim (by first | exact c11 (by decide) | exact absurd (by decide) c11 | exact absurd c11 (by decide))) (fun c11 => ?_)
    refine And.intro (fun c18 => ?_) (fun c18 => False.elim (by first | exact c18 (by decide) | exact absurd (by decide) c18 | exact absurd c18 (by decide)))
    exact TN _ (fun z => absurd z.1.2 (by decide))
  have SC : ∀ c, c < 36 → Y w mL_isRoom θ0 (PL κ p l) (fun v κ' => PQ κ p v κ') (fun _ _ => False) 0 0 9 [some (.ref (tS 4)), some (.ref (tM 7)), some (.ref (tM 8)), some (.ref (tM 9)), some (.int x), some (.int (nI o)), some (.int (nI q)), some (.int (nI c)), none, none, none, none, none, none] [] (PL κ p l) := by
    intro c hc
    refine runL_go (κ := κ) (p := p) rkL_isRoom (fun p => Nat.beq p 49) 300 rfl ?_
    refine And.intro (fun c11 => False.elim (by first | exact c11 (nI_pos (by omega)) | exact absurd (nI_pos (by omega)) c11 | exact absurd c11 (nI_pos (by omega)))) (fun c11 => ?_)
    refine And.intro (fun c18 => False.elim (by first | exact c18 (fun z => by have := (nI_leI (a := 36) (by decide) (by omega)).mp z; omega) | exact absurd (fun z => by have := (nI_leI (a := 36) (by decide) (by omega)).mp z; omega) c18 | exact absurd c18 (fun z => by have := (nI_leI (a := 36) (by decide) (by omega)).mp z; omega))) (fun c18 => ?_)
    refine And.intro (fun c24 => False.elim (by first | exact c24 (nI_pos (by omega)) | exact absurd (nI_pos (by omega)) c24 | exact absurd c24 (nI_pos (by omega)))) (fun c24 => ?_)
    refine And.intro (fun c31 => ?_) (fun c31 => False.elim (by first | exact c31 (nI_le (b := 35) (by omega) (by decide)) | exact absurd (nI_le (b := 35) (by omega) (by decide)) c31 | exact absurd c31 (nI_le (b := 35) (by omega) (by decide))))
    refine ⟨7, c, A.ld (by decide) (show c < 36 by omega) rfl, ?_⟩
    refine And.intro (fun c41 => ?_) (fun c41 => ?_)
    · skip
      exact TN _ (fun z => (IR c hc).mp z ((LT c hc).mp c41))
    · skip
      exact TY c hc (fun z => c41 ((LT c hc).mpr z))
  have K9 : ∀ RR : Int32, (RR = -1 ∨ RR = 36 ∨ ∃ c, c < 36 ∧ RR = nI c) → Y w mL_isRoom θ0 (PL κ p l) (fun v κ' => PQ κ p v κ') (fun _ _ => False) 0 0 9 [some (.ref (tS 4)), some (.ref (tM 7)), some (.ref (tM 8)), some (.ref (tM 9)), some (.int x), some (.int (nI o)), some (.int (nI q)), some (.int RR), none, none, none, none, none, none] [] (PL κ p l) := by
    rintro RR (rfl | rfl | ⟨c, hc, rfl⟩)
    · exact S0
    · exact S37
    · exact SC c hc
  have r38 : nI o - nI o / 38 * 38 = nI (o % 38) := rm_nI (d := 38) (by omega) (by decide) (by decide)
  have h38 : o % 38 < 38 := Nat.mod_lt _ (by decide)
  refine runL_ok rkL_isRoom (fun p => Nat.beq p 9) 300 _ _ _ _ _ _ ?_
  refine And.intro (by decide) ?_
  exact K9 _ (by
    rw [r38]
    by_cases z0 : o % 38 = 0
    · rw [z0]; exact Or.inl (by decide)
    · rw [nI_s1 (by omega)]
      by_cases z37 : o % 38 = 37
      · rw [z37]; exact Or.inr (Or.inl (by decide))
      · exact Or.inr (Or.inr ⟨_, by omega, rfl⟩))

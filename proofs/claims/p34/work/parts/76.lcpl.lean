
/-! WHAT EACH CHANGE LEAVES OF THE TIE BETWEEN THE LAW'S ARRAYS AND THE STATE -/
theorem cB.cong {l l' : LSt} {σ σ' : MS} {nb : Nat} (h : cB l σ nb) (hl : ∀ j, j < 6 → ∀ i, i < nb → l' j i = l j i) (hs : ∀ j, 9 ≤ j → j ≤ 17 → ∀ i, i < nb → σ'.2 j i = σ.2 j i) : cB l' σ' nb := by
  intro i hi
  obtain ⟨⟨f, g, e, s, u, h1, h2, h3, h4, h5, h6, h7, h8, h9, h10, h11, h12, h13⟩, q1, q2, q3, q4, q5⟩ := h i hi
  have L := fun j hj => hl j hj i hi
  have S := fun j h1 h2 => hs j h1 h2 i hi
  refine ⟨⟨f, g, e, s, u, h1, h2, h3, h4, h5, h6, h7, ?_, ?_, ?_, ?_, ?_, ?_⟩, ?_, ?_, ?_, ?_, ?_⟩
  · rw [S 10 (by decide) (by decide)]; exact h8
  · rw [S 11 (by decide) (by decide)]; exact h9
  · rw [S 12 (by decide) (by decide)]; exact h10
  · rw [S 9 (by decide) (by decide)]; exact h11
  · rw [S 15 (by decide) (by decide)]; exact h12
  · rw [L 0 (by decide)]; exact h13
  · rw [L 1 (by decide), S 13 (by decide) (by decide)]; exact q1
  · rw [L 2 (by decide), S 14 (by decide) (by decide)]; exact q2
  · rw [L 3 (by decide), S 15 (by decide) (by decide)]; exact q3
  · rw [L 4 (by decide), S 9 (by decide) (by decide), S 16 (by decide) (by decide)]; exact q4
  · rw [L 5 (by decide), S 17 (by decide) (by decide)]; exact q5
theorem cW1.cong {x x' : Int32} {σ σ' : MS} {nb nb' k : Nat} (h : cW1 x σ nb k) (hx : x' = x) (hs : ∀ j, 19 ≤ j → j ≤ 24 → σ'.2 j k = σ.2 j k) (hb : nb ≤ nb') : cW1 x' σ' nb' k := by
  obtain ⟨s, d, r, f, e, b, h1, h2, h3, h4, h5, h6, h7, h8, h9, h10, h11, h12, h13, h14⟩ := h
  refine ⟨s, d, r, f, e, b, h1, h2, h3, h4, h5, by omega, h7, ?_, ?_, ?_, ?_, ?_, ?_, by rw [hx]; exact h14⟩
  · rw [hs 19 (by decide) (by decide)]; exact h8
  · rw [hs 20 (by decide) (by decide)]; exact h9
  · rw [hs 21 (by decide) (by decide)]; exact h10
  · rw [hs 22 (by decide) (by decide)]; exact h11
  · rw [hs 23 (by decide) (by decide)]; exact h12
  · rw [hs 24 (by decide) (by decide)]; exact h13
theorem cW.cong {l l' : LSt} {σ σ' : MS} {nb nb' nw : Nat} (h : cW l σ nb nw) (hl : ∀ k, k < nw → l' 6 k = l 6 k) (hs : ∀ j, 19 ≤ j → j ≤ 24 → ∀ k, k < nw → σ'.2 j k = σ.2 j k) (hb : nb ≤ nb') : cW l' σ' nb' nw := fun k hk => (h k hk).cong (hl k hk) (fun j h1 h2 => hs j h1 h2 k hk) hb
theorem cH1.cong {x x' : Int32} {σ σ' : MS} {c : Nat} (h : cH1 x σ c) (hx : x' = x) (hs : ∀ j, 26 ≤ j → j ≤ 29 → σ'.2 j c = σ.2 j c) : cH1 x' σ' c := by
  obtain ⟨P, H, Q, T, h1, h2, h3, h4, h5, h6, h7, h8, h9⟩ := h
  exact ⟨P, H, Q, T, h1, h2, h3, h4, by rw [hs 26 (by decide) (by decide)]; exact h5, by rw [hs 29 (by decide) (by decide)]; exact h6, by rw [hs 28 (by decide) (by decide)]; exact h7, by rw [hs 27 (by decide) (by decide)]; exact h8, by rw [hx]; exact h9⟩
theorem cR.cong {l l' : LSt} {σ σ' : MS} (h : cR l σ) (hl : ∀ j, 7 ≤ j → j ≤ 8 → ∀ c, c < 36 → l' j c = l j c) (hs : ∀ j, 25 ≤ j → j ≤ 29 → ∀ c, c < 36 → σ'.2 j c = σ.2 j c) : cR l' σ' := fun c hc => ⟨by rw [hl 7 (by decide) (by decide) c hc, hs 25 (by decide) (by decide) c hc]; exact (h c hc).1, (h c hc).2.cong (hl 8 (by decide) (by decide) c hc) (fun j h1 h2 => hs j (by omega) h2 c hc)⟩
theorem cG.cong {l l' : LSt} {σ σ' : MS} {nb nw np : Nat} (h : cG l σ nb nw np) (hl : ∀ k, l' 9 k = l 9 k) (hs : ∀ j, j < 5 ∨ j = 7 → σ'.1 j = σ.1 j) (h5 : ∀ y, y < 4 → σ'.2 5 y = σ.2 5 y) : cG l' σ' nb nw np := by
  obtain ⟨a0, a1, a2, a3, a4, a5, a9, a10, a11, a12⟩ := h
  refine ⟨?_, ?_, ?_, ?_, ?_, fun y hy => ?_, ?_, ?_, ?_, ?_⟩
  · rw [hl, hs 0 (by decide)]; exact a0
  · rw [hl, hs 1 (by decide)]; exact a1
  · rw [hl, hs 2 (by decide)]; exact a2
  · rw [hl, hs 3 (by decide)]; exact a3
  · rw [hl, hs 4 (by decide)]; exact a4
  · rw [hl, h5 y hy]; exact a5 y hy
  · rw [hl, hs 7 (by decide)]; exact a9
  · rw [hl]; exact a10
  · rw [hl]; exact a11
  · rw [hl]; exact a12
/-! draws -/
def sX (σ : MS) : Int32 := σ.1 4 * 1103515245 + 12345
theorem sDrw_eq {σ : MS} {k y : Nat} : sDrw σ k y = upA (upA (upS σ 4 (sX σ)) 20 k (if drC (sX σ) (σ.2 5 y) then 1 else 0)) 19 k 0 := rfl
theorem drX_eq {l : LSt} {σ : MS} (h : l 9 4 = σ.1 4) : drX l = sX σ := by unfold drX sX; rw [h]
theorem upA_s {σ : MS} {k i : Nat} {v : Int32} : (upA σ k i v).2 k i = v := if_pos ⟨rfl, rfl⟩
theorem upA_o {σ : MS} {k i k' i' : Nat} {v : Int32} (h : ¬ (k' = k ∧ i' = i)) : (upA σ k i v).2 k' i' = σ.2 k' i' := if_neg h
theorem sD_19 {σ : MS} {k y : Nat} : (sDrw σ k y).2 19 k = 0 := by rw [sDrw_eq, upA_s]
theorem sD_20 {σ : MS} {k y : Nat} : (sDrw σ k y).2 20 k = if drC (sX σ) (σ.2 5 y) then 1 else 0 := by rw [sDrw_eq, upA_o (fun z => absurd z.1 (by decide)), upA_s]
theorem sD_o {σ : MS} {k y j i : Nat} (h : ¬ i = k ∨ (j ≠ 19 ∧ j ≠ 20)) : (sDrw σ k y).2 j i = σ.2 j i := by
  rw [sDrw_eq, upA_o (fun z => h.elim (fun q => q z.2) (fun q => q.1 z.1)), upA_o (fun z => h.elim (fun q => q z.2) (fun q => q.2 z.1))]
  rfl
theorem dr_x {r f e b : Nat} {x : Int32} {c : Prop} [Decidable c] (hx : x / 8 * 8 = nI (eW 0 0 r f e b)) : x / 8 * 8 + (if c then 4 else 0) = nI (eW 0 (if c then 1 else 0) r f e b) := by
  rw [hx]
  split
  · rw [show (4 : Int32) = nI 4 from rfl, nI_add]; congr 1; unfold eW; omega
  · exact Int32.add_zero _
theorem dr_d {c : Prop} [Decidable c] : (if c then (1 : Int32) else 0) = nI (if c then 1 else 0) := by split <;> rfl
theorem dr_1 {c : Prop} [Decidable c] : (if c then 1 else 0) ≤ 1 := by split <;> decide
theorem drF_6 {l : LSt} {k y : Nat} : drF l k y 6 k = l 6 k / 8 * 8 + (if drC (drX l) (l 9 (5 + y)) then 4 else 0) := by unfold drF drG; rw [lu_s]
theorem drF_6o {l : LSt} {k y i : Nat} (h : ¬ i = k) : drF l k y 6 i = l 6 i := by unfold drF drG; rw [lu_o (fun z => h z.2), lu_o (fun z => absurd z.1 (by decide))]
theorem drF_94 {l : LSt} {k y : Nat} : drF l k y 9 4 = drX l := by unfold drF drG; rw [lu_o (fun z => absurd z.1 (by decide)), lu_s]
theorem drF_9o {l : LSt} {k y i : Nat} (h : ¬ i = 4) : drF l k y 9 i = l 9 i := by unfold drF drG; rw [lu_o (fun z => absurd z.1 (by decide)), lu_o (fun z => h z.2)]
theorem drF_o {l : LSt} {k y j i : Nat} (h1 : j ≠ 6) (h2 : j ≠ 9) : drF l k y j i = l j i := by unfold drF drG; rw [lu_o (fun z => h1 z.1), lu_o (fun z => h2 z.1)]
theorem dr_W {l : LSt} {σ : MS} {B nw k y : Nat} (hB : B ≤ 41) (h : cW l σ B nw) (hk : k < nw) (h4 : l 9 4 = σ.1 4) (h5 : l 9 (5 + y) = σ.2 5 y) : cW (drF l k y) (sDrw σ k y) B nw := by
  intro i hi
  by_cases e : i = k
  · subst e
    obtain ⟨s, d, r, f, e, b, h1, h2, h3, h4', h5', h6, h7, h8, h9, h10, h11, h12, h13, h14⟩ := h i hk
    refine ⟨0, (if drC (sX σ) (σ.2 5 y) then 1 else 0), r, f, e, b, by decide, dr_1, h3, h4', h5', h6, h7, sD_19, sD_20.trans dr_d, ?_, ?_, ?_, ?_, ?_⟩
    · rw [sD_o (Or.inr ⟨by decide, by decide⟩)]; exact h10
    · rw [sD_o (Or.inr ⟨by decide, by decide⟩)]; exact h11
    · rw [sD_o (Or.inr ⟨by decide, by decide⟩)]; exact h12
    · rw [sD_o (Or.inr ⟨by decide, by decide⟩)]; exact h13
    · rw [drF_6, drX_eq h4, h5]
      exact dr_x (by rw [h14]; exact eW_8 h1 h2 h3 h4' h5' (by omega))
  · exact (h i hi).cong (drF_6o e) (fun j _ _ => sD_o (Or.inl e)) (Nat.le_refl _)
theorem dr_G {l : LSt} {σ : MS} {nb nw np k y : Nat} (h : cG l σ nb nw np) : cG (drF l k y) (sDrw σ k y) nb nw np := by
  obtain ⟨a0, a1, a2, a3, a4, a5, a9, a10, a11, a12⟩ := h
  have S : ∀ n, n ≠ 4 → (sDrw σ k y).1 n = σ.1 n := fun n hn => sDrw_num hn
  refine ⟨?_, ?_, ?_, ?_, ?_, fun z hz => ?_, ?_, ?_, ?_, ?_⟩
  · rw [drF_9o (by decide), S _ (by decide)]; exact a0
  · rw [drF_9o (by decide), S _ (by decide)]; exact a1
  · rw [drF_9o (by decide), S _ (by decide)]; exact a2
  · rw [drF_9o (by decide), S _ (by decide)]; exact a3
  · rw [drF_94, drX_eq a4]; rfl
  · rw [drF_9o (by omega), sD_o (Or.inr ⟨by decide, by decide⟩)]; exact a5 z hz
  · rw [drF_9o (by decide), S _ (by decide)]; exact a9
  · rw [drF_9o (by decide)]; exact a10
  · rw [drF_9o (by decide)]; exact a11
  · rw [drF_9o (by decide)]; exact a12
/-! welds -/
def wl0 (l : LSt) (n : Nat) (b f e : Int32) : LSt := lu (lu l 6 n (32 * f + 512 * e + 2048 * (b + 1))) 9 9 (l 9 9 - 20)
def nw0 (σ : MS) (n : Nat) (b f v : Int32) : MS := upS (upS (upA (upA (upA (upA σ 21 n 0) 22 n f) 23 n v) 24 n b) 18 (σ.1 18 + 1)) 7 (σ.1 7 - 20)
theorem sMak_0 {σ : MS} {b f v : Int32} {n y : Nat} (e : σ.1 18 = nI n) (hn : n < 2 ^ 31) : sMak σ b f v y = sDrw (nw0 σ n b f v) n y := by
  unfold sMak nw0
  rw [e, nI_clamp hn]
theorem wlF_0 {l : LSt} {n : Nat} {b f e : Int32} {y : Nat} : wlF l n b f e y = lu (drF (wl0 l n b f e) n y) 9 11 (l 9 11 + 1) := rfl
theorem nw0_v {σ : MS} {n : Nat} {b f v : Int32} : (nw0 σ n b f v).2 21 n = 0 ∧ (nw0 σ n b f v).2 22 n = f ∧ (nw0 σ n b f v).2 23 n = v ∧ (nw0 σ n b f v).2 24 n = b := by
  refine ⟨?_, ?_, ?_, ?_⟩
  · show (upA (upA (upA (upA σ 21 n 0) 22 n f) 23 n v) 24 n b).2 21 n = _
    rw [upA_o (fun z => absurd z.1 (by decide)), upA_o (fun z => absurd z.1 (by decide)), upA_o (fun z => absurd z.1 (by decide)), upA_s]
  · show (upA (upA (upA (upA σ 21 n 0) 22 n f) 23 n v) 24 n b).2 22 n = _
    rw [upA_o (fun z => absurd z.1 (by decide)), upA_o (fun z => absurd z.1 (by decide)), upA_s]
  · show (upA (upA (upA (upA σ 21 n 0) 22 n f) 23 n v) 24 n b).2 23 n = _
    rw [upA_o (fun z => absurd z.1 (by decide)), upA_s]
  · show (upA (upA (upA (upA σ 21 n 0) 22 n f) 23 n v) 24 n b).2 24 n = _
    rw [upA_s]
theorem nw0_o {σ : MS} {n j i : Nat} {b f v : Int32} (h : ¬ i = n ∨ j < 21 ∨ 24 < j) : (nw0 σ n b f v).2 j i = σ.2 j i := by
  show (upA (upA (upA (upA σ 21 n 0) 22 n f) 23 n v) 24 n b).2 j i = _
  rw [upA_o (fun z => by rcases h with q | q | q <;> omega), upA_o (fun z => by rcases h with q | q | q <;> omega), upA_o (fun z => by rcases h with q | q | q <;> omega), upA_o (fun z => by rcases h with q | q | q <;> omega)]
theorem wl_W {l : LSt} {σ : MS} {B nw f e bk y : Nat} (hB : B ≤ 41) (h : cW l σ B nw) (hnw : nw < 60) (e18 : σ.1 18 = nI nw) (h4 : l 9 4 = σ.1 4) (h5 : l 9 (5 + y) = σ.2 5 y) (hy : y < 4) (hf1 : 1 ≤ f) (hf : f ≤ 11) (he : e ≤ 2) (hb : bk ≤ B) : cW (wlF l nw (nI bk - 1) (nI f) (nI e) y) (sMak σ (nI bk - 1) (nI f) (nI e) y) B (nw + 1) := by
  rw [sMak_0 e18 (by omega), wlF_0]
  have W0 : cW (drF (wl0 l nw (nI bk - 1) (nI f) (nI e)) nw y) (sDrw (nw0 σ nw (nI bk - 1) (nI f) (nI e)) nw y) B (nw + 1) := by
    have a4 : wl0 l nw (nI bk - 1) (nI f) (nI e) 9 4 = (nw0 σ nw (nI bk - 1) (nI f) (nI e)).1 4 := h4
    have a5 : wl0 l nw (nI bk - 1) (nI f) (nI e) 9 (5 + y) = (nw0 σ nw (nI bk - 1) (nI f) (nI e)).2 5 y := by
      unfold wl0
      rw [lu_o (fun z => by omega), lu_o (fun z => absurd z.1 (by decide)), nw0_o (Or.inr (Or.inl (by decide)))]
      exact h5
    intro i hi
    by_cases ei : i = nw
    · subst ei
      obtain ⟨v1, v2, v3, v4⟩ := nw0_v (σ := σ) (n := i) (b := nI bk - 1) (f := nI f) (v := nI e)
      refine ⟨0, (if drC (sX (nw0 σ i (nI bk - 1) (nI f) (nI e))) ((nw0 σ i (nI bk - 1) (nI f) (nI e)).2 5 y) then 1 else 0), 0, f, e, bk, by decide, dr_1, by decide, hf, he, hb, hf1, sD_19, sD_20.trans dr_d, ?_, ?_, ?_, ?_, ?_⟩
      · rw [sD_o (Or.inr ⟨by decide, by decide⟩)]; exact v1
      · rw [sD_o (Or.inr ⟨by decide, by decide⟩)]; exact v2
      · rw [sD_o (Or.inr ⟨by decide, by decide⟩)]; exact v3
      · rw [sD_o (Or.inr ⟨by decide, by decide⟩)]; exact v4
      · rw [drF_6, drX_eq a4, a5]
        refine dr_x ?_
        have ev : wl0 l i (nI bk - 1) (nI f) (nI e) 6 i = nI (eW 0 0 0 f e bk) := by
          unfold wl0
          rw [lu_o (fun z => absurd z.1 (by decide)), lu_s, show nI bk - 1 + 1 = nI bk from Int32.sub_add_cancel _ _, show (32 : Int32) = nI 32 from rfl, show (512 : Int32) = nI 512 from rfl, show (2048 : Int32) = nI 2048 from rfl, pk_mul, pk_mul, pk_mul, nI_add, nI_add]
          congr 1
          unfold eW
          omega
        rw [ev]
        exact eW_8 (by decide) (by decide) (by decide) hf he (by omega)
    · have hi2 : i < nw := by omega
      refine (h i hi2).cong ?_ (fun j _ _ => ?_) (Nat.le_refl _)
      · rw [drF_6o ei]
        unfold wl0
        rw [lu_o (fun z => absurd z.1 (by decide)), lu_o (fun z => ei z.2)]
      · rw [sD_o (Or.inl ei), nw0_o (Or.inl ei)]
  exact W0.cong (fun k _ => lu_o (fun z => absurd z.1 (by decide))) (fun _ _ _ _ _ => rfl) (Nat.le_refl _)
theorem wl_G {l : LSt} {σ : MS} {nb nw np f e bk y : Nat} (h : cG l σ nb nw np) (hnw : nw < 60) (e18 : σ.1 18 = nI nw) : cG (wlF l nw (nI bk - 1) (nI f) (nI e) y) (sMak σ (nI bk - 1) (nI f) (nI e) y) nb (nw + 1) np := by
  rw [sMak_0 e18 (by omega), wlF_0]
  have h0 : cG (wl0 l nw (nI bk - 1) (nI f) (nI e)) (nw0 σ nw (nI bk - 1) (nI f) (nI e)) nb nw np := by
    obtain ⟨a0, a1, a2, a3, a4, a5, a9, a10, a11, a12⟩ := h
    have L : ∀ k, ¬ k = 9 → wl0 l nw (nI bk - 1) (nI f) (nI e) 9 k = l 9 k := fun k hk => by unfold wl0; rw [lu_o (fun z => hk z.2), lu_o (fun z => absurd z.1 (by decide))]
    refine ⟨?_, ?_, ?_, ?_, ?_, fun z hz => ?_, ?_, ?_, ?_, ?_⟩
    · rw [L _ (by decide)]; exact a0
    · rw [L _ (by decide)]; exact a1
    · rw [L _ (by decide)]; exact a2
    · rw [L _ (by decide)]; exact a3
    · rw [L _ (by decide)]; exact a4
    · rw [L _ (by omega), nw0_o (Or.inr (Or.inl (by decide)))]; exact a5 z hz
    · unfold wl0; rw [lu_s, a9]; rfl
    · rw [L _ (by decide)]; exact a10
    · rw [L _ (by decide)]; exact a11
    · rw [L _ (by decide)]; exact a12
  obtain ⟨a0, a1, a2, a3, a4, a5, a9, a10, a11, a12⟩ := dr_G (k := nw) (y := y) h0
  have L : ∀ k, ¬ k = 11 → lu (drF (wl0 l nw (nI bk - 1) (nI f) (nI e)) nw y) 9 11 (l 9 11 + 1) 9 k = drF (wl0 l nw (nI bk - 1) (nI f) (nI e)) nw y 9 k := fun k hk => lu_o (fun z => hk z.2)
  refine ⟨?_, ?_, ?_, ?_, ?_, fun z hz => ?_, ?_, ?_, ?_, ?_⟩
  · rw [L _ (by decide)]; exact a0
  · rw [L _ (by decide)]; exact a1
  · rw [L _ (by decide)]; exact a2
  · rw [L _ (by decide)]; exact a3
  · rw [L _ (by decide)]; exact a4
  · rw [L _ (by omega)]; exact a5 z hz
  · rw [L _ (by decide)]; exact a9
  · rw [L _ (by decide)]; exact a10
  · rw [lu_s, h.2.2.2.2.2.2.2.2.1]; exact nI_1 nw
  · rw [L _ (by decide)]; exact a12
theorem wlF_o {l : LSt} {n j i : Nat} {b f e : Int32} {y : Nat} (h1 : j ≠ 6) (h2 : j ≠ 9) : wlF l n b f e y j i = l j i := by
  rw [wlF_0, lu_o (fun z => h2 z.1), drF_o h1 h2]
  unfold wl0
  rw [lu_o (fun z => h2 z.1), lu_o (fun z => h1 z.1)]
/-! spoiling -/
theorem sp1_o {l : LSt} {c j i : Nat} (h : ¬ (j = 8 ∧ i = c)) : sp1 l c j i = l j i := lu_o h
theorem sp1_R {l : LSt} {σ : MS} {c : Nat} (h : cR l σ) : cR (sp1 l c) (upA σ 26 c 0) := by
  intro i hi
  obtain ⟨q, r⟩ := h i hi
  refine ⟨by rw [sp1_o (fun z => absurd z.1 (by decide)), upA_o (fun z => absurd z.1 (by decide))]; exact q, ?_⟩
  by_cases e : i = c
  · subst e
    obtain ⟨P, H, Q, T, h1, h2, h3, h4, h5, h6, h7, h8, h9⟩ := r
    refine ⟨0, H, Q, T, by decide, h2, h3, h4, upA_s, ?_, ?_, ?_, ?_⟩
    · rw [upA_o (fun z => absurd z.1 (by decide))]; exact h6
    · rw [upA_o (fun z => absurd z.1 (by decide))]; exact h7
    · rw [upA_o (fun z => absurd z.1 (by decide))]; exact h8
    · unfold sp1
      rw [lu_s, h9, eH_p h1 h2 h3 h4, show nI (eH P H Q T) = nI (eH 0 H Q T) + nI P by rw [nI_add]; congr 1; unfold eH; omega]
      exact Int32.add_sub_cancel _ _
  · exact r.cong (sp1_o (fun z => e z.2)) (fun j _ _ => upA_o (fun z => e z.2))
theorem spF_R {l : LSt} {σ : MS} {f e : Nat} (h : cR l σ) (hf1 : 1 ≤ f) (hf : f ≤ 11) (he : e ≤ 2) : cR (spF l (12 * e + f)) (sSpo σ (nI f) (nI e)) := by
  have e1 : sSpo σ (nI f) (nI e) = upA (upA σ 26 (12 * e + f - 1) 0) 26 (12 * e + f) 0 := by
    unfold sSpo
    rw [ix12m hf1, ix12, nI_clamp (by omega), nI_clamp (by omega)]
  have e2 : upA (upA σ 26 (12 * e + f - 1) 0) 26 (12 * e + f) 0 = upA (upA σ 26 (12 * e + f) 0) 26 (12 * e + f - 1) 0 := by
    refine Prod.ext rfl (funext fun j => funext fun n => ?_)
    show (if j = 26 ∧ n = 12 * e + f then 0 else if j = 26 ∧ n = 12 * e + f - 1 then 0 else σ.2 j n) = if j = 26 ∧ n = 12 * e + f - 1 then 0 else if j = 26 ∧ n = 12 * e + f then 0 else σ.2 j n
    by_cases h1 : j = 26 ∧ n = 12 * e + f <;> by_cases h2 : j = 26 ∧ n = 12 * e + f - 1 <;> simp only [h1, h2, if_true, if_false] <;> simp
  rw [e1, e2]
  exact sp1_R (sp1_R h)
theorem spF_o {l : LSt} {c j i : Nat} (h : j ≠ 8) : spF l c j i = l j i := by
  unfold spF
  rw [sp1_o (fun z => h z.1), sp1_o (fun z => h z.1)]

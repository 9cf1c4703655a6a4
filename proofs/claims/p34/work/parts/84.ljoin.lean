
/-! THE LAW'S isBlock 4: two blocks are joined -/
theorem lt_1 {x d : Int32} (h0 : -1000 ≤ x) (h1 : x ≤ 10000) : (d ≤ x ↔ ¬ x + 1 ≤ d) := by
  have a1 := Int32.le_iff_toInt_le.mp h0
  have a2 := Int32.le_iff_toInt_le.mp h1
  rw [show (-1000 : Int32).toInt = -1000 from rfl] at a1
  rw [show (10000 : Int32).toInt = 10000 from rfl] at a2
  rw [Int32.le_iff_toInt_le, Int32.le_iff_toInt_le, Int32.toInt_add, show (1 : Int32).toInt = 1 from rfl, Int.bmod_eq_of_le (by omega) (by omega)]
  omega
theorem sub_b {a b : Nat} (ha : a ≤ 100) (hb : b ≤ 100) : -1000 ≤ nI a - nI b ∧ nI a - nI b ≤ 10000 := by
  have e : (nI a - nI b).toInt = a - b := by
    rw [Int32.toInt_sub, nI_toInt (by omega), nI_toInt (by omega), Int.bmod_eq_of_le (by omega) (by omega)]
  rw [Int32.le_iff_toInt_le, Int32.le_iff_toInt_le, e, show (-1000 : Int32).toInt = -1000 from rfl, show (10000 : Int32).toInt = 10000 from rfl]
  omega
theorem pr_B {l : LSt} {σ : MS} {N i n : Nat} (B : cB l σ N) (hi : i < N) (h9 : σ.2 9 i = 0) : cB (lu (lu l 5 i (nI n)) 0 i (l 0 i + 1024)) (prS σ i n) N := by
  intro k hk
  obtain ⟨⟨f, g, e, s, u, a1, a2, a3, a4, a5, a6, a7, a8, a9, a10, a11, a12, a13⟩, q1, q2, q3, q4, q5⟩ := B k hk
  by_cases ek : k = i
  · subst ek
    have s0 : s = 0 := (nI_eq (b := 0) (by omega) (by decide)).mp (a11.symm.trans h9)
    subst s0
    refine ⟨⟨f, g, e, 1, u, a1, a2, a3, by decide, a5, a6, a7, ?_, ?_, ?_, ?_, ?_, ?_⟩, ?_, ?_, ?_, fun z => ?_, ?_⟩
    · rw [prS_row (by decide) (by decide)]; exact a8
    · rw [prS_row (by decide) (by decide)]; exact a9
    · rw [prS_row (by decide) (by decide)]; exact a10
    · rw [prS_9, if_pos rfl]; rfl
    · rw [prS_row (by decide) (by decide)]; exact a12
    · rw [lu_s, a13, show (1024 : Int32) = nI 1024 from rfl, nI_add]; congr 1 <;> (unfold eA; omega)
    · rw [lu_o (fun z => absurd z.1 (by decide)), lu_o (fun z => absurd z.1 (by decide)), prS_row (by decide) (by decide)]; exact q1
    · rw [lu_o (fun z => absurd z.1 (by decide)), lu_o (fun z => absurd z.1 (by decide)), prS_row (by decide) (by decide)]; exact q2
    · rw [lu_o (fun z => absurd z.1 (by decide)), lu_o (fun z => absurd z.1 (by decide)), prS_row (by decide) (by decide)]; exact q3
    · rw [prS_9, if_pos rfl] at z; exact absurd z (by decide)
    · rw [lu_o (fun z => absurd z.1 (by decide)), lu_s, prS_17, if_pos rfl]
  · have L : ∀ j, lu (lu l 5 i (nI n)) 0 i (l 0 i + 1024) j k = l j k := fun j => by rw [lu_o (fun z => ek z.2), lu_o (fun z => ek z.2)]
    refine ⟨⟨f, g, e, s, u, a1, a2, a3, a4, a5, a6, a7, ?_, ?_, ?_, ?_, ?_, ?_⟩, ?_, ?_, ?_, fun z => ?_, ?_⟩
    · rw [prS_row (by decide) (by decide)]; exact a8
    · rw [prS_row (by decide) (by decide)]; exact a9
    · rw [prS_row (by decide) (by decide)]; exact a10
    · rw [prS_9, if_neg ek]; exact a11
    · rw [prS_row (by decide) (by decide)]; exact a12
    · rw [L]; exact a13
    · rw [L, prS_row (by decide) (by decide)]; exact q1
    · rw [L, prS_row (by decide) (by decide)]; exact q2
    · rw [L, prS_row (by decide) (by decide)]; exact q3
    · rw [prS_9, if_neg ek] at z; rw [L, prS_row (by decide) (by decide)]; exact q4 z
    · rw [L, prS_17, if_neg ek]; exact q5
/-- the law's arrays behind the weld, up to the new block -/
def jl4 (l1 : LSt) (x y n : Nat) : LSt := lu (lu (lu (lu l1 5 x (nI n)) 5 y (nI n)) 0 x (l1 0 x + 1024)) 0 y (l1 0 y + 1024)
def jlF (l1 : LSt) (x y n : Nat) (a t g u : Int32) : LSt := lu (adF (jl4 l1 x y n) n a t g u) 5 n (-1)
theorem jlF_hi {l1 : LSt} {x y n j k : Nat} {a t g u : Int32} (h1 : 6 ≤ j) (h2 : ¬ (j = 9 ∧ k = 10)) : jlF l1 x y n a t g u j k = l1 j k := by
  unfold jlF
  rw [lu_o (fun z => by omega), adF_o h1 h2]
  unfold jl4
  rw [lu_o (fun z => by omega), lu_o (fun z => by omega), lu_o (fun z => by omega), lu_o (fun z => by omega)]
theorem jlF_lo {l1 : LSt} {x y n j k : Nat} {a t g u : Int32} (hxy : ¬ y = x) (hx : x < n) (hy : y < n) (hj : j < 6) : jlF l1 x y n a t g u j k = lu (lu (lu (lu (adF l1 n a t g u) 5 x (nI n)) 0 x (adF l1 n a t g u 0 x + 1024)) 5 y (nI n)) 0 y (lu (lu (adF l1 n a t g u) 5 x (nI n)) 0 x (adF l1 n a t g u 0 x + 1024) 0 y + 1024) j k := by
  have e1 : adF l1 n a t g u 0 x = l1 0 x := by unfold adF; simp only [lu]; grind
  have e2 : lu (lu (adF l1 n a t g u) 5 x (nI n)) 0 x (adF l1 n a t g u 0 x + 1024) 0 y = l1 0 y := by unfold adF; simp only [lu]; grind
  rw [e1] at e2 ⊢
  rw [e2]
  unfold jlF jl4 adF
  rcases (show j = 0 ∨ j = 1 ∨ j = 2 ∨ j = 3 ∨ j = 4 ∨ j = 5 by omega) with rfl | rfl | rfl | rfl | rfl | rfl
  all_goals (simp [lu]; try grind)
theorem jn_Cp {l : LSt} {σ : MS} {nb nw np x c y f1 g1 f2 g2 e u1 u2 : Nat} (C : Cp l σ nb nw np) (e8 : σ.1 8 = nI nb) (hnb : nb < 40) (hnw : nw < 60) (hx : x < nb) (hc : c < nb) (hxc : ¬ c = x) (hy : y < 4) (h1 : σ.2 9 x = 0) (h2 : σ.2 9 c = 0)
    (hf1 : f1 ≤ g1) (hg1 : g1 + 1 = f2) (hf2 : f2 ≤ g2) (hg2 : g2 ≤ 11) (he : e ≤ 2) (a10 : σ.2 10 x = nI f1) (a11 : σ.2 11 x = nI g1) (b10 : σ.2 10 c = nI f2) (b11 : σ.2 11 c = nI g2) (a12 : σ.2 12 x = nI e) (a15 : σ.2 15 x = nI u1) (b15 : σ.2 15 c = nI u2) (hu1 : 1 ≤ u1) (hu1' : u1 ≤ 8 * (g1 + 1 - f1)) (hu2 : u2 ≤ 8 * (g2 + 1 - f2)) :
    Cp (jlF (wlF l nw (nI nb) (nI f2) (nI e) y) x c nb (nI (eA f1 g2 e 0)) (σ.2 13 x + σ.2 13 c + 1) (σ.2 14 x + σ.2 14 c - 3 + nI e) (nI u1 + nI u2)) (sMak (jnS (upS σ 34 0) nb (nI x) (nI c)) (nI nb) (nI f2) (nI e) y) (nb + 1) (nw + 1) np := by
  have D := QD_34 (c := 0) C.2.1
  obtain ⟨B, W, R, G, z18⟩ := id D
  have eJ : jnS (upS σ 34 0) nb (nI x) (nI c) = prS (prS (nbS (upS σ 34 0) nb (nI f1) (nI g2) (nI e) (σ.2 13 x + σ.2 13 c + 1) (σ.2 14 x + σ.2 14 c - 3 + nI e) (nI (u1 + u2))) x nb) c nb := by
    unfold jnS
    rw [nI_clamp (by omega), nI_clamp (by omega)]
    show prS (prS (nbS (upS σ 34 0) nb (σ.2 10 x) (σ.2 11 c) (σ.2 12 x) (σ.2 13 x + σ.2 13 c + 1) (σ.2 14 x + σ.2 14 c - 3 + σ.2 12 x) (σ.2 15 x + σ.2 15 c)) x nb) c nb = _
    rw [a10, b11, a12, a15, b15, nI_add]
  have S : ∀ j, (j < 9 ∨ 17 < j) → (jnS (upS σ 34 0) nb (nI x) (nI c)).2 j = σ.2 j := fun j h => by
    rw [eJ, prS_row (by omega) (by omega), prS_row (by omega) (by omega), nbS_row h]; rfl
  have N : ∀ j, j ≠ 8 → j ≠ 34 → (jnS (upS σ 34 0) nb (nI x) (nI c)).1 j = σ.1 j := fun j h h3 => by
    rw [eJ]
    show (nbS (upS σ 34 0) nb (nI f1) (nI g2) (nI e) _ _ _).1 j = _
    rw [nbS_num h]; exact if_neg h3
  have e18 : (jnS (upS σ 34 0) nb (nI x) (nI c)).1 18 = nI nw := (N 18 (by decide) (by decide)).trans z18
  have W1 : cW l (jnS (upS σ 34 0) nb (nI x) (nI c)) (nb + 1) nw := W.cong (fun _ _ => rfl) (fun j _ _ k _ => by rw [S j (by omega)]; rfl) (by omega)
  have G1 : cG l (jnS (upS σ 34 0) nb (nI x) (nI c)) nb nw np := G.cong (fun _ => rfl) (fun j hj => by rw [N j (by omega) (by omega)]; exact (if_neg (by omega)).symm) (fun z _ => by rw [S 5 (by decide)]; rfl)
  have w := wl_W (B := nb + 1) (bk := nb + 1) (y := y) (f := f2) (e := e) (by omega) W1 hnw e18 G1.2.2.2.2.1 (G1.2.2.2.2.2.1 y hy) hy (by omega) (by omega) he (Nat.le_refl _)
  have g := wl_G (bk := nb + 1) (f := f2) (e := e) (y := y) G1 hnw e18
  rw [nI_pred] at w g
  obtain ⟨c0, c1, c2, c3, c4, c5, c9, c10, c11, c12⟩ := g
  have B1 : cB (adF (wlF l nw (nI nb) (nI f2) (nI e) y) nb (nI (eA f1 g2 e 0)) (σ.2 13 x + σ.2 13 c + 1) (σ.2 14 x + σ.2 14 c - 3 + nI e) (nI (u1 + u2))) (nbS (upS σ 34 0) nb (nI f1) (nI g2) (nI e) (σ.2 13 x + σ.2 13 c + 1) (σ.2 14 x + σ.2 14 c - 3 + nI e) (nI (u1 + u2))) (nb + 1) :=
    ad_B (B.cong (fun j hj i _ => wlF_o (by omega) (by omega)) (fun _ _ _ _ _ => rfl)) (by omega) hg2 he (by omega) (by omega)
  have n9 : ∀ i, i < nb → (nbS (upS σ 34 0) nb (nI f1) (nI g2) (nI e) (σ.2 13 x + σ.2 13 c + 1) (σ.2 14 x + σ.2 14 c - 3 + nI e) (nI (u1 + u2))).2 9 i = σ.2 9 i := fun i hi => nbS_o (by omega)
  have B2 := pr_B (n := nb) B1 (show x < nb + 1 by omega) ((n9 x hx).trans h1)
  have B3 := pr_B (n := nb) B2 (show c < nb + 1 by omega) (by rw [prS_9, if_neg hxc]; exact (n9 c hc).trans h2)
  rw [← eJ] at B3
  have B4 : cB (jlF (wlF l nw (nI nb) (nI f2) (nI e) y) x c nb (nI (eA f1 g2 e 0)) (σ.2 13 x + σ.2 13 c + 1) (σ.2 14 x + σ.2 14 c - 3 + nI e) (nI (u1 + u2))) (sMak (jnS (upS σ 34 0) nb (nI x) (nI c)) (nI nb) (nI f2) (nI e) y) (nb + 1) :=
    B3.cong (fun j hj i _ => jlF_lo hxc hx hc hj) (fun j _ _ i _ => by rw [sMak_row (Or.inl (by omega))])
  rw [nI_add]
  refine ⟨⟨by omega, by omega, C.1.2.2.1, ?_⟩, ⟨B4, w.cong (fun k _ => jlF_hi (by decide) (by omega)) (fun _ _ _ _ _ => rfl) (Nat.le_refl _), R.cong (fun j _ _ k _ => by rw [jlF_hi (by omega) (by omega), wlF_o (by omega) (by omega)]) (fun j _ _ k _ => by rw [sMak_row (Or.inr (by omega)), S j (by omega)]; rfl), ⟨?_, ?_, ?_, ?_, ?_, fun z hz => ?_, ?_, ?_, ?_, ?_⟩, sMak_18 e18 (by omega)⟩, fun i hi h9 => ?_⟩
  · rw [sMak_num (by decide) (by decide) (by decide), N 6 (by decide) (by decide)]; exact C.1.2.2.2
  · rw [jlF_hi (by decide) (by omega)]; exact c0
  · rw [jlF_hi (by decide) (by omega)]; exact c1
  · rw [jlF_hi (by decide) (by omega)]; exact c2
  · rw [jlF_hi (by decide) (by omega)]; exact c3
  · rw [jlF_hi (by decide) (by omega)]; exact c4
  · rw [jlF_hi (by decide) (by omega)]; exact c5 z hz
  · rw [jlF_hi (by decide) (by omega)]; exact c9
  · unfold jlF
    rw [lu_o (fun z => absurd z.1 (by decide))]
    unfold adF
    rw [lu_s]
    unfold jl4
    rw [lu_o (fun z => absurd z.1 (by decide)), lu_o (fun z => absurd z.1 (by decide)), lu_o (fun z => absurd z.1 (by decide)), lu_o (fun z => absurd z.1 (by decide)), c10, nI_1]
  · rw [jlF_hi (by decide) (by omega)]; exact c11
  · rw [jlF_hi (by decide) (by omega)]; exact c12
  · have M : ∀ j, j < 19 → (sMak (jnS (upS σ 34 0) nb (nI x) (nI c)) (nI nb) (nI f2) (nI e) y).2 j = (jnS (upS σ 34 0) nb (nI x) (nI c)).2 j := fun j hj => sMak_row (Or.inl hj)
    rw [M 9 (by decide), eJ, prS_9] at h9
    have nc : ¬ i = c := fun z => by rw [if_pos z] at h9; exact absurd h9 (by decide)
    rw [if_neg nc, prS_9] at h9
    have nx : ¬ i = x := fun z => by rw [if_pos z] at h9; exact absurd h9 (by decide)
    rw [if_neg nx] at h9
    have Pj : ∀ j, j ≠ 9 → j ≠ 17 → (jnS (upS σ 34 0) nb (nI x) (nI c)).2 j = (nbS (upS σ 34 0) nb (nI f1) (nI g2) (nI e) (σ.2 13 x + σ.2 13 c + 1) (σ.2 14 x + σ.2 14 c - 3 + nI e) (nI (u1 + u2))).2 j := fun j z1 z2 => by rw [eJ, prS_row z1 z2, prS_row z1 z2]
    rw [M 14 (by decide), M 10 (by decide), M 11 (by decide), Pj 14 (by decide) (by decide), Pj 10 (by decide) (by decide), Pj 11 (by decide) (by decide)]
    by_cases en : i = nb
    · subst en
      obtain ⟨v9, v10, v11, v12, v13, v14, v15, v17⟩ := nbS_n (σ := upS σ 34 0) (nb := i) (f := nI f1) (l := nI g2) (v := nI e) (t := σ.2 13 x + σ.2 13 c + 1) (e := σ.2 14 x + σ.2 14 c - 3 + nI e) (g := nI (u1 + u2))
      obtain ⟨n1, p1, p2, x1, x2, x3, x4, x5, x6, x7⟩ := C.2.2 x hx h1
      obtain ⟨n2, q1, q2, y1, y2, y3, y4, y5, y6, y7⟩ := C.2.2 c hc h2
      have r1 : p1 = f1 := (nI_eq (by omega) (by omega)).mp (x2.symm.trans a10)
      have r2 : p2 = g1 := (nI_eq (by omega) (by omega)).mp (x3.symm.trans a11)
      have r3 : q1 = f2 := (nI_eq (by omega) (by omega)).mp (y2.symm.trans b10)
      have r4 : q2 = g2 := (nI_eq (by omega) (by omega)).mp (y3.symm.trans b11)
      subst r1; subst r2; subst r3; subst r4
      refine ⟨n1 + n2 - 3 + e, p1, q2, ?_, v10, v11, by omega, hg2, by omega, by omega⟩
      rw [v14, x1, y1, show nI n1 + nI n2 = nI (n1 + n2 - 3) + 3 by rw [nI_add, show (3 : Int32) = nI 3 from rfl, nI_add]; congr 1; omega, Int32.add_sub_cancel, nI_add]
    · rw [nbS_o en] at h9
      obtain ⟨n, f', g', z1, z2, z3, z4, z5, z6, z7⟩ := C.2.2 i (by omega) h9
      exact ⟨n, f', g', by rw [nbS_o en]; exact z1, by rw [nbS_o en]; exact z2, by rw [nbS_o en]; exact z3, z4, z5, z6, z7⟩

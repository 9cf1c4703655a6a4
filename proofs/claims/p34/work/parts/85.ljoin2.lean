
/-! THE LAW'S isBlock 5: two blocks are joined: the walk -/

theorem sMak_34 {σ : MS} {nb x c y : Nat} {b f v : Int32} : (sMak (jnS (upS σ 34 0) nb (nI x) (nI c)) b f v y).1 34 = 0 := by rw [sMak_num (by decide) (by decide) (by decide)]; rfl
theorem jl_eq {l1 : LSt} {x y n : Nat} {a t g u : Int32} (hxy : ¬ y = x) (hn : l1 9 10 = nI n) : jl4 l1 x y n = lu (lu (lu (lu l1 5 x (l1 9 10)) 5 y (lu l1 5 x (l1 9 10) 9 10)) 0 x (lu (lu l1 5 x (l1 9 10)) 5 y (lu l1 5 x (l1 9 10) 9 10) 0 x + 1024)) 0 y (lu (lu (lu l1 5 x (l1 9 10)) 5 y (lu l1 5 x (l1 9 10) 9 10)) 0 x (lu (lu l1 5 x (l1 9 10)) 5 y (lu l1 5 x (l1 9 10) 9 10) 0 x + 1024) 0 y + 1024) := by
  have r1 : lu l1 5 x (l1 9 10) 9 10 = nI n := (lu_o (fun z => absurd z.1 (by decide))).trans hn
  rw [r1, hn]
  have r2 : lu (lu l1 5 x (nI n)) 5 y (nI n) 0 x = l1 0 x := by rw [lu_o (fun z => absurd z.1 (by decide)), lu_o (fun z => absurd z.1 (by decide))]
  rw [r2]
  have r3 : lu (lu (lu l1 5 x (nI n)) 5 y (nI n)) 0 x (l1 0 x + 1024) 0 y = l1 0 y := by rw [lu_o (fun z => hxy z.2), lu_o (fun z => absurd z.1 (by decide)), lu_o (fun z => absurd z.1 (by decide))]
  rw [r3]
  rfl
set_option maxRecDepth 20000 in
theorem j_e40 {w : W0} {κ : AH} {p : Nat} {l : LSt} {θ0 : Nat → Nat} {x : Int32} {σ : MS} {o q nb nw np : Nat} {wb : Nat → Nat} {k y c : Nat} {b16 y18 v : Int32} {z19 : Option Value} (A : AK κ) (hI : RI κ κ σ nb nw np wb) (C : Cp l σ nb nw np) (ho : o < 60000) (hq : q < 60000) (h40 : nb = 40) : Y w mL_isBlock θ0 (PL κ p l) (fun v κ' => PQ κ p v κ') (fun _ _ => False) 0 0 692 [some (.ref (tS 4)), some (.ref (tM 0)), some (.ref (tM 1)), some (.ref (tM 2)), some (.ref (tM 3)), some (.ref (tM 4)), some (.ref (tM 5)), some (.ref (tM 6)), some (.ref (tM 7)), some (.ref (tM 8)), some (.ref (tM 9)), some (.int x), some (.int (nI o)), some (.int (nI q)), some (.int (nI k)), some (.int (nI y)), some (.int b16), some (.int (nI c)), some (.int y18), z19, none, none, none] [.int v] (PL κ p l) := by
  have e8 : σ.1 8 = nI nb := hI.1.e8
  have e18 : σ.1 18 = nI nw := hI.1.e18
  have e30 : σ.1 30 = nI np := hI.1.2.2.2.2.2.1
  obtain ⟨⟨hb40, hw60, hp10, h6⟩, D, hln⟩ := id C
  obtain ⟨CB, CW, CR, CG, z18⟩ := id D
  have a11 : l 9 11 = nI nw := CG.2.2.2.2.2.2.2.2.1
  have a10 : l 9 10 = nI nb := CG.2.2.2.2.2.2.2.1
  have h60 : nb ≤ 60 := by omega
  have IB : ∀ k, k < 100 → (isBlk σ (nI k) ↔ k < nb) := fun k hk => (isB_blk h60 e8).trans ⟨fun z => (nI_ltI (by omega) (by omega)).mp z.2, fun z => ⟨nI_pos' (by omega), nI_lt z (by omega)⟩⟩
  refine runL_go (κ := κ) (p := p) rkL_isBlock noCut 300 rfl ?_
  refine ⟨9, 10, A.ld (by decide) (by decide) rfl, ?_⟩
  refine And.intro (fun c701 => ?_) (fun c701 => False.elim (by first | exact c701 (by rw [a10, h40]; rfl) | exact absurd (by rw [a10, h40]; rfl) c701 | exact absurd c701 (by rw [a10, h40]; rfl)))
  refine And.intro ⟨Nat.le_of_ble_eq_true rfl, Nat.le_of_ble_eq_true rfl⟩ ?_
  refine And.intro (by first | exact Or.inl rfl | exact Or.inr rfl) ?_
  exact PQ_of ⟨nb, nw, np, wb, hI⟩ (fun _ => ⟨rfl, rfl⟩) e8 e30 C
set_option maxRecDepth 20000 in
theorem j_e60 {w : W0} {κ : AH} {p : Nat} {l : LSt} {θ0 : Nat → Nat} {x : Int32} {σ : MS} {o q nb nw np : Nat} {wb : Nat → Nat} {k y c : Nat} {b16 y18 v : Int32} {z19 : Option Value} (A : AK κ) (hI : RI κ κ σ nb nw np wb) (C : Cp l σ nb nw np) (ho : o < 60000) (hq : q < 60000) (h40 : ¬ nb = 40) (h60w : nw = 60) : Y w mL_isBlock θ0 (PL κ p l) (fun v κ' => PQ κ p v κ') (fun _ _ => False) 0 0 692 [some (.ref (tS 4)), some (.ref (tM 0)), some (.ref (tM 1)), some (.ref (tM 2)), some (.ref (tM 3)), some (.ref (tM 4)), some (.ref (tM 5)), some (.ref (tM 6)), some (.ref (tM 7)), some (.ref (tM 8)), some (.ref (tM 9)), some (.int x), some (.int (nI o)), some (.int (nI q)), some (.int (nI k)), some (.int (nI y)), some (.int b16), some (.int (nI c)), some (.int y18), z19, none, none, none] [.int v] (PL κ p l) := by
  have e8 : σ.1 8 = nI nb := hI.1.e8
  have e18 : σ.1 18 = nI nw := hI.1.e18
  have e30 : σ.1 30 = nI np := hI.1.2.2.2.2.2.1
  obtain ⟨⟨hb40, hw60, hp10, h6⟩, D, hln⟩ := id C
  obtain ⟨CB, CW, CR, CG, z18⟩ := id D
  have a11 : l 9 11 = nI nw := CG.2.2.2.2.2.2.2.2.1
  have a10 : l 9 10 = nI nb := CG.2.2.2.2.2.2.2.1
  have h60 : nb ≤ 60 := by omega
  have IB : ∀ k, k < 100 → (isBlk σ (nI k) ↔ k < nb) := fun k hk => (isB_blk h60 e8).trans ⟨fun z => (nI_ltI (by omega) (by omega)).mp z.2, fun z => ⟨nI_pos' (by omega), nI_lt z (by omega)⟩⟩
  refine runL_go (κ := κ) (p := p) rkL_isBlock noCut 300 rfl ?_
  refine ⟨9, 10, A.ld (by decide) (by decide) rfl, ?_⟩
  refine And.intro (fun c701 => False.elim (by first | exact c701 (fun z => h40 ((nI_eq (b := 40) (by omega) (by decide)).mp (a10.symm.trans z))) | exact absurd (fun z => h40 ((nI_eq (b := 40) (by omega) (by decide)).mp (a10.symm.trans z))) c701 | exact absurd c701 (fun z => h40 ((nI_eq (b := 40) (by omega) (by decide)).mp (a10.symm.trans z))))) (fun c701 => ?_)
  refine ⟨9, 11, A.ld (by decide) (by decide) rfl, ?_⟩
  refine And.intro (fun c711 => False.elim (by first | exact c711 (by rw [a11, h60w]; rfl) | exact absurd (by rw [a11, h60w]; rfl) c711 | exact absurd c711 (by rw [a11, h60w]; rfl))) (fun c711 => ?_)
  refine And.intro ⟨Nat.le_of_ble_eq_true rfl, Nat.le_of_ble_eq_true rfl⟩ ?_
  refine And.intro (by first | exact Or.inl rfl | exact Or.inr rfl) ?_
  exact PQ_of ⟨nb, nw, np, wb, hI⟩ (fun _ => ⟨rfl, rfl⟩) e8 e30 C
set_option maxRecDepth 20000 in
theorem j_n0 {w : W0} {κ : AH} {p : Nat} {l : LSt} {θ0 : Nat → Nat} {x : Int32} {σ : MS} {o q nb nw np : Nat} {wb : Nat → Nat} {k y c : Nat} {b16 : Int32} {z19 : Option Value} (A : AK κ) (hI : RI κ κ σ nb nw np wb) (C : Cp l σ nb nw np) (ho : o < 60000) (hq : q < 60000) (h40 : ¬ nb = 40) (h60w : ¬ nw = 60) (hk : k ≤ nb) (hy : y < 5) (hc : c ≤ nb) (hn : ¬ (k < nb ∧ y < 4 ∧ c < nb)) : Y w mL_isBlock θ0 (PL κ p l) (fun v κ' => PQ κ p v κ') (fun _ _ => False) 0 0 692 [some (.ref (tS 4)), some (.ref (tM 0)), some (.ref (tM 1)), some (.ref (tM 2)), some (.ref (tM 3)), some (.ref (tM 4)), some (.ref (tM 5)), some (.ref (tM 6)), some (.ref (tM 7)), some (.ref (tM 8)), some (.ref (tM 9)), some (.int x), some (.int (nI o)), some (.int (nI q)), some (.int (nI k)), some (.int (nI y)), some (.int b16), some (.int (nI c)), some (.int 0), z19, none, none, none] [.int 0] (PL κ p l) := by
  have e8 : σ.1 8 = nI nb := hI.1.e8
  have e18 : σ.1 18 = nI nw := hI.1.e18
  have e30 : σ.1 30 = nI np := hI.1.2.2.2.2.2.1
  obtain ⟨⟨hb40, hw60, hp10, h6⟩, D, hln⟩ := id C
  obtain ⟨CB, CW, CR, CG, z18⟩ := id D
  have a11 : l 9 11 = nI nw := CG.2.2.2.2.2.2.2.2.1
  have a10 : l 9 10 = nI nb := CG.2.2.2.2.2.2.2.1
  have h60 : nb ≤ 60 := by omega
  have IB : ∀ k, k < 100 → (isBlk σ (nI k) ↔ k < nb) := fun k hk => (isB_blk h60 e8).trans ⟨fun z => (nI_ltI (by omega) (by omega)).mp z.2, fun z => ⟨nI_pos' (by omega), nI_lt z (by omega)⟩⟩
  have IY : ∀ y, y < 5 → (isWdr (nI y) ↔ y < 4) := fun y hy => ⟨fun z => by have := (nI_leI (b := 3) (by omega) (by decide)).mp z.2; omega, fun z => ⟨nI_pos' (by omega), nI_le (b := 3) (by omega) (by decide)⟩⟩
  have k1 : kJoin σ (nI k) (nI c) (nI y) = 1 := by unfold kJoin; exact if_neg (fun z => hn ⟨(IB k (by omega)).mp z.1, (IY y hy).mp z.2.2, (IB c (by omega)).mp z.2.1⟩)
  have em : mJoin σ (nI k) (nI c) (nI y) = (0, upS σ 34 1) := by unfold mJoin; rw [if_neg (by rw [k1]; decide), k1]
  refine runL_go (κ := κ) (p := p) rkL_isBlock noCut 300 rfl ?_
  refine ⟨9, 10, A.ld (by decide) (by decide) rfl, ?_⟩
  refine And.intro (fun c701 => False.elim (by first | exact c701 (fun z => h40 ((nI_eq (b := 40) (by omega) (by decide)).mp (a10.symm.trans z))) | exact absurd (fun z => h40 ((nI_eq (b := 40) (by omega) (by decide)).mp (a10.symm.trans z))) c701 | exact absurd c701 (fun z => h40 ((nI_eq (b := 40) (by omega) (by decide)).mp (a10.symm.trans z))))) (fun c701 => ?_)
  refine ⟨9, 11, A.ld (by decide) (by decide) rfl, ?_⟩
  refine And.intro (fun c711 => ?_) (fun c711 => False.elim (by first | exact c711 (fun z => h60w ((nI_eq (b := 60) (by omega) (by decide)).mp (a11.symm.trans z))) | exact absurd (fun z => h60w ((nI_eq (b := 60) (by omega) (by decide)).mp (a11.symm.trans z))) c711 | exact absurd c711 (fun z => h60w ((nI_eq (b := 60) (by omega) (by decide)).mp (a11.symm.trans z)))))
  refine And.intro (fun c718 => ?_) (fun c718 => False.elim (by first | exact c718 (by decide) | exact absurd (by decide) c718 | exact absurd c718 (by decide)))
  refine And.intro (fun c739 => ?_) (fun c739 => False.elim (by first | exact c739 (by decide) | exact absurd (by decide) c739 | exact absurd c739 (by decide)))
  refine pL_isBlock_925 rfl rfl rfl (w_join (RI_PL hI)) (fun v κ1 hq925 ho925 hk925 => ?_)
  obtain ⟨rfl, hre⟩ := hq925
  obtain ⟨κ1, rfl, hR1, hk1⟩ := PL_back hre
  have A1 := AK_of A hk1
  refine runL_ok rkL_isBlock noCut 300 _ _ _ _ _ _ ?_
  refine And.intro (fun c930 => False.elim (by first | exact c930 (by decide) | exact absurd (by decide) c930 | exact absurd c930 (by decide))) (fun c930 => ?_)
  refine pL_isBlock_933 ?_
  refine runL_ok rkL_isBlock noCut 300 _ _ _ _ _ _ ?_
  refine And.intro (fun c955 => False.elim (by first | exact c955 (show dv (-3000000) (-1000000) 0 (mJoin σ (nI k) (nI c) (nI y)) = -3000000 by rw [em]; rfl) | exact absurd (show dv (-3000000) (-1000000) 0 (mJoin σ (nI k) (nI c) (nI y)) = -3000000 by rw [em]; rfl) c955 | exact absurd c955 (show dv (-3000000) (-1000000) 0 (mJoin σ (nI k) (nI c) (nI y)) = -3000000 by rw [em]; rfl))) (fun c955 => ?_)
  refine And.intro ⟨Nat.le_of_ble_eq_true rfl, Nat.le_of_ble_eq_true rfl⟩ ?_
  refine And.intro (by first | exact Or.inl rfl | exact Or.inr rfl) ?_
  rw [em] at hR1
  exact PQ_of hR1 hk1 e8 e30 (Cp_34 C)
set_option maxRecDepth 20000 in
theorem j_n1 {w : W0} {κ : AH} {p : Nat} {l : LSt} {θ0 : Nat → Nat} {x : Int32} {σ : MS} {o q nb nw np : Nat} {wb : Nat → Nat} {k y c : Nat} {b16 : Int32} {z19 : Option Value} (A : AK κ) (hI : RI κ κ σ nb nw np wb) (C : Cp l σ nb nw np) (ho : o < 60000) (hq : q < 60000) (h40 : ¬ nb = 40) (h60w : ¬ nw = 60) (hk : k < nb) (hy : y < 4) (hc : c < nb) (hn : ¬ cJoin σ (nI k) (nI c)) : Y w mL_isBlock θ0 (PL κ p l) (fun v κ' => PQ κ p v κ') (fun _ _ => False) 0 0 692 [some (.ref (tS 4)), some (.ref (tM 0)), some (.ref (tM 1)), some (.ref (tM 2)), some (.ref (tM 3)), some (.ref (tM 4)), some (.ref (tM 5)), some (.ref (tM 6)), some (.ref (tM 7)), some (.ref (tM 8)), some (.ref (tM 9)), some (.int x), some (.int (nI o)), some (.int (nI q)), some (.int (nI k)), some (.int (nI y)), some (.int b16), some (.int (nI c)), some (.int 1), z19, none, none, none] [.int 0] (PL κ p l) := by
  have e8 : σ.1 8 = nI nb := hI.1.e8
  have e18 : σ.1 18 = nI nw := hI.1.e18
  have e30 : σ.1 30 = nI np := hI.1.2.2.2.2.2.1
  obtain ⟨⟨hb40, hw60, hp10, h6⟩, D, hln⟩ := id C
  obtain ⟨CB, CW, CR, CG, z18⟩ := id D
  have a11 : l 9 11 = nI nw := CG.2.2.2.2.2.2.2.2.1
  have a10 : l 9 10 = nI nb := CG.2.2.2.2.2.2.2.1
  have h60 : nb ≤ 60 := by omega
  have IB : ∀ k, k < 100 → (isBlk σ (nI k) ↔ k < nb) := fun k hk => (isB_blk h60 e8).trans ⟨fun z => (nI_ltI (by omega) (by omega)).mp z.2, fun z => ⟨nI_pos' (by omega), nI_lt z (by omega)⟩⟩
  have IY : ∀ y, y < 5 → (isWdr (nI y) ↔ y < 4) := fun y hy => ⟨fun z => by have := (nI_leI (b := 3) (by omega) (by decide)).mp z.2; omega, fun z => ⟨nI_pos' (by omega), nI_le (b := 3) (by omega) (by decide)⟩⟩
  have k1 : kJoin σ (nI k) (nI c) (nI y) = 2 := by unfold kJoin; rw [if_pos ⟨(IB k (by omega)).mpr hk, (IB c (by omega)).mpr hc, (IY y (by omega)).mpr hy⟩]; exact if_neg (fun z => hn z.1)
  have em : mJoin σ (nI k) (nI c) (nI y) = (0, upS σ 34 2) := by unfold mJoin; rw [if_neg (by rw [k1]; decide), k1]
  refine runL_go (κ := κ) (p := p) rkL_isBlock noCut 300 rfl ?_
  refine ⟨9, 10, A.ld (by decide) (by decide) rfl, ?_⟩
  refine And.intro (fun c701 => False.elim (by first | exact c701 (fun z => h40 ((nI_eq (b := 40) (by omega) (by decide)).mp (a10.symm.trans z))) | exact absurd (fun z => h40 ((nI_eq (b := 40) (by omega) (by decide)).mp (a10.symm.trans z))) c701 | exact absurd c701 (fun z => h40 ((nI_eq (b := 40) (by omega) (by decide)).mp (a10.symm.trans z))))) (fun c701 => ?_)
  refine ⟨9, 11, A.ld (by decide) (by decide) rfl, ?_⟩
  refine And.intro (fun c711 => ?_) (fun c711 => False.elim (by first | exact c711 (fun z => h60w ((nI_eq (b := 60) (by omega) (by decide)).mp (a11.symm.trans z))) | exact absurd (fun z => h60w ((nI_eq (b := 60) (by omega) (by decide)).mp (a11.symm.trans z))) c711 | exact absurd c711 (fun z => h60w ((nI_eq (b := 60) (by omega) (by decide)).mp (a11.symm.trans z)))))
  refine And.intro (fun c718 => False.elim (by first | exact c718 (by decide) | exact absurd (by decide) c718 | exact absurd c718 (by decide))) (fun c718 => ?_)
  refine ⟨0, k, A.ld (by decide) (show k < 40 by omega) rfl, ?_⟩
  refine And.intro (by decide) ?_
  refine And.intro (by decide) ?_
  refine And.intro (fun c739 => ?_) (fun c739 => False.elim (by first | exact c739 (by decide) | exact absurd (by decide) c739 | exact absurd c739 (by decide)))
  refine pL_isBlock_925 rfl rfl rfl (w_join (RI_PL hI)) (fun v κ1 hq925 ho925 hk925 => ?_)
  obtain ⟨rfl, hre⟩ := hq925
  obtain ⟨κ1, rfl, hR1, hk1⟩ := PL_back hre
  have A1 := AK_of A hk1
  refine runL_ok rkL_isBlock noCut 300 _ _ _ _ _ _ ?_
  refine And.intro (fun c930 => ?_) (fun c930 => False.elim (by first | exact c930 (by decide) | exact absurd (by decide) c930 | exact absurd c930 (by decide)))
  refine And.intro (fun c940 => ?_) (fun c940 => False.elim (by first | exact c940 (by decide) | exact absurd (by decide) c940 | exact absurd c940 (by decide)))
  refine pL_isBlock_953 ?_
  refine runL_ok rkL_isBlock noCut 300 _ _ _ _ _ _ ?_
  refine And.intro (fun c955 => False.elim (by first | exact c955 (show dv (-3000000) (-1000000) 0 (mJoin σ (nI k) (nI c) (nI y)) = -1000000 by rw [em]; rfl) | exact absurd (show dv (-3000000) (-1000000) 0 (mJoin σ (nI k) (nI c) (nI y)) = -1000000 by rw [em]; rfl) c955 | exact absurd c955 (show dv (-3000000) (-1000000) 0 (mJoin σ (nI k) (nI c) (nI y)) = -1000000 by rw [em]; rfl))) (fun c955 => ?_)
  refine And.intro ⟨Nat.le_of_ble_eq_true rfl, Nat.le_of_ble_eq_true rfl⟩ ?_
  refine And.intro (by first | exact Or.inl rfl | exact Or.inr rfl) ?_
  rw [em] at hR1
  exact PQ_of hR1 hk1 e8 e30 (Cp_34 C)
set_option maxRecDepth 20000 in
theorem j_y {w : W0} {κ : AH} {p : Nat} {l : LSt} {θ0 : Nat → Nat} {x : Int32} {σ : MS} {o q nb nw np : Nat} {wb : Nat → Nat} {k y c : Nat} {b16 : Int32} {z19 : Option Value} (A : AK κ) (hI : RI κ κ σ nb nw np wb) (C : Cp l σ nb nw np) (ho : o < 60000) (hq : q < 60000) (h40 : ¬ nb = 40) (h60w : ¬ nw = 60) (hk : k < nb) (hy : y < 4) (hc : c < nb) (hj : cJoin σ (nI k) (nI c)) : Y w mL_isBlock θ0 (PL κ p l) (fun v κ' => PQ κ p v κ') (fun _ _ => False) 0 0 692 [some (.ref (tS 4)), some (.ref (tM 0)), some (.ref (tM 1)), some (.ref (tM 2)), some (.ref (tM 3)), some (.ref (tM 4)), some (.ref (tM 5)), some (.ref (tM 6)), some (.ref (tM 7)), some (.ref (tM 8)), some (.ref (tM 9)), some (.int x), some (.int (nI o)), some (.int (nI q)), some (.int (nI k)), some (.int (nI y)), some (.int b16), some (.int (nI c)), some (.int 1), z19, none, none, none] [.int 1] (PL κ p l) := by
  have e8 : σ.1 8 = nI nb := hI.1.e8
  have e18 : σ.1 18 = nI nw := hI.1.e18
  have e30 : σ.1 30 = nI np := hI.1.2.2.2.2.2.1
  obtain ⟨⟨hb40, hw60, hp10, h6⟩, D, hln⟩ := id C
  obtain ⟨CB, CW, CR, CG, z18⟩ := id D
  have a11 : l 9 11 = nI nw := CG.2.2.2.2.2.2.2.2.1
  have a10 : l 9 10 = nI nb := CG.2.2.2.2.2.2.2.1
  have h60 : nb ≤ 60 := by omega
  have IB : ∀ k, k < 100 → (isBlk σ (nI k) ↔ k < nb) := fun k hk => (isB_blk h60 e8).trans ⟨fun z => (nI_ltI (by omega) (by omega)).mp z.2, fun z => ⟨nI_pos' (by omega), nI_lt z (by omega)⟩⟩
  have IY : ∀ y, y < 5 → (isWdr (nI y) ↔ y < 4) := fun y hy => ⟨fun z => by have := (nI_leI (b := 3) (by omega) (by decide)).mp z.2; omega, fun z => ⟨nI_pos' (by omega), nI_le (b := 3) (by omega) (by decide)⟩⟩
  have h100 : ¬ σ.1 18 = 100 := by rw [e18]; exact fun z => by have := (nI_eq (b := 100) (by omega) (by decide)).mp z; omega
  have h60n : ¬ σ.1 8 = 60 := by rw [e8]; exact fun z => by have := (nI_eq (b := 60) (by omega) (by decide)).mp z; omega
  have k1 : kJoin σ (nI k) (nI c) (nI y) = 0 := by unfold kJoin; rw [if_pos ⟨(IB k (by omega)).mpr hk, (IB c (by omega)).mpr hc, (IY y (by omega)).mpr hy⟩]; exact if_pos ⟨hj, h60n, h100⟩
  obtain ⟨f1, g1, e1, s1, u1, p1, p2, p3, p4, p5, p6, p7, p8, p9, p10, p11, p12, p13⟩ := (CB k hk).1
  obtain ⟨f2, g2, e2, s2, u2, q1, q2, q3, q4, q5, q6, q7, q8, q9, q10, q11, q12, q13⟩ := (CB c hc).1
  obtain ⟨r1, r2, r3, r4, r5⟩ := (CB k hk).2
  obtain ⟨t1, t2, t3, t4, t5⟩ := (CB c hc).2
  obtain ⟨⟨j1, j2, j3, j4⟩, j5, j6⟩ := id hj
  rw [nI_clamp (by omega)] at j1 j3 j4 j5 j6
  rw [nI_clamp (by omega)] at j2 j3 j4 j5 j6
  have e12 : e1 = e2 := (nI_eq (by omega) (by omega)).mp (p10.symm.trans (j3.trans q10))
  subst e12
  have f12 : g1 + 1 = f2 := by rw [q8, p9, nI_1] at j4; exact ((nI_eq (by omega) (by omega)).mp j4).symm
  have nkc : ¬ c = k := fun z => by subst z; have : f1 = f2 := (nI_eq (by omega) (by omega)).mp (p8.symm.trans q8); omega
  have s10 : s1 = 0 := (nI_eq (b := 0) (by omega) (by decide)).mp (p11.symm.trans j1)
  have s20 : s2 = 0 := (nI_eq (b := 0) (by omega) (by decide)).mp (q11.symm.trans j2)
  subst s10
  subst s20
  have CJ := jn_Cp (x := k) (c := c) (y := y) C e8 (by omega) (by omega) hk hc nkc hy j1 j2 p5 f12 q5 q2 p3 p8 p9 q8 q9 p10 p12 q12 p6 p7 q7
  have em : mJoin σ (nI k) (nI c) (nI y) = (σ.1 8, sMak (jnS (upS σ 34 0) nb (nI k) (nI c)) (nI nb) (nI f2) (nI e1) y) := by
    unfold mJoin; rw [if_pos k1, sJ_jn (show (upS σ 34 0).1 8 = nI nb from e8) (by omega), e8, nI_clamp (by omega), nI_clamp (by omega), nI_clamp (by omega)]
    have r10 : (jnS (upS σ 34 0) nb (nI k) (nI c)).2 10 c = nI f2 := by unfold jnS; rw [prS_row (by decide) (by decide), prS_row (by decide) (by decide), nbS_o (by omega)]; exact q8
    have r12 : (jnS (upS σ 34 0) nb (nI k) (nI c)).2 12 k = nI e1 := by unfold jnS; rw [prS_row (by decide) (by decide), prS_row (by decide) (by decide), nbS_o (by omega)]; exact p10
    rw [r10, r12]
  have e8n : (sMak (jnS (upS σ 34 0) nb (nI k) (nI c)) (nI nb) (nI f2) (nI e1) y).1 8 = nI (nb + 1) := by rw [sMak_num (by decide) (by decide) (by decide)]; rfl
  have e30n : (sMak (jnS (upS σ 34 0) nb (nI k) (nI c)) (nI nb) (nI f2) (nI e1) y).1 30 = nI np := by rw [sMak_num (by decide) (by decide) (by decide)]; exact e30
  have kf : l 0 k - l 0 k / 16 * 16 = nI f1 := by rw [p13]; exact eA_f p1 p2 p3 p4
  have ke : l 0 k / 256 - l 0 k / 256 / 4 * 4 = nI e1 := by rw [p13]; exact eA_e p1 p2 p3 p4
  have cf : l 0 c - l 0 c / 16 * 16 = nI f2 := by rw [q13]; exact eA_f q1 q2 q3 q4
  have cg : l 0 c / 16 - l 0 c / 16 / 16 * 16 = nI g2 := by rw [q13]; exact eA_g q1 q2 q3 q4
  have e21 : nI f1 + nI g2 * 16 + 256 * nI e1 = nI (eA f1 g2 e1 0) := by rw [show (16 : Int32) = nI 16 from rfl, show (256 : Int32) = nI 256 from rfl, pk_mul, pk_mul, nI_add, nI_add]; congr 1; unfold eA; omega
  have LJ : ∀ j i, j ≠ 6 → j ≠ 9 → (wlF l nw (nI nb) (nI f2) (nI e1) y) j i = l j i := fun j i z1 z2 => wlF_o z1 z2
  have L10 : (wlF l nw (nI nb) (nI f2) (nI e1) y) 9 10 = nI nb := by rw [wlF_0, lu_o (fun z => absurd z.2 (by decide)), drF_9o (by decide)]; unfold wl0; rw [lu_o (fun z => absurd z.2 (by decide)), lu_o (fun z => absurd z.1 (by decide))]; exact a10
  have vv : (jlF (wlF l nw (nI nb) (nI f2) (nI e1) y) k c nb (nI (eA f1 g2 e1 0)) (σ.2 13 k + σ.2 13 c + 1) (σ.2 14 k + σ.2 14 c - 3 + nI e1) (nI u1 + nI u2)) 9 10 - 1 = nI nb := by rw [CJ.2.1.2.2.2.1.2.2.2.2.2.2.2.1]; exact nI_pred nb
  have Z914 : Y w mL_isBlock θ0 (PL κ p l) (fun v κ' => PQ κ p v κ') (fun _ _ => False) 0 0 914 [some (.ref (tS 4)), some (.ref (tM 0)), some (.ref (tM 1)), some (.ref (tM 2)), some (.ref (tM 3)), some (.ref (tM 4)), some (.ref (tM 5)), some (.ref (tM 6)), some (.ref (tM 7)), some (.ref (tM 8)), some (.ref (tM 9)), some (.int x), some (.int (nI o)), some (.int (nI q)), some (.int (nI k)), some (.int (nI y)), some (.int b16), some (.int (nI c)), some (.int 1), some (.int 1), some (.int (nI e1)), some (.int (nI (eA f1 g2 e1 0))), none] [] (PL κ p (jlF (wlF l nw (nI nb) (nI f2) (nI e1) y) k c nb (nI (eA f1 g2 e1 0)) (σ.2 13 k + σ.2 13 c + 1) (σ.2 14 k + σ.2 14 c - 3 + nI e1) (nI u1 + nI u2))) := by
    refine runL_go (κ := κ) (p := p) rkL_isBlock noCut 300 rfl ?_
    refine pL_isBlock_925 rfl rfl rfl (w_join (RI_PL hI)) (fun v κ1 hq925 ho925 hk925 => ?_)
    obtain ⟨rfl, hre⟩ := hq925
    obtain ⟨κ1, rfl, hR1, hk1⟩ := PL_back hre
    have A1 := AK_of A hk1
    refine runL_ok rkL_isBlock noCut 300 _ _ _ _ _ _ ?_
    refine And.intro (fun c930 => ?_) (fun c930 => False.elim (by first | exact c930 (by decide) | exact absurd (by decide) c930 | exact absurd c930 (by decide)))
    refine And.intro (fun c940 => False.elim (by first | exact c940 (by decide) | exact absurd (by decide) c940 | exact absurd c940 (by decide))) (fun c940 => ?_)
    refine ⟨9, 10, A1.ld (by decide) (by decide) rfl, ?_⟩
    refine And.intro (fun c955 => False.elim (by first | exact c955 (show dv (-3000000) (-1000000) 0 (mJoin σ (nI k) (nI c) (nI y)) = (jlF (wlF l nw (nI nb) (nI f2) (nI e1) y) k c nb (nI (eA f1 g2 e1 0)) (σ.2 13 k + σ.2 13 c + 1) (σ.2 14 k + σ.2 14 c - 3 + nI e1) (nI u1 + nI u2)) 9 10 - 1 by rw [vv, em]; exact (if_pos sMak_34).trans e8) | exact absurd (show dv (-3000000) (-1000000) 0 (mJoin σ (nI k) (nI c) (nI y)) = (jlF (wlF l nw (nI nb) (nI f2) (nI e1) y) k c nb (nI (eA f1 g2 e1 0)) (σ.2 13 k + σ.2 13 c + 1) (σ.2 14 k + σ.2 14 c - 3 + nI e1) (nI u1 + nI u2)) 9 10 - 1 by rw [vv, em]; exact (if_pos sMak_34).trans e8) c955 | exact absurd c955 (show dv (-3000000) (-1000000) 0 (mJoin σ (nI k) (nI c) (nI y)) = (jlF (wlF l nw (nI nb) (nI f2) (nI e1) y) k c nb (nI (eA f1 g2 e1 0)) (σ.2 13 k + σ.2 13 c + 1) (σ.2 14 k + σ.2 14 c - 3 + nI e1) (nI u1 + nI u2)) 9 10 - 1 by rw [vv, em]; exact (if_pos sMak_34).trans e8))) (fun c955 => ?_)
    refine And.intro ⟨Nat.le_of_ble_eq_true rfl, Nat.le_of_ble_eq_true rfl⟩ ?_
    refine And.intro (by first | exact Or.inl rfl | exact Or.inr rfl) ?_
    rw [em] at hR1
    exact PQ_of hR1 hk1 e8n e30n CJ
  have Z795 : ∀ l1 : LSt, l1 = (wlF l nw (nI nb) (nI f2) (nI e1) y) → Y w mL_isBlock θ0 (PL κ p l) (fun v κ' => PQ κ p v κ') (fun _ _ => False) 0 0 795 [some (.ref (tS 4)), some (.ref (tM 0)), some (.ref (tM 1)), some (.ref (tM 2)), some (.ref (tM 3)), some (.ref (tM 4)), some (.ref (tM 5)), some (.ref (tM 6)), some (.ref (tM 7)), some (.ref (tM 8)), some (.ref (tM 9)), some (.int x), some (.int (nI o)), some (.int (nI q)), some (.int (nI k)), some (.int (nI y)), some (.int b16), some (.int (nI c)), some (.int 1), some (.int 1), some (.int (nI e1)), some (.int (nI (eA f1 g2 e1 0))), none] [] (PL κ p l1) := by
    intro l1 hl1
    have h10 : l1 9 10 = nI nb := by rw [hl1]; exact L10
    have ej := jl_eq (a := 0) (t := 0) (g := 0) (u := 0) (x := k) (y := c) nkc h10
    have J4 : ∀ j i, j ≠ 0 → j ≠ 5 → jl4 l1 k c nb j i = l1 j i := fun j i z1 z2 => by unfold jl4; rw [lu_o (fun z => z1 z.1), lu_o (fun z => z1 z.1), lu_o (fun z => z2 z.1), lu_o (fun z => z2 z.1)]
    have LL : ∀ j i, j ≠ 6 → j ≠ 9 → l1 j i = l j i := fun j i z1 z2 => by rw [hl1]; exact LJ j i z1 z2
    have tt : jl4 l1 k c nb 1 k + jl4 l1 k c nb 1 c + 1 = σ.2 13 k + σ.2 13 c + 1 := by rw [J4 1 k (by decide) (by decide), J4 1 c (by decide) (by decide), LL 1 k (by decide) (by decide), LL 1 c (by decide) (by decide), r1, t1]
    have ll : jl4 l1 k c nb 2 k + jl4 l1 k c nb 2 c = σ.2 14 k + σ.2 14 c := by rw [J4 2 k (by decide) (by decide), J4 2 c (by decide) (by decide), LL 2 k (by decide) (by decide), LL 2 c (by decide) (by decide), r2, t2]
    have uu : jl4 l1 k c nb 3 k + jl4 l1 k c nb 3 c = nI u1 + nI u2 := by rw [J4 3 k (by decide) (by decide), J4 3 c (by decide) (by decide), LL 3 k (by decide) (by decide), LL 3 c (by decide) (by decide), r3, t3, p12, q12]
    have Z888 : ∀ v : Int32, σ.2 14 k + σ.2 14 c - v = σ.2 14 k + σ.2 14 c - 3 + nI e1 → Y w mL_isBlock θ0 (PL κ p l) (fun v κ' => PQ κ p v κ') (fun _ _ => False) 0 0 888 [some (.ref (tS 4)), some (.ref (tM 0)), some (.ref (tM 1)), some (.ref (tM 2)), some (.ref (tM 3)), some (.ref (tM 4)), some (.ref (tM 5)), some (.ref (tM 6)), some (.ref (tM 7)), some (.ref (tM 8)), some (.ref (tM 9)), some (.int x), some (.int (nI o)), some (.int (nI q)), some (.int (nI k)), some (.int (nI y)), some (.int b16), some (.int (nI c)), some (.int 1), some (.int 1), some (.int (nI e1)), some (.int (nI (eA f1 g2 e1 0))), none] [.int v, .int (jl4 l1 k c nb 2 k + jl4 l1 k c nb 2 c), .int (jl4 l1 k c nb 1 k + jl4 l1 k c nb 1 c + 1), .int (nI (eA f1 g2 e1 0)), .ref (tM 9), .ref (tM 5), .ref (tM 4), .ref (tM 3), .ref (tM 2), .ref (tM 1), .ref (tM 0)] (PL κ p (jl4 l1 k c nb)) := by
      intro v hv
      have h9 : adF (jl4 l1 k c nb) nb (nI (eA f1 g2 e1 0)) (jl4 l1 k c nb 1 k + jl4 l1 k c nb 1 c + 1) (jl4 l1 k c nb 2 k + jl4 l1 k c nb 2 c - v) (jl4 l1 k c nb 3 k + jl4 l1 k c nb 3 c) 9 10 = nI (nb + 1) := by unfold adF; rw [lu_s, J4 9 10 (by decide) (by decide), h10, nI_1]
      refine runL_go (κ := κ) (p := p) rkL_isBlock (fun p => Nat.beq p 914) 300 rfl ?_
      refine ⟨3, k, A.ld (by decide) (show k < 40 by omega) rfl, ?_⟩
      refine ⟨3, c, A.ld (by decide) (show c < 40 by omega) rfl, ?_⟩
      refine pL_isBlock_900 rfl rfl rfl (c_L_adds A (n := nb) ((J4 9 10 (by decide) (by decide)).trans h10) (by omega)) (fun v κ1 hq900 ho900 hk900 => ?_)
      obtain ⟨rfl, rfl⟩ := hq900
      refine runL_ok rkL_isBlock (fun p => Nat.beq p 914) 300 _ _ _ _ _ _ ?_
      refine ⟨9, 10, A.ld (by decide) (by decide) rfl, ?_⟩
      refine ⟨5, nb, A.ld (by decide) (show nb < 40 by omega) (by rw [h9]; exact nI_pred nb), ?_⟩
      have Z := Z914
      rw [← hl1, ← tt, ← hv, ← ll, ← uu] at Z
      exact Z
    rcases (show e1 = 0 ∨ e1 = 1 ∨ e1 = 2 by omega) with h | h | h
    · skip
      have Z := Z888 3 (by rw [h]; exact (Int32.add_zero _).symm)
      rw [ej] at Z
      refine runL_go (κ := κ) (p := p) rkL_isBlock (fun p => Nat.beq p 888) 300 rfl ?_
      refine ⟨9, 10, A.ld (by decide) (by decide) rfl, ?_⟩
      refine ⟨5, k, A.ld (by decide) (show k < 40 by omega) rfl, ?_⟩
      refine ⟨9, 10, A.ld (by decide) (by decide) rfl, ?_⟩
      refine ⟨5, c, A.ld (by decide) (show c < 40 by omega) rfl, ?_⟩
      refine ⟨0, k, A.ld (by decide) (show k < 40 by omega) rfl, ?_⟩
      refine ⟨0, k, A.ld (by decide) (show k < 40 by omega) rfl, ?_⟩
      refine ⟨0, c, A.ld (by decide) (show c < 40 by omega) rfl, ?_⟩
      refine ⟨0, c, A.ld (by decide) (show c < 40 by omega) rfl, ?_⟩
      refine ⟨1, k, A.ld (by decide) (show k < 40 by omega) rfl, ?_⟩
      refine ⟨1, c, A.ld (by decide) (show c < 40 by omega) rfl, ?_⟩
      refine ⟨2, k, A.ld (by decide) (show k < 40 by omega) rfl, ?_⟩
      refine ⟨2, c, A.ld (by decide) (show c < 40 by omega) rfl, ?_⟩
      refine And.intro (fun c870 => False.elim (by first | exact c870 (by rw [h]; rfl) | exact absurd (by rw [h]; rfl) c870 | exact absurd c870 (by rw [h]; rfl))) (fun c870 => ?_)
      exact Z
    · skip
      have Z := Z888 2 (by rw [h, show nI 1 = (1 : Int32) from rfl]; grind)
      rw [ej] at Z
      refine runL_go (κ := κ) (p := p) rkL_isBlock (fun p => Nat.beq p 888) 300 rfl ?_
      refine ⟨9, 10, A.ld (by decide) (by decide) rfl, ?_⟩
      refine ⟨5, k, A.ld (by decide) (show k < 40 by omega) rfl, ?_⟩
      refine ⟨9, 10, A.ld (by decide) (by decide) rfl, ?_⟩
      refine ⟨5, c, A.ld (by decide) (show c < 40 by omega) rfl, ?_⟩
      refine ⟨0, k, A.ld (by decide) (show k < 40 by omega) rfl, ?_⟩
      refine ⟨0, k, A.ld (by decide) (show k < 40 by omega) rfl, ?_⟩
      refine ⟨0, c, A.ld (by decide) (show c < 40 by omega) rfl, ?_⟩
      refine ⟨0, c, A.ld (by decide) (show c < 40 by omega) rfl, ?_⟩
      refine ⟨1, k, A.ld (by decide) (show k < 40 by omega) rfl, ?_⟩
      refine ⟨1, c, A.ld (by decide) (show c < 40 by omega) rfl, ?_⟩
      refine ⟨2, k, A.ld (by decide) (show k < 40 by omega) rfl, ?_⟩
      refine ⟨2, c, A.ld (by decide) (show c < 40 by omega) rfl, ?_⟩
      refine And.intro (fun c870 => ?_) (fun c870 => False.elim (by first | exact c870 (by rw [h]; decide) | exact absurd (by rw [h]; decide) c870 | exact absurd c870 (by rw [h]; decide)))
      refine And.intro (fun c880 => False.elim (by first | exact c880 (by rw [h]; rfl) | exact absurd (by rw [h]; rfl) c880 | exact absurd c880 (by rw [h]; rfl))) (fun c880 => ?_)
      exact Z
    · skip
      have Z := Z888 1 (by rw [h, show nI 2 = (2 : Int32) from rfl]; grind)
      rw [ej] at Z
      refine runL_go (κ := κ) (p := p) rkL_isBlock (fun p => Nat.beq p 888) 300 rfl ?_
      refine ⟨9, 10, A.ld (by decide) (by decide) rfl, ?_⟩
      refine ⟨5, k, A.ld (by decide) (show k < 40 by omega) rfl, ?_⟩
      refine ⟨9, 10, A.ld (by decide) (by decide) rfl, ?_⟩
      refine ⟨5, c, A.ld (by decide) (show c < 40 by omega) rfl, ?_⟩
      refine ⟨0, k, A.ld (by decide) (show k < 40 by omega) rfl, ?_⟩
      refine ⟨0, k, A.ld (by decide) (show k < 40 by omega) rfl, ?_⟩
      refine ⟨0, c, A.ld (by decide) (show c < 40 by omega) rfl, ?_⟩
      refine ⟨0, c, A.ld (by decide) (show c < 40 by omega) rfl, ?_⟩
      refine ⟨1, k, A.ld (by decide) (show k < 40 by omega) rfl, ?_⟩
      refine ⟨1, c, A.ld (by decide) (show c < 40 by omega) rfl, ?_⟩
      refine ⟨2, k, A.ld (by decide) (show k < 40 by omega) rfl, ?_⟩
      refine ⟨2, c, A.ld (by decide) (show c < 40 by omega) rfl, ?_⟩
      refine And.intro (fun c870 => ?_) (fun c870 => False.elim (by first | exact c870 (by rw [h]; decide) | exact absurd (by rw [h]; decide) c870 | exact absurd c870 (by rw [h]; decide)))
      refine And.intro (fun c880 => ?_) (fun c880 => False.elim (by first | exact c880 (by rw [h]; decide) | exact absurd (by rw [h]; decide) c880 | exact absurd c880 (by rw [h]; decide)))
      exact Z
  refine runL_go (κ := κ) (p := p) rkL_isBlock (fun p => Nat.beq p 795) 300 rfl ?_
  refine ⟨9, 10, A.ld (by decide) (by decide) rfl, ?_⟩
  refine And.intro (fun c701 => False.elim (by first | exact c701 (fun z => h40 ((nI_eq (b := 40) (by omega) (by decide)).mp (a10.symm.trans z))) | exact absurd (fun z => h40 ((nI_eq (b := 40) (by omega) (by decide)).mp (a10.symm.trans z))) c701 | exact absurd c701 (fun z => h40 ((nI_eq (b := 40) (by omega) (by decide)).mp (a10.symm.trans z))))) (fun c701 => ?_)
  refine ⟨9, 11, A.ld (by decide) (by decide) rfl, ?_⟩
  refine And.intro (fun c711 => ?_) (fun c711 => False.elim (by first | exact c711 (fun z => h60w ((nI_eq (b := 60) (by omega) (by decide)).mp (a11.symm.trans z))) | exact absurd (fun z => h60w ((nI_eq (b := 60) (by omega) (by decide)).mp (a11.symm.trans z))) c711 | exact absurd c711 (fun z => h60w ((nI_eq (b := 60) (by omega) (by decide)).mp (a11.symm.trans z)))))
  refine And.intro (fun c718 => False.elim (by first | exact c718 (by decide) | exact absurd (by decide) c718 | exact absurd c718 (by decide))) (fun c718 => ?_)
  refine ⟨0, k, A.ld (by decide) (show k < 40 by omega) rfl, ?_⟩
  refine And.intro (by decide) ?_
  refine And.intro (by decide) ?_
  refine And.intro (fun c739 => False.elim (by first | exact c739 (by decide) | exact absurd (by decide) c739 | exact absurd c739 (by decide))) (fun c739 => ?_)
  refine ⟨0, k, A.ld (by decide) (show k < 40 by omega) rfl, ?_⟩
  refine And.intro (by decide) ?_
  refine ⟨0, c, A.ld (by decide) (show c < 40 by omega) rfl, ?_⟩
  refine And.intro (by decide) ?_
  refine And.intro (by decide) ?_
  refine ⟨9, 10, A.ld (by decide) (by decide) rfl, ?_⟩
  refine ⟨0, c, A.ld (by decide) (show c < 40 by omega) rfl, ?_⟩
  refine And.intro (by decide) ?_
  refine pL_isBlock_792 rfl rfl rfl (c_L_welds A (n := nw) (y := y) a11 rfl (by omega) hy) (fun v κ1 hq792 ho792 hk792 => ?_)
  obtain ⟨rfl, rfl⟩ := hq792
  have Z := Z795 _ rfl
  rw [← e21, ← a10, ← ke, ← cf] at Z
  rw [← kf, ← cg] at Z
  exact Z

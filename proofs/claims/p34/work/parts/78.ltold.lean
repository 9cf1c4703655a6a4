
/-! THE LAW'S isTold -/
def SK (κ κ1 : AH) : Prop := ∀ i, gT κ1 (tM i) = gT κ (tM i) ∧ gN κ1 (tM i) = gN κ (tM i)
def PQ (κ : AH) (p : Nat) (v : Option Value) (κ' : AH) : Prop := v = some (.int 1) ∧ ∃ κ1 l1 σ1 nb1 nw1 np1 wb1, κ' = PL κ1 p l1 ∧ RI κ1 κ1 σ1 nb1 nw1 np1 wb1 ∧ Cp l1 σ1 nb1 nw1 np1 ∧ SK κ κ1
theorem RE_n {κ : AH} {σ : MS} {a b c : Nat} (h : RE κ κ σ) (e8 : σ.1 8 = nI a) (e18 : σ.1 18 = nI b) (e30 : σ.1 30 = nI c) (ha : a ≤ 60) (hb : b ≤ 100) (hc : c ≤ 30) : ∃ wb, RI κ κ σ a b c wb := by
  obtain ⟨nb, nw, np, wb, I⟩ := h
  have q1 : nb = a := (nI_eq (by have := I.1.1; omega) (by omega)).mp (I.1.2.1.symm.trans e8)
  have q2 : nw = b := (nI_eq (by have := I.1.2.2.1; omega) (by omega)).mp (I.1.2.2.2.1.symm.trans e18)
  have q3 : np = c := (nI_eq (by have := I.1.2.2.2.2.1; omega) (by omega)).mp (I.1.2.2.2.2.2.1.symm.trans e30)
  subst q1; subst q2; subst q3
  exact ⟨wb, I⟩
theorem PQ_of {κ κ1 : AH} {p : Nat} {l1 : LSt} {σ1 : MS} {nb nw np : Nat} (hre : RE κ1 κ1 σ1) (hk : SK κ κ1) (e8 : σ1.1 8 = nI nb) (e30 : σ1.1 30 = nI np) (C : Cp l1 σ1 nb nw np) : PQ κ p (some (.int 1)) (PL κ1 p l1) := by
  obtain ⟨⟨h1, h2, h3, h4⟩, D, _⟩ := id C
  obtain ⟨wb, I⟩ := RE_n hre e8 D.2.2.2.2 e30 (by omega) (by omega) (by omega)
  exact ⟨rfl, κ1, l1, σ1, nb, nw, np, wb, rfl, I, C, hk⟩
theorem Cp_g {l l' : LSt} {σ σ' : MS} {nb nw np : Nat} (h : Cp l σ nb nw np) (hl : ∀ j k, ¬ (j = 9 ∧ k < 5) → l' j k = l j k) (hs : σ'.2 = σ.2) (e0 : l' 9 0 = σ'.1 0) (e1 : l' 9 1 = σ'.1 1) (e2 : l' 9 2 = σ'.1 2) (e3 : l' 9 3 = σ'.1 3) (e4 : l' 9 4 = σ'.1 4) (e6 : σ'.1 6 = σ.1 6) (e7 : σ'.1 7 = σ.1 7) (e18 : σ'.1 18 = σ.1 18) : Cp l' σ' nb nw np := by
  obtain ⟨⟨h1, h2, h3, h4⟩, ⟨B, W, R, G, z18⟩, hln⟩ := h
  obtain ⟨a0, a1, a2, a3, a4, a5, a9, a10, a11, a12⟩ := G
  exact ⟨⟨h1, h2, h3, e6.trans h4⟩, ⟨B.cong (fun j hj i _ => hl j i (by omega)) (fun j _ _ i _ => by rw [hs]), W.cong (fun k _ => hl 6 k (by omega)) (fun j _ _ k _ => by rw [hs]) (Nat.le_refl _), R.cong (fun j _ _ c _ => hl j c (by omega)) (fun j _ _ c _ => by rw [hs]), ⟨e0, e1, e2, e3, e4, fun y hy => by rw [hl 9 (5 + y) (by omega), hs]; exact a5 y hy, by rw [hl 9 9 (by omega), e7]; exact a9, by rw [hl 9 10 (by omega)]; exact a10, by rw [hl 9 11 (by omega)]; exact a11, by rw [hl 9 12 (by omega)]; exact a12⟩, e18.trans z18⟩, hln.cong (fun j _ i _ => by rw [hs])⟩
theorem Cp_34 {l : LSt} {σ : MS} {nb nw np : Nat} {c : Int32} (h : Cp l σ nb nw np) : Cp l (upS σ 34 c) nb nw np := by
  obtain ⟨a0, a1, a2, a3, a4, -⟩ := h.2.1.2.2.2.1
  exact Cp_g h (fun _ _ _ => rfl) rfl a0 a1 a2 a3 a4 rfl rfl rfl
theorem rm_nI {o d : Nat} (ho : o < 2 ^ 31) (h0 : 0 < d) (hd : d < 2 ^ 31) : nI o - nI o / nI d * nI d = nI (o % d) := pk_rem ho h0 hd

theorem lu_id {l : LSt} {j k : Nat} : lu l j k (l j k) = l := funext fun a => funext fun b => by
  unfold lu
  by_cases e : a = j ∧ b = k
  · rw [if_pos e, e.1, e.2]
  · rw [if_neg e]
theorem Cp_w {l : LSt} {σ : MS} {nb nw np n : Nat} {c v : Int32} (h : Cp l σ nb nw np) (hn : n < 4) : Cp (lu l 9 (5 + n) v) (upA (upS σ 34 c) 5 n v) nb nw np := by
  obtain ⟨⟨h1, h2, h3, h4⟩, ⟨B, W, R, G, z18⟩, hln⟩ := h
  obtain ⟨a0, a1, a2, a3, a4, a5, a9, a10, a11, a12⟩ := G
  have L : ∀ j k, ¬ (j = 9 ∧ k = 5 + n) → lu l 9 (5 + n) v j k = l j k := fun j k h => lu_o h
  have S : ∀ j k, j ≠ 5 → (upA (upS σ 34 c) 5 n v).2 j k = σ.2 j k := fun j k h => upA_o (fun z => h z.1)
  refine ⟨⟨h1, h2, h3, h4⟩, ⟨B.cong (fun j hj i _ => L j i (by omega)) (fun j _ _ i _ => S _ _ (by omega)), W.cong (fun k _ => L 6 k (by omega)) (fun j _ _ k _ => S _ _ (by omega)) (Nat.le_refl _), R.cong (fun j _ _ c _ => L j c (by omega)) (fun j _ _ c _ => S _ _ (by omega)), ⟨?_, ?_, ?_, ?_, ?_, fun y hy => ?_, ?_, ?_, ?_, ?_⟩, z18⟩, hln.cong (fun j _ i _ => S _ _ (by omega))⟩
  · rw [L _ _ (by omega)]; exact a0
  · rw [L _ _ (by omega)]; exact a1
  · rw [L _ _ (by omega)]; exact a2
  · rw [L _ _ (by omega)]; exact a3
  · rw [L _ _ (by omega)]; exact a4
  · by_cases e : y = n
    · rw [e, lu_s, upA_s]
    · rw [L _ _ (by omega), upA_o (fun z => e z.2)]; exact a5 y hy
  · rw [L _ _ (by omega)]; exact a9
  · rw [L _ _ (by omega)]; exact a10
  · rw [L _ _ (by omega)]; exact a11
  · rw [L _ _ (by omega)]; exact a12
set_option maxRecDepth 20000 in
theorem c_L_isTold {w : W0} {κ : AH} {p : Nat} {l : LSt} {x : Int32} {σ : MS} {o q nb nw np : Nat} {wb : Nat → Nat} (A : AK κ) (hI : RI κ κ σ nb nw np wb) (C : Cp l σ nb nw np) (ho : o < 60000) (hq : q < 60000) : CY w yL_isTold mL_isTold [.ref (tS 4), .ref (tM 9), .int x, .int (nI o), .int (nI q)] (PL κ p l) (fun v κ' => PQ κ p v κ') := by
  refine CY_of mcL_isTold (Nat.le_of_ble_eq_true rfl) (cat1 rfl) (fun θ0 => ?_)
  obtain ⟨a0, a1, a2, a3, a4, a5, a9, a10, a11, a12⟩ := C.2.1.2.2.2.1
  have e8 : σ.1 8 = nI nb := hI.1.e8
  have e30 : σ.1 30 = nI np := hI.1.2.2.2.2.2.1
  have hb4 : gT κ (tS 4) = 9 := hI.2.1.1.t4
  have K82 : ∀ y5 y6 b : Int32, b = (if ((1 ≤ y5 ∧ y5 ≤ 12) ∧ (1 ≤ y6 ∧ y6 ≤ 1000)) then 1 else 0) → Y w mL_isTold θ0 (PL κ p l) (fun v κ' => PQ κ p v κ') (fun _ _ => False) 0 0 82 [some (.ref (tS 4)), some (.ref (tM 9)), some (.int x), some (.int (nI o)), some (.int (nI q)), some (.int y5), some (.int y6), none, none] [.int b] (PL κ p l) := by
    intro y5 y6 b hb
    by_cases c : ((1 ≤ y5 ∧ y5 ≤ 12) ∧ (1 ≤ y6 ∧ y6 ≤ 1000))
    · rw [if_pos c] at hb
      subst hb
      have em : mHall σ y5 y6 = (σ.1 0, upS (upS (upS σ 34 0) 0 y5) 1 y6) := if_pos c
      refine runL_go (κ := κ) (p := p) rkL_isTold (fun p => Nat.beq p 23 || Nat.beq p 50 || Nat.beq p 82 || Nat.beq p 189 || Nat.beq p 209 || Nat.beq p 337 || Nat.beq p 351) 300 rfl ?_
      refine ⟨9, 0, A.ld (by decide) (by decide) rfl, ?_⟩
      refine And.intro (fun c93 => False.elim (by first | exact c93 (by decide) | exact absurd (by decide) c93 | exact absurd c93 (by decide))) (fun c93 => ?_)
      refine ⟨9, 0, A.ld (by decide) (by decide) rfl, ?_⟩
      refine And.intro (fun c108 => False.elim (by first | exact c108 (by decide) | exact absurd (by decide) c108 | exact absurd c108 (by decide))) (fun c108 => ?_)
      refine ⟨9, 1, A.ld (by decide) (by decide) rfl, ?_⟩
      refine pL_isTold_130 rfl rfl rfl (w_hall (RI_PL hI)) (fun v κ1 hq130 ho130 hk130 => ?_)
      obtain ⟨rfl, hre⟩ := hq130
      obtain ⟨κ1, rfl, hR1, hk1⟩ := PL_back hre
      have A1 := AK_of A hk1
      refine runL_ok rkL_isTold (fun p => Nat.beq p 23 || Nat.beq p 50 || Nat.beq p 82 || Nat.beq p 189 || Nat.beq p 209 || Nat.beq p 337 || Nat.beq p 351) 300 _ _ _ _ _ _ ?_
      refine And.intro (fun c135 => False.elim (by first | exact c135 (by decide) | exact absurd (by decide) c135 | exact absurd c135 (by decide))) (fun c135 => ?_)
      refine And.intro (fun c145 => False.elim (by first | exact c145 (show dv (-2000000) 0 0 (mHall σ y5 y6) = l 9 0 by rw [em, a0]; rfl) | exact absurd (show dv (-2000000) 0 0 (mHall σ y5 y6) = l 9 0 by rw [em, a0]; rfl) c145 | exact absurd c145 (show dv (-2000000) 0 0 (mHall σ y5 y6) = l 9 0 by rw [em, a0]; rfl))) (fun c145 => ?_)
      refine And.intro ⟨Nat.le_of_ble_eq_true rfl, Nat.le_of_ble_eq_true rfl⟩ ?_
      refine And.intro (by first | exact Or.inl rfl | exact Or.inr rfl) ?_
      rw [em] at hR1
      exact PQ_of hR1 hk1 e8 e30 (Cp_g C (fun j k h => by rw [lu_o (fun z => h (by omega)), lu_o (fun z => h (by omega))]) rfl rfl rfl a2 a3 a4 rfl rfl rfl)
    · rw [if_neg c] at hb
      subst hb
      have em : mHall σ y5 y6 = (0, upS σ 34 1) := if_neg c
      refine runL_go (κ := κ) (p := p) rkL_isTold (fun p => Nat.beq p 23 || Nat.beq p 50 || Nat.beq p 82 || Nat.beq p 189 || Nat.beq p 209 || Nat.beq p 337 || Nat.beq p 351) 300 rfl ?_
      refine ⟨9, 0, A.ld (by decide) (by decide) rfl, ?_⟩
      refine And.intro (fun c93 => ?_) (fun c93 => False.elim (by first | exact c93 (by decide) | exact absurd (by decide) c93 | exact absurd c93 (by decide)))
      refine ⟨9, 0, A.ld (by decide) (by decide) rfl, ?_⟩
      refine And.intro (fun c108 => ?_) (fun c108 => False.elim (by first | exact c108 (by decide) | exact absurd (by decide) c108 | exact absurd c108 (by decide)))
      refine ⟨9, 1, A.ld (by decide) (by decide) rfl, ?_⟩
      refine ⟨9, 1, A.ld (by decide) (by decide) rfl, ?_⟩
      refine pL_isTold_130 rfl rfl rfl (w_hall (RI_PL hI)) (fun v κ1 hq130 ho130 hk130 => ?_)
      obtain ⟨rfl, hre⟩ := hq130
      obtain ⟨κ1, rfl, hR1, hk1⟩ := PL_back hre
      have A1 := AK_of A hk1
      refine runL_ok rkL_isTold (fun p => Nat.beq p 23 || Nat.beq p 50 || Nat.beq p 82 || Nat.beq p 189 || Nat.beq p 209 || Nat.beq p 337 || Nat.beq p 351) 300 _ _ _ _ _ _ ?_
      refine And.intro (fun c135 => ?_) (fun c135 => False.elim (by first | exact c135 (by decide) | exact absurd (by decide) c135 | exact absurd c135 (by decide)))
      refine pL_isTold_143 ?_
      refine runL_ok rkL_isTold (fun p => Nat.beq p 23 || Nat.beq p 50 || Nat.beq p 82 || Nat.beq p 189 || Nat.beq p 209 || Nat.beq p 337 || Nat.beq p 351) 300 _ _ _ _ _ _ ?_
      refine And.intro (fun c145 => False.elim (by first | exact c145 (show dv (-2000000) 0 0 (mHall σ y5 y6) = -2000000 by rw [em]; rfl) | exact absurd (show dv (-2000000) 0 0 (mHall σ y5 y6) = -2000000 by rw [em]; rfl) c145 | exact absurd c145 (show dv (-2000000) 0 0 (mHall σ y5 y6) = -2000000 by rw [em]; rfl))) (fun c145 => ?_)
      refine And.intro ⟨Nat.le_of_ble_eq_true rfl, Nat.le_of_ble_eq_true rfl⟩ ?_
      refine And.intro (by first | exact Or.inl rfl | exact Or.inr rfl) ?_
      rw [em] at hR1
      exact PQ_of hR1 hk1 e8 e30 (Cp_g C (fun j k h => by rw [lu_o (fun z => h (by omega)), lu_o (fun z => h (by omega))]) rfl a0 a1 a2 a3 a4 rfl rfl rfl)
  have K50 : ∀ y5 v : Int32, Y w mL_isTold θ0 (PL κ p l) (fun v κ' => PQ κ p v κ') (fun _ _ => False) 0 0 50 [some (.ref (tS 4)), some (.ref (tM 9)), some (.int x), some (.int (nI o)), some (.int (nI q)), some (.int y5), none, none, none] [.int v] (PL κ p l) := by
    intro y5 v
    refine runL_go (κ := κ) (p := p) rkL_isTold (fun p => Nat.beq p 23 || Nat.beq p 50 || Nat.beq p 82 || Nat.beq p 189 || Nat.beq p 209 || Nat.beq p 337 || Nat.beq p 351) 300 rfl ?_
    refine And.intro (fun c54 => ?_) (fun c54 => ?_)
    · skip
      exact K82 _ _ _ (by first | exact (if_pos (by grind)).symm | exact (if_neg (by grind)).symm)
    · skip
      refine And.intro (fun c61 => ?_) (fun c61 => ?_)
      · skip
        exact K82 _ _ _ (by first | exact (if_pos (by grind)).symm | exact (if_neg (by grind)).symm)
      · skip
        refine And.intro (fun c66 => ?_) (fun c66 => ?_)
        · skip
          exact K82 _ _ _ (by first | exact (if_pos (by grind)).symm | exact (if_neg (by grind)).symm)
        · skip
          refine And.intro (fun c74 => ?_) (fun c74 => ?_)
          · skip
            exact K82 _ _ _ (by first | exact (if_pos (by grind)).symm | exact (if_neg (by grind)).symm)
          · skip
            exact K82 _ _ _ (by first | exact (if_pos (by grind)).symm | exact (if_neg (by grind)).symm)
  have K23 : ∀ v : Int32, Y w mL_isTold θ0 (PL κ p l) (fun v κ' => PQ κ p v κ') (fun _ _ => False) 0 0 23 [some (.ref (tS 4)), some (.ref (tM 9)), some (.int x), some (.int (nI o)), some (.int (nI q)), none, none, none, none] [.int v] (PL κ p l) := by
    intro v
    refine runL_go (κ := κ) (p := p) rkL_isTold (fun p => Nat.beq p 23 || Nat.beq p 50 || Nat.beq p 82 || Nat.beq p 189 || Nat.beq p 209 || Nat.beq p 337 || Nat.beq p 351) 300 rfl ?_
    refine And.intro (by decide) ?_
    refine And.intro (fun c29 => ?_) (fun c29 => ?_)
    · skip
      refine And.intro (by decide) ?_
      exact K50 _ _
    · skip
      refine And.intro (by decide) ?_
      exact K50 _ _
  have K209 : ∀ n : Nat, n < 13 → ∀ y6 b : Int32, b = (if (1 ≤ y6 ∧ y6 ≤ 1000) then 1 else 0) → Y w mL_isTold θ0 (PL κ p l) (fun v κ' => PQ κ p v κ') (fun _ _ => False) 0 0 209 [some (.ref (tS 4)), some (.ref (tM 9)), some (.int x), some (.int (nI o)), some (.int (nI q)), some (.int (nI n)), some (.int y6), none, none] [.int b] (PL κ p l) := by
    intro n hn y6 b hb
    by_cases c : (1 ≤ y6 ∧ y6 ≤ 1000)
    · rw [if_pos c] at hb
      subst hb
      by_cases c2 : n < 12
      · skip
        have cl : ¬ 12 ≤ nI n := fun z => by have := (nI_leI (a := 12) (by decide) (by omega)).mp z; omega
        have cf : 0 ≤ nI n ∧ nI n ≤ 11 := ⟨nI_pos' (by omega), nI_le (b := 11) (by omega) (by decide)⟩
        have em : mCrane σ (nI n) y6 = (σ.1 3, upS (upS (upS σ 34 0) 2 (nI n)) 3 y6) := by unfold mCrane; rw [if_neg (fun z => z cf), if_neg (fun z => z c)]
        refine runL_go (κ := κ) (p := p) rkL_isTold (fun p => Nat.beq p 23 || Nat.beq p 50 || Nat.beq p 82 || Nat.beq p 189 || Nat.beq p 209 || Nat.beq p 337 || Nat.beq p 351) 300 rfl ?_
        refine ⟨9, 3, A.ld (by decide) (by decide) rfl, ?_⟩
        refine And.intro (fun c222 => False.elim (by first | exact c222 cl | exact absurd cl c222 | exact absurd c222 cl)) (fun c222 => ?_)
        refine And.intro (fun c227 => False.elim (by first | exact c227 (by decide) | exact absurd (by decide) c227 | exact absurd c227 (by decide))) (fun c227 => ?_)
        refine ⟨9, 2, A.ld (by decide) (by decide) rfl, ?_⟩
        refine And.intro (fun c245 => False.elim (by first | exact c245 cl | exact absurd cl c245 | exact absurd c245 cl)) (fun c245 => ?_)
        refine And.intro (fun c250 => False.elim (by first | exact c250 (by decide) | exact absurd (by decide) c250 | exact absurd c250 (by decide))) (fun c250 => ?_)
        refine ⟨9, 3, A.ld (by decide) (by decide) rfl, ?_⟩
        refine pL_isTold_271 rfl rfl rfl (w_crane (RI_PL hI)) (fun v κ1 hq271 ho271 hk271 => ?_)
        obtain ⟨rfl, hre⟩ := hq271
        obtain ⟨κ1, rfl, hR1, hk1⟩ := PL_back hre
        have A1 := AK_of A hk1
        refine runL_ok rkL_isTold (fun p => Nat.beq p 23 || Nat.beq p 50 || Nat.beq p 82 || Nat.beq p 189 || Nat.beq p 209 || Nat.beq p 337 || Nat.beq p 351) 300 _ _ _ _ _ _ ?_
        refine And.intro (fun c278 => ?_) (fun c278 => False.elim (by first | exact c278 (fun z => cl (by rw [z]; decide)) | exact absurd (fun z => cl (by rw [z]; decide)) c278 | exact absurd c278 (fun z => cl (by rw [z]; decide))))
        refine And.intro (fun c288 => False.elim (by first | exact c288 (by decide) | exact absurd (by decide) c288 | exact absurd c288 (by decide))) (fun c288 => ?_)
        refine And.intro (fun c298 => False.elim (by first | exact c298 (show dv (-3000000) (-2000000) 0 (mCrane σ (nI n) y6) = l 9 3 by rw [em, a3]; rfl) | exact absurd (show dv (-3000000) (-2000000) 0 (mCrane σ (nI n) y6) = l 9 3 by rw [em, a3]; rfl) c298 | exact absurd c298 (show dv (-3000000) (-2000000) 0 (mCrane σ (nI n) y6) = l 9 3 by rw [em, a3]; rfl))) (fun c298 => ?_)
        refine And.intro ⟨Nat.le_of_ble_eq_true rfl, Nat.le_of_ble_eq_true rfl⟩ ?_
        refine And.intro (by first | exact Or.inl rfl | exact Or.inr rfl) ?_
        rw [em] at hR1
        exact PQ_of hR1 hk1 e8 e30 (Cp_g C (fun j k h => by rw [lu_o (fun z => h (by omega)), lu_o (fun z => h (by omega))]) rfl a0 a1 rfl rfl a4 rfl rfl rfl)
      · skip
        have en : n = 12 := by omega
        subst en
        have em : mCrane σ (nI 12) y6 = (0, upS σ 34 1) := by unfold mCrane; rw [if_pos (by decide)]
        refine runL_go (κ := κ) (p := p) rkL_isTold (fun p => Nat.beq p 23 || Nat.beq p 50 || Nat.beq p 82 || Nat.beq p 189 || Nat.beq p 209 || Nat.beq p 337 || Nat.beq p 351) 300 rfl ?_
        refine ⟨9, 3, A.ld (by decide) (by decide) rfl, ?_⟩
        refine And.intro (fun c222 => ?_) (fun c222 => False.elim (by first | exact c222 (by decide) | exact absurd (by decide) c222 | exact absurd c222 (by decide)))
        refine ⟨9, 2, A.ld (by decide) (by decide) rfl, ?_⟩
        refine ⟨9, 2, A.ld (by decide) (by decide) rfl, ?_⟩
        refine And.intro (fun c245 => ?_) (fun c245 => False.elim (by first | exact c245 (by decide) | exact absurd (by decide) c245 | exact absurd c245 (by decide)))
        refine ⟨9, 3, A.ld (by decide) (by decide) rfl, ?_⟩
        refine pL_isTold_271 rfl rfl rfl (w_crane (RI_PL hI)) (fun v κ1 hq271 ho271 hk271 => ?_)
        obtain ⟨rfl, hre⟩ := hq271
        obtain ⟨κ1, rfl, hR1, hk1⟩ := PL_back hre
        have A1 := AK_of A hk1
        refine runL_ok rkL_isTold (fun p => Nat.beq p 23 || Nat.beq p 50 || Nat.beq p 82 || Nat.beq p 189 || Nat.beq p 209 || Nat.beq p 337 || Nat.beq p 351) 300 _ _ _ _ _ _ ?_
        refine And.intro (fun c278 => False.elim (by first | exact c278 (by decide) | exact absurd (by decide) c278 | exact absurd c278 (by decide))) (fun c278 => ?_)
        refine pL_isTold_281 ?_
        refine runL_ok rkL_isTold (fun p => Nat.beq p 23 || Nat.beq p 50 || Nat.beq p 82 || Nat.beq p 189 || Nat.beq p 209 || Nat.beq p 337 || Nat.beq p 351) 300 _ _ _ _ _ _ ?_
        refine And.intro (fun c298 => False.elim (by first | exact c298 (show dv (-3000000) (-2000000) 0 (mCrane σ (nI 12) y6) = -3000000 by rw [em]; rfl) | exact absurd (show dv (-3000000) (-2000000) 0 (mCrane σ (nI 12) y6) = -3000000 by rw [em]; rfl) c298 | exact absurd c298 (show dv (-3000000) (-2000000) 0 (mCrane σ (nI 12) y6) = -3000000 by rw [em]; rfl))) (fun c298 => ?_)
        refine And.intro ⟨Nat.le_of_ble_eq_true rfl, Nat.le_of_ble_eq_true rfl⟩ ?_
        refine And.intro (by first | exact Or.inl rfl | exact Or.inr rfl) ?_
        rw [em] at hR1
        exact PQ_of hR1 hk1 e8 e30 (Cp_g C (fun j k h => by rw [lu_o (fun z => h (by omega)), lu_o (fun z => h (by omega))]) rfl a0 a1 a2 a3 a4 rfl rfl rfl)
    · rw [if_neg c] at hb
      subst hb
      by_cases c2 : n < 12
      · skip
        have cl : ¬ 12 ≤ nI n := fun z => by have := (nI_leI (a := 12) (by decide) (by omega)).mp z; omega
        have cf : 0 ≤ nI n ∧ nI n ≤ 11 := ⟨nI_pos' (by omega), nI_le (b := 11) (by omega) (by decide)⟩
        have em : mCrane σ (nI n) y6 = (0, upS σ 34 2) := by unfold mCrane; rw [if_neg (fun z => z cf), if_pos c]
        refine runL_go (κ := κ) (p := p) rkL_isTold (fun p => Nat.beq p 23 || Nat.beq p 50 || Nat.beq p 82 || Nat.beq p 189 || Nat.beq p 209 || Nat.beq p 337 || Nat.beq p 351) 300 rfl ?_
        refine ⟨9, 3, A.ld (by decide) (by decide) rfl, ?_⟩
        refine And.intro (fun c222 => False.elim (by first | exact c222 cl | exact absurd cl c222 | exact absurd c222 cl)) (fun c222 => ?_)
        refine And.intro (fun c227 => ?_) (fun c227 => False.elim (by first | exact c227 (by decide) | exact absurd (by decide) c227 | exact absurd c227 (by decide)))
        refine ⟨9, 2, A.ld (by decide) (by decide) rfl, ?_⟩
        refine ⟨9, 2, A.ld (by decide) (by decide) rfl, ?_⟩
        refine And.intro (fun c245 => False.elim (by first | exact c245 cl | exact absurd cl c245 | exact absurd c245 cl)) (fun c245 => ?_)
        refine And.intro (fun c250 => ?_) (fun c250 => False.elim (by first | exact c250 (by decide) | exact absurd (by decide) c250 | exact absurd c250 (by decide)))
        refine ⟨9, 3, A.ld (by decide) (by decide) rfl, ?_⟩
        refine pL_isTold_271 rfl rfl rfl (w_crane (RI_PL hI)) (fun v κ1 hq271 ho271 hk271 => ?_)
        obtain ⟨rfl, hre⟩ := hq271
        obtain ⟨κ1, rfl, hR1, hk1⟩ := PL_back hre
        have A1 := AK_of A hk1
        refine runL_ok rkL_isTold (fun p => Nat.beq p 23 || Nat.beq p 50 || Nat.beq p 82 || Nat.beq p 189 || Nat.beq p 209 || Nat.beq p 337 || Nat.beq p 351) 300 _ _ _ _ _ _ ?_
        refine And.intro (fun c278 => ?_) (fun c278 => False.elim (by first | exact c278 (fun z => cl (by rw [z]; decide)) | exact absurd (fun z => cl (by rw [z]; decide)) c278 | exact absurd c278 (fun z => cl (by rw [z]; decide))))
        refine And.intro (fun c288 => ?_) (fun c288 => False.elim (by first | exact c288 (by decide) | exact absurd (by decide) c288 | exact absurd c288 (by decide)))
        refine pL_isTold_296 ?_
        refine runL_ok rkL_isTold (fun p => Nat.beq p 23 || Nat.beq p 50 || Nat.beq p 82 || Nat.beq p 189 || Nat.beq p 209 || Nat.beq p 337 || Nat.beq p 351) 300 _ _ _ _ _ _ ?_
        refine And.intro (fun c298 => False.elim (by first | exact c298 (show dv (-3000000) (-2000000) 0 (mCrane σ (nI n) y6) = -2000000 by rw [em]; rfl) | exact absurd (show dv (-3000000) (-2000000) 0 (mCrane σ (nI n) y6) = -2000000 by rw [em]; rfl) c298 | exact absurd c298 (show dv (-3000000) (-2000000) 0 (mCrane σ (nI n) y6) = -2000000 by rw [em]; rfl))) (fun c298 => ?_)
        refine And.intro ⟨Nat.le_of_ble_eq_true rfl, Nat.le_of_ble_eq_true rfl⟩ ?_
        refine And.intro (by first | exact Or.inl rfl | exact Or.inr rfl) ?_
        rw [em] at hR1
        exact PQ_of hR1 hk1 e8 e30 (Cp_g C (fun j k h => by rw [lu_o (fun z => h (by omega)), lu_o (fun z => h (by omega))]) rfl a0 a1 a2 a3 a4 rfl rfl rfl)
      · skip
        have en : n = 12 := by omega
        subst en
        have em : mCrane σ (nI 12) y6 = (0, upS σ 34 1) := by unfold mCrane; rw [if_pos (by decide)]
        refine runL_go (κ := κ) (p := p) rkL_isTold (fun p => Nat.beq p 23 || Nat.beq p 50 || Nat.beq p 82 || Nat.beq p 189 || Nat.beq p 209 || Nat.beq p 337 || Nat.beq p 351) 300 rfl ?_
        refine ⟨9, 3, A.ld (by decide) (by decide) rfl, ?_⟩
        refine And.intro (fun c222 => ?_) (fun c222 => False.elim (by first | exact c222 (by decide) | exact absurd (by decide) c222 | exact absurd c222 (by decide)))
        refine ⟨9, 2, A.ld (by decide) (by decide) rfl, ?_⟩
        refine ⟨9, 2, A.ld (by decide) (by decide) rfl, ?_⟩
        refine And.intro (fun c245 => ?_) (fun c245 => False.elim (by first | exact c245 (by decide) | exact absurd (by decide) c245 | exact absurd c245 (by decide)))
        refine ⟨9, 3, A.ld (by decide) (by decide) rfl, ?_⟩
        refine pL_isTold_271 rfl rfl rfl (w_crane (RI_PL hI)) (fun v κ1 hq271 ho271 hk271 => ?_)
        obtain ⟨rfl, hre⟩ := hq271
        obtain ⟨κ1, rfl, hR1, hk1⟩ := PL_back hre
        have A1 := AK_of A hk1
        refine runL_ok rkL_isTold (fun p => Nat.beq p 23 || Nat.beq p 50 || Nat.beq p 82 || Nat.beq p 189 || Nat.beq p 209 || Nat.beq p 337 || Nat.beq p 351) 300 _ _ _ _ _ _ ?_
        refine And.intro (fun c278 => False.elim (by first | exact c278 (by decide) | exact absurd (by decide) c278 | exact absurd c278 (by decide))) (fun c278 => ?_)
        refine pL_isTold_281 ?_
        refine runL_ok rkL_isTold (fun p => Nat.beq p 23 || Nat.beq p 50 || Nat.beq p 82 || Nat.beq p 189 || Nat.beq p 209 || Nat.beq p 337 || Nat.beq p 351) 300 _ _ _ _ _ _ ?_
        refine And.intro (fun c298 => False.elim (by first | exact c298 (show dv (-3000000) (-2000000) 0 (mCrane σ (nI 12) y6) = -3000000 by rw [em]; rfl) | exact absurd (show dv (-3000000) (-2000000) 0 (mCrane σ (nI 12) y6) = -3000000 by rw [em]; rfl) c298 | exact absurd c298 (show dv (-3000000) (-2000000) 0 (mCrane σ (nI 12) y6) = -3000000 by rw [em]; rfl))) (fun c298 => ?_)
        refine And.intro ⟨Nat.le_of_ble_eq_true rfl, Nat.le_of_ble_eq_true rfl⟩ ?_
        refine And.intro (by first | exact Or.inl rfl | exact Or.inr rfl) ?_
        rw [em] at hR1
        exact PQ_of hR1 hk1 e8 e30 (Cp_g C (fun j k h => by rw [lu_o (fun z => h (by omega)), lu_o (fun z => h (by omega))]) rfl a0 a1 a2 a3 a4 rfl rfl rfl)
  have K189 : ∀ n : Nat, n < 13 → ∀ v : Int32, Y w mL_isTold θ0 (PL κ p l) (fun v κ' => PQ κ p v κ') (fun _ _ => False) 0 0 189 [some (.ref (tS 4)), some (.ref (tM 9)), some (.int x), some (.int (nI o)), some (.int (nI q)), some (.int (nI n)), none, none, none] [.int v] (PL κ p l) := by
    intro n hn v
    refine runL_go (κ := κ) (p := p) rkL_isTold (fun p => Nat.beq p 23 || Nat.beq p 50 || Nat.beq p 82 || Nat.beq p 189 || Nat.beq p 209 || Nat.beq p 337 || Nat.beq p 351) 300 rfl ?_
    refine And.intro (fun c193 => ?_) (fun c193 => ?_)
    · skip
      exact K209 n hn _ _ (by first | exact (if_pos (by grind)).symm | exact (if_neg (by grind)).symm)
    · skip
      refine And.intro (fun c201 => ?_) (fun c201 => ?_)
      · skip
        exact K209 n hn _ _ (by first | exact (if_pos (by grind)).symm | exact (if_neg (by grind)).symm)
      · skip
        exact K209 n hn _ _ (by first | exact (if_pos (by grind)).symm | exact (if_neg (by grind)).symm)
  have K351 : ∀ n : Nat, n < 5 → ∀ m : Nat, m < 200 → ∀ b : Int32, b = (if m < 101 then 1 else 0) → Y w mL_isTold θ0 (PL κ p l) (fun v κ' => PQ κ p v κ') (fun _ _ => False) 0 0 351 [some (.ref (tS 4)), some (.ref (tM 9)), some (.int x), some (.int (nI o)), some (.int (nI q)), some (.int (nI n)), some (.int (nI m)), none, none] [.int b] (PL κ p l) := by
    intro n hn m hm b hb
    have e5 : 5 + (nI n - nI n / 4 * 4) = nI (5 + n % 4) := by rw [show (4 : Int32) = nI 4 from rfl, rm_nI (by omega) (by decide) (by decide), ix5]
    by_cases c : m < 101
    · rw [if_pos c] at hb
      subst hb
      by_cases c2 : n < 4
      · skip
        have cl : ¬ 4 ≤ nI n := fun z => by have := (nI_leI (a := 4) (by decide) (by omega)).mp z; omega
        have cf : 0 ≤ nI n ∧ nI n ≤ 3 := ⟨nI_pos' (by omega), nI_le (b := 3) (by omega) (by decide)⟩
        have cm : 0 ≤ nI m ∧ nI m ≤ 100 := ⟨nI_pos' (by omega), nI_le (b := 100) (by omega) (by decide)⟩
        have em : mWelder σ (nI n) (nI m) = (σ.2 5 n, upA (upS σ 34 0) 5 n (nI m)) := by unfold mWelder; rw [if_neg (fun z => z cf), if_neg (fun z => z cm), nI_clamp (by omega)]
        have em4 : n % 4 = n := Nat.mod_eq_of_lt c2
        refine runL_go (κ := κ) (p := p) rkL_isTold (fun p => Nat.beq p 23 || Nat.beq p 50 || Nat.beq p 82 || Nat.beq p 189 || Nat.beq p 209 || Nat.beq p 337 || Nat.beq p 351) 300 rfl ?_
        refine And.intro (by decide) ?_
        refine ⟨9, (5 + n % 4), A.ld (by decide) (show 5 + n % 4 < 13 by omega) e5, ?_⟩
        refine And.intro (by decide) ?_
        refine And.intro (fun c373 => False.elim (by first | exact c373 cl | exact absurd cl c373 | exact absurd c373 cl)) (fun c373 => ?_)
        refine And.intro (fun c378 => False.elim (by first | exact c378 (by decide) | exact absurd (by decide) c378 | exact absurd c378 (by decide))) (fun c378 => ?_)
        refine ⟨9, (5 + n % 4), A.ld (by decide) (show 5 + n % 4 < 13 by omega) e5, ?_⟩
        refine pL_isTold_399 rfl rfl rfl (w_welder (RI_PL hI)) (fun v κ1 hq399 ho399 hk399 => ?_)
        obtain ⟨rfl, hre⟩ := hq399
        obtain ⟨κ1, rfl, hR1, hk1⟩ := PL_back hre
        have A1 := AK_of A hk1
        refine runL_ok rkL_isTold (fun p => Nat.beq p 23 || Nat.beq p 50 || Nat.beq p 82 || Nat.beq p 189 || Nat.beq p 209 || Nat.beq p 337 || Nat.beq p 351) 300 _ _ _ _ _ _ ?_
        refine And.intro (fun c405 => ?_) (fun c405 => False.elim (by first | exact c405 (fun z => cl (by rw [z]; decide)) | exact absurd (fun z => cl (by rw [z]; decide)) c405 | exact absurd c405 (fun z => cl (by rw [z]; decide))))
        refine And.intro (fun c415 => False.elim (by first | exact c415 (by decide) | exact absurd (by decide) c415 | exact absurd c415 (by decide))) (fun c415 => ?_)
        refine And.intro (fun c425 => False.elim (by first | exact c425 (show dv (-3000000) (-2000000) 0 (mWelder σ (nI n) (nI m)) = l 9 (5 + n % 4) by rw [em, em4, a5 n c2]; rfl) | exact absurd (show dv (-3000000) (-2000000) 0 (mWelder σ (nI n) (nI m)) = l 9 (5 + n % 4) by rw [em, em4, a5 n c2]; rfl) c425 | exact absurd c425 (show dv (-3000000) (-2000000) 0 (mWelder σ (nI n) (nI m)) = l 9 (5 + n % 4) by rw [em, em4, a5 n c2]; rfl))) (fun c425 => ?_)
        refine And.intro ⟨Nat.le_of_ble_eq_true rfl, Nat.le_of_ble_eq_true rfl⟩ ?_
        refine And.intro (by first | exact Or.inl rfl | exact Or.inr rfl) ?_
        rw [em] at hR1
        exact PQ_of hR1 hk1 e8 e30 (by rw [em4]; exact Cp_w C c2)
      · skip
        have en : n = 4 := by omega
        subst en
        have cm : 0 ≤ nI m ∧ nI m ≤ 100 := ⟨nI_pos' (by omega), nI_le (b := 100) (by omega) (by decide)⟩
        have em : mWelder σ (nI 4) (nI m) = (0, upS σ 34 1) := by unfold mWelder; rw [if_pos (by decide)]
        refine runL_go (κ := κ) (p := p) rkL_isTold (fun p => Nat.beq p 23 || Nat.beq p 50 || Nat.beq p 82 || Nat.beq p 189 || Nat.beq p 209 || Nat.beq p 337 || Nat.beq p 351) 300 rfl ?_
        refine And.intro (by decide) ?_
        refine ⟨9, (5 + 4 % 4), A.ld (by decide) (show 5 + 4 % 4 < 13 by omega) e5, ?_⟩
        refine And.intro (by decide) ?_
        refine And.intro (fun c373 => ?_) (fun c373 => False.elim (by first | exact c373 (by decide) | exact absurd (by decide) c373 | exact absurd c373 (by decide)))
        refine ⟨9, (5 + 4 % 4), A.ld (by decide) (show 5 + 4 % 4 < 13 by omega) e5, ?_⟩
        refine pL_isTold_399 rfl rfl rfl (w_welder (RI_PL hI)) (fun v κ1 hq399 ho399 hk399 => ?_)
        obtain ⟨rfl, hre⟩ := hq399
        obtain ⟨κ1, rfl, hR1, hk1⟩ := PL_back hre
        have A1 := AK_of A hk1
        refine runL_ok rkL_isTold (fun p => Nat.beq p 23 || Nat.beq p 50 || Nat.beq p 82 || Nat.beq p 189 || Nat.beq p 209 || Nat.beq p 337 || Nat.beq p 351) 300 _ _ _ _ _ _ ?_
        refine And.intro (fun c405 => False.elim (by first | exact c405 (by decide) | exact absurd (by decide) c405 | exact absurd c405 (by decide))) (fun c405 => ?_)
        refine pL_isTold_408 ?_
        refine runL_ok rkL_isTold (fun p => Nat.beq p 23 || Nat.beq p 50 || Nat.beq p 82 || Nat.beq p 189 || Nat.beq p 209 || Nat.beq p 337 || Nat.beq p 351) 300 _ _ _ _ _ _ ?_
        refine And.intro (fun c425 => False.elim (by first | exact c425 (show dv (-3000000) (-2000000) 0 (mWelder σ (nI 4) (nI m)) = -3000000 by rw [em]; rfl) | exact absurd (show dv (-3000000) (-2000000) 0 (mWelder σ (nI 4) (nI m)) = -3000000 by rw [em]; rfl) c425 | exact absurd c425 (show dv (-3000000) (-2000000) 0 (mWelder σ (nI 4) (nI m)) = -3000000 by rw [em]; rfl))) (fun c425 => ?_)
        refine And.intro ⟨Nat.le_of_ble_eq_true rfl, Nat.le_of_ble_eq_true rfl⟩ ?_
        refine And.intro (by first | exact Or.inl rfl | exact Or.inr rfl) ?_
        rw [em] at hR1
        exact PQ_of hR1 hk1 e8 e30 (by rw [lu_id]; exact Cp_34 C)
    · rw [if_neg c] at hb
      subst hb
      by_cases c2 : n < 4
      · skip
        have cl : ¬ 4 ≤ nI n := fun z => by have := (nI_leI (a := 4) (by decide) (by omega)).mp z; omega
        have cf : 0 ≤ nI n ∧ nI n ≤ 3 := ⟨nI_pos' (by omega), nI_le (b := 3) (by omega) (by decide)⟩
        have cm : ¬ (0 ≤ nI m ∧ nI m ≤ 100) := fun z => by have := (nI_leI (b := 100) (by omega) (by decide)).mp z.2; omega
        have em : mWelder σ (nI n) (nI m) = (0, upS σ 34 2) := by unfold mWelder; rw [if_neg (fun z => z cf), if_pos cm]
        have em4 : n % 4 = n := Nat.mod_eq_of_lt c2
        refine runL_go (κ := κ) (p := p) rkL_isTold (fun p => Nat.beq p 23 || Nat.beq p 50 || Nat.beq p 82 || Nat.beq p 189 || Nat.beq p 209 || Nat.beq p 337 || Nat.beq p 351) 300 rfl ?_
        refine And.intro (by decide) ?_
        refine ⟨9, (5 + n % 4), A.ld (by decide) (show 5 + n % 4 < 13 by omega) e5, ?_⟩
        refine And.intro (by decide) ?_
        refine And.intro (fun c373 => False.elim (by first | exact c373 cl | exact absurd cl c373 | exact absurd c373 cl)) (fun c373 => ?_)
        refine And.intro (fun c378 => ?_) (fun c378 => False.elim (by first | exact c378 (by decide) | exact absurd (by decide) c378 | exact absurd c378 (by decide)))
        refine ⟨9, (5 + n % 4), A.ld (by decide) (show 5 + n % 4 < 13 by omega) e5, ?_⟩
        refine pL_isTold_399 rfl rfl rfl (w_welder (RI_PL hI)) (fun v κ1 hq399 ho399 hk399 => ?_)
        obtain ⟨rfl, hre⟩ := hq399
        obtain ⟨κ1, rfl, hR1, hk1⟩ := PL_back hre
        have A1 := AK_of A hk1
        refine runL_ok rkL_isTold (fun p => Nat.beq p 23 || Nat.beq p 50 || Nat.beq p 82 || Nat.beq p 189 || Nat.beq p 209 || Nat.beq p 337 || Nat.beq p 351) 300 _ _ _ _ _ _ ?_
        refine And.intro (fun c405 => ?_) (fun c405 => False.elim (by first | exact c405 (fun z => cl (by rw [z]; decide)) | exact absurd (fun z => cl (by rw [z]; decide)) c405 | exact absurd c405 (fun z => cl (by rw [z]; decide))))
        refine And.intro (fun c415 => ?_) (fun c415 => False.elim (by first | exact c415 (by decide) | exact absurd (by decide) c415 | exact absurd c415 (by decide)))
        refine pL_isTold_423 ?_
        refine runL_ok rkL_isTold (fun p => Nat.beq p 23 || Nat.beq p 50 || Nat.beq p 82 || Nat.beq p 189 || Nat.beq p 209 || Nat.beq p 337 || Nat.beq p 351) 300 _ _ _ _ _ _ ?_
        refine And.intro (fun c425 => False.elim (by first | exact c425 (show dv (-3000000) (-2000000) 0 (mWelder σ (nI n) (nI m)) = -2000000 by rw [em]; rfl) | exact absurd (show dv (-3000000) (-2000000) 0 (mWelder σ (nI n) (nI m)) = -2000000 by rw [em]; rfl) c425 | exact absurd c425 (show dv (-3000000) (-2000000) 0 (mWelder σ (nI n) (nI m)) = -2000000 by rw [em]; rfl))) (fun c425 => ?_)
        refine And.intro ⟨Nat.le_of_ble_eq_true rfl, Nat.le_of_ble_eq_true rfl⟩ ?_
        refine And.intro (by first | exact Or.inl rfl | exact Or.inr rfl) ?_
        rw [em] at hR1
        exact PQ_of hR1 hk1 e8 e30 (by rw [lu_id]; exact Cp_34 C)
      · skip
        have en : n = 4 := by omega
        subst en
        have cm : ¬ (0 ≤ nI m ∧ nI m ≤ 100) := fun z => by have := (nI_leI (b := 100) (by omega) (by decide)).mp z.2; omega
        have em : mWelder σ (nI 4) (nI m) = (0, upS σ 34 1) := by unfold mWelder; rw [if_pos (by decide)]
        refine runL_go (κ := κ) (p := p) rkL_isTold (fun p => Nat.beq p 23 || Nat.beq p 50 || Nat.beq p 82 || Nat.beq p 189 || Nat.beq p 209 || Nat.beq p 337 || Nat.beq p 351) 300 rfl ?_
        refine And.intro (by decide) ?_
        refine ⟨9, (5 + 4 % 4), A.ld (by decide) (show 5 + 4 % 4 < 13 by omega) e5, ?_⟩
        refine And.intro (by decide) ?_
        refine And.intro (fun c373 => ?_) (fun c373 => False.elim (by first | exact c373 (by decide) | exact absurd (by decide) c373 | exact absurd c373 (by decide)))
        refine ⟨9, (5 + 4 % 4), A.ld (by decide) (show 5 + 4 % 4 < 13 by omega) e5, ?_⟩
        refine pL_isTold_399 rfl rfl rfl (w_welder (RI_PL hI)) (fun v κ1 hq399 ho399 hk399 => ?_)
        obtain ⟨rfl, hre⟩ := hq399
        obtain ⟨κ1, rfl, hR1, hk1⟩ := PL_back hre
        have A1 := AK_of A hk1
        refine runL_ok rkL_isTold (fun p => Nat.beq p 23 || Nat.beq p 50 || Nat.beq p 82 || Nat.beq p 189 || Nat.beq p 209 || Nat.beq p 337 || Nat.beq p 351) 300 _ _ _ _ _ _ ?_
        refine And.intro (fun c405 => False.elim (by first | exact c405 (by decide) | exact absurd (by decide) c405 | exact absurd c405 (by decide))) (fun c405 => ?_)
        refine pL_isTold_408 ?_
        refine runL_ok rkL_isTold (fun p => Nat.beq p 23 || Nat.beq p 50 || Nat.beq p 82 || Nat.beq p 189 || Nat.beq p 209 || Nat.beq p 337 || Nat.beq p 351) 300 _ _ _ _ _ _ ?_
        refine And.intro (fun c425 => False.elim (by first | exact c425 (show dv (-3000000) (-2000000) 0 (mWelder σ (nI 4) (nI m)) = -3000000 by rw [em]; rfl) | exact absurd (show dv (-3000000) (-2000000) 0 (mWelder σ (nI 4) (nI m)) = -3000000 by rw [em]; rfl) c425 | exact absurd c425 (show dv (-3000000) (-2000000) 0 (mWelder σ (nI 4) (nI m)) = -3000000 by rw [em]; rfl))) (fun c425 => ?_)
        refine And.intro ⟨Nat.le_of_ble_eq_true rfl, Nat.le_of_ble_eq_true rfl⟩ ?_
        refine And.intro (by first | exact Or.inl rfl | exact Or.inr rfl) ?_
        rw [em] at hR1
        exact PQ_of hR1 hk1 e8 e30 (by rw [lu_id]; exact Cp_34 C)
  have K337 : ∀ n : Nat, n < 5 → ∀ m : Nat, m < 200 → Y w mL_isTold θ0 (PL κ p l) (fun v κ' => PQ κ p v κ') (fun _ _ => False) 0 0 337 [some (.ref (tS 4)), some (.ref (tM 9)), some (.int x), some (.int (nI o)), some (.int (nI q)), some (.int (nI n)), none, none, none] [.int (nI m)] (PL κ p l) := by
    intro n hn m hm
    refine runL_go (κ := κ) (p := p) rkL_isTold (fun p => Nat.beq p 23 || Nat.beq p 50 || Nat.beq p 82 || Nat.beq p 189 || Nat.beq p 209 || Nat.beq p 337 || Nat.beq p 351) 300 rfl ?_
    refine And.intro (fun c343 => ?_) (fun c343 => ?_)
    · skip
      exact K351 n hn m hm _ (by first | exact (if_pos (by have := (nI_ltI (b := 101) (by omega) (by decide)).mp (Int32.not_le.mp c343); omega)).symm | exact (if_neg (by have := (nI_leI (a := 101) (by decide) (by omega)).mp c343; omega)).symm)
    · skip
      exact K351 n hn m hm _ (by first | exact (if_pos (by have := (nI_ltI (b := 101) (by omega) (by decide)).mp (Int32.not_le.mp c343); omega)).symm | exact (if_neg (by have := (nI_leI (a := 101) (by decide) (by omega)).mp c343; omega)).symm)
  have r13 : nI o - nI o / 13 * 13 = nI (o % 13) := (rm_nI (d := 13) (by omega) (by decide) (by decide))
  have r5 : nI o - nI o / 5 * 5 = nI (o % 5) := (rm_nI (d := 5) (by omega) (by decide) (by decide))
  have s102 : nI q - nI q / 102 * 102 = nI (q % 102) := (rm_nI (d := 102) (by omega) (by decide) (by decide))
  have s60 : nI q - nI q / 60 * 60 = nI (q % 60) := (rm_nI (d := 60) (by omega) (by decide) (by decide))
  have Z189 := K189 (o % 13) (Nat.mod_lt _ (by decide))
  rw [← r13] at Z189
  have Z337 := K337 (o % 5) (Nat.mod_lt _ (by decide))
  rw [← r5] at Z337
  have Z1 := Z337 (q % 102) (by have := Nat.mod_lt q (show 0 < 102 by decide); omega)
  rw [← s102] at Z1
  have Z2 := Z337 (q % 60) (by have := Nat.mod_lt q (show 0 < 60 by decide); omega)
  rw [← s60] at Z2
  refine runL_ok rkL_isTold (fun p => Nat.beq p 23 || Nat.beq p 50 || Nat.beq p 82 || Nat.beq p 189 || Nat.beq p 209 || Nat.beq p 337 || Nat.beq p 351) 300 _ _ _ _ _ _ ?_
  refine And.intro (fun c1 => ?_) (fun c1 => ?_)
  · skip
    refine And.intro (fun c156 => ?_) (fun c156 => ?_)
    · skip
      refine And.intro (fun c309 => ?_) (fun c309 => ?_)
      · skip
        refine ⟨9, 4, A.ld (by decide) (by decide) rfl, ?_⟩
        refine pL_isTold_443 ?_
        refine runL_ok rkL_isTold (fun p => Nat.beq p 23 || Nat.beq p 50 || Nat.beq p 82 || Nat.beq p 189 || Nat.beq p 209 || Nat.beq p 337 || Nat.beq p 351) 300 _ _ _ _ _ _ ?_
        refine ⟨9, 4, A.ld (by decide) (by decide) rfl, ?_⟩
        refine ⟨9, 4, A.ld (by decide) (by decide) rfl, ?_⟩
        refine pL_isTold_453 rfl rfl rfl hb4 (k_draw (RI_PL hI)) (fun v κ1 hq453 ho453 hk453 => ?_)
        obtain ⟨h34, rfl, hre⟩ := hq453
        obtain ⟨κ1, rfl, hR1, hk1⟩ := PL_back hre
        have A1 := AK_of A hk1
        refine runL_ok rkL_isTold (fun p => Nat.beq p 23 || Nat.beq p 50 || Nat.beq p 82 || Nat.beq p 189 || Nat.beq p 209 || Nat.beq p 337 || Nat.beq p 351) 300 _ _ _ _ _ _ ?_
        refine And.intro (fun c458 => False.elim (by first | exact c458 (show (mDraw σ _).1 = l 9 4 from a4.symm) | exact absurd (show (mDraw σ _).1 = l 9 4 from a4.symm) c458 | exact absurd c458 (show (mDraw σ _).1 = l 9 4 from a4.symm))) (fun c458 => ?_)
        refine And.intro ⟨Nat.le_of_ble_eq_true rfl, Nat.le_of_ble_eq_true rfl⟩ ?_
        refine And.intro (by first | exact Or.inl rfl | exact Or.inr rfl) ?_
        exact PQ_of hR1 hk1 e8 e30 (Cp_g C (fun j k h => lu_o (fun z => h (by omega))) rfl a0 a1 a2 a3 rfl rfl rfl rfl)
      · skip
        refine And.intro (by decide) ?_
        refine And.intro (by decide) ?_
        refine And.intro (fun c321 => ?_) (fun c321 => ?_)
        · skip
          refine And.intro (by decide) ?_
          exact Z2
        · skip
          refine And.intro (by decide) ?_
          exact Z1
    · skip
      refine And.intro (by decide) ?_
      refine And.intro (by decide) ?_
      refine And.intro (fun c169 => ?_) (fun c169 => ?_)
      · skip
        refine And.intro (by decide) ?_
        exact Z189 _
      · skip
        refine And.intro (by decide) ?_
        exact Z189 _
  · skip
    refine And.intro (by decide) ?_
    refine And.intro (fun c7 => ?_) (fun c7 => ?_)
    · skip
      refine And.intro (by decide) ?_
      exact K23 _
    · skip
      refine And.intro (by decide) ?_
      exact K23 _

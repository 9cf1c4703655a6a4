
/-! THE LAW'S ways: its code -/
theorem wSum_le {g : Nat → Nat} {b : Nat} : ∀ n, (∀ i, i < n → g i ≤ b) → wSum g n ≤ b * n
  | 0, _ => Nat.le_refl _
  | n + 1, h => by
    have a := wSum_le (b := b) n (fun i hi => h i (by omega))
    have c := h n (by omega)
    unfold wSum
    rw [Nat.mul_succ]
    omega
theorem LE_lu {l l' : LSt} {k : Nat} {v : Int32} (h : ∀ j, j ≠ 10 → l' j = l j) : ∀ j, j ≠ 10 → lu l' 10 k v j = l j := fun j hj => by
  rw [← h j hj]
  exact funext fun i => lu_o (fun z => hj z.1)
theorem row_lu {l' : LSt} {g : Nat → Nat} {k v : Nat} {x : Int32} (h : ∀ i, i < 36 → l' 10 i = nI (g i)) (hx : x = nI v) : ∀ i, i < 36 → lu l' 10 k x 10 i = nI (gU g k v i) := fun i hi => by
  by_cases e : i = k
  · subst e; rw [lu_s, gU_s]; exact hx
  · rw [lu_o (fun z => e z.2), gU_o e]; exact h i hi
theorem pip3 {x : Int32} {σ : MS} {c : Nat} (h : cH1 x σ c) : x / 32 - x / 32 / 4 * 4 = 3 ↔ ¬ opn σ c := by
  rw [h.pip]
  obtain ⟨P, H, Q, T, h1, h2, h3, h4, -, -, h7, -, -⟩ := h
  show _ ↔ ¬ ¬ 3 ≤ σ.2 28 c
  rw [h7]
  have : Q = 0 ∨ Q = 1 ∨ Q = 2 ∨ Q = 3 := by omega
  rcases this with rfl | rfl | rfl | rfl <;> decide
set_option maxRecDepth 20000 in
theorem c_L_ways {w : W0} {κ : AH} {p : Nat} {l : LSt} {σ : MS} {q : Nat} (A : AK κ) (F : AF κ p) (hC : ∀ c, c < 36 → cH1 (l 8 c) σ c) (ho : hOK σ) (hq : q < 36) : CY w yL_ways mL_ways [.ref (tM 8), .ref (tM p), .int (nI q)] (PL κ p l) (fun v κ' => v = none ∧ ∃ l', κ' = PL κ p l' ∧ (∀ j, j ≠ 10 → l' j = l j) ∧ farR l' σ (nI q)) := by
  refine CY_of mcL_ways (Nat.le_of_ble_eq_true rfl) (cat1 rfl) (fun θ0 => ?_)
  have KR : ∀ (l' : LSt) (g : Nat → Nat) (y4 y5 y6 : Option Value), (∀ j, j ≠ 10 → l' j = l j) → (∀ i, i < 36 → l' 10 i = nI (g i)) → gW σ (nI q) g → (∀ j, j < 144 → ¬ wImp σ g j) → Y w mL_ways θ0 (PL κ p l) (fun v κ' => v = none ∧ ∃ l', κ' = PL κ p l' ∧ (∀ j, j ≠ 10 → l' j = l j) ∧ farR l' σ (nI q)) (fun _ _ => False) 0 0 42 [some (.ref (tM 8)), some (.ref (tM p)), some (.int (nI q)), some (.int 0), y4, y5, y6] [] (PL κ p l') := by
    intro l' g y4 y5 y6 he hr H hf
    refine runL_go (κ := κ) (p := p) rkL_ways noCut 300 rfl ?_
    refine And.intro (fun c43 => ?_) (fun c43 => False.elim (by first | exact c43 (by decide) | exact absurd (by decide) c43 | exact absurd c43 (by decide)))
    refine And.intro ⟨Nat.le_of_ble_eq_true rfl, Nat.le_of_ble_eq_true rfl⟩ ?_
    exact ⟨rfl, l', rfl, he, fun k hk => by rw [hr k hk, fix_dst ho H hf hk]⟩
  have K42 : ∀ (S : Nat) (l' : LSt) (g : Nat → Nat) (y4 y5 y6 : Option Value), wSum g 36 < S → (∀ j, j ≠ 10 → l' j = l j) → (∀ i, i < 36 → l' 10 i = nI (g i)) → gW σ (nI q) g → Y w mL_ways θ0 (PL κ p l) (fun v κ' => v = none ∧ ∃ l', κ' = PL κ p l' ∧ (∀ j, j ≠ 10 → l' j = l j) ∧ farR l' σ (nI q)) (fun _ _ => False) 0 0 42 [some (.ref (tM 8)), some (.ref (tM p)), some (.int (nI q)), some (.int 1), y4, y5, y6] [] (PL κ p l') := by
    intro S
    induction S with
    | zero => intro l' g y4 y5 y6 hs; omega
    | succ S ihS =>
      intro l0 g0 z4 z5 z6 hs0 he0 hr0 H0
      have K51 : ∀ (m j : Nat), m + j = 144 → ∀ (c : Nat) (x3 : Int32) (l' : LSt) (g : Nat → Nat) (y5 y6 : Option Value), (c = 0 ∧ x3 = 0) ∨ (c = 1 ∧ x3 = 1) → (∀ j, j ≠ 10 → l' j = l j) → (∀ i, i < 36 → l' 10 i = nI (g i)) → wSw σ (nI q) (wSum g0 36) c j g → Y w mL_ways θ0 (PL κ p l) (fun v κ' => v = none ∧ ∃ l', κ' = PL κ p l' ∧ (∀ j, j ≠ 10 → l' j = l j) ∧ farR l' σ (nI q)) (fun _ _ => False) 0 0 51 [some (.ref (tM 8)), some (.ref (tM p)), some (.int (nI q)), some (.int x3), some (.int (nI j)), y5, y6] [] (PL κ p l') := by
        intro m
        induction m with
        | zero =>
          intro j hj c x3 l' g y5 y6 hc he hr H
          have e : j = 144 := by omega
          subst e
          rcases hc with ⟨rfl, rfl⟩ | ⟨rfl, rfl⟩
          · skip
            have Zk := KR l' g (some (.int (nI 144))) y5 y6 he hr H.1 (H.2.2.2.1 rfl)
            refine runL_go (κ := κ) (p := p) rkL_ways (fun p => Nat.beq p 42) 300 rfl ?_
            refine And.intro (fun c56 => ?_) (fun c56 => False.elim (by first | exact c56 (by decide) | exact absurd (by decide) c56 | exact absurd c56 (by decide)))
            exact Zk
          · skip
            have Zk := ihS l' g (some (.int (nI 144))) y5 y6 (by have := H.2.2.2.2 rfl; omega) he hr H.1
            refine runL_go (κ := κ) (p := p) rkL_ways (fun p => Nat.beq p 42) 300 rfl ?_
            refine And.intro (fun c56 => ?_) (fun c56 => False.elim (by first | exact c56 (by decide) | exact absurd (by decide) c56 | exact absurd c56 (by decide)))
            exact Zk
        | succ m ih =>
          intro j hj c x3 l' g y5 y6 hc he hr H
          have hj144 : j < 144 := by omega
          have d4 : nI j / 4 = nI (j / 4) := pk_div (d := 4) (by omega) (by decide) (by decide)
          have r4 : nI j - nI j / 4 * 4 = nI (j % 4) := rm_nI (d := 4) (by omega) (by decide) (by decide)
          have cHj : cH1 (l' 8 (j / 4)) σ (j / 4) := by rw [he 8 (by decide)]; exact hC _ (by omega)
          have hokj : hb σ (j / 4) (j % 4) → okS (j / 4) (j % 4) := ho _ _ (by omega) (by omega)
          have hg99 : ∀ i, i < 36 → g i ≤ 99 := fun i hi => (H.1.1 i hi).1
          rcases hc with ⟨rfl, rfl⟩ | ⟨rfl, rfl⟩
          · skip
            refine runL_go (κ := κ) (p := p) rkL_ways (fun p => Nat.beq p 51) 300 rfl ?_
            refine And.intro (fun c56 => False.elim (by first | exact c56 (fun z => by have := (nI_leI (a := 144) (by decide) (by omega)).mp z; omega) | exact absurd (fun z => by have := (nI_leI (a := 144) (by decide) (by omega)).mp z; omega) c56 | exact absurd c56 (fun z => by have := (nI_leI (a := 144) (by decide) (by omega)).mp z; omega))) (fun c56 => ?_)
            refine And.intro (by decide) ?_
            refine And.intro (by decide) ?_
            refine pL_ways_68 rfl rfl rfl (c_L_beyond A d4 r4 (by omega) (by omega) cHj hokj) (fun v κ1 hq68 ho68 hk68 => ?_)
            obtain ⟨rfl, rfl⟩ := hq68
            refine runL_ok rkL_ways (fun p => Nat.beq p 51) 300 _ _ _ _ _ _ ?_
            refine And.intro (fun c75 => ?_) (fun c75 => ?_)
            · skip
              have hn : ¬ wImp σ g j := fun z => by rw [byn_y z.2.1] at c75; exact nI_pos (by have := stp_lt (show j / 4 < 36 by omega) (hokj z.2.1) (by omega); omega) c75
              refine And.intro (by decide) ?_
              refine And.intro (fun c122 => ?_) (fun c122 => False.elim (by first | exact c122 (by decide) | exact absurd (by decide) c122 | exact absurd c122 (by decide)))
              refine And.intro (by decide) ?_
              refine ⟨10, (j / 4), F.ld (show j / 4 < 36 by omega) d4, ?_⟩
              refine ⟨10, (j / 4), F.ld (show j / 4 < 36 by omega) d4, ?_⟩
              refine And.intro (fun c142 => False.elim (by first | exact c142 (by decide) | exact absurd (by decide) c142 | exact absurd c142 (by decide))) (fun c142 => ?_)
              refine And.intro (fun c147 => ?_) (fun c147 => False.elim (by first | exact c147 (by decide) | exact absurd (by decide) c147 | exact absurd c147 (by decide)))
              have Z := ih (j + 1) (by omega) 0 0 l' g (some (.int (byF σ (j / 4) (j % 4)))) (some (.int 0)) (Or.inl ⟨rfl, rfl⟩) he hr (wSw_n H hn)
              rw [← nI_1 j] at Z
              rw [lu_id]
              exact Z
            · skip
              have hh : hb σ (j / 4) (j % 4) := Classical.byContradiction fun z => c75 (by rw [byn_n z]; decide)
              have hb36 : stp (j / 4) (j % 4) < 36 := stp_lt (by omega) (hokj hh) (by omega)
              have gb9 := hg99 _ hb36
              refine And.intro (by decide) ?_
              refine ⟨8, (j / 4), A.ld (by decide) (show j / 4 < 37 by omega) d4, ?_⟩
              refine And.intro (by decide) ?_
              refine And.intro (by decide) ?_
              refine And.intro (fun c90 => ?_) (fun c90 => ?_)
              · skip
                have hn : ¬ wImp σ g j := fun z => z.1 (by have y := c90; rw [cHj.pip] at y; exact y)
                refine And.intro (by decide) ?_
                refine And.intro (fun c122 => ?_) (fun c122 => False.elim (by first | exact c122 (by decide) | exact absurd (by decide) c122 | exact absurd c122 (by decide)))
                refine And.intro (by decide) ?_
                refine ⟨10, (j / 4), F.ld (show j / 4 < 36 by omega) d4, ?_⟩
                refine ⟨10, (j / 4), F.ld (show j / 4 < 36 by omega) d4, ?_⟩
                refine And.intro (fun c142 => False.elim (by first | exact c142 (by decide) | exact absurd (by decide) c142 | exact absurd c142 (by decide))) (fun c142 => ?_)
                refine And.intro (fun c147 => ?_) (fun c147 => False.elim (by first | exact c147 (by decide) | exact absurd (by decide) c147 | exact absurd c147 (by decide)))
                have Z := ih (j + 1) (by omega) 0 0 l' g (some (.int (byF σ (j / 4) (j % 4)))) (some (.int 0)) (Or.inl ⟨rfl, rfl⟩) he hr (wSw_n H hn)
                rw [← nI_1 j] at Z
                rw [lu_id]
                exact Z
              · skip
                have hop : opn σ (j / 4) := fun z => c90 (by rw [cHj.pip]; exact z)
                refine ⟨10, (stp (j / 4) (j % 4)), F.ld hb36 (byn_y hh), ?_⟩
                refine And.intro (by decide) ?_
                refine ⟨10, (j / 4), F.ld (show j / 4 < 36 by omega) d4, ?_⟩
                refine And.intro (fun c105 => ?_) (fun c105 => ?_)
                · skip
                  rw [hr _ (show j / 4 < 36 by omega), hr _ hb36, nI_1, nI_leI (by have := hg99 (j / 4) (by omega); omega) (by omega)] at c105
                  have hn : ¬ wImp σ g j := fun z => by have := z.2.2; omega
                  refine And.intro (by decide) ?_
                  refine And.intro (fun c122 => ?_) (fun c122 => False.elim (by first | exact c122 (by decide) | exact absurd (by decide) c122 | exact absurd c122 (by decide)))
                  refine And.intro (by decide) ?_
                  refine ⟨10, (j / 4), F.ld (show j / 4 < 36 by omega) d4, ?_⟩
                  refine ⟨10, (j / 4), F.ld (show j / 4 < 36 by omega) d4, ?_⟩
                  refine And.intro (fun c142 => False.elim (by first | exact c142 (by decide) | exact absurd (by decide) c142 | exact absurd c142 (by decide))) (fun c142 => ?_)
                  refine And.intro (fun c147 => ?_) (fun c147 => False.elim (by first | exact c147 (by decide) | exact absurd (by decide) c147 | exact absurd c147 (by decide)))
                  have Z := ih (j + 1) (by omega) 0 0 l' g (some (.int (byF σ (j / 4) (j % 4)))) (some (.int 0)) (Or.inl ⟨rfl, rfl⟩) he hr (wSw_n H hn)
                  rw [← nI_1 j] at Z
                  rw [lu_id]
                  exact Z
                · skip
                  rw [hr _ (show j / 4 < 36 by omega), hr _ hb36, nI_1, nI_leI (by have := hg99 (j / 4) (by omega); omega) (by omega)] at c105
                  have hi : wImp σ g j := ⟨hop, hh, by omega⟩
                  refine And.intro (by decide) ?_
                  refine And.intro (fun c122 => False.elim (by first | exact c122 (by decide) | exact absurd (by decide) c122 | exact absurd c122 (by decide))) (fun c122 => ?_)
                  refine ⟨10, (stp (j / 4) (j % 4)), F.ld hb36 (byn_y hh), ?_⟩
                  refine ⟨10, (j / 4), F.ld (show j / 4 < 36 by omega) d4, ?_⟩
                  refine And.intro (fun c142 => False.elim (by first | exact c142 (by decide) | exact absurd (by decide) c142 | exact absurd c142 (by decide))) (fun c142 => ?_)
                  refine And.intro (fun c147 => False.elim (by first | exact c147 (by decide) | exact absurd (by decide) c147 | exact absurd c147 (by decide))) (fun c147 => ?_)
                  have Z := ih (j + 1) (by omega) 1 1 _ _ (some (.int (byF σ (j / 4) (j % 4)))) (some (.int 1)) (Or.inr ⟨rfl, rfl⟩) (LE_lu he) (row_lu (k := j / 4) (x := l' 10 (stp (j / 4) (j % 4)) + 1) hr (by rw [hr _ hb36, nI_1])) (wSw_y ho hj144 H hi)
                  rw [← nI_1 j] at Z
                  exact Z
          · skip
            refine runL_go (κ := κ) (p := p) rkL_ways (fun p => Nat.beq p 51) 300 rfl ?_
            refine And.intro (fun c56 => False.elim (by first | exact c56 (fun z => by have := (nI_leI (a := 144) (by decide) (by omega)).mp z; omega) | exact absurd (fun z => by have := (nI_leI (a := 144) (by decide) (by omega)).mp z; omega) c56 | exact absurd c56 (fun z => by have := (nI_leI (a := 144) (by decide) (by omega)).mp z; omega))) (fun c56 => ?_)
            refine And.intro (by decide) ?_
            refine And.intro (by decide) ?_
            refine pL_ways_68 rfl rfl rfl (c_L_beyond A d4 r4 (by omega) (by omega) cHj hokj) (fun v κ1 hq68 ho68 hk68 => ?_)
            obtain ⟨rfl, rfl⟩ := hq68
            refine runL_ok rkL_ways (fun p => Nat.beq p 51) 300 _ _ _ _ _ _ ?_
            refine And.intro (fun c75 => ?_) (fun c75 => ?_)
            · skip
              have hn : ¬ wImp σ g j := fun z => by rw [byn_y z.2.1] at c75; exact nI_pos (by have := stp_lt (show j / 4 < 36 by omega) (hokj z.2.1) (by omega); omega) c75
              refine And.intro (by decide) ?_
              refine And.intro (fun c122 => ?_) (fun c122 => False.elim (by first | exact c122 (by decide) | exact absurd (by decide) c122 | exact absurd c122 (by decide)))
              refine And.intro (by decide) ?_
              refine ⟨10, (j / 4), F.ld (show j / 4 < 36 by omega) d4, ?_⟩
              refine ⟨10, (j / 4), F.ld (show j / 4 < 36 by omega) d4, ?_⟩
              refine And.intro (fun c142 => ?_) (fun c142 => False.elim (by first | exact c142 (by decide) | exact absurd (by decide) c142 | exact absurd c142 (by decide)))
              have Z := ih (j + 1) (by omega) 1 1 l' g (some (.int (byF σ (j / 4) (j % 4)))) (some (.int 0)) (Or.inr ⟨rfl, rfl⟩) he hr (wSw_n H hn)
              rw [← nI_1 j] at Z
              rw [lu_id]
              exact Z
            · skip
              have hh : hb σ (j / 4) (j % 4) := Classical.byContradiction fun z => c75 (by rw [byn_n z]; decide)
              have hb36 : stp (j / 4) (j % 4) < 36 := stp_lt (by omega) (hokj hh) (by omega)
              have gb9 := hg99 _ hb36
              refine And.intro (by decide) ?_
              refine ⟨8, (j / 4), A.ld (by decide) (show j / 4 < 37 by omega) d4, ?_⟩
              refine And.intro (by decide) ?_
              refine And.intro (by decide) ?_
              refine And.intro (fun c90 => ?_) (fun c90 => ?_)
              · skip
                have hn : ¬ wImp σ g j := fun z => z.1 (by have y := c90; rw [cHj.pip] at y; exact y)
                refine And.intro (by decide) ?_
                refine And.intro (fun c122 => ?_) (fun c122 => False.elim (by first | exact c122 (by decide) | exact absurd (by decide) c122 | exact absurd c122 (by decide)))
                refine And.intro (by decide) ?_
                refine ⟨10, (j / 4), F.ld (show j / 4 < 36 by omega) d4, ?_⟩
                refine ⟨10, (j / 4), F.ld (show j / 4 < 36 by omega) d4, ?_⟩
                refine And.intro (fun c142 => ?_) (fun c142 => False.elim (by first | exact c142 (by decide) | exact absurd (by decide) c142 | exact absurd c142 (by decide)))
                have Z := ih (j + 1) (by omega) 1 1 l' g (some (.int (byF σ (j / 4) (j % 4)))) (some (.int 0)) (Or.inr ⟨rfl, rfl⟩) he hr (wSw_n H hn)
                rw [← nI_1 j] at Z
                rw [lu_id]
                exact Z
              · skip
                have hop : opn σ (j / 4) := fun z => c90 (by rw [cHj.pip]; exact z)
                refine ⟨10, (stp (j / 4) (j % 4)), F.ld hb36 (byn_y hh), ?_⟩
                refine And.intro (by decide) ?_
                refine ⟨10, (j / 4), F.ld (show j / 4 < 36 by omega) d4, ?_⟩
                refine And.intro (fun c105 => ?_) (fun c105 => ?_)
                · skip
                  rw [hr _ (show j / 4 < 36 by omega), hr _ hb36, nI_1, nI_leI (by have := hg99 (j / 4) (by omega); omega) (by omega)] at c105
                  have hn : ¬ wImp σ g j := fun z => by have := z.2.2; omega
                  refine And.intro (by decide) ?_
                  refine And.intro (fun c122 => ?_) (fun c122 => False.elim (by first | exact c122 (by decide) | exact absurd (by decide) c122 | exact absurd c122 (by decide)))
                  refine And.intro (by decide) ?_
                  refine ⟨10, (j / 4), F.ld (show j / 4 < 36 by omega) d4, ?_⟩
                  refine ⟨10, (j / 4), F.ld (show j / 4 < 36 by omega) d4, ?_⟩
                  refine And.intro (fun c142 => ?_) (fun c142 => False.elim (by first | exact c142 (by decide) | exact absurd (by decide) c142 | exact absurd c142 (by decide)))
                  have Z := ih (j + 1) (by omega) 1 1 l' g (some (.int (byF σ (j / 4) (j % 4)))) (some (.int 0)) (Or.inr ⟨rfl, rfl⟩) he hr (wSw_n H hn)
                  rw [← nI_1 j] at Z
                  rw [lu_id]
                  exact Z
                · skip
                  rw [hr _ (show j / 4 < 36 by omega), hr _ hb36, nI_1, nI_leI (by have := hg99 (j / 4) (by omega); omega) (by omega)] at c105
                  have hi : wImp σ g j := ⟨hop, hh, by omega⟩
                  refine And.intro (by decide) ?_
                  refine And.intro (fun c122 => False.elim (by first | exact c122 (by decide) | exact absurd (by decide) c122 | exact absurd c122 (by decide))) (fun c122 => ?_)
                  refine ⟨10, (stp (j / 4) (j % 4)), F.ld hb36 (byn_y hh), ?_⟩
                  refine ⟨10, (j / 4), F.ld (show j / 4 < 36 by omega) d4, ?_⟩
                  refine And.intro (fun c142 => ?_) (fun c142 => False.elim (by first | exact c142 (by decide) | exact absurd (by decide) c142 | exact absurd c142 (by decide)))
                  have Z := ih (j + 1) (by omega) 1 1 _ _ (some (.int (byF σ (j / 4) (j % 4)))) (some (.int 1)) (Or.inr ⟨rfl, rfl⟩) (LE_lu he) (row_lu (k := j / 4) (x := l' 10 (stp (j / 4) (j % 4)) + 1) hr (by rw [hr _ hb36, nI_1])) (wSw_y ho hj144 H hi)
                  rw [← nI_1 j] at Z
                  exact Z
      refine runL_go (κ := κ) (p := p) rkL_ways (fun p => Nat.beq p 51) 300 rfl ?_
      refine And.intro (fun c43 => False.elim (by first | exact c43 (by decide) | exact absurd (by decide) c43 | exact absurd c43 (by decide))) (fun c43 => ?_)
      exact K51 144 0 rfl 0 0 l0 g0 z5 z6 (Or.inl ⟨rfl, rfl⟩) he0 hr0 ⟨H0, by omega, Nat.le_refl _, fun _ i hi => absurd hi (Nat.not_lt_zero i), fun z => absurd z (by decide)⟩
  have K2 : ∀ (m k : Nat), m + k = 36 → ∀ l' : LSt, (∀ j, j ≠ 10 → l' j = l j) → (∀ i, i < k → l' 10 i = 99) → Y w mL_ways θ0 (PL κ p l) (fun v κ' => v = none ∧ ∃ l', κ' = PL κ p l' ∧ (∀ j, j ≠ 10 → l' j = l j) ∧ farR l' σ (nI q)) (fun _ _ => False) 0 0 2 [some (.ref (tM 8)), some (.ref (tM p)), some (.int (nI q)), some (.int (nI k)), none, none, none] [] (PL κ p l') := by
    intro m
    induction m with
    | zero =>
      intro k hk l' he h9
      have e : k = 36 := by omega
      subst e
      have cHq : cH1 (l' 8 q) σ q := by rw [he 8 (by decide)]; exact hC q hq
      refine runL_go (κ := κ) (p := p) rkL_ways (fun p => Nat.beq p 42) 300 rfl ?_
      refine And.intro (fun c5 => ?_) (fun c5 => False.elim (by first | exact c5 (by decide) | exact absurd (by decide) c5 | exact absurd c5 (by decide)))
      refine ⟨8, q, A.ld (by decide) (show q < 37 by omega) rfl, ?_⟩
      refine And.intro (by decide) ?_
      refine And.intro (by decide) ?_
      refine And.intro (fun c30 => ?_) (fun c30 => ?_)
      · skip
        refine ⟨10, q, F.ld hq rfl, ?_⟩
        have Z := K42 3600 _ (fun i => if i = q ∧ opn σ i then 0 else 99) none none none ?_ (LE_lu (k := q) (v := 0) he) ?_ (gW_0 hq)
        · exact Z
        · refine Nat.lt_of_le_of_lt (wSum_le (b := 99) 36 (fun i _ => ?_)) (by decide)
          show (if i = q ∧ opn σ i then 0 else 99) ≤ 99
          split <;> omega
        · intro i hi
          show lu l' 10 q _ 10 i = nI (if i = q ∧ opn σ i then 0 else 99)
          by_cases e : i = q
          · rw [e, lu_s]; rw [if_pos ⟨rfl, Classical.byContradiction fun z => c30 ((pip3 cHq).mpr z)⟩]; rfl
          · rw [lu_o (fun z => e z.2), if_neg (fun z => e z.1)]; exact h9 i hi
      · skip
        refine ⟨10, q, F.ld hq rfl, ?_⟩
        have Z := K42 3600 _ (fun i => if i = q ∧ opn σ i then 0 else 99) none none none ?_ (LE_lu (k := q) (v := 99) he) ?_ (gW_0 hq)
        · exact Z
        · refine Nat.lt_of_le_of_lt (wSum_le (b := 99) 36 (fun i _ => ?_)) (by decide)
          show (if i = q ∧ opn σ i then 0 else 99) ≤ 99
          split <;> omega
        · intro i hi
          show lu l' 10 q _ 10 i = nI (if i = q ∧ opn σ i then 0 else 99)
          by_cases e : i = q
          · rw [e, lu_s]; rw [if_neg (fun z => (pip3 cHq).mp c30 z.2)]; rfl
          · rw [lu_o (fun z => e z.2), if_neg (fun z => e z.1)]; exact h9 i hi
    | succ m ih =>
      intro k hk l' he h9
      refine runL_go (κ := κ) (p := p) rkL_ways (fun p => Nat.beq p 2) 300 rfl ?_
      refine And.intro (fun c5 => False.elim (by first | exact c5 (fun z => by have := (nI_leI (a := 36) (by decide) (by omega)).mp z; omega) | exact absurd (fun z => by have := (nI_leI (a := 36) (by decide) (by omega)).mp z; omega) c5 | exact absurd c5 (fun z => by have := (nI_leI (a := 36) (by decide) (by omega)).mp z; omega))) (fun c5 => ?_)
      refine ⟨10, k, F.ld (show k < 36 by omega) rfl, ?_⟩
      have Z := ih (k + 1) (by omega) _ (LE_lu (k := k) (v := 99) he) (fun i hi => by
        by_cases e : i = k
        · rw [e, lu_s]
        · rw [lu_o (fun z => e z.2)]; exact h9 i (by omega))
      rw [← nI_1 k] at Z
      exact Z
  refine runL_ok rkL_ways (fun p => Nat.beq p 2) 300 _ _ _ _ _ _ ?_
  exact K2 36 0 rfl l (fun _ _ => rfl) (fun i hi => absurd hi (Nat.not_lt_zero i))


/-! THE LAW'S isBlock 6: its head, and all of it -/
set_option maxRecDepth 20000 in
theorem j_536 {w : W0} {κ : AH} {p : Nat} {l : LSt} {θ0 : Nat → Nat} {x : Int32} {σ : MS} {o q nb nw np : Nat} {wb : Nat → Nat} {k y c : Nat} {b16 z18 : Int32} (A : AK κ) (hI : RI κ κ σ nb nw np wb) (C : Cp l σ nb nw np) (ho : o < 60000) (hq : q < 60000) (hk : k ≤ nb) (hy : y < 5) (hc : c ≤ nb) (hb : ((b16 = 1 ∧ k < nb ∧ y < 4) ∨ (b16 = 0 ∧ ¬ (k < nb ∧ y < 4)))) : Y w mL_isBlock θ0 (PL κ p l) (fun v κ' => PQ κ p v κ') (fun _ _ => False) 0 0 536 [some (.ref (tS 4)), some (.ref (tM 0)), some (.ref (tM 1)), some (.ref (tM 2)), some (.ref (tM 3)), some (.ref (tM 4)), some (.ref (tM 5)), some (.ref (tM 6)), some (.ref (tM 7)), some (.ref (tM 8)), some (.ref (tM 9)), some (.int x), some (.int (nI o)), some (.int (nI q)), some (.int (nI k)), some (.int (nI y)), some (.int b16), some (.int (nI c)), some (.int z18), none, none, none, none] [] (PL κ p l) := by
  have e8 : σ.1 8 = nI nb := hI.1.e8
  have e18 : σ.1 18 = nI nw := hI.1.e18
  have e30 : σ.1 30 = nI np := hI.1.2.2.2.2.2.1
  obtain ⟨⟨hb40, hw60, hp10, h6⟩, D, hln⟩ := id C
  obtain ⟨CB, CW, CR, CG, z18⟩ := id D
  have a11 : l 9 11 = nI nw := CG.2.2.2.2.2.2.2.2.1
  have a10 : l 9 10 = nI nb := CG.2.2.2.2.2.2.2.1
  have h60 : nb ≤ 60 := by omega
  have IB : ∀ k, k < 100 → (isBlk σ (nI k) ↔ k < nb) := fun k hk => (isB_blk h60 e8).trans ⟨fun z => (nI_ltI (by omega) (by omega)).mp z.2, fun z => ⟨nI_pos' (by omega), nI_lt z (by omega)⟩⟩
  rcases hb with ⟨rfl, hk2, hy2⟩ | ⟨rfl, hb⟩
  · by_cases hc2 : c < nb
    · skip
      obtain ⟨f1, g1, e1, s1, u1, p1, p2, p3, p4, p5, p6, p7, p8, p9, p10, p11, p12, p13⟩ := (CB k hk2).1
      obtain ⟨f2, g2, e2, s2, u2, q1, q2, q3, q4, q5, q6, q7, q8, q9, q10, q11, q12, q13⟩ := (CB c hc2).1
      obtain ⟨r1, r2, r3, r4, r5⟩ := (CB k hk2).2
      obtain ⟨t1, t2, t3, t4, t5⟩ := (CB c hc2).2
      have b1 := (hI.1.bk k hk2).2.1
      have b2 := (hI.1.bk c hc2).2.1
      have A1 : (1024 ≤ l 0 k ↔ ¬ s1 = 0) := by rw [p13]; exact Int32.not_lt.symm.trans (not_congr (eA_lo p1 p2 p3 p4))
      have A2 : (1024 ≤ l 0 c ↔ ¬ s2 = 0) := by rw [q13]; exact Int32.not_lt.symm.trans (not_congr (eA_lo q1 q2 q3 q4))
      have A3 : (l 0 k / 256 = l 0 c / 256 ↔ e1 + 4 * s1 = e2 + 4 * s2) := by rw [p13, q13, eA_es p1 p2 p3 p4, eA_es q1 q2 q3 q4]; exact nI_eq (by omega) (by omega)
      have kg : l 0 k / 16 - l 0 k / 16 / 16 * 16 = nI g1 := by rw [p13]; exact eA_g p1 p2 p3 p4
      have kf : l 0 k - l 0 k / 16 * 16 = nI f1 := by rw [p13]; exact eA_f p1 p2 p3 p4
      have cf : l 0 c - l 0 c / 16 * 16 = nI f2 := by rw [q13]; exact eA_f q1 q2 q3 q4
      have cg : l 0 c / 16 - l 0 c / 16 / 16 * 16 = nI g2 := by rw [q13]; exact eA_g q1 q2 q3 q4
      have A4 : (l 0 c - l 0 c / 16 * 16 = l 0 k / 16 - l 0 k / 16 / 16 * 16 + 1 ↔ f2 = g1 + 1) := by rw [cf, kg, nI_1]; exact nI_eq (by omega) (by omega)
      have A5 : (l 9 0 ≤ l 0 c / 16 - l 0 c / 16 / 16 * 16 - (l 0 k - l 0 k / 16 * 16) ↔ ¬ σ.2 11 c - σ.2 10 k + 1 ≤ σ.1 0) := by rw [cg, kf, CG.1, q9, p8]; exact lt_1 (sub_b (by omega) (by omega)).1 (sub_b (by omega) (by omega)).2
      have A6 : (l 9 1 ≤ l 1 k + l 1 c ↔ ¬ σ.2 13 k + σ.2 13 c + 1 ≤ σ.1 1) := by
        rw [r1, t1, CG.2.1]
        obtain ⟨m1, hm1, z1⟩ := nI_of2 (M := 1000) (n := 1000) (by decide) (Int32.not_lt.mpr b1.1) b1.2
        obtain ⟨m2, hm2, z2⟩ := nI_of2 (M := 1000) (n := 1000) (by decide) (Int32.not_lt.mpr b2.1) b2.2
        rw [z1, z2, nI_add]
        exact lt_1 (Int32.le_trans (by decide) (nI_pos' (by omega))) (nI_le (b := 10000) (by omega) (by decide))
      have A7 : (60 ≤ l 9 11 ↔ nw = 60) := by rw [a11]; exact (nI_leI (a := 60) (by decide) (by omega)).trans ⟨fun z => by omega, fun z => by omega⟩
      have J : (cJoin σ (nI k) (nI c) ↔ (s1 = 0 ∧ s2 = 0 ∧ e1 = e2 ∧ f2 = g1 + 1) ∧ σ.2 11 c - σ.2 10 k + 1 ≤ σ.1 0 ∧ σ.2 13 k + σ.2 13 c + 1 ≤ σ.1 1) := by
        unfold cJoin
        rw [nI_clamp (by omega), nI_clamp (by omega), p11, q11, p10, q10]
        have z1 : (nI s1 = 0 ↔ s1 = 0) := nI_eq (b := 0) (by omega) (by decide)
        have z2 : (nI s2 = 0 ↔ s2 = 0) := nI_eq (b := 0) (by omega) (by decide)
        have z3 : (nI e1 = nI e2 ↔ e1 = e2) := nI_eq (by omega) (by omega)
        have z4 : (σ.2 10 c = σ.2 11 k + 1 ↔ f2 = g1 + 1) := by rw [q8, p9, nI_1]; exact nI_eq (by omega) (by omega)
        rw [z1, z2, z3, z4]
      refine runL_go (κ := κ) (p := p) rkL_isBlock (fun p => Nat.beq p 692) 300 rfl ?_
      refine And.intro (fun c538 => False.elim (by first | exact c538 (by decide) | exact absurd (by decide) c538 | exact absurd c538 (by decide))) (fun c538 => ?_)
      refine ⟨9, 10, A.ld (by decide) (by decide) rfl, ?_⟩
      refine And.intro (fun c548 => False.elim (by first | exact c548 (by rw [a10]; exact fun z => by have := (nI_leI (by omega) (by omega)).mp z; omega) | exact absurd (by rw [a10]; exact fun z => by have := (nI_leI (by omega) (by omega)).mp z; omega) c548 | exact absurd c548 (by rw [a10]; exact fun z => by have := (nI_leI (by omega) (by omega)).mp z; omega))) (fun c548 => ?_)
      refine And.intro (fun c560 => False.elim (by first | exact c560 (by decide) | exact absurd (by decide) c560 | exact absurd c560 (by decide))) (fun c560 => ?_)
      refine ⟨0, k, A.ld (by decide) (show k < 40 by omega) rfl, ?_⟩
      refine And.intro (fun c570 => ?_) (fun c570 => ?_)
      · rw [A1] at c570
        refine And.intro (fun c633 => ?_) (fun c633 => False.elim (by first | exact c633 (by decide) | exact absurd (by decide) c633 | exact absurd c633 (by decide)))
        by_cases h40 : nb = 40
        · exact j_e40 A hI C ho hq h40
        · by_cases h60w : nw = 60
          · exact j_e60 A hI C ho hq h40 h60w
          · refine j_n1 A hI C ho hq h40 h60w hk2 hy2 hc2 (fun z => ?_)
            obtain ⟨⟨z1, z2, z3, z4⟩, z5, z6⟩ := J.mp z
            first | exact c674 z6 | exact c658 z5 | exact c621 z4 | exact c599 (by omega) | exact c580 z2 | exact c570 z1 | exact h60w c684
      · rw [A1] at c570
        refine ⟨0, c, A.ld (by decide) (show c < 40 by omega) rfl, ?_⟩
        refine And.intro (fun c580 => ?_) (fun c580 => ?_)
        · rw [A2] at c580
          refine And.intro (fun c633 => ?_) (fun c633 => False.elim (by first | exact c633 (by decide) | exact absurd (by decide) c633 | exact absurd c633 (by decide)))
          by_cases h40 : nb = 40
          · exact j_e40 A hI C ho hq h40
          · by_cases h60w : nw = 60
            · exact j_e60 A hI C ho hq h40 h60w
            · refine j_n1 A hI C ho hq h40 h60w hk2 hy2 hc2 (fun z => ?_)
              obtain ⟨⟨z1, z2, z3, z4⟩, z5, z6⟩ := J.mp z
              first | exact c674 z6 | exact c658 z5 | exact c621 z4 | exact c599 (by omega) | exact c580 z2 | exact c570 z1 | exact h60w c684
        · rw [A2] at c580
          refine ⟨0, k, A.ld (by decide) (show k < 40 by omega) rfl, ?_⟩
          refine And.intro (by decide) ?_
          refine ⟨0, c, A.ld (by decide) (show c < 40 by omega) rfl, ?_⟩
          refine And.intro (by decide) ?_
          refine And.intro (fun c599 => ?_) (fun c599 => ?_)
          · rw [A3] at c599
            refine And.intro (fun c633 => ?_) (fun c633 => False.elim (by first | exact c633 (by decide) | exact absurd (by decide) c633 | exact absurd c633 (by decide)))
            by_cases h40 : nb = 40
            · exact j_e40 A hI C ho hq h40
            · by_cases h60w : nw = 60
              · exact j_e60 A hI C ho hq h40 h60w
              · refine j_n1 A hI C ho hq h40 h60w hk2 hy2 hc2 (fun z => ?_)
                obtain ⟨⟨z1, z2, z3, z4⟩, z5, z6⟩ := J.mp z
                first | exact c674 z6 | exact c658 z5 | exact c621 z4 | exact c599 (by omega) | exact c580 z2 | exact c570 z1 | exact h60w c684
          · rw [A3] at c599
            refine ⟨0, c, A.ld (by decide) (show c < 40 by omega) rfl, ?_⟩
            refine And.intro (by decide) ?_
            refine ⟨0, k, A.ld (by decide) (show k < 40 by omega) rfl, ?_⟩
            refine And.intro (by decide) ?_
            refine And.intro (by decide) ?_
            refine And.intro (fun c621 => ?_) (fun c621 => ?_)
            · rw [A4] at c621
              refine And.intro (fun c633 => ?_) (fun c633 => False.elim (by first | exact c633 (by decide) | exact absurd (by decide) c633 | exact absurd c633 (by decide)))
              by_cases h40 : nb = 40
              · exact j_e40 A hI C ho hq h40
              · by_cases h60w : nw = 60
                · exact j_e60 A hI C ho hq h40 h60w
                · refine j_n1 A hI C ho hq h40 h60w hk2 hy2 hc2 (fun z => ?_)
                  obtain ⟨⟨z1, z2, z3, z4⟩, z5, z6⟩ := J.mp z
                  first | exact c674 z6 | exact c658 z5 | exact c621 z4 | exact c599 (by omega) | exact c580 z2 | exact c570 z1 | exact h60w c684
            · rw [A4] at c621
              refine And.intro (fun c633 => False.elim (by first | exact c633 (by decide) | exact absurd (by decide) c633 | exact absurd c633 (by decide))) (fun c633 => ?_)
              refine ⟨0, c, A.ld (by decide) (show c < 40 by omega) rfl, ?_⟩
              refine And.intro (by decide) ?_
              refine And.intro (by decide) ?_
              refine ⟨0, k, A.ld (by decide) (show k < 40 by omega) rfl, ?_⟩
              refine And.intro (by decide) ?_
              refine ⟨9, 0, A.ld (by decide) (by decide) rfl, ?_⟩
              refine And.intro (fun c658 => ?_) (fun c658 => ?_)
              · rw [A5] at c658
                by_cases h40 : nb = 40
                · exact j_e40 A hI C ho hq h40
                · by_cases h60w : nw = 60
                  · exact j_e60 A hI C ho hq h40 h60w
                  · refine j_n1 A hI C ho hq h40 h60w hk2 hy2 hc2 (fun z => ?_)
                    obtain ⟨⟨z1, z2, z3, z4⟩, z5, z6⟩ := J.mp z
                    first | exact c674 z6 | exact c658 z5 | exact c621 z4 | exact c599 (by omega) | exact c580 z2 | exact c570 z1 | exact h60w c684
              · rw [A5] at c658
                refine ⟨1, k, A.ld (by decide) (show k < 40 by omega) rfl, ?_⟩
                refine ⟨1, c, A.ld (by decide) (show c < 40 by omega) rfl, ?_⟩
                refine ⟨9, 1, A.ld (by decide) (by decide) rfl, ?_⟩
                refine And.intro (fun c674 => ?_) (fun c674 => ?_)
                · rw [A6] at c674
                  by_cases h40 : nb = 40
                  · exact j_e40 A hI C ho hq h40
                  · by_cases h60w : nw = 60
                    · exact j_e60 A hI C ho hq h40 h60w
                    · refine j_n1 A hI C ho hq h40 h60w hk2 hy2 hc2 (fun z => ?_)
                      obtain ⟨⟨z1, z2, z3, z4⟩, z5, z6⟩ := J.mp z
                      first | exact c674 z6 | exact c658 z5 | exact c621 z4 | exact c599 (by omega) | exact c580 z2 | exact c570 z1 | exact h60w c684
                · rw [A6] at c674
                  refine ⟨9, 11, A.ld (by decide) (by decide) rfl, ?_⟩
                  refine And.intro (fun c684 => ?_) (fun c684 => ?_)
                  · rw [A7] at c684
                    by_cases h40 : nb = 40
                    · exact j_e40 A hI C ho hq h40
                    · by_cases h60w : nw = 60
                      · exact j_e60 A hI C ho hq h40 h60w
                      · refine j_n1 A hI C ho hq h40 h60w hk2 hy2 hc2 (fun z => ?_)
                        obtain ⟨⟨z1, z2, z3, z4⟩, z5, z6⟩ := J.mp z
                        first | exact c674 z6 | exact c658 z5 | exact c621 z4 | exact c599 (by omega) | exact c580 z2 | exact c570 z1 | exact h60w c684
                  · rw [A7] at c684
                    by_cases h40 : nb = 40
                    · exact j_e40 A hI C ho hq h40
                    · by_cases h60w : nw = 60
                      · exact j_e60 A hI C ho hq h40 h60w
                      · exact j_y A hI C ho hq h40 h60w hk2 hy2 hc2 (J.mpr ⟨⟨by omega, by omega, by omega, c621⟩, Classical.not_not.mp c658, Classical.not_not.mp c674⟩)
    · skip
      have hn : ¬ (k < nb ∧ y < 4 ∧ c < nb) := fun z => hc2 z.2.2
      refine runL_go (κ := κ) (p := p) rkL_isBlock (fun p => Nat.beq p 692) 300 rfl ?_
      refine And.intro (fun c538 => False.elim (by first | exact c538 (by decide) | exact absurd (by decide) c538 | exact absurd c538 (by decide))) (fun c538 => ?_)
      refine ⟨9, 10, A.ld (by decide) (by decide) rfl, ?_⟩
      refine And.intro (fun c548 => ?_) (fun c548 => False.elim (by first | exact c548 (by rw [a10]; exact nI_le (by omega) (by omega)) | exact absurd (by rw [a10]; exact nI_le (by omega) (by omega)) c548 | exact absurd c548 (by rw [a10]; exact nI_le (by omega) (by omega))))
      refine And.intro (fun c560 => ?_) (fun c560 => False.elim (by first | exact c560 (by decide) | exact absurd (by decide) c560 | exact absurd c560 (by decide)))
      refine And.intro (fun c633 => ?_) (fun c633 => False.elim (by first | exact c633 (by decide) | exact absurd (by decide) c633 | exact absurd c633 (by decide)))
      by_cases h40 : nb = 40
      · exact j_e40 A hI C ho hq h40
      · by_cases h60w : nw = 60
        · exact j_e60 A hI C ho hq h40 h60w
        · exact j_n0 A hI C ho hq h40 h60w hk hy hc hn
  · skip
    have hn : ¬ (k < nb ∧ y < 4 ∧ c < nb) := fun z => hb ⟨z.1, z.2.1⟩
    refine runL_go (κ := κ) (p := p) rkL_isBlock (fun p => Nat.beq p 692) 300 rfl ?_
    refine And.intro (fun c538 => ?_) (fun c538 => False.elim (by first | exact c538 (by decide) | exact absurd (by decide) c538 | exact absurd c538 (by decide)))
    refine And.intro (fun c560 => ?_) (fun c560 => False.elim (by first | exact c560 (by decide) | exact absurd (by decide) c560 | exact absurd c560 (by decide)))
    refine And.intro (fun c633 => ?_) (fun c633 => False.elim (by first | exact c633 (by decide) | exact absurd (by decide) c633 | exact absurd c633 (by decide)))
    by_cases h40 : nb = 40
    · exact j_e40 A hI C ho hq h40
    · by_cases h60w : nw = 60
      · exact j_e60 A hI C ho hq h40 h60w
      · exact j_n0 A hI C ho hq h40 h60w hk hy hc hn
set_option maxRecDepth 20000 in
theorem b_join {w : W0} {κ : AH} {p : Nat} {l : LSt} {θ0 : Nat → Nat} {x : Int32} {σ : MS} {o q nb nw np : Nat} {wb : Nat → Nat} {k y : Nat} {b16 : Int32} (A : AK κ) (hI : RI κ κ σ nb nw np wb) (C : Cp l σ nb nw np) (ho : o < 60000) (hq : q < 60000) (hk : k ≤ nb) (hy : y < 5) (hb : ((b16 = 1 ∧ k < nb ∧ y < 4) ∨ (b16 = 0 ∧ ¬ (k < nb ∧ y < 4)))) : Y w mL_isBlock θ0 (PL κ p l) (fun v κ' => PQ κ p v κ') (fun _ _ => False) 0 0 426 [some (.ref (tS 4)), some (.ref (tM 0)), some (.ref (tM 1)), some (.ref (tM 2)), some (.ref (tM 3)), some (.ref (tM 4)), some (.ref (tM 5)), some (.ref (tM 6)), some (.ref (tM 7)), some (.ref (tM 8)), some (.ref (tM 9)), some (.int x), some (.int (nI o)), some (.int (nI q)), some (.int (nI k)), some (.int (nI y)), some (.int b16), none, none, none, none, none, none] [] (PL κ p l) := by
  have e8 : σ.1 8 = nI nb := hI.1.e8
  have e18 : σ.1 18 = nI nw := hI.1.e18
  have e30 : σ.1 30 = nI np := hI.1.2.2.2.2.2.1
  obtain ⟨⟨hb40, hw60, hp10, h6⟩, D, hln⟩ := id C
  obtain ⟨CB, CW, CR, CG, z18⟩ := id D
  have a11 : l 9 11 = nI nw := CG.2.2.2.2.2.2.2.2.1
  have a10 : l 9 10 = nI nb := CG.2.2.2.2.2.2.2.1
  have h60 : nb ≤ 60 := by omega
  have IB : ∀ k, k < 100 → (isBlk σ (nI k) ↔ k < nb) := fun k hk => (isB_blk h60 e8).trans ⟨fun z => (nI_ltI (by omega) (by omega)).mp z.2, fun z => ⟨nI_pos' (by omega), nI_lt z (by omega)⟩⟩
  have LP : ∀ m kk : Nat, m + kk = nb → ∀ c, c ≤ nb → Y w mL_isBlock θ0 (PL κ p l) (fun v κ' => PQ κ p v κ') (fun _ _ => False) 0 0 441 [some (.ref (tS 4)), some (.ref (tM 0)), some (.ref (tM 1)), some (.ref (tM 2)), some (.ref (tM 3)), some (.ref (tM 4)), some (.ref (tM 5)), some (.ref (tM 6)), some (.ref (tM 7)), some (.ref (tM 8)), some (.ref (tM 9)), some (.int x), some (.int (nI o)), some (.int (nI q)), some (.int (nI k)), some (.int (nI y)), some (.int b16), some (.int (nI c)), some (.int (nI kk)), none, none, none, none] [] (PL κ p l) := by
    intro m
    induction m with
    | zero =>
      intro kk hkk c hc
      have e : kk = nb := by omega
      subst e
      refine runL_go (κ := κ) (p := p) rkL_isBlock (fun p => Nat.beq p 441 || Nat.beq p 536) 300 rfl ?_
      refine ⟨9, 10, A.ld (by decide) (by decide) rfl, ?_⟩
      rw [a10]
      exact And.intro (fun _ => j_536 A hI C ho hq hk hy hc hb) (fun c => absurd (Int32.le_refl _) c)
    | succ m ih =>
      intro kk hkk c hc
      have K528 : ∀ c', c' ≤ nb → Y w mL_isBlock θ0 (PL κ p l) (fun v κ' => PQ κ p v κ') (fun _ _ => False) 0 0 528 [some (.ref (tS 4)), some (.ref (tM 0)), some (.ref (tM 1)), some (.ref (tM 2)), some (.ref (tM 3)), some (.ref (tM 4)), some (.ref (tM 5)), some (.ref (tM 6)), some (.ref (tM 7)), some (.ref (tM 8)), some (.ref (tM 9)), some (.int x), some (.int (nI o)), some (.int (nI q)), some (.int (nI k)), some (.int (nI y)), some (.int b16), some (.int (nI c)), some (.int (nI kk)), none, none, none, none] [.int (nI c')] (PL κ p l) := by
        intro c' hc'
        refine runL_go (κ := κ) (p := p) rkL_isBlock (fun p => Nat.beq p 441 || Nat.beq p 536) 300 rfl ?_
        have Z := ih (kk + 1) (by omega) c' hc'
        rw [← nI_1 kk] at Z
        exact Z
      have hkk40 : kk < 40 := by omega
      refine runL_go (κ := κ) (p := p) rkL_isBlock (fun p => Nat.beq p 441 || Nat.beq p 528 || Nat.beq p 536) 300 rfl ?_
      refine ⟨9, 10, A.ld (by decide) (by decide) rfl, ?_⟩
      refine And.intro (fun c448 => False.elim (by first | exact c448 (by rw [a10]; exact fun z => by have := (nI_leI (by omega) (by omega)).mp z; omega) | exact absurd (by rw [a10]; exact fun z => by have := (nI_leI (by omega) (by omega)).mp z; omega) c448 | exact absurd c448 (by rw [a10]; exact fun z => by have := (nI_leI (by omega) (by omega)).mp z; omega))) (fun c448 => ?_)
      refine ⟨9, 10, A.ld (by decide) (by decide) rfl, ?_⟩
      refine And.intro (fun c458 => ?_) (fun c458 => ?_)
      · rw [a10] at c458
        exact j_536 A hI C ho hq hk hy hc hb
      · rw [a10] at c458
        have hkn : k < nb := by have := mt (nI_leI (a := nb) (by omega) (by omega)).mpr c458; omega
        refine And.intro (by decide) ?_
        refine And.intro (fun c465 => ?_) (fun c465 => ?_)
        · skip
          exact j_536 A hI C ho hq hk hy hc hb
        · skip
          refine ⟨0, kk, A.ld (by decide) (show kk < 40 by omega) rfl, ?_⟩
          refine And.intro (fun c475 => ?_) (fun c475 => ?_)
          · skip
            exact K528 c hc
          · skip
            refine ⟨0, kk, A.ld (by decide) (show kk < 40 by omega) rfl, ?_⟩
            refine And.intro (by decide) ?_
            refine ⟨0, k, A.ld (by decide) (show k < 40 by omega) rfl, ?_⟩
            refine And.intro (by decide) ?_
            refine And.intro (by decide) ?_
            refine And.intro (fun c497 => ?_) (fun c497 => ?_)
            · skip
              exact K528 c hc
            · skip
              refine ⟨0, kk, A.ld (by decide) (show kk < 40 by omega) rfl, ?_⟩
              refine And.intro (by decide) ?_
              refine ⟨0, k, A.ld (by decide) (show k < 40 by omega) rfl, ?_⟩
              refine And.intro (by decide) ?_
              refine And.intro (by decide) ?_
              refine And.intro (fun c518 => ?_) (fun c518 => ?_)
              · skip
                exact K528 c hc
              · skip
                exact K528 kk (by omega)
  have rq : nI q - nI q / (l 9 10 + 1) * (l 9 10 + 1) = nI (q % (nb + 1)) := by rw [a10, nI_1]; exact rm_nI (by omega) (by omega) (by omega)
  have nz : ¬ l 9 10 + 1 = 0 := by rw [a10, nI_1]; exact nI_ne0 (by omega) (by omega)
  refine runL_go (κ := κ) (p := p) rkL_isBlock (fun p => Nat.beq p 441) 300 rfl ?_
  refine ⟨9, 10, A.ld (by decide) (by decide) rfl, ?_⟩
  refine And.intro nz ?_
  have Z := LP nb 0 rfl (q % (nb + 1)) (Nat.lt_succ_iff.mp (Nat.mod_lt _ (Nat.succ_pos _)))
  rw [← rq] at Z
  exact Z
set_option maxRecDepth 20000 in
theorem c_L_isBlock {w : W0} {κ : AH} {p : Nat} {l : LSt} {x : Int32} {σ : MS} {o q nb nw np : Nat} {wb : Nat → Nat} (A : AK κ) (hI : RI κ κ σ nb nw np wb) (C : Cp l σ nb nw np) (ho : o < 60000) (hq : q < 60000) : CY w yL_isBlock mL_isBlock [.ref (tS 4), .ref (tM 0), .ref (tM 1), .ref (tM 2), .ref (tM 3), .ref (tM 4), .ref (tM 5), .ref (tM 6), .ref (tM 7), .ref (tM 8), .ref (tM 9), .int x, .int (nI o), .int (nI q)] (PL κ p l) (fun v κ' => PQ κ p v κ') := by
  have e8 : σ.1 8 = nI nb := hI.1.e8
  have e18 : σ.1 18 = nI nw := hI.1.e18
  have e30 : σ.1 30 = nI np := hI.1.2.2.2.2.2.1
  obtain ⟨⟨hb40, hw60, hp10, h6⟩, D, hln⟩ := id C
  obtain ⟨CB, CW, CR, CG, z18⟩ := id D
  have a11 : l 9 11 = nI nw := CG.2.2.2.2.2.2.2.2.1
  have a10 : l 9 10 = nI nb := CG.2.2.2.2.2.2.2.1
  have h60 : nb ≤ 60 := by omega
  have IB : ∀ k, k < 100 → (isBlk σ (nI k) ↔ k < nb) := fun k hk => (isB_blk h60 e8).trans ⟨fun z => (nI_ltI (by omega) (by omega)).mp z.2, fun z => ⟨nI_pos' (by omega), nI_lt z (by omega)⟩⟩
  refine CY_of mcL_isBlock (Nat.le_of_ble_eq_true rfl) (cat1 rfl) (fun θ0 => ?_)
  by_cases hx : x = 0 ∧ nb < 40
  · exact b_block A hI C ho hq hx.1 hx.2
  · skip
    have K420 : ∀ k, k ≤ nb → ∀ y, y < 5 → ∀ b16 : Int32, ((b16 = 1 ∧ k < nb ∧ y < 4) ∨ (b16 = 0 ∧ ¬ (k < nb ∧ y < 4))) → Y w mL_isBlock θ0 (PL κ p l) (fun v κ' => PQ κ p v κ') (fun _ _ => False) 0 0 418 [some (.ref (tS 4)), some (.ref (tM 0)), some (.ref (tM 1)), some (.ref (tM 2)), some (.ref (tM 3)), some (.ref (tM 4)), some (.ref (tM 5)), some (.ref (tM 6)), some (.ref (tM 7)), some (.ref (tM 8)), some (.ref (tM 9)), some (.int x), some (.int (nI o)), some (.int (nI q)), some (.int (nI k)), some (.int (nI y)), none, none, none, none, none, none, none] [.int b16] (PL κ p l) := by
      intro k hk y hy b16 hb
      refine runL_go (κ := κ) (p := p) rkL_isBlock (fun p => Nat.beq p 426 || Nat.beq p 964) 300 rfl ?_
      refine And.intro (fun c423 => ?_) (fun c423 => ?_)
      · skip
        by_cases h2 : x = 2
        · exact b_erect A hI C ho hq h2 hk hy hb
        · refine runL_go (κ := κ) (p := p) rkL_isBlock (fun p => Nat.beq p 1074) 300 rfl ?_
          exact And.intro (fun _ => b_scrap A hI C ho hq hk) (fun c => absurd c h2)
      · skip
        exact b_join A hI C ho hq hk hy hb
    have K395 : ∀ k, k ≤ nb → ∀ y, y < 5 → Y w mL_isBlock θ0 (PL κ p l) (fun v κ' => PQ κ p v κ') (fun _ _ => False) 0 0 397 [some (.ref (tS 4)), some (.ref (tM 0)), some (.ref (tM 1)), some (.ref (tM 2)), some (.ref (tM 3)), some (.ref (tM 4)), some (.ref (tM 5)), some (.ref (tM 6)), some (.ref (tM 7)), some (.ref (tM 8)), some (.ref (tM 9)), some (.int x), some (.int (nI o)), some (.int (nI q)), some (.int (nI k)), some (.int (nI y)), none, none, none, none, none, none, none] [] (PL κ p l) := by
      intro k hk y hy
      have c1 : (nI nb ≤ nI k ↔ ¬ k < nb) := (nI_leI (by omega) (by omega)).trans Nat.not_lt.symm
      have c2 : (4 ≤ nI y ↔ ¬ y < 4) := (nI_leI (a := 4) (by decide) (by omega)).trans Nat.not_lt.symm
      refine runL_go (κ := κ) (p := p) rkL_isBlock (fun p => Nat.beq p 418) 300 rfl ?_
      refine ⟨9, 10, A.ld (by decide) (by decide) rfl, ?_⟩
      refine And.intro (fun c404 => ?_) (fun c404 => ?_)
      · rw [a10, c1] at c404
        exact K420 k hk y hy 0 (Or.inr ⟨rfl, fun z => by first | exact c404 z.1 | exact c410 z.2⟩)
      · rw [a10, c1] at c404
        refine And.intro (fun c410 => ?_) (fun c410 => ?_)
        · rw [c2] at c410
          exact K420 k hk y hy 0 (Or.inr ⟨rfl, fun z => by first | exact c404 z.1 | exact c410 z.2⟩)
        · rw [c2] at c410
          exact K420 k hk y hy 1 (Or.inl ⟨rfl, Classical.not_not.mp c404, Classical.not_not.mp c410⟩)
    have K359 : ∀ y14 y15 : Int32, (∃ k, k ≤ nb ∧ y14 = nI k) → (∃ y, y < 5 ∧ y15 = nI y) → Y w mL_isBlock θ0 (PL κ p l) (fun v κ' => PQ κ p v κ') (fun _ _ => False) 0 0 397 [some (.ref (tS 4)), some (.ref (tM 0)), some (.ref (tM 1)), some (.ref (tM 2)), some (.ref (tM 3)), some (.ref (tM 4)), some (.ref (tM 5)), some (.ref (tM 6)), some (.ref (tM 7)), some (.ref (tM 8)), some (.ref (tM 9)), some (.int x), some (.int (nI o)), some (.int (nI q)), some (.int y14), some (.int y15), none, none, none, none, none, none, none] [] (PL κ p l) := by
      rintro y14 y15 ⟨k, hk, rfl⟩ ⟨y, hy, rfl⟩
      exact K395 k hk y hy
    have rq : nI o - nI o / (l 9 10 + 1) * (l 9 10 + 1) = nI (o % (nb + 1)) := by rw [a10, nI_1]; exact rm_nI (by omega) (by omega) (by omega)
    have nz : ¬ l 9 10 + 1 = 0 := by rw [a10, nI_1]; exact nI_ne0 (by omega) (by omega)
    have r4 : nI o / 41 - nI o / 41 / 4 * 4 = nI (o / 41 % 4) := by rw [show nI o / 41 = nI (o / 41) from pk_div (d := 41) (by omega) (by decide) (by decide)]; exact rm_nI (d := 4) (by omega) (by decide) (by decide)
    have M359 : Y w mL_isBlock θ0 (PL κ p l) (fun v κ' => PQ κ p v κ') (fun _ _ => False) 0 0 359 [some (.ref (tS 4)), some (.ref (tM 0)), some (.ref (tM 1)), some (.ref (tM 2)), some (.ref (tM 3)), some (.ref (tM 4)), some (.ref (tM 5)), some (.ref (tM 6)), some (.ref (tM 7)), some (.ref (tM 8)), some (.ref (tM 9)), some (.int x), some (.int (nI o)), some (.int (nI q)), none, none, none, none, none, none, none, none, none] [] (PL κ p l) := by
      refine runL_go (κ := κ) (p := p) rkL_isBlock (fun p => Nat.beq p 397) 300 rfl ?_
      refine ⟨9, 10, A.ld (by decide) (by decide) rfl, ?_⟩
      refine And.intro nz ?_
      refine And.intro (by decide) ?_
      refine And.intro (by decide) ?_
      refine And.intro (fun c381 => ?_) (fun c381 => ?_)
      · skip
        refine And.intro (by decide) ?_
        refine And.intro (by decide) ?_
        exact K359 _ _ ⟨_, Nat.lt_succ_iff.mp (Nat.mod_lt _ (Nat.succ_pos _)), rq⟩ ⟨_, by have := Nat.mod_lt (o / 41) (show 0 < 4 by decide); omega, r4⟩
      · skip
        exact K359 _ _ ⟨_, Nat.lt_succ_iff.mp (Nat.mod_lt _ (Nat.succ_pos _)), rq⟩ ⟨4, by decide, rfl⟩
    refine runL_ok rkL_isBlock (fun p => Nat.beq p 359 || Nat.beq p 15) 300 _ _ _ _ _ _ ?_
    refine And.intro (fun c2 => ?_) (fun c2 => ?_)
    · skip
      exact M359
    · skip
      refine ⟨9, 10, A.ld (by decide) (by decide) rfl, ?_⟩
      refine And.intro (fun c12 => ?_) (fun c12 => ?_)
      · skip
        exact M359
      · skip
        exact absurd ⟨c2, Nat.lt_of_not_le (fun z => c12 (by rw [a10]; exact nI_le (a := 40) z (by omega)))⟩ hx

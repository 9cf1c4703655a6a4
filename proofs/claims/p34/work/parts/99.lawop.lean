
/-! THE LAW'S STEP -/
theorem lw_380 {w : W0} {κ : AH} {k kc ns o q : Nat} {x : Int32} (h : LwS k κ) (ho : o < 60000) (hq : q < 60000) (hkc : kc ≤ 290000) (hns : ns ≤ 4900000) (K : ∀ κ' kc' ns', kc' ≤ kc + 1600 → ns' ≤ ns + 26000 → LwS (k + 1) κ' → YS w lwQ kc' ns' 686 [some (.ref (tM 40)), some (.ref (tS 4)), some (.ref (tM 0)), some (.ref (tM 1)), some (.ref (tM 2)), some (.ref (tM 3)), some (.ref (tM 4)), some (.ref (tM 5)), some (.ref (tM 6)), some (.ref (tM 7)), some (.ref (tM 8)), some (.ref (tM 9)), some (.int 1), some (.int (nI k)), some (.int x), some (.int (nI o)), some (.int (nI q))] [] κ') : YS w lwQ kc ns 380 [some (.ref (tM 40)), some (.ref (tS 4)), some (.ref (tM 0)), some (.ref (tM 1)), some (.ref (tM 2)), some (.ref (tM 3)), some (.ref (tM 4)), some (.ref (tM 5)), some (.ref (tM 6)), some (.ref (tM 7)), some (.ref (tM 8)), some (.ref (tM 9)), some (.int 1), some (.int (nI k)), some (.int x), some (.int (nI o)), some (.int (nI q))] [] κ := by
  obtain ⟨σ, nb, nw, np, wb, hI, A, C, h40, hf⟩ := id h
  refine runS_go (fun p => Nat.beq p 686) 200 rfl ?_
  refine And.intro (fun c => ?_) (fun c => ?_)
  · skip
    refine And.intro (fun c => ?_) (fun c => ?_)
    · skip
      refine And.intro (fun c => ?_) (fun c => ?_)
      · skip
        refine And.intro (fun c => ?_) (fun c => ?_)
        · skip
          refine And.intro (fun c => ?_) (fun c => ?_)
          · skip
            refine And.intro (fun c => ?_) (fun c => ?_)
            · skip
              refine And.intro (fun c => ?_) (fun c => ?_)
              · skip
                have c0 := c_L_isTold (w := w) (p := 41) (x := x - 36) A hI C ho hq
                rw [← PL_lo] at c0
                refine sL_law_681 rfl (Nat.ble_eq_true_of_le (by omega)) (Nat.ble_eq_true_of_le (by omega)) (okK_4 hI (okK_t A (by decide) (okK_j (okK_j (okK_j okK_z))))) c0 (fun v κ' q0 ho hk => ?_)
                obtain ⟨rfl, h'⟩ := LwS_q A h40 hf q0
                obtain ⟨σ', nb', nw', np', wb', _, _, _, h40', _⟩ := id h'
                refine ⟨h40', ?_⟩
                refine runS_ok (fun p => Nat.beq p 686) 80 _ _ _ _ _ _ ?_
                exact K _ _ _ (by omega) (by omega) (LwS_s h')
              · skip
                refine ⟨⟨(A 9 (by decide)).1, by rw [(A 9 (by decide)).2]; exact vp_in_nI (N := 13) (n := 12) (by omega) (by decide)⟩, ?_⟩
                refine And.intro (fun c639 => ?_) (fun c639 => ?_)
                · exact K _ _ _ (by omega) (by omega) (LwS_s h)
                · skip
                  have hn : np < 10 := by
                    have hg : gI κ (tM 9) 12 = nI np := C.2.1.2.2.2.1.2.2.2.2.2.2.2.2.2
                    have h10 := C.1.2.2.1
                    by_cases e : np = 10
                    · subst e; exact absurd hg c639
                    · omega
                  have C2 : Cp (lo κ (50 + k)) σ nb nw np := Cp_lt C (fun j hj => lo_pq hj)
                  have c0 := c_L_isPipe (w := w) (p := 50 + k) A (by omega) (hf _ (Nat.le_refl _)) hI C2 hn ho hq
                  rw [← PL_lo] at c0
                  refine sL_law_653 rfl (Nat.ble_eq_true_of_le (by omega)) (Nat.ble_eq_true_of_le (by omega)) (okK_4 hI (okK_t A (by decide) (okK_t A (by decide) (okK_t A (by decide) (okK_j (okK_j okK_z)))))) c0 (fun v κ' q0 ho hk => ?_)
                  obtain ⟨rfl, h'⟩ := LwS_p A h40 hf q0
                  obtain ⟨σ', nb', nw', np', wb', _, _, _, h40', _⟩ := id h'
                  refine ⟨h40', ?_⟩
                  refine runS_ok (fun p => Nat.beq p 686) 80 _ _ _ _ _ _ ?_
                  refine And.intro (fun c => absurd c (by decide)) (fun c => ?_)
                  exact K _ _ _ (by omega) (by omega) h'
            · skip
              refine And.intro (fun c => ?_) (fun c => ?_)
              · skip
                refine And.intro (fun c => ?_) (fun c => ?_)
                · skip
                  have c0 := c_L_isRoom (w := w) (p := 41) (x := 2) A hI C ho hq
                  rw [← PL_lo] at c0
                  refine sL_law_617 rfl (Nat.ble_eq_true_of_le (by omega)) (Nat.ble_eq_true_of_le (by omega)) (okK_4 hI (okK_t A (by decide) (okK_t A (by decide) (okK_t A (by decide) (okK_j (okK_j (okK_j okK_z))))))) c0 (fun v κ' q0 ho hk => ?_)
                  obtain ⟨rfl, h'⟩ := LwS_q A h40 hf q0
                  obtain ⟨σ', nb', nw', np', wb', _, _, _, h40', _⟩ := id h'
                  refine ⟨h40', ?_⟩
                  refine runS_ok (fun p => Nat.beq p 686) 80 _ _ _ _ _ _ ?_
                  exact K _ _ _ (by omega) (by omega) (LwS_s h')
                · skip
                  have c0 := c_L_isRoom (w := w) (p := 41) (x := 1) A hI C ho hq
                  rw [← PL_lo] at c0
                  refine sL_law_617 rfl (Nat.ble_eq_true_of_le (by omega)) (Nat.ble_eq_true_of_le (by omega)) (okK_4 hI (okK_t A (by decide) (okK_t A (by decide) (okK_t A (by decide) (okK_j (okK_j (okK_j okK_z))))))) c0 (fun v κ' q0 ho hk => ?_)
                  obtain ⟨rfl, h'⟩ := LwS_q A h40 hf q0
                  obtain ⟨σ', nb', nw', np', wb', _, _, _, h40', _⟩ := id h'
                  refine ⟨h40', ?_⟩
                  refine runS_ok (fun p => Nat.beq p 686) 80 _ _ _ _ _ _ ?_
                  exact K _ _ _ (by omega) (by omega) (LwS_s h')
              · skip
                have c0 := c_L_isRoom (w := w) (p := 41) (x := 0) A hI C ho hq
                rw [← PL_lo] at c0
                refine sL_law_617 rfl (Nat.ble_eq_true_of_le (by omega)) (Nat.ble_eq_true_of_le (by omega)) (okK_4 hI (okK_t A (by decide) (okK_t A (by decide) (okK_t A (by decide) (okK_j (okK_j (okK_j okK_z))))))) c0 (fun v κ' q0 ho hk => ?_)
                obtain ⟨rfl, h'⟩ := LwS_q A h40 hf q0
                obtain ⟨σ', nb', nw', np', wb', _, _, _, h40', _⟩ := id h'
                refine ⟨h40', ?_⟩
                refine runS_ok (fun p => Nat.beq p 686) 80 _ _ _ _ _ _ ?_
                exact K _ _ _ (by omega) (by omega) (LwS_s h')
          · skip
            refine And.intro (fun c => ?_) (fun c => ?_)
            · skip
              have c0 := c_L_isWeld (w := w) (p := 41) (x := 1) A hI C ho hq
              rw [← PL_lo] at c0
              refine sL_law_568 rfl (Nat.ble_eq_true_of_le (by omega)) (Nat.ble_eq_true_of_le (by omega)) (okK_4 hI (okK_t A (by decide) (okK_t A (by decide) (okK_t A (by decide) (okK_t A (by decide) (okK_t A (by decide) (okK_j (okK_j (okK_j okK_z))))))))) c0 (fun v κ' q0 ho hk => ?_)
              obtain ⟨rfl, h'⟩ := LwS_q A h40 hf q0
              obtain ⟨σ', nb', nw', np', wb', _, _, _, h40', _⟩ := id h'
              refine ⟨h40', ?_⟩
              refine runS_ok (fun p => Nat.beq p 686) 80 _ _ _ _ _ _ ?_
              exact K _ _ _ (by omega) (by omega) (LwS_s h')
            · skip
              have c0 := c_L_isWeld (w := w) (p := 41) (x := 0) A hI C ho hq
              rw [← PL_lo] at c0
              refine sL_law_568 rfl (Nat.ble_eq_true_of_le (by omega)) (Nat.ble_eq_true_of_le (by omega)) (okK_4 hI (okK_t A (by decide) (okK_t A (by decide) (okK_t A (by decide) (okK_t A (by decide) (okK_t A (by decide) (okK_j (okK_j (okK_j okK_z))))))))) c0 (fun v κ' q0 ho hk => ?_)
              obtain ⟨rfl, h'⟩ := LwS_q A h40 hf q0
              obtain ⟨σ', nb', nw', np', wb', _, _, _, h40', _⟩ := id h'
              refine ⟨h40', ?_⟩
              refine runS_ok (fun p => Nat.beq p 686) 80 _ _ _ _ _ _ ?_
              exact K _ _ _ (by omega) (by omega) (LwS_s h')
        · skip
          have c0 := c_L_isBlock (w := w) (p := 41) (x := 3) A hI C ho hq
          rw [← PL_lo] at c0
          refine sL_law_527 rfl (Nat.ble_eq_true_of_le (by omega)) (Nat.ble_eq_true_of_le (by omega)) (okK_4 hI (okK_t A (by decide) (okK_t A (by decide) (okK_t A (by decide) (okK_t A (by decide) (okK_t A (by decide) (okK_t A (by decide) (okK_t A (by decide) (okK_t A (by decide) (okK_t A (by decide) (okK_t A (by decide) (okK_j (okK_j (okK_j okK_z)))))))))))))) c0 (fun v κ' q0 ho hk => ?_)
          obtain ⟨rfl, h'⟩ := LwS_q A h40 hf q0
          obtain ⟨σ', nb', nw', np', wb', _, _, _, h40', _⟩ := id h'
          refine ⟨h40', ?_⟩
          refine runS_ok (fun p => Nat.beq p 686) 80 _ _ _ _ _ _ ?_
          exact K _ _ _ (by omega) (by omega) (LwS_s h')
      · skip
        have c0 := c_L_isBlock (w := w) (p := 41) (x := 2) A hI C ho hq
        rw [← PL_lo] at c0
        refine sL_law_488 rfl (Nat.ble_eq_true_of_le (by omega)) (Nat.ble_eq_true_of_le (by omega)) (okK_4 hI (okK_t A (by decide) (okK_t A (by decide) (okK_t A (by decide) (okK_t A (by decide) (okK_t A (by decide) (okK_t A (by decide) (okK_t A (by decide) (okK_t A (by decide) (okK_t A (by decide) (okK_t A (by decide) (okK_j (okK_j (okK_j okK_z)))))))))))))) c0 (fun v κ' q0 ho hk => ?_)
        obtain ⟨rfl, h'⟩ := LwS_q A h40 hf q0
        obtain ⟨σ', nb', nw', np', wb', _, _, _, h40', _⟩ := id h'
        refine ⟨h40', ?_⟩
        refine runS_ok (fun p => Nat.beq p 686) 80 _ _ _ _ _ _ ?_
        exact K _ _ _ (by omega) (by omega) (LwS_s h')
    · skip
      have c0 := c_L_isBlock (w := w) (p := 41) (x := 1) A hI C ho hq
      rw [← PL_lo] at c0
      refine sL_law_449 rfl (Nat.ble_eq_true_of_le (by omega)) (Nat.ble_eq_true_of_le (by omega)) (okK_4 hI (okK_t A (by decide) (okK_t A (by decide) (okK_t A (by decide) (okK_t A (by decide) (okK_t A (by decide) (okK_t A (by decide) (okK_t A (by decide) (okK_t A (by decide) (okK_t A (by decide) (okK_t A (by decide) (okK_j (okK_j (okK_j okK_z)))))))))))))) c0 (fun v κ' q0 ho hk => ?_)
      obtain ⟨rfl, h'⟩ := LwS_q A h40 hf q0
      obtain ⟨σ', nb', nw', np', wb', _, _, _, h40', _⟩ := id h'
      refine ⟨h40', ?_⟩
      refine runS_ok (fun p => Nat.beq p 686) 80 _ _ _ _ _ _ ?_
      exact K _ _ _ (by omega) (by omega) (LwS_s h')
  · skip
    have c0 := c_L_isBlock (w := w) (p := 41) (x := 0) A hI C ho hq
    rw [← PL_lo] at c0
    refine sL_law_410 rfl (Nat.ble_eq_true_of_le (by omega)) (Nat.ble_eq_true_of_le (by omega)) (okK_4 hI (okK_t A (by decide) (okK_t A (by decide) (okK_t A (by decide) (okK_t A (by decide) (okK_t A (by decide) (okK_t A (by decide) (okK_t A (by decide) (okK_t A (by decide) (okK_t A (by decide) (okK_t A (by decide) (okK_j (okK_j (okK_j okK_z)))))))))))))) c0 (fun v κ' q0 ho hk => ?_)
    obtain ⟨rfl, h'⟩ := LwS_q A h40 hf q0
    obtain ⟨σ', nb', nw', np', wb', _, _, _, h40', _⟩ := id h'
    refine ⟨h40', ?_⟩
    refine runS_ok (fun p => Nat.beq p 686) 80 _ _ _ _ _ _ ?_
    exact K _ _ _ (by omega) (by omega) (LwS_s h')

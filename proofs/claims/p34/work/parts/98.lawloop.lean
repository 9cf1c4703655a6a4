
/-! THE LAW'S LOOP -/
def lwQ (v : Option Value) : Prop := v = some (.int 1)
theorem Cp_lt {l l' : LSt} {σ : MS} {nb nw np : Nat} (h : Cp l σ nb nw np) (hl : ∀ j, j < 10 → l' j = l j) : Cp l' σ nb nw np := by
  obtain ⟨⟨h1, h2, h3, h4⟩, ⟨B, W, R, G, z18⟩, hln⟩ := h
  exact ⟨⟨h1, h2, h3, h4⟩, ⟨B.cong (fun j hj i _ => congrFun (hl j (by omega)) i) (fun j _ _ i _ => rfl), W.cong (fun k _ => congrFun (hl 6 (by decide)) k) (fun _ _ _ _ _ => rfl) (Nat.le_refl _), fun c hc => by rw [hl 7 (by decide), hl 8 (by decide)]; exact R c hc, G.cong (fun k => congrFun (hl 9 (by decide)) k) (fun _ _ => rfl) (fun _ _ => rfl), z18⟩, hln⟩
def LwS (k : Nat) (κ : AH) : Prop := ∃ σ nb nw np wb, RI κ κ σ nb nw np wb ∧ AK κ ∧ Cp (lo κ 41) σ nb nw np ∧ gT κ (tM 40) = 0 ∧ ∀ i, 50 + k ≤ i → gT κ (tM i) = 0
theorem lo_PLj {κ : AH} {p q : Nat} {l : LSt} {j : Nat} (h : j < 10) : lo (PL κ p l) q j = l j := funext fun k => by
  show (if j < 10 then gI (PL κ p l) (tM j) k else gI (PL κ p l) (tM q) k) = _
  rw [if_pos h, gI_PLj k (lnr_M h) (by omega)]
theorem lo_pq {κ : AH} {p q j : Nat} (h : j < 10) : lo κ p j = lo κ q j := funext fun k => by
  show (if j < 10 then gI κ (tM j) k else gI κ (tM p) k) = (if j < 10 then gI κ (tM j) k else gI κ (tM q) k)
  rw [if_pos h, if_pos h]
theorem LwS_q {k p : Nat} {κ κ' : AH} {v : Option Value} (A : AK κ) (h40 : gT κ (tM 40) = 0) (hf : ∀ i, 50 + k ≤ i → gT κ (tM i) = 0) (q : PQ κ p v κ') : v = some (.int 1) ∧ LwS k κ' := by
  obtain ⟨e, κ1, l1, σ1, nb, nw, np, wb, rfl, hI, C, S⟩ := q
  exact ⟨e, σ1, nb, nw, np, wb, RI_PL hI, AK_of A S, Cp_lt C (fun j hj => lo_PLj hj), (S 40).1.trans h40, fun i hi => (S i).1.trans (hf i hi)⟩
theorem LwS_p {k : Nat} {κ κ' : AH} {v : Option Value} (A : AK κ) (h40 : gT κ (tM 40) = 0) (hf : ∀ i, 50 + k ≤ i → gT κ (tM i) = 0) (q : PQp κ (50 + k) v κ') : v = some (.int 1) ∧ LwS (k + 1) κ' := by
  obtain ⟨e, κ1, l1, σ1, nb, nw, np, wb, rfl, hI, C, S⟩ := q
  exact ⟨e, σ1, nb, nw, np, wb, RI_PL hI, fun j hj => ⟨(S j (by omega)).1.trans (A j hj).1, (S j (by omega)).2.trans (A j hj).2⟩, Cp_lt C (fun j hj => lo_PLj hj), (S 40 (by omega)).1.trans h40, fun i hi => (S i (by omega)).1.trans (hf i (by omega))⟩
theorem LwS_s {k : Nat} {κ : AH} (h : LwS k κ) : LwS (k + 1) κ := by
  obtain ⟨σ, nb, nw, np, wb, a, b, c, d, e⟩ := h
  exact ⟨σ, nb, nw, np, wb, a, b, c, d, fun i hi => e i (by omega)⟩
theorem okK_z {κ : AH} : okK κ [] := fun _ h => absurd h List.not_mem_nil
theorem okK_t {κ : AH} {j : Nat} {st : List Value} (A : AK κ) (hj : j < 10) (h : okK κ st) : okK κ (.ref (tM j) :: st) := okK_cons (by show gT κ (tM j) ≠ 0; rw [(A j hj).1]; decide) h
theorem okK_4 {κ : AH} {σ : MS} {nb nw np : Nat} {wb : Nat → Nat} {st : List Value} (hI : RI κ κ σ nb nw np wb) (h : okK κ st) : okK κ (.ref (tS 4) :: st) := okK_cons (by show gT κ (tS 4) ≠ 0; rw [hI.2.1.1.t4]; decide) h
theorem okK_j {κ : AH} {x : Int32} {st : List Value} (h : okK κ st) : okK κ (.int x :: st) := okK_cons trivial h

theorem lw_686 {w : W0} {κ : AH} {k kc ns : Nat} {y14 y15 y16 : Option Value} (h : LwS (k + 1) κ) (hkc : kc ≤ 300000) (hns : ns ≤ 5000000) (ih : ∀ κ', LwS (k + 1) κ' → YS w lwQ (kc + 2400) (ns + 16000) 305 [some (.ref (tM 40)), some (.ref (tS 4)), some (.ref (tM 0)), some (.ref (tM 1)), some (.ref (tM 2)), some (.ref (tM 3)), some (.ref (tM 4)), some (.ref (tM 5)), some (.ref (tM 6)), some (.ref (tM 7)), some (.ref (tM 8)), some (.ref (tM 9)), some (.int 1), some (.int (nI (k + 1))), y14, y15, y16] [] κ') : YS w lwQ kc ns 686 [some (.ref (tM 40)), some (.ref (tS 4)), some (.ref (tM 0)), some (.ref (tM 1)), some (.ref (tM 2)), some (.ref (tM 3)), some (.ref (tM 4)), some (.ref (tM 5)), some (.ref (tM 6)), some (.ref (tM 7)), some (.ref (tM 8)), some (.ref (tM 9)), some (.int 1), some (.int (nI k)), y14, y15, y16] [] κ := by
  refine runS_go (fun p => Nat.beq p 305) 80 rfl ?_
  refine And.intro (fun c => absurd c (by decide)) (fun c => ?_)
  obtain ⟨σ, nb, nw, np, wb, hI, A, C, h40, hf⟩ := id h
  have c0 := c_L_isSo (w := w) (p := 41) A hI C
  rw [← PL_lo] at c0
  refine sL_law_708 rfl (Nat.ble_eq_true_of_le (by omega)) (Nat.ble_eq_true_of_le (by omega)) (okK_4 hI (okK_t A (by decide) (okK_t A (by decide) (okK_t A (by decide) (okK_t A (by decide) (okK_t A (by decide) (okK_t A (by decide) (okK_t A (by decide) (okK_t A (by decide) (okK_t A (by decide) okK_z)))))))))) c0 (fun v κ' q ho hk => ?_)
  obtain ⟨rfl, h'⟩ := LwS_q A h40 hf q
  obtain ⟨σ', nb', nw', np', wb', _, _, _, h40', _⟩ := id h'
  refine ⟨h40', ?_⟩
  refine runS_go (fun p => Nat.beq p 305) 80 rfl ?_
  refine And.intro (fun c => absurd c (by decide)) (fun c => ?_)
  have Z := ih κ' h'
  rw [← nI_1 k] at Z
  exact Z

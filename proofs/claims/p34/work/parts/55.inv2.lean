/-! WHAT ALWAYS HOLDS, 2: sums, bounds, what follows -/
theorem sm_cg {f g : Nat → Int32} : ∀ n, (∀ i, i < n → f i = g i) → sm f n = sm g n
  | 0, _ => rfl
  | n + 1, h => by
    show sm f n + f n = sm g n + g n
    rw [sm_cg n (fun i hi => h i (by omega)), h n (by omega)]
theorem sm_pt {f f' : Nat → Int32} {c : Nat} {d : Int32} (hd : f' c = f c + d) (ho : ∀ i, i ≠ c → f' i = f i) : ∀ n, c < n → sm f' n = sm f n + d
  | 0, h => by omega
  | n + 1, h => by
    show sm f' n + f' n = sm f n + f n + d
    by_cases e : n = c
    · subst e
      rw [hd, sm_cg n (fun i hi => ho i (by omega))]
      grind
    · rw [ho n e, sm_pt hd ho n (by omega)]
      grind
theorem sm_bd {f : Nat → Int32} {B : Nat} : ∀ n, n * B < 2 ^ 31 → (∀ i, i < n → 0 ≤ (f i).toInt ∧ (f i).toInt ≤ B) → 0 ≤ (sm f n).toInt ∧ (sm f n).toInt ≤ ((n * B : Nat) : Int)
  | 0, _, _ => by
    rw [Nat.zero_mul]
    show 0 ≤ (0 : Int32).toInt ∧ (0 : Int32).toInt ≤ ((0 : Nat) : Int)
    exact ⟨by decide, by decide⟩
  | n + 1, hb, h => by
    have e : (n + 1) * B = n * B + B := by rw [Nat.add_mul, Nat.one_mul]
    have ih := sm_bd n (by omega) (fun i hi => h i (by omega))
    have hn := h n (by omega)
    show 0 ≤ (sm f n + f n).toInt ∧ (sm f n + f n).toInt ≤ _
    rw [e] at hb ⊢
    rw [Int32.toInt_add, Int.bmod_eq_of_le (by omega) (by omega)]
    omega
theorem i32b {x : Int32} {a b : Int} {l u : Int32} (hl : l.toInt = a) (hu : u.toInt = b) (h : l ≤ x ∧ x ≤ u) : a ≤ x.toInt ∧ x.toInt ≤ b := by
  rw [Int32.le_iff_toInt_le, Int32.le_iff_toInt_le] at h
  omega
theorem b32i {x : Int32} {l u : Int32} (h : l.toInt ≤ x.toInt ∧ x.toInt ≤ u.toInt) : l ≤ x ∧ x ≤ u := by
  rw [Int32.le_iff_toInt_le, Int32.le_iff_toInt_le]
  exact h
theorem whN_cg {σ σ' : MS} (h : σ'.2 17 = σ.2 17) : ∀ (n : Nat) (b : Int32), whN σ' n b = whN σ n b
  | 0, _ => rfl
  | n + 1, b => by
    unfold whN
    rw [h, whN_cg h n]
theorem whI_cg {σ σ' : MS} (h : σ'.2 17 = σ.2 17) (i : Nat) : whI σ' i = whI σ i := by
  unfold whI whl
  rw [whN_cg h]
theorem scT_cg {σ σ' : MS} {nb : Nat} (h : σ'.2 17 = σ.2 17) (h9 : σ'.2 9 = σ.2 9) (H : scT σ nb) : scT σ' nb := fun i hi => by
  rw [whI_cg h, h9]
  exact H i hi
theorem nSt_cg {σ σ' : MS} : ∀ nb, (∀ i, i < nb → (σ'.2 9 i = 2 ↔ σ.2 9 i = 2)) → nSt σ' nb = nSt σ nb
  | 0, _ => rfl
  | n + 1, h => by
    unfold nSt
    rw [nSt_cg n (fun i hi => h i (by omega))]
    simp only [h n (by omega)]
theorem nRp_cg {σ σ' : MS} : ∀ nw, (∀ i, i < nw → σ'.2 21 i = σ.2 21 i) → nRp σ' nw = nRp σ nw
  | 0, _ => rfl
  | n + 1, h => by
    unfold nRp
    rw [nRp_cg n (fun i hi => h i (by omega)), h n (by omega)]
theorem nEn_cg {σ σ' : MS} {nb nw : Nat} (h9 : σ'.2 9 = σ.2 9) (h21 : σ'.2 21 = σ.2 21) (h6 : σ'.1 6 = σ.1 6) : nEn σ' nb nw = nEn σ nb nw := by
  unfold nEn
  rw [nSt_cg (σ := σ) (σ' := σ') nb (fun i _ => by rw [h9]), nRp_cg (σ := σ) (σ' := σ') nw (fun i _ => by rw [h21]), h6]
theorem hLe_cg {κ : AH} {σ σ' : MS} {nb nw : Nat} (h9 : σ'.2 9 = σ.2 9) (h21 : σ'.2 21 = σ.2 21) (h6 : σ'.1 6 = σ.1 6) (h7 : σ'.1 7 = σ.1 7) (h : hLe κ σ nb nw) : hLe κ σ' nb nw := by
  unfold hLe at h ⊢
  rw [nEn_cg (σ := σ) h9 h21 h6, h7]
  exact h
theorem IV.stF {σ : MS} {nb nw np : Nat} (h : IV σ nb nw np) : stF σ := fun c hc hn => by
  obtain ⟨j, a, b, d, -⟩ := h.fx c hc hn
  rw [b, nI_clamp (n := j) (by have := h.n8; omega)]
  exact d
theorem IV.lv {σ : MS} {nb nw np : Nat} (h : IV σ nb nw np) : ∀ c, c < 36 → ¬ σ.2 25 c = -1 → σ.2 12 (σ.2 25 c).toNatClampNeg = nI (c / 12) := fun c hc hn => by
  obtain ⟨j, a, b, d, e, -⟩ := h.fx c hc hn
  rw [b, nI_clamp (n := j) (by have := h.n8; omega)]
  exact e
theorem IV.fl {σ : MS} {nb nw np : Nat} (h : IV σ nb nw np) : flOK σ := fun c hc => by
  by_cases hn : σ.2 25 c = -1
  · exact Or.inl hn
  · obtain ⟨j, a, b, -⟩ := h.fx c hc hn
    exact Or.inr (by rw [b]; exact vp_in_nI (N := 60) (by have := h.n8; omega) (by decide))
theorem IV.rs {σ : MS} {nb nw np : Nat} (h : IV σ nb nw np) : ∀ i, i < nb → rsOK σ i := fun i hi => (h.bk i hi).1
theorem IV.hO {σ : MS} {nb nw np : Nat} (h : IV σ nb nw np) : hOK σ := fun k s hk hs z => (h.ho k s hk hs z).1
theorem IV.b0 {σ : MS} {nb nw np : Nat} (h : IV σ nb nw np) : 0 ≤ σ.1 8 ∧ σ.1 8 ≤ 60 := by
  have := h.n8
  rw [h.e8]
  exact ⟨nI_pos' (by omega), nI_le (b := 60) this (by decide)⟩
theorem IV.w0 {σ : MS} {nb nw np : Nat} (h : IV σ nb nw np) : 0 ≤ σ.1 18 ∧ σ.1 18 ≤ 100 := by
  have := h.n18
  rw [h.e18]
  exact ⟨nI_pos' (by omega), nI_le (b := 100) this (by decide)⟩
theorem IV.p0 {σ : MS} {nb nw np : Nat} (h : IV σ nb nw np) : 0 ≤ σ.1 30 ∧ σ.1 30 ≤ 30 := by
  have := h.n30
  rw [h.e30]
  exact ⟨nI_pos' (by omega), nI_le (b := 30) this (by decide)⟩
theorem IV.tb {σ : MS} {nb nw np : Nat} (h : IV σ nb nw np) : 0 ≤ (tnsN σ nb).toInt ∧ (tnsN σ nb).toInt ≤ 200000 := by
  have h8 := h.n8
  have h30 := h.n30
  have a := sm_bd (f := fTB σ) (B := 1000) nb (by omega) (fun i hi => by
    unfold fTB
    split
    · exact i32b (l := 0) (u := 1000) rfl rfl (h.bk i hi).2.1
    · exact ⟨by decide, by decide⟩)
  have b := sm_bd (f := fTC σ) (B := 1380) 36 (by omega) (fun c hc => by
    have q := i32b (l := 0) (u := 300) (a := 0) (b := 300) rfl rfl (h.th c hc)
    have q2 := h.pi c hc
    unfold fTC
    rw [Int32.toInt_add, Int.bmod_eq_of_le (by omega) (by omega)]
    omega)
  unfold tnsN
  rw [Int32.toInt_add, Int.bmod_eq_of_le (by omega) (by omega)]
  omega
theorem IV.t0 {σ : MS} {nb nw np : Nat} (h : IV σ nb nw np) : 0 ≤ tnsN σ nb := Int32.le_iff_toInt_le.mpr h.tb.1
theorem div_sm (x : Int32) : -2200000 ≤ (x / 1000).toInt ∧ (x / 1000).toInt ≤ 2200000 := by
  rw [Int32.toInt_div]
  have h1 := Int32.le_toInt x
  have h2 := Int32.toInt_le x
  have hm : Int32.maxValue.toInt = 2147483647 := rfl
  rw [hm] at h2
  have e : (1000 : Int32).toInt = 1000 := rfl
  rw [e]
  have h3 := Int.mul_tdiv_add_tmod x.toInt 1000
  have h4 := Int.tmod_lt_of_pos x.toInt (b := 1000) (by decide)
  have h5 : -1000 < x.toInt.tmod 1000 := by
    have := Int.tmod_lt_of_pos (-x.toInt) (b := 1000) (by decide)
    rw [Int.neg_tmod] at this
    omega
  rw [Int.bmod_eq_of_le] <;> omega
theorem dv2 {x : Int32} (h : 0 ≤ x.toInt ∧ x.toInt ≤ 200000) : 0 ≤ (x / 2).toInt ∧ (x / 2).toInt ≤ 100000 := by
  rw [Int32.toInt_div]
  have e : (2 : Int32).toInt = 2 := rfl
  rw [e, Int.tdiv_eq_ediv_of_nonneg h.1, Int.bmod_eq_of_le] <;> omega
theorem IV.gb {σ : MS} {nb nw np : Nat} (h : IV σ nb nw np) : grB σ nb := by
  have a := dv2 h.tb
  have b := div_sm ((cenN σ nb - 550) * tnsN σ nb)
  have k : ∀ u, -1000000000 ≤ (draN σ nb u).toInt ∧ (draN σ nb u).toInt ≤ 1000000000 := by
    intro u
    unfold draN trmN
    split
    · rw [Int32.toInt_add, Int.bmod_eq_of_le] <;> omega
    · rw [Int32.toInt_add, Int32.toInt_neg, Int.bmod_eq_of_le (n := -(_ : Int)) (by omega) (by omega), Int.bmod_eq_of_le] <;> omega
  unfold grB greN
  split
  · exact k 0
  · exact k 1
/-- how many cells hold a block below n -/
def cnF (σ : MS) (n : Nat) : Nat → Nat
  | 0 => 0
  | c + 1 => cnF σ n c + (if ∃ j, j < n ∧ σ.2 25 c = nI j then 1 else 0)
theorem cnF_le {σ : MS} {n : Nat} : ∀ m, cnF σ n m ≤ m
  | 0 => Nat.le_refl _
  | m + 1 => by
    have := cnF_le (σ := σ) (n := n) m
    unfold cnF
    split <;> omega
theorem cnF_mo {σ : MS} {n : Nat} : ∀ m, cnF σ n m ≤ cnF σ (n + 1) m
  | 0 => Nat.le_refl _
  | m + 1 => by
    have := cnF_mo (σ := σ) (n := n) m
    unfold cnF
    by_cases e : ∃ j, j < n ∧ σ.2 25 m = nI j
    · obtain ⟨j, h1, h2⟩ := e
      rw [if_pos ⟨j, h1, h2⟩, if_pos ⟨j, by omega, h2⟩]
      omega
    · rw [if_neg e]
      omega
theorem cnF_st {σ : MS} {n c : Nat} (hn : n < 60) (e : σ.2 25 c = nI n) : ∀ m, c < m → cnF σ n m + 1 ≤ cnF σ (n + 1) m
  | 0, h => by omega
  | m + 1, h => by
    unfold cnF
    by_cases q : m = c
    · subst q
      have := cnF_mo (σ := σ) (n := n) m
      rw [if_pos (⟨n, by omega, e⟩ : ∃ j, j < n + 1 ∧ σ.2 25 m = nI j), if_neg (fun ⟨j, h1, h2⟩ => by rw [e] at h2; have := (nI_eq (by omega) (by omega)).mp h2; omega)]
      omega
    · have := cnF_st hn e m (by omega)
      by_cases e2 : ∃ j, j < n ∧ σ.2 25 m = nI j
      · obtain ⟨j, h1, h2⟩ := e2
        rw [if_pos (⟨j, h1, h2⟩ : ∃ j, j < n ∧ σ.2 25 m = nI j), if_pos (⟨j, by omega, h2⟩ : ∃ j, j < n + 1 ∧ σ.2 25 m = nI j)]
        omega
      · rw [if_neg e2]
        omega
theorem fY_first {σ : MS} {nb j : Nat} (h : fY σ nb) (hj : j < nb) (hr : rsOK σ j) (h2 : σ.2 9 j = 2) : ∃ c, c < 36 ∧ σ.2 25 c = nI j := by
  obtain ⟨a, b, c, d⟩ := hr
  obtain ⟨f, hf, ef⟩ := vp_in_of (in_c (c := 11) (n := 12) (by decide) a) (by decide)
  obtain ⟨v, hv, ev⟩ := vp_in_of (in_c (c := 2) (n := 3) (by decide) d) (by decide)
  obtain ⟨l, hl, el⟩ := vp_in_of (in_c (c := 11) (n := 12) (by decide) b) (by decide)
  refine ⟨12 * v + f, by omega, h j hj h2 f v hf hv ev (by rw [ef]; exact Int32.le_refl _) ?_⟩
  rw [ef, el, nI_clamp (by omega), nI_clamp (by omega)] at c
  rw [el]
  exact nI_le c (by omega)
theorem nSt_le {σ : MS} {nb : Nat} (h : fY σ nb) (hr : ∀ i, i < nb → rsOK σ i) (hn : nb ≤ 60) : ∀ n, n ≤ nb → nSt σ n ≤ cnF σ n 36
  | 0, _ => Nat.zero_le _
  | n + 1, hle => by
    have ih := nSt_le h hr hn n (by omega)
    unfold nSt
    by_cases e : σ.2 9 n = 2
    · obtain ⟨c, h1, h2⟩ := fY_first h (by omega) (hr n (by omega)) e
      have := cnF_st (by omega) h2 36 h1
      rw [if_pos e]
      omega
    · have := cnF_mo (σ := σ) (n := n) 36
      rw [if_neg e]
      omega
theorem nRp_le {σ : MS} : ∀ nw, (∀ k, k < nw → 0 ≤ σ.2 21 k ∧ σ.2 21 k ≤ 2) → nRp σ nw ≤ 2 * nw
  | 0, _ => Nat.le_refl _
  | n + 1, h => by
    have ih := nRp_le n (fun k hk => h k (by omega))
    have q := i32b (l := 0) (u := 2) (a := 0) (b := 2) rfl rfl (h n (by omega))
    unfold nRp
    have : (σ.2 21 n).toNatClampNeg ≤ 2 := by
      rw [Int32.toNatClampNeg]
      omega
    omega
theorem IV.le {σ : MS} {nb nw np : Nat} (h : IV σ nb nw np) : nSt σ nb ≤ 36 ∧ nRp σ nw ≤ 2 * nw ∧ nEn σ nb nw ≤ 36 + nw + 2 * nw + (if σ.1 6 = 0 then 0 else 1) := by
  have a := nSt_le h.fy h.rs h.n8 nb (Nat.le_refl _)
  have b := cnF_le (σ := σ) (n := nb) 36
  have c := nRp_le nw h.rp
  refine ⟨by omega, c, ?_⟩
  unfold nEn
  omega
/-- how many cells hold a block: one more standing block, no more than 36 -/
theorem nEn_le {σ : MS} {nb nw np : Nat} (h : IV σ nb nw np) : nEn σ nb nw ≤ 337 := by
  have := h.le.2.2
  have := h.n18
  split at * <;> omega

